/-! what the property of its own wants of a state: cues stand by ticks and numbers, none is over, none is double; no lamp burned longer than was played -/
def sJ (s : Nat → Nat) : Prop := (∀ c, c < s 8 → s 7 ≤ tiF s c) ∧ (∀ c d, c < d → d < s 8 → tiF s c < tiF s d ∨ (tiF s c = tiF s d ∧ nuF s c < nuF s d)) ∧ (∀ c d, c < d → d < s 8 → ¬ (tiF s c = tiF s d ∧ jeF s c = jeF s d)) ∧ (∀ j, j < 8 → buF s j ≤ s 7)
/-- some cues of s stand in s2, in their order -/
theorem sJ_sub {s s2 : Nat → Nat} (h : sJ s) (e : Nat → Nat) (h7 : s2 7 = s 7) (hm : ∀ c d, c < d → d < s2 8 → e c < e d) (hl : ∀ c, c < s2 8 → e c < s 8) (ht : ∀ c, c < s2 8 → tiF s2 c = tiF s (e c)) (hn : ∀ c, c < s2 8 → nuF s2 c = nuF s (e c)) (hj : ∀ c, c < s2 8 → jeF s2 c = jeF s (e c)) (hb : ∀ j, j < 8 → buF s2 j = buF s j) : sJ s2 := by
  obtain ⟨a1, a2, a3, a4⟩ := h
  refine ⟨fun c hc => ?_, fun c d h1 h2 => ?_, fun c d h1 h2 => ?_, fun j h1 => ?_⟩
  · rw [h7, ht c hc]; exact a1 _ (hl c hc)
  · rw [ht c (by omega), ht d h2, hn c (by omega), hn d h2]; exact a2 _ _ (hm c d h1 h2) (hl d h2)
  · rw [ht c (by omega), ht d h2, hj c (by omega), hj d h2]; exact a3 _ _ (hm c d h1 h2) (hl d h2)
  · rw [hb j h1, h7]; exact a4 j h1
/-- cues, tick and what burned are as they were -/
theorem sJ_cg {s s2 : Nat → Nat} (h : sJ s) (h7 : s2 7 = s 7) (h8 : s2 8 = s 8) (hc : ∀ x, 54 ≤ x → s2 x = s x) (hb : ∀ j, j < 8 → s2 (18 + 5 * j) = s (18 + 5 * j)) : sJ s2 :=
  sJ_sub h (fun c => c) h7 (fun _ _ h1 _ => h1) (fun c hc => by omega) (fun c _ => hc _ (by omega)) (fun c _ => hc _ (by omega)) (fun c _ => hc _ (by omega)) hb
theorem sJ_upN {s : Nat → Nat} {x v : Nat} (h : sJ s) (h7 : x ≠ 7) (h8 : x ≠ 8) (hx : x < 54) (hb : x < 14 ∨ x % 5 ≠ 3) : sJ (upN s x v) :=
  sJ_cg h (upN_n (by omega)) (upN_n (by omega)) (fun y hy => upN_n (by omega)) (fun j hj => upN_n (by omega))
theorem sJ_jet {s : Nat → Nat} {j z c : Nat} (h : sJ s) (hj : j < 8) : sJ (sJet s j z c) := by
  have lo : ∀ x, x ≠ 14 + 5 * j → x ≠ 15 + 5 * j → sJet s j z c x = s x := fun x h1 h2 => by unfold sJet; rw [if_neg h1, if_neg h2]
  exact sJ_cg h (lo _ (by omega) (by omega)) (lo _ (by omega) (by omega)) (fun y hy => lo _ (by omega) (by omega)) (fun i hi => lo _ (by omega) (by omega))
theorem sJ_drop {s : Nat → Nat} {p : Nat} (h : sJ s) (h8 : s 8 ≤ 16) (hp : p < s 8) : sJ (mDrop s p) := by
  have e8 : mDrop s p 8 = s 8 - 1 := rfl
  have lo : ∀ x, x ≠ 8 → x < 54 → mDrop s p x = s x := fun x h1 h2 => by unfold mDrop; rw [if_neg h1, if_neg (by omega)]
  have hi : ∀ c q, c < s 8 - 1 → 54 ≤ q → q < 58 → mDrop s p (q + 4 * c) = s (q + 4 * (if c < p then c else c + 1)) := fun c q h1 h2 h3 => by
    unfold mDrop
    rw [if_neg (by omega)]
    by_cases h4 : c < p
    · rw [if_neg (by omega), if_pos h4]
    · rw [if_pos (by omega), if_neg h4]; congr 1
  refine sJ_sub h (fun c => if c < p then c else c + 1) (lo 7 (by omega) (by omega)) (fun c d h1 h2 => ?_) (fun c hc => ?_) (fun c hc => hi c 55 hc (by omega) (by omega)) (fun c hc => hi c 54 hc (by omega) (by omega)) (fun c hc => hi c 56 hc (by omega) (by omega)) (fun j hj => lo _ (by omega) (by omega))
  · show (if c < p then c else c + 1) < (if d < p then d else d + 1)
    split <;> split <;> omega
  · rw [e8] at hc
    show (if c < p then c else c + 1) < s 8
    split <;> omega
theorem sJ_cue1 {s : Nat → Nat} (h : sJ s) (hj : s 56 < 8) (h0 : 0 < s 8) : sJ (mCue1 s) := by
  have e8 : mCue1 s 8 = s 8 - 1 := rfl
  have lo : ∀ x, x < 54 → x ≠ 8 → x ≠ 12 → x ≠ 17 + 5 * s 56 → mCue1 s x = s x := fun x h1 h2 h3 h4 => by
    unfold mCue1; rw [if_neg h2, if_neg h3, if_neg h4, if_neg (by omega)]
  have hi : ∀ c q, c < s 8 - 1 → 54 ≤ q → q < 58 → mCue1 s (q + 4 * c) = s (q + 4 * (c + 1)) := fun c q h1 h2 h3 => by
    unfold mCue1
    rw [if_neg (by omega), if_neg (by omega), if_neg (by omega), if_pos (by omega)]
    congr 1
  exact sJ_sub h (fun c => c + 1) (lo 7 (by omega) (by omega) (by omega) (by omega)) (fun c d h1 h2 => Nat.succ_lt_succ h1) (fun c hc => by rw [e8] at hc; show c + 1 < s 8; omega) (fun c hc => hi c 55 hc (by omega) (by omega)) (fun c hc => hi c 54 hc (by omega) (by omega)) (fun c hc => hi c 56 hc (by omega) (by omega)) (fun j hj2 => lo _ (by omega) (by omega) (by omega) (by omega))
theorem mCue1_7 {s : Nat → Nat} : mCue1 s 7 = s 7 := by
  unfold mCue1
  rw [if_neg (by omega), if_neg (by omega), if_neg (by omega), if_neg (by omega)]
theorem mCues_7 : ∀ (k : Nat) (s : Nat → Nat), mCues k s 7 = s 7
  | 0, _ => rfl
  | k + 1, s => by
    unfold mCues
    split
    · rw [mCues_7 k, mCue1_7]
    · rfl
/-- behind the cues of a tick all that wait are later -/
theorem mCues_late {T : Nat} : ∀ (k : Nat) {s : Nat → Nat}, sI T s → sJ s → s 8 ≤ k → sJ (mCues k s) ∧ ∀ c, c < mCues k s 8 → s 7 < tiF (mCues k s) c
  | 0, s, _, h, hk => ⟨h, fun c hc => absurd (show c < s 8 from hc) (by omega)⟩
  | k + 1, s, hI, h, hk => by
    unfold mCues
    split
    · next g =>
      have hz := (hI.2.2.2.2.2.2.2.2.1 0 g.1).2.2.1
      have e := mCues_late k (sI_cue1 hI g.1) (sJ_cue1 h hz g.1) (show s 8 - 1 ≤ k by omega)
      rw [mCue1_7] at e
      exact e
    · next g =>
      refine ⟨h, fun c hc => ?_⟩
      have h0 := h.1 0 (by omega)
      have h1 : s 7 < tiF s 0 := Nat.lt_of_le_of_ne h0 (fun z => g ⟨by omega, z.symm⟩)
      by_cases hz : c = 0
      · rw [hz]; exact h1
      · have := h.2.1 0 c (by omega) hc
        omega
theorem sJ_tick {T : Nat} {s : Nat → Nat} (hI : sI T s) (h : sJ s) : sJ (mTick s) := by
  obtain ⟨z, hz⟩ : ∃ z, z = mCues 16 s := ⟨_, rfl⟩
  obtain ⟨g, hlate⟩ := mCues_late 16 hI h hI.2.2.2.2.1
  have h7 := mCues_7 16 s
  rw [← hz] at g hlate h7
  have mo : ∀ x, ¬ (14 ≤ x ∧ x < 54 ∧ x % 5 = 1) → mMove z x = z x := fun x hx => if_neg hx
  have ju : ∀ x, x ≠ 6 → x ≠ 10 → x ≠ 11 → x ≠ 13 → ¬ (14 ≤ x ∧ x < 54 ∧ x % 5 = 3) → ¬ (14 ≤ x ∧ x < 54 ∧ x % 5 = 1) → mJets (mMove z) x = z x := fun x g1 g2 g3 g4 g5 g6 => by
    rw [← mo x g6]
    unfold mJets
    by_cases hd : mMove z 6 < tS (mMove z)
    · rw [if_pos hd, if_neg g3]
    · rw [if_neg hd, if_neg g1, if_neg g2, if_neg g4, if_neg g5]
  have bu : ∀ j, j < 8 → mJets (mMove z) (18 + 5 * j) ≤ z (18 + 5 * j) + 1 := fun j hj => by
    rw [← mo (18 + 5 * j) (by omega)]
    unfold mJets
    by_cases hd : mMove z 6 < tS (mMove z)
    · rw [if_pos hd, if_neg (by omega)]; omega
    · rw [if_neg hd, if_neg (by omega), if_neg (by omega), if_neg (by omega), if_pos (by omega)]
      split <;> omega
  have ti : ∀ x, x ≠ 7 → mTick s x = mJets (mMove z) x := fun x hx => by rw [hz]; unfold mTick; rw [if_neg hx]
  have e7 : mTick s 7 = s 7 + 1 := by
    have e : mTick s 7 = mJets (mMove z) 7 + 1 := by rw [hz]; rfl
    rw [e, ju 7 (by omega) (by omega) (by omega) (by omega) (by omega) (by omega), h7]
  have e8 : mTick s 8 = z 8 := by rw [ti 8 (by omega), ju 8 (by omega) (by omega) (by omega) (by omega) (by omega) (by omega)]
  have hi : ∀ x, 54 ≤ x → mTick s x = z x := fun x hx => by rw [ti x (by omega), ju x (by omega) (by omega) (by omega) (by omega) (by omega) (by omega)]
  refine ⟨fun c hc => ?_, fun c d h1 h2 => ?_, fun c d h1 h2 => ?_, fun j h1 => ?_⟩
  · rw [e8] at hc
    rw [e7]
    show s 7 + 1 ≤ mTick s _
    rw [hi _ (by omega)]; exact hlate c hc
  · rw [e8] at h2
    show mTick s _ < mTick s _ ∨ (mTick s _ = mTick s _ ∧ mTick s _ < mTick s _)
    rw [hi _ (by omega), hi _ (by omega), hi _ (by omega), hi _ (by omega)]; exact g.2.1 c d h1 h2
  · rw [e8] at h2
    show ¬ (mTick s _ = mTick s _ ∧ mTick s _ = mTick s _)
    rw [hi _ (by omega), hi _ (by omega), hi _ (by omega), hi _ (by omega)]; exact g.2.2.1 c d h1 h2
  · rw [e7]
    show mTick s _ ≤ s 7 + 1
    rw [ti _ (by omega)]
    have h3 := bu j h1
    have h4 : z (18 + 5 * j) ≤ z 7 := g.2.2.2 j h1
    omega
theorem sJ_play {T : Nat} : ∀ (n : Nat) {s : Nat → Nat}, sI T s → sJ s → sJ (mPlay n s)
  | 0, _, _, h => h
  | n + 1, s, hI, h => sJ_play n (T := T + 1) (sI_tick hI) (sJ_tick hI h)
theorem rS_0 {s : Nat → Nat} {t j a : Nat} (h : rS s t j a = 0) : s 7 ≤ t ∧ s 8 < 16 ∧ hasB (tiF s) (jeF s) t j (s 8) = false := by
  unfold rS at h
  split at h
  · omega
  · split at h
    · omega
    · split at h
      · omega
      · next h1 h2 h3 => exact ⟨by omega, by omega, by simpa using h3⟩
theorem sJ_add {T : Nat} {s : Nat → Nat} {t j a : Nat} (hI : sI T s) (h : sJ s) (hr : rS s t j a = 0) : sJ (mAdd s t j a) := by
  obtain ⟨r1, r2, r3⟩ := rS_0 hr
  obtain ⟨-, -, -, -, -, -, -, -, h9, h10, -⟩ := hI
  obtain ⟨a1, a2, a3, a4⟩ := h
  have hno : ∀ c, c < s 8 → ¬ (tiF s c = t ∧ jeF s c = j) := fun c hc z => by
    have := (hasB_iff (ti := tiF s) (je := jeF s) (t := t) (j := j) (s 8)).mpr ⟨c, hc, z⟩
    rw [r3] at this; cases this
  have hp : insP (tiF s) t (s 8) ≤ s 8 := insP_le _
  have lo : ∀ x, x < 54 → x ≠ 8 → x ≠ 9 → mAdd s t j a x = s x := fun x g1 g2 g3 => by unfold mAdd; rw [if_neg g2, if_neg g3, if_pos g1]
  have e8 : mAdd s t j a 8 = s 8 + 1 := rfl
  have nu : ∀ c, c < 16 → nuF (mAdd s t j a) c = insF (nuF s) (insP (tiF s) t (s 8)) (s 8) (s 9) c := fun c hc => (cl_mAdd_nu t j a c hc).symm
  have ti : ∀ c, c < 16 → tiF (mAdd s t j a) c = insF (tiF s) (insP (tiF s) t (s 8)) (s 8) t c := fun c hc => (cl_mAdd_ti t j a c hc).symm
  have je : ∀ c, c < 16 → jeF (mAdd s t j a) c = insF (jeF s) (insP (tiF s) t (s 8)) (s 8) j c := fun c hc => (cl_mAdd_je t j a c hc).symm
  generalize hpp : insP (tiF s) t (s 8) = p at hp nu ti je
  have lo1 : ∀ c, c < p → tiF s c ≤ t := fun c hc => insP_lo (s 8) h10 (by rw [hpp]; exact hc)
  have hi1 : ∀ c, p ≤ c → c < s 8 → t < tiF s c := fun c g1 g2 => insP_hi (s 8) (by rw [hpp]; exact g1) g2
  refine ⟨fun c hc => ?_, fun c d hc hd => ?_, fun c d hc hd => ?_, fun i hi => ?_⟩
  · rw [e8] at hc
    rw [lo 7 (by omega) (by omega) (by omega), ti c (by omega)]
    exact insF_all (P := fun z => s 7 ≤ z) r1 a1 hp hc
  · rw [e8] at hd
    rw [ti c (by omega), ti d (by omega), nu c (by omega), nu d (by omega)]
    rcases Nat.lt_trichotomy c p with g | g | g
    · rw [insF_lo g, insF_lo g]
      rcases Nat.lt_trichotomy d p with k | k | k
      · rw [insF_lo k, insF_lo k]; exact a2 c d hc (by omega)
      · rw [k, insF_at, insF_at]
        have g1 := lo1 c g
        have g2 := (h9 c (by omega)).1
        omega
      · rw [insF_hi k (by omega), insF_hi k (by omega)]
        have g1 := lo1 c g
        have g2 := hi1 (d - 1) (by omega) (by omega)
        exact Or.inl (by omega)
    · rw [g, insF_at, insF_at, insF_hi (by omega) (by omega), insF_hi (by omega) (by omega)]
      exact Or.inl (hi1 (d - 1) (by omega) (by omega))
    · rw [insF_hi g (by omega), insF_hi g (by omega), insF_hi (by omega) (by omega), insF_hi (by omega) (by omega)]
      exact a2 (c - 1) (d - 1) (by omega) (by omega)
  · rw [e8] at hd
    rw [ti c (by omega), ti d (by omega), je c (by omega), je d (by omega)]
    rcases Nat.lt_trichotomy c p with g | g | g
    · rw [insF_lo g, insF_lo g]
      rcases Nat.lt_trichotomy d p with k | k | k
      · rw [insF_lo k, insF_lo k]; exact a3 c d hc (by omega)
      · rw [k, insF_at, insF_at]; exact hno c (by omega)
      · rw [insF_hi k (by omega), insF_hi k (by omega)]
        exact a3 c (d - 1) (by omega) (by omega)
    · rw [g, insF_at, insF_at, insF_hi (by omega) (by omega), insF_hi (by omega) (by omega)]
      exact fun z => hno (d - 1) (by omega) ⟨z.1.symm, z.2.symm⟩
    · rw [insF_hi g (by omega), insF_hi g (by omega), insF_hi (by omega) (by omega), insF_hi (by omega) (by omega)]
      exact a3 (c - 1) (d - 1) (by omega) (by omega)
  · show mAdd s t j a _ ≤ mAdd s t j a 7
    rw [lo _ (by omega) (by omega) (by omega), lo 7 (by omega) (by omega) (by omega)]; exact a4 i hi
theorem sJ_i0 : sJ i0 := ⟨fun c hc => absurd (show c < 0 from hc) (Nat.not_lt_zero c), fun c d _ h2 => absurd (show d < 0 from h2) (Nat.not_lt_zero d), fun c d _ h2 => absurd (show d < 0 from h2) (Nat.not_lt_zero d), fun j hj => by
  rcases (show j = 0 ∨ j = 1 ∨ j = 2 ∨ j = 3 ∨ j = 4 ∨ j = 5 ∨ j = 6 ∨ j = 7 by omega) with rfl | rfl | rfl | rfl | rfl | rfl | rfl | rfl <;> decide⟩
-- what playing keeps together
theorem kept_cue1 {s : Nat → Nat} (h0 : 0 < s 8) (hj : s 56 < 8) : mCue1 s 8 + mCue1 s 12 = s 8 + s 12 ∧ mCue1 s 6 + mCue1 s 10 = s 6 + s 10 := by
  have e8 : mCue1 s 8 = s 8 - 1 := rfl
  have e12 : mCue1 s 12 = s 12 + 1 := rfl
  have lo : ∀ x, x < 54 → x ≠ 8 → x ≠ 12 → x ≠ 17 + 5 * s 56 → mCue1 s x = s x := fun x h1 h2 h3 h4 => by
    unfold mCue1; rw [if_neg h2, if_neg h3, if_neg h4, if_neg (by omega)]
  rw [e8, e12, lo 6 (by omega) (by omega) (by omega) (by omega), lo 10 (by omega) (by omega) (by omega) (by omega)]
  exact ⟨by omega, rfl⟩
theorem kept_cues {T : Nat} : ∀ (k : Nat) {s : Nat → Nat}, sI T s → mCues k s 8 + mCues k s 12 = s 8 + s 12 ∧ mCues k s 6 + mCues k s 10 = s 6 + s 10
  | 0, _, _ => ⟨rfl, rfl⟩
  | k + 1, s, hI => by
    unfold mCues
    split
    · next g =>
      have hz := (hI.2.2.2.2.2.2.2.2.1 0 g.1).2.2.1
      have e1 := kept_cues k (sI_cue1 hI g.1)
      have e2 := kept_cue1 g.1 hz
      exact ⟨e1.1.trans e2.1, e1.2.trans e2.2⟩
    · exact ⟨rfl, rfl⟩
theorem kept_jets {T : Nat} {s : Nat → Nat} (hI : sI T s) : mJets s 8 + mJets s 12 = s 8 + s 12 ∧ mJets s 6 + mJets s 10 = s 6 + s 10 := by
  have hl := loss_le hI
  unfold mJets
  by_cases hd : s 6 < tS s
  · rw [if_pos hd, if_pos hd, if_pos hd, if_pos hd]; exact ⟨rfl, rfl⟩
  · rw [if_neg hd, if_neg hd, if_neg hd, if_neg hd]
    refine ⟨rfl, ?_⟩
    show (s 6 - lossS s) + (s 10 + lossS s) = s 6 + s 10
    omega
theorem kept_tick {T : Nat} {s : Nat → Nat} (hI : sI T s) : mTick s 8 + mTick s 12 = s 8 + s 12 ∧ mTick s 6 + mTick s 10 = s 6 + s 10 ∧ mTick s 7 = s 7 + 1 := by
  have h1 := kept_cues 16 hI
  have h2 := kept_jets (sI_move (sI_cues 16 hI))
  refine ⟨h2.1.trans h1.1, h2.2.trans h1.2, ?_⟩
  show mJets (mMove (mCues 16 s)) 7 + 1 = s 7 + 1
  rw [mJets_7]
  show mCues 16 s 7 + 1 = s 7 + 1
  rw [mCues_7]
theorem kept_play {T : Nat} : ∀ (n : Nat) {s : Nat → Nat}, sI T s → mPlay n s 8 + mPlay n s 12 = s 8 + s 12 ∧ mPlay n s 6 + mPlay n s 10 = s 6 + s 10 ∧ mPlay n s 7 = s 7 + n
  | 0, _, _ => ⟨rfl, rfl, rfl⟩
  | n + 1, s, hI => by
    have h1 := kept_tick hI
    have h2 := kept_play n (T := T + 1) (sI_tick hI)
    exact ⟨h2.1.trans h1.1, h2.2.1.trans h1.2.1, by show mPlay n (mTick s) 7 = s 7 + (n + 1); omega⟩
-- what jets get
theorem sumTo_div {f : Nat → Nat} {l q : Nat} (hq : 0 < q) : ∀ n, sumTo (fun i => f i * l / q) n ≤ sumTo f n * l / q
  | 0 => Nat.zero_le _
  | n + 1 => by
    have h := sumTo_div (f := f) (l := l) hq n
    show sumTo (fun i => f i * l / q) n + f n * l / q ≤ (sumTo f n + f n) * l / q
    rw [Nat.add_mul]
    refine Nat.le_trans (Nat.add_le_add_right h _) ?_
    rw [Nat.le_div_iff_mul_le hq, Nat.add_mul]
    exact Nat.add_le_add (Nat.div_mul_le_self _ _) (Nat.div_mul_le_self _ _)
theorem sumTo_mono {f g : Nat → Nat} : ∀ n, (∀ i, i < n → f i ≤ g i) → sumTo f n ≤ sumTo g n
  | 0, _ => Nat.le_refl _
  | n + 1, h => Nat.add_le_add (sumTo_mono n (fun i hi => h i (by omega))) (h n (by omega))
theorem gets_li {sz va li se : Nat → Nat} {w p : Nat} : sumTo (fun i => fGets sz va li se w (p * 4 + i)) 4 ≤ li p := by
  have e : ∀ i, i < 4 → fGets sz va li se w (p * 4 + i) ≤ (if li p < pA sz va p then sz (p * 4 + i) * va (p * 4 + i) * li p / pA sz va p else sz (p * 4 + i) * va (p * 4 + i)) := fun i hi => by
    unfold fGets fPart
    rw [show (p * 4 + i) / 4 = p by omega]
    exact Nat.min_le_left _ _
  refine Nat.le_trans (sumTo_mono 4 e) ?_
  by_cases h : li p < pA sz va p
  · have h2 := sumTo_div (f := fun i => sz (p * 4 + i) * va (p * 4 + i)) (l := li p) (q := pA sz va p) (by omega) 4
    refine Nat.le_trans (sumTo_mono 4 (fun i _ => ?_)) (Nat.le_trans h2 ?_)
    · rw [if_pos h]; exact Nat.le_refl _
    · show pA sz va p * li p / pA sz va p ≤ li p
      rw [Nat.mul_comm, Nat.mul_div_cancel _ (by omega)]
      exact Nat.le_refl _
  · refine Nat.le_trans (sumTo_mono (g := fun i => sz (p * 4 + i) * va (p * 4 + i)) 4 (fun i _ => ?_)) ?_
    · rw [if_neg h]; exact Nat.le_refl _
    · show pA sz va p ≤ li p
      omega
theorem gets_asks {sz va li se : Nat → Nat} {w j : Nat} : fGets sz va li se w j ≤ sz j * va j := by
  unfold fGets fPart
  refine Nat.le_trans (Nat.min_le_left _ _) ?_
  split
  · next h =>
    refine Nat.div_le_of_le_mul ?_
    rw [Nat.mul_comm (pA sz va (j / 4))]
    exact Nat.mul_le_mul (Nat.le_refl _) (by omega)
  · exact Nat.le_refl _
theorem gets_wind {sz va li se : Nat → Nat} {w j : Nat} (hz : 1 ≤ sz j) : fGets sz va li se w j / sz j ≤ fHi se w := by
  have h : fGets sz va li se w j ≤ fHi se w * sz j := Nat.min_le_right _ _
  exact Nat.div_le_of_le_mul (by rw [Nat.mul_comm]; exact h)
