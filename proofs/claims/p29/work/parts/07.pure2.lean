/-! the state of a show as one row of numbers, s: 0-2 settings, 3-4 limits, 5 wind, 6 water, 7 tick, 8 cues, 9 numbers given, 10 lost, 11 dry, 12 done, 13 highest, 14 + 5 j jets, 54 + 4 c cues -/
def seF (s : Nat → Nat) : Nat → Nat := fun k => s k
def liF (s : Nat → Nat) : Nat → Nat := fun k => s (3 + k)
def szF (s : Nat → Nat) : Nat → Nat := fun j => s (14 + 5 * j)
def coF (s : Nat → Nat) : Nat → Nat := fun j => s (15 + 5 * j)
def vaF (s : Nat → Nat) : Nat → Nat := fun j => s (16 + 5 * j)
def amF (s : Nat → Nat) : Nat → Nat := fun j => s (17 + 5 * j)
def buF (s : Nat → Nat) : Nat → Nat := fun j => s (18 + 5 * j)
def nuF (s : Nat → Nat) : Nat → Nat := fun c => s (54 + 4 * c)
def tiF (s : Nat → Nat) : Nat → Nat := fun c => s (55 + 4 * c)
def jeF (s : Nat → Nat) : Nat → Nat := fun c => s (56 + 4 * c)
def acF (s : Nat → Nat) : Nat → Nat := fun c => s (57 + 4 * c)
def shw (cI : ClassId) (a : Nat → Nat) (s fl : Nat → Nat) : va_W := [(a 0, .inr (4, [.ref (a 1), .ref (a 8), .ref (a 13), .ref (a 14), .int (nI (s 6)), .int (nI (s 7)), .int (nI (s 10)), .int (nI (s 11)), .int (nI (s 12)), .int (nI (s 13))])), (a 1, .inr (2, [.ref (a 2), .ref (a 3), .ref (a 4), .ref (a 5), .ref (a 6), .ref (a 7), .int (nI (s 5))])), (a 2, .inl (cI, 8, .inl (ro 8 (szF s)))), (a 3, .inl (cI, 8, .inl (ro 8 (coF s)))), (a 4, .inl (cI, 8, .inl (ro 8 (vaF s)))), (a 5, .inl (cI, 8, .inl (ro 8 (amF s)))), (a 6, .inl (cI, 2, .inl (ro 2 (liF s)))), (a 7, .inl (cI, 3, .inl (ro 3 (seF s)))), (a 8, .inr (1, [.ref (a 9), .ref (a 10), .ref (a 11), .ref (a 12), .int (nI (s 8)), .int (nI (s 9))])), (a 9, .inl (cI, 16, .inl (ro 16 (nuF s)))), (a 10, .inl (cI, 16, .inl (ro 16 (tiF s)))), (a 11, .inl (cI, 16, .inl (ro 16 (jeF s)))), (a 12, .inl (cI, 16, .inl (ro 16 (acF s)))), (a 13, .inl (cI, 8, .inl (ro 8 (buF s)))), (a 14, .inl (cI, 8, .inl (ro 8 fl)))]
/-- the open picture closes -/
theorem shw_of {cI : ClassId} {a : Nat → Nat} {t fl : Nat → Nat} {sz co va am li se nu ti je ac bu : Nat → Nat} {wa tk lo dr dn hi w n g : Nat} (hsz : ∀ j, j < 8 → sz j = szF t j) (hco : ∀ j, j < 8 → co j = coF t j) (hva : ∀ j, j < 8 → va j = vaF t j) (ham : ∀ j, j < 8 → am j = amF t j) (hli : ∀ j, j < 2 → li j = liF t j) (hse : ∀ j, j < 3 → se j = seF t j) (hnu : ∀ j, j < 16 → nu j = nuF t j) (hti : ∀ j, j < 16 → ti j = tiF t j) (hje : ∀ j, j < 16 → je j = jeF t j) (hac : ∀ j, j < 16 → ac j = acF t j) (hbu : ∀ j, j < 8 → bu j = buF t j) (hwa : wa = t 6) (htk : tk = t 7) (hlo : lo = t 10) (hdr : dr = t 11) (hdn : dn = t 12) (hhi : hi = t 13) (hw : w = t 5) (hn : n = t 8) (hg : g = t 9) : [(a 0, .inr (4, [.ref (a 1), .ref (a 8), .ref (a 13), .ref (a 14), .int (nI wa), .int (nI tk), .int (nI lo), .int (nI dr), .int (nI dn), .int (nI hi)])), (a 1, .inr (2, [.ref (a 2), .ref (a 3), .ref (a 4), .ref (a 5), .ref (a 6), .ref (a 7), .int (nI w)])), (a 2, .inl (cI, 8, .inl (ro 8 sz))), (a 3, .inl (cI, 8, .inl (ro 8 co))), (a 4, .inl (cI, 8, .inl (ro 8 va))), (a 5, .inl (cI, 8, .inl (ro 8 am))), (a 6, .inl (cI, 2, .inl (ro 2 li))), (a 7, .inl (cI, 3, .inl (ro 3 se))), (a 8, .inr (1, [.ref (a 9), .ref (a 10), .ref (a 11), .ref (a 12), .int (nI n), .int (nI g)])), (a 9, .inl (cI, 16, .inl (ro 16 nu))), (a 10, .inl (cI, 16, .inl (ro 16 ti))), (a 11, .inl (cI, 16, .inl (ro 16 je))), (a 12, .inl (cI, 16, .inl (ro 16 ac))), (a 13, .inl (cI, 8, .inl (ro 8 bu))), (a 14, .inl (cI, 8, .inl (ro 8 fl)))] = shw cI a t fl := by
  rw [ro_cg hsz, ro_cg hco, ro_cg hva, ro_cg ham, ro_cg hli, ro_cg hse, ro_cg hnu, ro_cg hti, ro_cg hje, ro_cg hac, ro_cg hbu, hwa, htk, hlo, hdr, hdn, hhi, hw, hn, hg]
  rfl
def gS (s : Nat → Nat) : Nat → Nat := fGets (szF s) (vaF s) (liF s) (seF s) (s 5)
def heS (s : Nat → Nat) : Nat → Nat := fun j => gS s j / szF s j
def tS (s : Nat → Nat) : Nat := sumTo (gS s) 8
def lossS (s : Nat → Nat) : Nat := fLoss (seF s) (s 5) (tS s)
def maxTo (f : Nat → Nat) : Nat → Nat
  | 0 => 0
  | n + 1 => max (maxTo f n) (f n)
-- a tick
def mCue1 (s : Nat → Nat) : Nat → Nat := fun x => if x = 8 then s 8 - 1 else if x = 12 then s 12 + 1 else if x = 17 + 5 * s 56 then s 57 else if 54 ≤ x ∧ x < 54 + 4 * (s 8 - 1) then s (x + 4) else s x
def mCues : Nat → (Nat → Nat) → Nat → Nat
  | 0, s => s
  | k + 1, s => if 0 < s 8 ∧ s 55 = s 7 then mCues k (mCue1 s) else s
def mMove (s : Nat → Nat) : Nat → Nat := fun x => if 14 ≤ x ∧ x < 54 ∧ x % 5 = 1 then mv (s (x + 1)) (s x) (s 2) else s x
def mJets (s : Nat → Nat) : Nat → Nat := fun x => if s 6 < tS s then (if x = 11 then s 11 + 1 else s x)
  else if x = 6 then s 6 - lossS s else if x = 10 then s 10 + lossS s else if x = 13 then max (s 13) (maxTo (heS s) 8) else if 14 ≤ x ∧ x < 54 ∧ x % 5 = 3 then s x + (if 0 < heS s ((x - 14) / 5) then 1 else 0) else s x
def mTick (s : Nat → Nat) : Nat → Nat := fun x => if x = 7 then mJets (mMove (mCues 16 s)) 7 + 1 else mJets (mMove (mCues 16 s)) x
def mPlay : Nat → (Nat → Nat) → Nat → Nat
  | 0, s => s
  | n + 1, s => mPlay n (mTick s)
def mZero (s : Nat → Nat) : Nat → Nat := fun x => if x = 10 ∨ x = 11 ∨ x = 13 ∨ (14 ≤ x ∧ x < 54 ∧ x % 5 = 3) then 0 else s x
-- cues
def askS (s : Nat → Nat) (t j a : Nat) : Nat := sumTo (fun i => szF s (j / 4 * 4 + i) * (if j / 4 * 4 + i = j then a else aimBy (tiF s) (jeF s) (acF s) t (j / 4 * 4 + i) (amF s (j / 4 * 4 + i)) (s 8))) 4
def rS (s : Nat → Nat) (t j a : Nat) : Nat := if t < s 7 then 1 else if 16 ≤ s 8 then 2 else if hasB (tiF s) (jeF s) t j (s 8) = true then 3 else if liF s (j / 4) < askS s t j a then 4 else 0
def mAdd (s : Nat → Nat) (t j a : Nat) : Nat → Nat := fun x => if x = 8 then s 8 + 1 else if x = 9 then s 9 + 1 else if x < 54 then s x else if (x - 54) / 4 < insP (tiF s) t (s 8) then s x else if (x - 54) / 4 = insP (tiF s) t (s 8) then (if x % 4 = 2 then s 9 else if x % 4 = 3 then t else if x % 4 = 0 then j else a) else if (x - 54) / 4 ≤ s 8 then s (x - 4) else s x
def mAddIf (s : Nat → Nat) (t j a : Nat) : Nat → Nat := if rS s t j a = 0 then mAdd s t j a else s
def mDrop (s : Nat → Nat) (p : Nat) : Nat → Nat := fun x => if x = 8 then s 8 - 1 else if 54 + 4 * p ≤ x ∧ x < 54 + 4 * (s 8 - 1) then s (x + 4) else s x
def jetS (s : Nat → Nat) (j w : Nat) : Nat := if w = 0 then szF s j else if w = 1 then coF s j else if w = 2 then vaF s j else if w = 3 then amF s j else if w = 4 then szF s j * vaF s j else if w = 5 then gS s j else if w = 6 then heS s j else buF s j
def lampS (s : Nat → Nat) (c : Nat) : Nat := sumTo (fun j => if coF s j = c then buF s j else 0) 8
/-- what always holds: by T bounds of what grows -/
def sI (T : Nat) (s : Nat → Nat) : Prop :=
  fB (szF s) (vaF s) (amF s) (liF s) (seF s) (s 5) ∧ (∀ j, j < 8 → coF s j ≤ 3) ∧ s 6 ≤ 99999 ∧ s 7 ≤ T ∧ s 8 ≤ 16 ∧ s 9 ≤ T ∧ s 11 ≤ T ∧ s 13 ≤ 10 ∧ (∀ c, c < s 8 → nuF s c < s 9 ∧ tiF s c ≤ 999 ∧ jeF s c < 8 ∧ acF s c ≤ 10) ∧ (∀ c d, c < d → d < s 8 → tiF s c ≤ tiF s d) ∧ (∀ c d, c < d → d < s 8 → nuF s c ≠ nuF s d)
theorem gS_le {T : Nat} {s : Nat → Nat} (h : sI T s) {j : Nat} (hj : j < 8) : gS s j ≤ 200 := fPart_le h.1 hj
theorem tS_le {T : Nat} {s : Nat → Nat} (h : sI T s) : tS s ≤ 1600 := sumTo_le 8 (fun _ hi => gS_le h hi)
theorem heS_le {T : Nat} {s : Nat → Nat} (h : sI T s) {j : Nat} (hj : j < 8) : heS s j ≤ 10 := by
  have h1 := (h.1.1 j hj).1
  have h2 : gS s j ≤ fHi (seF s) (s 5) * szF s j := Nat.min_le_right _ _
  have h3 : gS s j ≤ 10 * szF s j := Nat.le_trans h2 (Nat.mul_le_mul fHi_le (Nat.le_refl _))
  exact Nat.div_le_of_le_mul (by rw [Nat.mul_comm]; exact h3)
theorem maxTo_le {f : Nat → Nat} {b : Nat} : ∀ n, (∀ i, i < n → f i ≤ b) → maxTo f n ≤ b
  | 0, _ => Nat.zero_le _
  | n + 1, h => by
    have h1 := maxTo_le n (fun i hi => h i (by omega))
    have h2 := h n (by omega)
    show max (maxTo f n) (f n) ≤ b
    omega
theorem loss_le {T : Nat} {s : Nat → Nat} (h : sI T s) : lossS s ≤ tS s := by
  obtain ⟨-, -, -, -, -, h5, -, h8⟩ := h.1
  have h1 : tS s * seF s 1 ≤ tS s * 50 := Nat.mul_le_mul (Nat.le_refl _) h5
  have h2 : tS s * s 5 ≤ tS s * 20 := Nat.mul_le_mul (Nat.le_refl _) h8
  unfold lossS fLoss
  omega
theorem aimBy_le {ti je ac : Nat → Nat} {t j a : Nat} (ha : a ≤ 10) : ∀ n, (∀ c, c < n → ac c ≤ 10) → aimBy ti je ac t j a n ≤ 10
  | 0, _ => ha
  | n + 1, h => by
    unfold aimBy
    split
    · exact h n (by omega)
    · exact aimBy_le ha n (fun c hc => h c (by omega))
theorem mv_le {a v st : Nat} (ha : a ≤ 10) (hv : v ≤ 10) : mv a v st ≤ 10 := by unfold mv; split <;> omega
theorem sI_mono {T T2 : Nat} {s : Nat → Nat} (h : sI T s) (hT : T ≤ T2) : sI T2 s := by
  obtain ⟨h1, h2, h3, h4, h5, h6, h7, h8⟩ := h
  exact ⟨h1, h2, h3, by omega, h5, by omega, by omega, h8⟩
theorem sI_cue1 {T : Nat} {s : Nat → Nat} (h : sI T s) (h0 : 0 < s 8) : sI T (mCue1 s) := by
  obtain ⟨⟨b1, b2, b3, b4, b5, b6, b7, b8⟩, h2, h3, h4, h5, h6, h7, h8, h9, h10, h11⟩ := h
  have hz := h9 0 h0
  have hj : s 56 < 8 := hz.2.2.1
  have ha : s 57 ≤ 10 := hz.2.2.2
  have lo : ∀ x, x < 54 → x ≠ 8 → x ≠ 12 → x ≠ 17 + 5 * s 56 → mCue1 s x = s x := fun x h1 h2 h3 h4 => by
    unfold mCue1; rw [if_neg h2, if_neg h3, if_neg h4, if_neg (by omega)]
  have e8 : mCue1 s 8 = s 8 - 1 := rfl
  have hi : ∀ x, 54 ≤ x → x < 54 + 4 * (s 8 - 1) → mCue1 s x = s (x + 4) := fun x h1 h2 => by
    unfold mCue1; rw [if_neg (by omega), if_neg (by omega), if_neg (by omega), if_pos ⟨h1, h2⟩]
  have nu : ∀ c, c < s 8 - 1 → nuF (mCue1 s) c = nuF s (c + 1) := fun c hc => by show mCue1 s _ = s _; rw [hi _ (by omega) (by omega)]; congr 1
  have ti : ∀ c, c < s 8 - 1 → tiF (mCue1 s) c = tiF s (c + 1) := fun c hc => by show mCue1 s _ = s _; rw [hi _ (by omega) (by omega)]; congr 1
  have je : ∀ c, c < s 8 - 1 → jeF (mCue1 s) c = jeF s (c + 1) := fun c hc => by show mCue1 s _ = s _; rw [hi _ (by omega) (by omega)]; congr 1
  have ac : ∀ c, c < s 8 - 1 → acF (mCue1 s) c = acF s (c + 1) := fun c hc => by show mCue1 s _ = s _; rw [hi _ (by omega) (by omega)]; congr 1
  refine ⟨⟨fun j hj => ?_, fun j hj => ?_, fun j hj => ?_, fun p hp => ?_, ?_, ?_, ?_, ?_⟩, fun j hj => ?_, ?_, ?_, ?_, ?_, ?_, ?_, fun c hc => ?_, fun c d hc hd => ?_, fun c d hc hd => ?_⟩
  · show 1 ≤ mCue1 s _ ∧ mCue1 s _ ≤ 20
    rw [lo _ (by omega) (by omega) (by omega) (by omega)]; exact b1 j hj
  · show mCue1 s _ ≤ 10
    rw [lo _ (by omega) (by omega) (by omega) (by omega)]; exact b2 j hj
  · show mCue1 s (17 + 5 * j) ≤ 10
    by_cases hq : j = s 56
    · unfold mCue1; rw [if_neg (by omega), if_neg (by omega), if_pos (by omega)]; exact ha
    · rw [lo _ (by omega) (by omega) (by omega) (by omega)]; exact b3 j hj
  · show mCue1 s _ ≤ 2000
    rw [lo _ (by omega) (by omega) (by omega) (by omega)]; exact b4 p hp
  · show mCue1 s 0 ≤ 20
    rw [lo _ (by omega) (by omega) (by omega) (by omega)]; exact b5
  · show mCue1 s 1 ≤ 50
    rw [lo _ (by omega) (by omega) (by omega) (by omega)]; exact b6
  · show 1 ≤ mCue1 s 2 ∧ mCue1 s 2 ≤ 10
    rw [lo _ (by omega) (by omega) (by omega) (by omega)]; exact b7
  · rw [lo _ (by omega) (by omega) (by omega) (by omega)]; exact b8
  · show mCue1 s _ ≤ 3
    rw [lo _ (by omega) (by omega) (by omega) (by omega)]; exact h2 j hj
  · rw [lo _ (by omega) (by omega) (by omega) (by omega)]; exact h3
  · rw [lo _ (by omega) (by omega) (by omega) (by omega)]; exact h4
  · rw [e8]; omega
  · rw [lo _ (by omega) (by omega) (by omega) (by omega)]; exact h6
  · rw [lo _ (by omega) (by omega) (by omega) (by omega)]; exact h7
  · rw [lo _ (by omega) (by omega) (by omega) (by omega)]; exact h8
  · rw [e8] at hc
    rw [nu c hc, ti c hc, je c hc, ac c hc, lo 9 (by omega) (by omega) (by omega) (by omega)]
    exact h9 (c + 1) (by omega)
  · rw [e8] at hd
    rw [ti c (by omega), ti d hd]
    exact h10 (c + 1) (d + 1) (by omega) (by omega)
  · rw [e8] at hd
    rw [nu c (by omega), nu d hd]
    exact h11 (c + 1) (d + 1) (by omega) (by omega)
theorem sI_cues {T : Nat} : ∀ (k : Nat) {s : Nat → Nat}, sI T s → sI T (mCues k s)
  | 0, _, h => h
  | k + 1, s, h => by
    unfold mCues
    split
    · exact sI_cues k (sI_cue1 h (by omega))
    · exact h
theorem sI_move {T : Nat} {s : Nat → Nat} (h : sI T s) : sI T (mMove s) := by
  obtain ⟨⟨b1, b2, b3, b4, b5, b6, b7, b8⟩, h2, h3, h4, h5, h6, h7, h8, h9, h10, h11⟩ := h
  have lo : ∀ x, ¬ (14 ≤ x ∧ x < 54 ∧ x % 5 = 1) → mMove s x = s x := fun x h1 => if_neg h1
  have va : ∀ j, j < 8 → vaF (mMove s) j = mv (amF s j) (vaF s j) (s 2) := fun j hj => by
    show mMove s (16 + 5 * j) = _
    unfold mMove
    rw [if_pos (by omega), show 16 + 5 * j + 1 = 17 + 5 * j by omega]; rfl
  have e8 : mMove s 8 = s 8 := rfl
  have hi : ∀ x, 54 ≤ x → mMove s x = s x := fun x h => lo x (by omega)
  refine ⟨⟨fun j hj => ?_, fun j hj => ?_, fun j hj => ?_, fun p hp => ?_, b5, b6, b7, b8⟩, fun j hj => ?_, h3, h4, h5, h6, h7, h8, fun c hc => ?_, fun c d hc hd => ?_, fun c d hc hd => ?_⟩
  · show 1 ≤ mMove s _ ∧ mMove s _ ≤ 20
    rw [lo _ (by omega)]; exact b1 j hj
  · rw [va j hj]; exact mv_le (b3 j hj) (b2 j hj)
  · show mMove s _ ≤ 10
    rw [lo _ (by omega)]; exact b3 j hj
  · show mMove s _ ≤ 2000
    rw [lo _ (by omega)]; exact b4 p hp
  · show mMove s _ ≤ 3
    rw [lo _ (by omega)]; exact h2 j hj
  · show mMove s _ < s 9 ∧ mMove s _ ≤ 999 ∧ mMove s _ < 8 ∧ mMove s _ ≤ 10
    rw [hi _ (by omega), hi _ (by omega), hi _ (by omega), hi _ (by omega)]; exact h9 c hc
  · show mMove s _ ≤ mMove s _
    rw [hi _ (by omega), hi _ (by omega)]; exact h10 c d hc hd
  · show mMove s _ ≠ mMove s _
    rw [hi _ (by omega), hi _ (by omega)]; exact h11 c d hc hd
theorem sI_jets {T : Nat} {s : Nat → Nat} (h : sI T s) : sI (T + 1) (mJets s) := by
  have hh := h
  obtain ⟨⟨b1, b2, b3, b4, b5, b6, b7, b8⟩, h2, h3, h4, h5, h6, h7, h8, h9, h10, h11⟩ := h
  have lo : ∀ x, x ≠ 6 → x ≠ 10 → x ≠ 11 → x ≠ 13 → ¬ (14 ≤ x ∧ x < 54 ∧ x % 5 = 3) → mJets s x = s x := fun x g1 g2 g3 g4 g5 => by
    unfold mJets
    by_cases hd : s 6 < tS s
    · rw [if_pos hd, if_neg g3]
    · rw [if_neg hd, if_neg g1, if_neg g2, if_neg g4, if_neg g5]
  have hm : maxTo (heS s) 8 ≤ 10 := maxTo_le 8 (fun i hi => heS_le hh hi)
  refine ⟨⟨fun j hj => ?_, fun j hj => ?_, fun j hj => ?_, fun p hp => ?_, ?_, ?_, ?_, ?_⟩, fun j hj => ?_, ?_, ?_, ?_, ?_, ?_, ?_, fun c hc => ?_, fun c d hc hd => ?_, fun c d hc hd => ?_⟩
  · show 1 ≤ mJets s _ ∧ mJets s _ ≤ 20
    rw [lo _ (by omega) (by omega) (by omega) (by omega) (by omega)]; exact b1 j hj
  · show mJets s _ ≤ 10
    rw [lo _ (by omega) (by omega) (by omega) (by omega) (by omega)]; exact b2 j hj
  · show mJets s _ ≤ 10
    rw [lo _ (by omega) (by omega) (by omega) (by omega) (by omega)]; exact b3 j hj
  · show mJets s _ ≤ 2000
    rw [lo _ (by omega) (by omega) (by omega) (by omega) (by omega)]; exact b4 p hp
  · show mJets s 0 ≤ 20
    rw [lo _ (by omega) (by omega) (by omega) (by omega) (by omega)]; exact b5
  · show mJets s 1 ≤ 50
    rw [lo _ (by omega) (by omega) (by omega) (by omega) (by omega)]; exact b6
  · show 1 ≤ mJets s 2 ∧ mJets s 2 ≤ 10
    rw [lo _ (by omega) (by omega) (by omega) (by omega) (by omega)]; exact b7
  · rw [lo _ (by omega) (by omega) (by omega) (by omega) (by omega)]; exact b8
  · show mJets s _ ≤ 3
    rw [lo _ (by omega) (by omega) (by omega) (by omega) (by omega)]; exact h2 j hj
  · unfold mJets
    split
    · exact h3
    · show s 6 - lossS s ≤ 99999
      omega
  · rw [lo _ (by omega) (by omega) (by omega) (by omega) (by omega)]; omega
  · rw [lo _ (by omega) (by omega) (by omega) (by omega) (by omega)]; exact h5
  · rw [lo _ (by omega) (by omega) (by omega) (by omega) (by omega)]; omega
  · unfold mJets
    split
    · show s 11 + 1 ≤ T + 1
      omega
    · show s 11 ≤ T + 1
      omega
  · unfold mJets
    split
    · exact h8
    · show max (s 13) (maxTo (heS s) 8) ≤ 10
      omega
  · rw [lo 8 (by omega) (by omega) (by omega) (by omega) (by omega)] at hc
    show mJets s _ < mJets s 9 ∧ mJets s _ ≤ 999 ∧ mJets s _ < 8 ∧ mJets s _ ≤ 10
    rw [lo 9 (by omega) (by omega) (by omega) (by omega) (by omega), lo _ (by omega) (by omega) (by omega) (by omega) (by omega), lo _ (by omega) (by omega) (by omega) (by omega) (by omega), lo _ (by omega) (by omega) (by omega) (by omega) (by omega), lo _ (by omega) (by omega) (by omega) (by omega) (by omega)]; exact h9 c hc
  · rw [lo 8 (by omega) (by omega) (by omega) (by omega) (by omega)] at hd
    show mJets s _ ≤ mJets s _
    rw [lo _ (by omega) (by omega) (by omega) (by omega) (by omega), lo _ (by omega) (by omega) (by omega) (by omega) (by omega)]; exact h10 c d hc hd
  · rw [lo 8 (by omega) (by omega) (by omega) (by omega) (by omega)] at hd
    show mJets s _ ≠ mJets s _
    rw [lo _ (by omega) (by omega) (by omega) (by omega) (by omega), lo _ (by omega) (by omega) (by omega) (by omega) (by omega)]; exact h11 c d hc hd
/-- where two states agree but at 7 -/
theorem sI_at7 {T : Nat} {s s2 : Nat → Nat} (h : sI T s) (h7 : s2 7 ≤ T) (he : ∀ x, x ≠ 7 → s2 x = s x) : sI T s2 := by
  obtain ⟨⟨b1, b2, b3, b4, b5, b6, b7, b8⟩, h2, h3, h4, h5, h6, h7', h8, h9, h10, h11⟩ := h
  have f : ∀ (g : Nat → Nat), (∀ x, g x ≠ 7) → (fun j => s2 (g j)) = fun j => s (g j) := fun g hg => funext fun j => he _ (hg j)
  have e1 : szF s2 = szF s := f _ (fun x => by omega)
  have e2 : vaF s2 = vaF s := f _ (fun x => by omega)
  have e3 : amF s2 = amF s := f _ (fun x => by omega)
  have e5 : coF s2 = coF s := f _ (fun x => by omega)
  have e6 : nuF s2 = nuF s := f _ (fun x => by omega)
  have e7 : tiF s2 = tiF s := f _ (fun x => by omega)
  have e8 : jeF s2 = jeF s := f _ (fun x => by omega)
  have e9 : acF s2 = acF s := f _ (fun x => by omega)
  refine ⟨⟨by rw [e1]; exact b1, by rw [e2]; exact b2, by rw [e3]; exact b3, fun p hp => ?_, ?_, ?_, ?_, ?_⟩, by rw [e5]; exact h2, ?_, h7, ?_, ?_, ?_, ?_, ?_, ?_, ?_⟩
  · show s2 _ ≤ 2000
    rw [he _ (by omega)]; exact b4 p hp
  · show s2 0 ≤ 20
    rw [he _ (by omega)]; exact b5
  · show s2 1 ≤ 50
    rw [he _ (by omega)]; exact b6
  · show 1 ≤ s2 2 ∧ s2 2 ≤ 10
    rw [he _ (by omega)]; exact b7
  · rw [he _ (by omega)]; exact b8
  · rw [he _ (by omega)]; exact h3
  · rw [he _ (by omega)]; exact h5
  · rw [he _ (by omega)]; exact h6
  · rw [he _ (by omega)]; exact h7'
  · rw [he _ (by omega)]; exact h8
  · rw [he 8 (by omega), he 9 (by omega), e6, e7, e8, e9]; exact h9
  · rw [he 8 (by omega), e7]; exact h10
  · rw [he 8 (by omega), e6]; exact h11
theorem mJets_7 (s : Nat → Nat) : mJets s 7 = s 7 := by unfold mJets; split <;> rfl
theorem sI_tick {T : Nat} {s : Nat → Nat} (h : sI T s) : sI (T + 1) (mTick s) := by
  have h1 := sI_move (sI_cues 16 h)
  have h2 := sI_jets h1
  refine sI_at7 h2 ?_ (fun x hx => by unfold mTick; rw [if_neg hx])
  show mJets _ 7 + 1 ≤ T + 1
  have := h1.2.2.2.1
  rw [mJets_7]
  omega
theorem sI_play {T : Nat} : ∀ (n : Nat) {s : Nat → Nat}, sI T s → sI (T + n) (mPlay n s)
  | 0, _, h => h
  | n + 1, s, h => by
    have h1 := sI_play n (sI_tick h)
    exact sI_mono h1 (by omega)
theorem sI_zero {T : Nat} {s : Nat → Nat} (h : sI T s) : sI T (mZero s) := by
  obtain ⟨⟨b1, b2, b3, b4, b5, b6, b7, b8⟩, h2, h3, h4, h5, h6, h7, h8, h9, h10, h11⟩ := h
  have lo : ∀ x, ¬ (x = 10 ∨ x = 11 ∨ x = 13 ∨ (14 ≤ x ∧ x < 54 ∧ x % 5 = 3)) → mZero s x = s x := fun x g => if_neg g
  refine ⟨⟨fun j hj => ?_, fun j hj => ?_, fun j hj => ?_, fun p hp => ?_, b5, b6, b7, b8⟩, fun j hj => ?_, h3, h4, h5, h6, Nat.zero_le _, Nat.zero_le _, fun c hc => ?_, fun c d hc hd => ?_, fun c d hc hd => ?_⟩
  · show 1 ≤ mZero s _ ∧ mZero s _ ≤ 20
    rw [lo _ (by omega)]; exact b1 j hj
  · show mZero s _ ≤ 10
    rw [lo _ (by omega)]; exact b2 j hj
  · show mZero s _ ≤ 10
    rw [lo _ (by omega)]; exact b3 j hj
  · show mZero s _ ≤ 2000
    rw [lo _ (by omega)]; exact b4 p hp
  · show mZero s _ ≤ 3
    rw [lo _ (by omega)]; exact h2 j hj
  · show mZero s _ < s 9 ∧ mZero s _ ≤ 999 ∧ mZero s _ < 8 ∧ mZero s _ ≤ 10
    rw [lo _ (by omega), lo _ (by omega), lo _ (by omega), lo _ (by omega)]; exact h9 c hc
  · show mZero s _ ≤ mZero s _
    rw [lo _ (by omega), lo _ (by omega)]; exact h10 c d hc hd
  · show mZero s _ ≠ mZero s _
    rw [lo _ (by omega), lo _ (by omega)]; exact h11 c d hc hd
theorem mCues_end {k : Nat} {t : Nat → Nat} (h : k = 0 ∨ ¬ (0 < t 8 ∧ t 55 = t 7)) : mCues k t = t := by
  cases k with
  | zero => rfl
  | succ k => exact if_neg (h.elim (fun z => by omega) id)
theorem mCues_go {k i : Nat} {t : Nat → Nat} (hi : i < k) (h0 : 0 < t 8) (h : tiF t 0 = t 7) : mCues (k - i) t = mCues (k - (i + 1)) (mCue1 t) := by
  rw [show k - i = (k - (i + 1)) + 1 by omega]
  exact if_pos ⟨h0, h⟩
def askF (s : Nat → Nat) (t j a : Nat) : Nat → Nat := fun i => szF s (j / 4 * 4 + i) * (if j / 4 * 4 + i = j then a else aimBy (tiF s) (jeF s) (acF s) t (j / 4 * 4 + i) (amF s (j / 4 * 4 + i)) (s 8))
theorem askS_eq (s : Nat → Nat) (t j a : Nat) : askS s t j a = sumTo (askF s t j a) 4 := rfl
theorem askS_le {T : Nat} {s : Nat → Nat} {t j a : Nat} (h : sI T s) (hj : j < 8) (ha : a ≤ 10) : askS s t j a ≤ 800 := by
  refine sumTo_le (b := 200) 4 (fun i hi => ?_)
  obtain ⟨⟨b1, b2, b3, -⟩, -, -, -, -, -, -, -, h9, -⟩ := h
  have h1 := (b1 (j / 4 * 4 + i) (by omega)).2
  have h2 : (if j / 4 * 4 + i = j then a else aimBy (tiF s) (jeF s) (acF s) t (j / 4 * 4 + i) (amF s (j / 4 * 4 + i)) (s 8)) ≤ 10 := by
    split
    · exact ha
    · exact aimBy_le (b3 _ (by omega)) _ (fun c hc => (h9 c hc).2.2.2)
  exact Nat.le_trans (Nat.mul_le_mul h1 h2) (by decide)
theorem rS_lt {s : Nat → Nat} {t j a : Nat} : rS s t j a < 2 ^ 31 := by
  unfold rS
  (repeat' split) <;> omega
theorem rS_ok {s : Nat → Nat} {t j a : Nat} (h : rS s t j a = 0) : s 8 < 16 := by
  unfold rS at h
  split at h
  · omega
  · split at h <;> omega
theorem nI_nm1 {n : Nat} (h : n < 2 ^ 31) : ¬ nI n = -1 := by
  intro z
  have h1 := congrArg Int32.toInt z
  rw [nI_toInt h] at h1
  have h2 : (-1 : Int32).toInt = -1 := by decide
  omega
theorem burn_up {h : Nat → Nat} {j b y : Nat} (hn : y ≠ 0) (h1 : h j = b) : upN h j (h j + 1) j = b + (if 0 < y then 1 else 0) := by
  rw [upN_s, if_pos (Nat.pos_of_ne_zero hn), h1]
