-- playing a copy with its counts at nothing
theorem mPlay_succ : ∀ (n : Nat) (s : Nat → Nat), mPlay (n + 1) s = mTick (mPlay n s)
  | 0, _ => rfl
  | n + 1, s => mPlay_succ n (mTick s)
def ctr (x : Nat) : Prop := x = 10 ∨ x = 11 ∨ x = 13 ∨ (14 ≤ x ∧ x < 54 ∧ x % 5 = 3)
def plR (s z z0 : Nat → Nat) : Prop := (∀ x, ¬ ctr x → z x = z0 x) ∧ z 10 = s 10 + z0 10 ∧ z 11 = s 11 + z0 11
theorem plR_zero (s : Nat → Nat) : plR s s (mZero s) := by
  refine ⟨fun x hx => ?_, rfl, rfl⟩
  exact (if_neg (show ¬ (x = 10 ∨ x = 11 ∨ x = 13 ∨ (14 ≤ x ∧ x < 54 ∧ x % 5 = 3)) from hx)).symm
theorem plR_cue1 {s z z0 : Nat → Nat} (h : plR s z z0) : plR s (mCue1 z) (mCue1 z0) := by
  obtain ⟨h1, h2, h3⟩ := h
  have e8 : z 8 = z0 8 := h1 8 (by unfold ctr; omega)
  have e12 : z 12 = z0 12 := h1 12 (by unfold ctr; omega)
  have e56 : z 56 = z0 56 := h1 56 (by unfold ctr; omega)
  have e57 : z 57 = z0 57 := h1 57 (by unfold ctr; omega)
  refine ⟨fun x hx => ?_, ?_, ?_⟩
  · unfold mCue1
    rw [e8, e12, e56, e57, h1 x hx]
    by_cases h9 : 54 ≤ x ∧ x < 54 + 4 * (z0 8 - 1)
    · rw [h1 (x + 4) (by unfold ctr; omega)]
    · rw [if_neg h9, if_neg h9]
  · unfold mCue1
    rw [if_neg (by omega), if_neg (by omega), if_neg (by omega), if_neg (by omega), if_neg (by omega), if_neg (by omega), if_neg (by omega), if_neg (by omega)]
    exact h2
  · unfold mCue1
    rw [if_neg (by omega), if_neg (by omega), if_neg (by omega), if_neg (by omega), if_neg (by omega), if_neg (by omega), if_neg (by omega), if_neg (by omega)]
    exact h3
theorem plR_cues : ∀ (n : Nat) {s z z0 : Nat → Nat}, plR s z z0 → plR s (mCues n z) (mCues n z0)
  | 0, _, _, _, h => h
  | n + 1, s, z, z0, h => by
    have e8 : z 8 = z0 8 := h.1 8 (by unfold ctr; omega)
    have e55 : z 55 = z0 55 := h.1 55 (by unfold ctr; omega)
    have e7 : z 7 = z0 7 := h.1 7 (by unfold ctr; omega)
    unfold mCues
    rw [e8, e55, e7]
    split
    · exact plR_cues n (plR_cue1 h)
    · exact h
theorem plR_move {s z z0 : Nat → Nat} (h : plR s z z0) : plR s (mMove z) (mMove z0) := by
  obtain ⟨h1, h2, h3⟩ := h
  refine ⟨fun x hx => ?_, h2, h3⟩
  have e2 : z 2 = z0 2 := h1 2 (by unfold ctr; omega)
  unfold mMove
  by_cases h9 : 14 ≤ x ∧ x < 54 ∧ x % 5 = 1
  · rw [if_pos h9, if_pos h9, h1 x hx, h1 (x + 1) (by unfold ctr; omega), e2]
  · rw [if_neg h9, if_neg h9]; exact h1 x hx
theorem plR_gS {s z z0 : Nat → Nat} (h : plR s z z0) {j : Nat} (hj : j < 8) : gS z j = gS z0 j := gS_cg (fun x h1 h2 => h.1 x (by unfold ctr; omega)) hj
theorem plR_heS {s z z0 : Nat → Nat} (h : plR s z z0) {j : Nat} (hj : j < 8) : heS z j = heS z0 j := heS_cg (fun x h1 h2 => h.1 x (by unfold ctr; omega)) hj
theorem plR_tS {s z z0 : Nat → Nat} (h : plR s z z0) : tS z = tS z0 := sumTo_cg 8 fun _ hi => plR_gS h hi
theorem plR_hi {s z z0 : Nat → Nat} (h : plR s z z0) : hiS z = hiS z0 := by
  unfold hiS
  rw [plR_tS h, h.1 6 (by unfold ctr; omega), maxTo_cg 8 (fun _ hi => plR_heS h hi)]
theorem plR_br {s z z0 : Nat → Nat} (h : plR s z z0) : brS z = brS z0 := by
  unfold brS brT
  rw [plR_tS h, h.1 6 (by unfold ctr; omega)]
  congr 1
  exact sumTo_cg 8 fun j hj => by rw [plR_heS h hj, show coF z j = coF z0 j from h.1 _ (by unfold ctr; omega)]
theorem plR_jets {s z z0 : Nat → Nat} (h : plR s z z0) : plR s (mJets z) (mJets z0) := by
  have et := plR_tS h
  have e1 : z 1 = z0 1 := h.1 1 (by unfold ctr; omega)
  have e5 : z 5 = z0 5 := h.1 5 (by unfold ctr; omega)
  have e6 : z 6 = z0 6 := h.1 6 (by unfold ctr; omega)
  have el : lossS z = lossS z0 := by
    unfold lossS fLoss
    rw [et, e5, show seF z 1 = seF z0 1 from e1]
  obtain ⟨h1, h2, h3⟩ := h
  refine ⟨fun x hx => ?_, ?_, ?_⟩
  · have hx' : ¬ (x = 10 ∨ x = 11 ∨ x = 13 ∨ (14 ≤ x ∧ x < 54 ∧ x % 5 = 3)) := hx
    unfold mJets
    rw [et, e6, el, h1 x hx, if_neg (show ¬ x = 11 by omega), if_neg (show ¬ x = 11 by omega), if_neg (show ¬ x = 10 by omega), if_neg (show ¬ x = 10 by omega), if_neg (show ¬ x = 13 by omega), if_neg (show ¬ x = 13 by omega), if_neg (show ¬ (14 ≤ x ∧ x < 54 ∧ x % 5 = 3) by omega), if_neg (show ¬ (14 ≤ x ∧ x < 54 ∧ x % 5 = 3) by omega)]
  · unfold mJets
    rw [et, e6, el]
    split
    · exact h2
    · show z 10 + lossS z0 = s 10 + (z0 10 + lossS z0)
      omega
  · unfold mJets
    rw [et, e6]
    split
    · show z 11 + 1 = s 11 + (z0 11 + 1)
      omega
    · exact h3
theorem plR_tick {s z z0 : Nat → Nat} (h : plR s z z0) : plR s (mTick z) (mTick z0) := by
  have h0 := plR_jets (plR_move (plR_cues 16 h))
  obtain ⟨h1, h2, h3⟩ := h0
  refine ⟨fun x hx => ?_, h2, h3⟩
  unfold mTick
  rw [h1 x hx, h1 7 (by unfold ctr; omega)]
theorem plR_play : ∀ (n : Nat) (s : Nat → Nat), plR s (mPlay n s) (mPlay n (mZero s))
  | 0, s => plR_zero s
  | n + 1, s => by
    rw [mPlay_succ, mPlay_succ]
    exact plR_tick (plR_play n s)
theorem mCues_k {x : Nat} (hx : x = 13 ∨ (14 ≤ x ∧ x < 54 ∧ x % 5 ≠ 2)) : ∀ (n : Nat) (z : Nat → Nat), mCues n z x = z x
  | 0, _ => rfl
  | n + 1, z => by
    unfold mCues
    split
    · rw [mCues_k hx n]
      unfold mCue1
      rw [if_neg (by omega), if_neg (by omega), if_neg (by omega), if_neg (by omega)]
    · rfl
theorem tick_13 (z : Nat → Nat) : mTick z 13 = max (z 13) (hiS (mMove (mCues 16 z))) := by
  have e : mMove (mCues 16 z) 13 = z 13 := mCues_k (Or.inl rfl) 16 z
  show mJets (mMove (mCues 16 z)) 13 = _
  unfold mJets hiS
  split
  · show mMove (mCues 16 z) 13 = _
    rw [e]; omega
  · show max (mMove (mCues 16 z) 13) _ = _
    rw [e]
theorem sumTo_add {f g : Nat → Nat} : ∀ n : Nat, sumTo (fun i => f i + g i) n = sumTo f n + sumTo g n
  | 0 => rfl
  | n + 1 => by
    show sumTo (fun i => f i + g i) n + (f n + g n) = sumTo f n + f n + (sumTo g n + g n)
    rw [sumTo_add n]; omega
theorem tick_la (z : Nat → Nat) : lampS (mTick z) 0 = lampS z 0 + brS (mMove (mCues 16 z)) := by
  have hc : ∀ j, j < 8 → coF (mTick z) j = coF z j := fun j hj => by
    show mTick z (15 + 5 * j) = z (15 + 5 * j)
    have e1 : mTick z (15 + 5 * j) = mJets (mMove (mCues 16 z)) (15 + 5 * j) := by unfold mTick; rw [if_neg (by omega)]
    have e2 : mJets (mMove (mCues 16 z)) (15 + 5 * j) = mMove (mCues 16 z) (15 + 5 * j) := by
      unfold mJets
      split
      · rw [if_neg (by omega)]
      · rw [if_neg (by omega), if_neg (by omega), if_neg (by omega), if_neg (by omega)]
    have e3 : mMove (mCues 16 z) (15 + 5 * j) = mCues 16 z (15 + 5 * j) := by unfold mMove; rw [if_neg (by omega)]
    rw [e1, e2, e3, mCues_k (by omega) 16 z]
  have hc2 : ∀ j, j < 8 → coF (mMove (mCues 16 z)) j = coF z j := fun j hj => by
    show mMove (mCues 16 z) (15 + 5 * j) = z (15 + 5 * j)
    rw [show mMove (mCues 16 z) (15 + 5 * j) = mCues 16 z (15 + 5 * j) by unfold mMove; rw [if_neg (by omega)], mCues_k (by omega) 16 z]
  have hb2 : ∀ j, j < 8 → mMove (mCues 16 z) (18 + 5 * j) = z (18 + 5 * j) := fun j hj => by
    rw [show mMove (mCues 16 z) (18 + 5 * j) = mCues 16 z (18 + 5 * j) by unfold mMove; rw [if_neg (by omega)], mCues_k (by omega) 16 z]
  have hb : ∀ j, j < 8 → buF (mTick z) j = buF z j + (if mMove (mCues 16 z) 6 < tS (mMove (mCues 16 z)) then 0 else if 0 < heS (mMove (mCues 16 z)) j then 1 else 0) := fun j hj => by
    show mTick z (18 + 5 * j) = z (18 + 5 * j) + _
    have e1 : mTick z (18 + 5 * j) = mJets (mMove (mCues 16 z)) (18 + 5 * j) := by unfold mTick; rw [if_neg (by omega)]
    rw [e1]
    unfold mJets
    split
    · rw [if_neg (by omega), hb2 j hj]; rfl
    · rw [if_neg (by omega), if_neg (by omega), if_neg (by omega), if_pos (by omega), hb2 j hj, show (18 + 5 * j - 14) / 5 = j by omega]
  unfold lampS brS brT
  by_cases hd : mMove (mCues 16 z) 6 < tS (mMove (mCues 16 z))
  · rw [if_pos hd, Nat.add_zero]
    exact sumTo_cg 8 fun j hj => by rw [hc j hj, hb j hj, if_pos hd]; rfl
  · rw [if_neg hd, ← sumTo_add]
    exact sumTo_cg 8 fun j hj => by
      rw [hc j hj, hb j hj, if_neg hd, hc2 j hj]
      by_cases h0 : coF z j = 0
      · rw [if_pos h0, if_pos h0]
        by_cases h1 : 0 < heS (mMove (mCues 16 z)) j
        · rw [if_pos h1, if_pos ⟨h1, h0⟩]
        · rw [if_neg h1, if_neg (fun w => h1 w.1)]
      · rw [if_neg h0, if_neg h0, if_neg (fun w => h0 w.2)]
theorem by_hi (i : Nat) (s : Nat → Nat) : mPlay (i + 1) (mZero s) 13 = max (mPlay i (mZero s) 13) (hiS (mMove (mCues 16 (mPlay i s)))) := by
  rw [mPlay_succ, tick_13, plR_hi (plR_move (plR_cues 16 (plR_play i s)))]
theorem by_la (i : Nat) (s : Nat → Nat) : lampS (mPlay (i + 1) (mZero s)) 0 = lampS (mPlay i (mZero s)) 0 + brS (mMove (mCues 16 (mPlay i s))) := by
  rw [mPlay_succ, tick_la, plR_br (plR_move (plR_cues 16 (plR_play i s)))]
theorem hiS_le {T : Nat} {u : Nat → Nat} (h : sI T u) : hiS u ≤ 10 := by
  unfold hiS
  split
  · omega
  · exact maxTo_le 8 (fun z hz => heS_le h hz)
/-- the pumps give together what the jets get -/
theorem giv_all (s : Nat → Nat) : fGives (szF s) (vaF s) (liF s) (seF s) (s 5) 0 + fGives (szF s) (vaF s) (liF s) (seF s) (s 5) 1 = tS s := by
  have h0 : fGives (szF s) (vaF s) (liF s) (seF s) (s 5) 0 = sumTo (fun i => gS s i) 4 := sumTo_cg 4 fun i hi => by
    unfold gS fGets
    rw [show 0 * 4 + i = i by omega, show i / 4 = 0 by omega]
  have h1 : fGives (szF s) (vaF s) (liF s) (seF s) (s 5) 1 = sumTo (fun i => gS s (4 + i)) 4 := sumTo_cg 4 fun i hi => by
    unfold gS fGets
    rw [show 1 * 4 + i = 4 + i by omega, show (4 + i) / 4 = 1 by omega]
  rw [h0, h1]
  show (0 + gS s 0 + gS s 1 + gS s 2 + gS s 3) + (0 + gS s 4 + gS s 5 + gS s 6 + gS s 7) = 0 + gS s 0 + gS s 1 + gS s 2 + gS s 3 + gS s 4 + gS s 5 + gS s 6 + gS s 7
  omega
theorem lampS_0 (s : Nat → Nat) : lampS (mPlay 0 (mZero s)) 0 = 0 := by
  have h : ∀ n, n ≤ 8 → sumTo (fun j => if coF (mZero s) j = 0 then buF (mZero s) j else 0) n = 0 := by
    intro n
    induction n with
    | zero => intro _; rfl
    | succ n ih =>
      intro hn
      show sumTo _ n + (if coF (mZero s) n = 0 then buF (mZero s) n else 0) = 0
      rw [ih (by omega), show buF (mZero s) n = 0 by (show mZero s (18 + 5 * n) = 0; unfold mZero; rw [if_pos (by omega)])]
      split <;> rfl
  exact h 8 (Nat.le_refl 8)
set_option maxHeartbeats 4000000 in
set_option maxRecDepth 100000 in
theorem k_X6_of_v (l : Launch) (D : va_G) (cI cS cL : ClassId) (q0 : Nat) (s : Nat → Nat) (j : Nat) (w : Nat) (hj : j < 8) (hw : w ≤ 4) : KM l D (TY cI cS cL) yX6_of wsX6_of ({ frames := 0, cells := 0, slots := 0, locals := 0 } : Room) [(q0, .inl (cI, 118, .inl (ro 118 s)))] [.ref q0, .int (nI j), .int (nI w)] (fun (v : Option Value) (_ : Unit) => v = some (.int (nI (s (14 + 5 * j + w))))) (fun _ : Unit => [(q0, .inl (cI, 118, .inl (ro 118 s)))]) := by
  refine KM.of (cc := cX6_of) (maxL := 3) (ret := (some .int)) (by decide) rfl (Nat.le_of_ble_eq_true rfl) ?_
  intro p9 e9 s9 m9 ar9 be9 me9 c9 Q9 A9 ls C0 hN hnm hlk hK hA hret hP hD hS hl
  obtain ⟨hx, hb, hml, hown, hts⟩ := id C0
  have hl : lv_has ls 3 [(0, .ref q0), (1, .int (nI j)), (2, .int (nI w))] := hl
  obtain ⟨H, hH0⟩ : ∃ H, H = s9.heap := ⟨_, rfl⟩
  obtain ⟨locs, hlc0⟩ : ∃ z : List Loc, z = [] := ⟨_, rfl⟩
  have hP : va_P D vwCl [(q0, .inl (cI, 118, .inl (ro 118 s)))] H := by rw [hH0]; exact hP
  have hD : va_D A9 [(q0, .inl (cI, 118, .inl (ro 118 s)))] := hD
  have hS : va_S A9 s9.heap H locs := by rw [hH0, hlc0]; exact hS
  suffices hgo : W p9 l e9 ({ frames := 0, cells := 0, slots := 0, locals := 0 } : Room) s9 m9 ar9 be9 me9 c9 H locs 0 0 Q9 (F0 m9 0 ls []) by rw [hH0, hlc0] at hgo; exact hgo
  clear hH0 hlc0
  refine lv_aload_n hx hb dX6_of_0 rfl (lv_at hl 0 rfl) ?_
  refine lv_bipush (v := nI 14) hx hb dX6_of_1 (by decide +kernel) ?_
  refine lv_iconst (v := nI 5) hx hb dX6_of_3 (by decide +kernel) ?_
  refine lv_iload_n hx hb dX6_of_4 rfl (lv_at hl 1 rfl) ?_
  refine q_imul hx hb dX6_of_5 ?_
  refine q_iadd hx hb dX6_of_6 ?_
  refine lv_iload_n hx hb dX6_of_7 rfl (lv_at hl 2 rfl) ?_
  refine q_iadd hx hb dX6_of_8 ?_
  refine q_iald 0 0 (by omega) (by omega) hx hb hK hP rfl rfl dX6_of_9 ?_
  exact hret _ _ _ _ (some (.int (nI (s ((14 + (5 * j)) + w))))) () 10 ls (by decide) (by decide) (by rfl) hP hD hS (ret_i dX6_of_10)

set_option maxHeartbeats 4000000 in
set_option maxRecDepth 100000 in
theorem k_X6_by_v (l : Launch) (D : va_G) (cI cS cL : ClassId) (q0 : Nat) (s : Nat → Nat) (c : Nat) (w : Nat) (hc : c < 16) (hw : w ≤ 3) : KM l D (TY cI cS cL) yX6_by wsX6_by ({ frames := 0, cells := 0, slots := 0, locals := 0 } : Room) [(q0, .inl (cI, 118, .inl (ro 118 s)))] [.ref q0, .int (nI c), .int (nI w)] (fun (v : Option Value) (_ : Unit) => v = some (.int (nI (s (54 + 4 * c + w))))) (fun _ : Unit => [(q0, .inl (cI, 118, .inl (ro 118 s)))]) := by
  refine KM.of (cc := cX6_by) (maxL := 3) (ret := (some .int)) (by decide) rfl (Nat.le_of_ble_eq_true rfl) ?_
  intro p9 e9 s9 m9 ar9 be9 me9 c9 Q9 A9 ls C0 hN hnm hlk hK hA hret hP hD hS hl
  obtain ⟨hx, hb, hml, hown, hts⟩ := id C0
  have hl : lv_has ls 3 [(0, .ref q0), (1, .int (nI c)), (2, .int (nI w))] := hl
  obtain ⟨H, hH0⟩ : ∃ H, H = s9.heap := ⟨_, rfl⟩
  obtain ⟨locs, hlc0⟩ : ∃ z : List Loc, z = [] := ⟨_, rfl⟩
  have hP : va_P D vwCl [(q0, .inl (cI, 118, .inl (ro 118 s)))] H := by rw [hH0]; exact hP
  have hD : va_D A9 [(q0, .inl (cI, 118, .inl (ro 118 s)))] := hD
  have hS : va_S A9 s9.heap H locs := by rw [hH0, hlc0]; exact hS
  suffices hgo : W p9 l e9 ({ frames := 0, cells := 0, slots := 0, locals := 0 } : Room) s9 m9 ar9 be9 me9 c9 H locs 0 0 Q9 (F0 m9 0 ls []) by rw [hH0, hlc0] at hgo; exact hgo
  clear hH0 hlc0
  refine lv_aload_n hx hb dX6_by_0 rfl (lv_at hl 0 rfl) ?_
  refine lv_bipush (v := nI 54) hx hb dX6_by_1 (by decide +kernel) ?_
  refine lv_iconst (v := nI 4) hx hb dX6_by_3 (by decide +kernel) ?_
  refine lv_iload_n hx hb dX6_by_4 rfl (lv_at hl 1 rfl) ?_
  refine q_imul hx hb dX6_by_5 ?_
  refine q_iadd hx hb dX6_by_6 ?_
  refine lv_iload_n hx hb dX6_by_7 rfl (lv_at hl 2 rfl) ?_
  refine q_iadd hx hb dX6_by_8 ?_
  refine q_iald 0 0 (by omega) (by omega) hx hb hK hP rfl rfl dX6_by_9 ?_
  exact hret _ _ _ _ (some (.int (nI (s ((54 + (4 * c)) + w))))) () 10 ls (by decide) (by decide) (by rfl) hP hD hS (ret_i dX6_by_10)

theorem in_X6_changes_X6 : ∀ w ∈ wsX60, w ∈ wsX6_changes := by decide +kernel
theorem fl_X6_changes_7 : Cond.fieldLink RX6 7 "FountainCuesModel" "now" "[I" ∈ wsX6_changes := by decide +kernel
set_option maxHeartbeats 4000000 in
set_option maxRecDepth 100000 in
theorem k_X6_changes (l : Launch) (D : va_G) (cI cS cL : ClassId) (m0 : Nat) (m1 : Nat) (m2 : Nat) (m3 : Nat) (m4 : Nat) (m5 : Nat) (k : Nat) (n : Nat) (th : Nat) (ax : Nat) (fa : Nat) (vl : Nat) (tn : Nat) (hg : Nat) (bg : Nat) (s : Nat → Nat) (y : Nat) (z : Nat) (hy2 : y < 118) : KM l D (TY cI cS cL) yX6_changes wsX6_changes ({ frames := 0, cells := 0, slots := 0, locals := 0 } : Room) [(m0, .inr (6, [.ref m1, .ref m2, .ref m3, .int (nI k), .ref m4, .int (nI n), .int (nI th), .int (nI ax), .int (nI fa), .int (nI vl), .ref m5, .int (nI tn), .int (nI hg), .int (nI bg)])), (m1, .inl (cI, 118, .inl (ro 118 s)))] [.ref m0, .int (nI y), .int (nI z)] (fun (v : Option Value) (_ : Unit) => v = some (.int (nI (s y)))) (fun _ : Unit => [(m0, .inr (6, [.ref m1, .ref m2, .ref m3, .int (nI k), .ref m4, .int (nI n), .int (nI th), .int (nI ax), .int (nI fa), .int (nI vl), .ref m5, .int (nI tn), .int (nI hg), .int (nI bg)])), (m1, .inl (cI, 118, .inl (ro 118 (upN s y z))))]) := by
  refine KM.of (cc := cX6_changes) (maxL := 4) (ret := (some .int)) (by decide) rfl (Nat.le_of_ble_eq_true rfl) ?_
  intro p9 e9 s9 m9 ar9 be9 me9 c9 Q9 A9 ls C0 hN hnm hlk hK hA hret hP hD hS hl
  obtain ⟨hx, hb, hml, hown, hts⟩ := id C0
  have hl : lv_has ls 4 [(0, .ref m0), (1, .int (nI y)), (2, .int (nI z))] := hl
  obtain ⟨H, hH0⟩ : ∃ H, H = s9.heap := ⟨_, rfl⟩
  obtain ⟨locs, hlc0⟩ : ∃ z : List Loc, z = [] := ⟨_, rfl⟩
  have hP : va_P D vwCl [(m0, .inr (6, [.ref m1, .ref m2, .ref m3, .int (nI k), .ref m4, .int (nI n), .int (nI th), .int (nI ax), .int (nI fa), .int (nI vl), .ref m5, .int (nI tn), .int (nI hg), .int (nI bg)])), (m1, .inl (cI, 118, .inl (ro 118 s)))] H := by rw [hH0]; exact hP
  have hD : va_D A9 [(m0, .inr (6, [.ref m1, .ref m2, .ref m3, .int (nI k), .ref m4, .int (nI n), .int (nI th), .int (nI ax), .int (nI fa), .int (nI vl), .ref m5, .int (nI tn), .int (nI hg), .int (nI bg)])), (m1, .inl (cI, 118, .inl (ro 118 s)))] := hD
  have hS : va_S A9 s9.heap H locs := by rw [hH0, hlc0]; exact hS
  suffices hgo : W p9 l e9 ({ frames := 0, cells := 0, slots := 0, locals := 0 } : Room) s9 m9 ar9 be9 me9 c9 H locs 0 0 Q9 (F0 m9 0 ls []) by rw [hH0, hlc0] at hgo; exact hgo
  clear hH0 hlc0
  refine lv_aload_n hx hb dX6_changes_0 rfl (lv_at hl 0 rfl) ?_
  refine va_get (D := D) (ci := 6) (v := .ref m1) (C := RX6) (T := TX6) (N := 14) hx hb hts in_X6_changes_X6 hown hK hP 0 rfl rfl 0 (by decide) (hts _ fl_X6_changes_7) (fun _ h9 => h9) rfl dX6_changes_1 ?_
  refine lv_iload_n hx hb dX6_changes_4 rfl (lv_at hl 1 rfl) ?_
  refine q_iald 1 0 (by omega) (by omega) hx hb hK hP rfl rfl dX6_changes_5 ?_
  refine lv_istore_n (lv' := [(3, .int (nI (s y))), (0, .ref m0), (1, .int (nI y)), (2, .int (nI z))]) hx hb dX6_changes_6 rfl hl (by decide) rfl (fun ls hl => ?_)
  refine lv_aload_n hx hb dX6_changes_7 rfl (lv_at hl 1 rfl) ?_
  refine va_get (D := D) (ci := 6) (v := .ref m1) (C := RX6) (T := TX6) (N := 14) hx hb hts in_X6_changes_X6 hown hK hP 0 rfl rfl 0 (by decide) (hts _ fl_X6_changes_7) (fun _ h9 => h9) rfl dX6_changes_8 ?_
  refine lv_iload_n hx hb dX6_changes_11 rfl (lv_at hl 2 rfl) ?_
  refine lv_iload_n hx hb dX6_changes_12 rfl (lv_at hl 3 rfl) ?_
  refine q_iast 1 0 (by omega) (by omega) hx hb hK hP hD hS rfl rfl dX6_changes_13 (fun H locs hP hD hS => ?_)
  have hP : va_P D vwCl [(m0, .inr (6, [.ref m1, .ref m2, .ref m3, .int (nI k), .ref m4, .int (nI n), .int (nI th), .int (nI ax), .int (nI fa), .int (nI vl), .ref m5, .int (nI tn), .int (nI hg), .int (nI bg)])), (m1, .inl (cI, 118, .inl (ro 118 (upN s y z))))] H := hP
  have hD : va_D A9 [(m0, .inr (6, [.ref m1, .ref m2, .ref m3, .int (nI k), .ref m4, .int (nI n), .int (nI th), .int (nI ax), .int (nI fa), .int (nI vl), .ref m5, .int (nI tn), .int (nI hg), .int (nI bg)])), (m1, .inl (cI, 118, .inl (ro 118 (upN s y z))))] := hD
  refine lv_iload_n hx hb dX6_changes_14 rfl (lv_at hl 0 rfl) ?_
  exact hret _ _ _ _ (some (.int (nI (s y)))) () 15 ls (by decide) (by decide) (by rfl) hP hD hS (ret_i dX6_changes_15)

theorem in_X6_aimBy_X6 : ∀ w ∈ wsX60, w ∈ wsX6_aimBy := by decide +kernel
theorem fl_X6_aimBy_7 : Cond.fieldLink RX6 7 "FountainCuesModel" "now" "[I" ∈ wsX6_aimBy := by decide +kernel
set_option maxHeartbeats 4000000 in
set_option maxRecDepth 100000 in
theorem k_X6_aimBy (l : Launch) (D : va_G) (cI cS cL : ClassId) (T : Nat) (m0 : Nat) (m1 : Nat) (m2 : Nat) (m3 : Nat) (m4 : Nat) (m5 : Nat) (k : Nat) (n : Nat) (th : Nat) (ax : Nat) (fa : Nat) (vl : Nat) (tn : Nat) (hg : Nat) (bg : Nat) (s : Nat → Nat) (q : Nat) (j : Nat) (hI : sI T s) (hT : T ≤ 1001000) (hq : q < 2 ^ 31) (hj : j < 8) : KM l D (TY cI cS cL) yX6_aimBy wsX6_aimBy ({ frames := 1, cells := 0, slots := 0, locals := 22 } : Room) [(m0, .inr (6, [.ref m1, .ref m2, .ref m3, .int (nI k), .ref m4, .int (nI n), .int (nI th), .int (nI ax), .int (nI fa), .int (nI vl), .ref m5, .int (nI tn), .int (nI hg), .int (nI bg)])), (m1, .inl (cI, 118, .inl (ro 118 s)))] [.ref m0, .int (nI q), .int (nI j)] (fun (v : Option Value) (_ : Unit) => v = some (.int (nI (aimBy (tiF s) (jeF s) (acF s) q j (amF s j) (s 8))))) (fun _ : Unit => [(m0, .inr (6, [.ref m1, .ref m2, .ref m3, .int (nI k), .ref m4, .int (nI n), .int (nI th), .int (nI ax), .int (nI fa), .int (nI vl), .ref m5, .int (nI tn), .int (nI hg), .int (nI bg)])), (m1, .inl (cI, 118, .inl (ro 118 s)))]) := by
  refine KM.of (cc := cX6_aimBy) (maxL := 5) (ret := (some .int)) (by decide) rfl (Nat.le_of_ble_eq_true rfl) ?_
  intro p9 e9 s9 m9 ar9 be9 me9 c9 Q9 A9 ls C0 hN hnm hlk hK hA hret hP hD hS hl
  obtain ⟨hx, hb, hml, hown, hts⟩ := id C0
  have hl : lv_has ls 5 [(0, .ref m0), (1, .int (nI q)), (2, .int (nI j))] := hl
  obtain ⟨H, hH0⟩ : ∃ H, H = s9.heap := ⟨_, rfl⟩
  obtain ⟨locs, hlc0⟩ : ∃ z : List Loc, z = [] := ⟨_, rfl⟩
  have hP : va_P D vwCl [(m0, .inr (6, [.ref m1, .ref m2, .ref m3, .int (nI k), .ref m4, .int (nI n), .int (nI th), .int (nI ax), .int (nI fa), .int (nI vl), .ref m5, .int (nI tn), .int (nI hg), .int (nI bg)])), (m1, .inl (cI, 118, .inl (ro 118 s)))] H := by rw [hH0]; exact hP
  have hD : va_D A9 [(m0, .inr (6, [.ref m1, .ref m2, .ref m3, .int (nI k), .ref m4, .int (nI n), .int (nI th), .int (nI ax), .int (nI fa), .int (nI vl), .ref m5, .int (nI tn), .int (nI hg), .int (nI bg)])), (m1, .inl (cI, 118, .inl (ro 118 s)))] := hD
  have hS : va_S A9 s9.heap H locs := by rw [hH0, hlc0]; exact hS
  suffices hgo : W p9 l e9 ({ frames := 1, cells := 0, slots := 0, locals := 22 } : Room) s9 m9 ar9 be9 me9 c9 H locs 0 0 Q9 (F0 m9 0 ls []) by rw [hH0, hlc0] at hgo; exact hgo
  clear hH0 hlc0
  obtain ⟨hI1, hI2, hI3, hI4, hI5, hI6, hI7, hI8, hI9, hI10, hI11⟩ := id hI
  refine lv_aload_n hx hb dX6_aimBy_0 rfl (lv_at hl 0 rfl) ?_
  refine va_get (D := D) (ci := 6) (v := .ref m1) (C := RX6) (T := TX6) (N := 14) hx hb hts in_X6_aimBy_X6 hown hK hP 0 rfl rfl 0 (by decide) (hts _ fl_X6_aimBy_7) (fun _ h9 => h9) rfl dX6_aimBy_1 ?_
  refine lv_iload_n hx hb dX6_aimBy_4 rfl (lv_at hl 2 rfl) ?_
  refine lv_iconst (v := nI 3) hx hb dX6_aimBy_5 (by decide +kernel) ?_
  refine KM.callS (As := [.ref m1, .int (nI j), .int (nI 3)]) (rest := []) C0 hN (k_X6_of_3 l D cI cS cL m1 s j  (by first | with_reducible assumption | omega)) (va_cwS 3 hts gX6_aimBy_X6_of rfl rfl rfl (by decide +kernel) ⟨Nat.le_of_ble_eq_true rfl, Nat.le_of_ble_eq_true rfl⟩) hK hP hD hS hA [1] rfl (by decide) (fun _ => rfl) rfl hl.1 rfl (Nat.le_of_ble_eq_true rfl) dX6_aimBy_6 ⟨Nat.le_of_ble_eq_true rfl, Nat.le_of_ble_eq_true rfl⟩ (fun v9 u9 H locs hv hP hD hS => ?_)
  subst hv
  have hP : va_P D vwCl [(m0, .inr (6, [.ref m1, .ref m2, .ref m3, .int (nI k), .ref m4, .int (nI n), .int (nI th), .int (nI ax), .int (nI fa), .int (nI vl), .ref m5, .int (nI tn), .int (nI hg), .int (nI bg)])), (m1, .inl (cI, 118, .inl (ro 118 s)))] H := hP
  have hD : va_D A9 [(m0, .inr (6, [.ref m1, .ref m2, .ref m3, .int (nI k), .ref m4, .int (nI n), .int (nI th), .int (nI ax), .int (nI fa), .int (nI vl), .ref m5, .int (nI tn), .int (nI hg), .int (nI bg)])), (m1, .inl (cI, 118, .inl (ro 118 s)))] := hD
  refine W.eq (g2 := F0 m9 9 ls [.int (nI (amF s j))]) rfl ?_
  refine lv_istore_n (lv' := [(3, .int (nI (amF s j))), (0, .ref m0), (1, .int (nI q)), (2, .int (nI j))]) hx hb dX6_aimBy_9 rfl hl (by decide) rfl (fun ls hl => ?_)
  refine lv_iconst (v := nI 0) hx hb dX6_aimBy_10 (by decide +kernel) ?_
  refine lv_istore (lv' := [(4, .int (nI 0)), (3, .int (nI (amF s j))), (0, .ref m0), (1, .int (nI q)), (2, .int (nI j))]) hx hb dX6_aimBy_11 hl (by decide) rfl (fun ls hl => ?_)
  have L13 : ∀ (fuel : Nat) (i : Nat) (u : Nat) (H : Heap) (locs : List Loc) (ls : Array Slot), (i ≤ s 8) → (u = aimBy (tiF s) (jeF s) (acF s) q j (amF s j) i) → (s 8 - i < fuel) → va_P D vwCl [(m0, .inr (6, [.ref m1, .ref m2, .ref m3, .int (nI k), .ref m4, .int (nI n), .int (nI th), .int (nI ax), .int (nI fa), .int (nI vl), .ref m5, .int (nI tn), .int (nI hg), .int (nI bg)])), (m1, .inl (cI, 118, .inl (ro 118 s)))] H → va_D A9 [(m0, .inr (6, [.ref m1, .ref m2, .ref m3, .int (nI k), .ref m4, .int (nI n), .int (nI th), .int (nI ax), .int (nI fa), .int (nI vl), .ref m5, .int (nI tn), .int (nI hg), .int (nI bg)])), (m1, .inl (cI, 118, .inl (ro 118 s)))] → va_S A9 s9.heap H locs → lv_has ls 5 [(0, .ref m0), (1, .int (nI q)), (2, .int (nI j)), (3, .int (nI u)), (4, .int (nI i))] → W p9 l e9 ({ frames := 1, cells := 0, slots := 0, locals := 22 } : Room) s9 m9 ar9 be9 me9 c9 H locs 0 0 Q9 (F0 m9 13 ls []) := by
    intro fuel
    induction fuel with
    | zero => intro i u H locs ls hi hu hfu; exact absurd hfu (Nat.not_lt_zero _)
    | succ fuel ih13 =>
      intro i u H locs ls hi hu hfu hP hD hS hl
      refine lv_iload hx hb dX6_aimBy_13 (lv_at hl 4 rfl) ?_
      refine lv_aload_n hx hb dX6_aimBy_15 rfl (lv_at hl 0 rfl) ?_
      refine va_get (D := D) (ci := 6) (v := .ref m1) (C := RX6) (T := TX6) (N := 14) hx hb hts in_X6_aimBy_X6 hown hK hP 0 rfl rfl 0 (by decide) (hts _ fl_X6_aimBy_7) (fun _ h9 => h9) rfl dX6_aimBy_16 ?_
      refine lv_bipush (v := nI 8) hx hb dX6_aimBy_19 (by decide +kernel) ?_
      refine q_iald 1 0 (by omega) (by omega) hx hb hK hP rfl rfl dX6_aimBy_21 ?_
      refine q_ige (tgt := 74) (by omega) (by omega) hx hb dX6_aimBy_22 (by decide) (fun c_22 => ?_) (fun c_22 => ?_)
      ·
        refine lv_iload_n hx hb dX6_aimBy_74 rfl (lv_at hl 3 rfl) ?_
        exact hret _ _ _ _ (some (.int (nI u))) () 75 ls (by decide) (by decide) (by exact rv (by rw [hu, show i = s 8 by omega])) hP hD hS (ret_i dX6_aimBy_75)
      ·
        refine lv_aload_n hx hb dX6_aimBy_25 rfl (lv_at hl 0 rfl) ?_
        refine va_get (D := D) (ci := 6) (v := .ref m1) (C := RX6) (T := TX6) (N := 14) hx hb hts in_X6_aimBy_X6 hown hK hP 0 rfl rfl 0 (by decide) (hts _ fl_X6_aimBy_7) (fun _ h9 => h9) rfl dX6_aimBy_26 ?_
        refine lv_iload hx hb dX6_aimBy_29 (lv_at hl 4 rfl) ?_
        refine lv_iconst (v := nI 1) hx hb dX6_aimBy_31 (by decide +kernel) ?_
        refine KM.callS (As := [.ref m1, .int (nI i), .int (nI 1)]) (rest := []) C0 hN (k_X6_by_1 l D cI cS cL m1 s i  (by first | with_reducible assumption | omega)) (va_cwS 3 hts gX6_aimBy_X6_by rfl rfl rfl (by decide +kernel) ⟨Nat.le_of_ble_eq_true rfl, Nat.le_of_ble_eq_true rfl⟩) hK hP hD hS hA [1] rfl (by decide) (fun _ => rfl) rfl hl.1 rfl (Nat.le_of_ble_eq_true rfl) dX6_aimBy_32 ⟨Nat.le_of_ble_eq_true rfl, Nat.le_of_ble_eq_true rfl⟩ (fun v9 u9 H locs hv hP hD hS => ?_)
        subst hv
        have hP : va_P D vwCl [(m0, .inr (6, [.ref m1, .ref m2, .ref m3, .int (nI k), .ref m4, .int (nI n), .int (nI th), .int (nI ax), .int (nI fa), .int (nI vl), .ref m5, .int (nI tn), .int (nI hg), .int (nI bg)])), (m1, .inl (cI, 118, .inl (ro 118 s)))] H := hP
        have hD : va_D A9 [(m0, .inr (6, [.ref m1, .ref m2, .ref m3, .int (nI k), .ref m4, .int (nI n), .int (nI th), .int (nI ax), .int (nI fa), .int (nI vl), .ref m5, .int (nI tn), .int (nI hg), .int (nI bg)])), (m1, .inl (cI, 118, .inl (ro 118 s)))] := hD
        refine W.eq (g2 := F0 m9 35 ls [.int (nI (tiF s i))]) rfl ?_
        have hc9 := hI9 i (by omega)
        refine lv_iload_n hx hb dX6_aimBy_35 rfl (lv_at hl 1 rfl) ?_
        refine q_igt (tgt := 66) (by omega) (by omega) hx hb dX6_aimBy_36 (by decide) (fun c_36 => ?_) (fun c_36 => ?_)
        ·
          refine lv_iload_n hx hb dX6_aimBy_66 rfl (lv_at hl 3 rfl) ?_
          refine lv_istore_n (lv' := [(3, .int (nI u)), (0, .ref m0), (1, .int (nI q)), (2, .int (nI j)), (4, .int (nI i))]) hx hb dX6_aimBy_67 rfl hl (by decide) rfl (fun ls hl => ?_)
          refine lv_iinc (v := (nI (i + 1))) (lv' := [(4, .int (nI (i + 1))), (3, .int (nI u)), (0, .ref m0), (1, .int (nI q)), (2, .int (nI j))]) hx hb dX6_aimBy_68 hl (k := 4) rfl (nI_add i 1) (by decide) rfl (fun ls hl => ?_)
          refine lv_goto (tgt := 13) hx hb dX6_aimBy_71 (by decide) ?_
          exact ih13  (i + 1) u _ _ ls (by first | with_reducible assumption | omega) (by first | exact (if_pos ⟨by omega, by omega⟩).symm | (rw [hu]; exact (if_neg (by omega)).symm)) (by omega) hP hD hS (lv_sub hl [2, 3, 4, 1, 0] rfl)
        ·
          refine lv_aload_n hx hb dX6_aimBy_39 rfl (lv_at hl 0 rfl) ?_
          refine va_get (D := D) (ci := 6) (v := .ref m1) (C := RX6) (T := TX6) (N := 14) hx hb hts in_X6_aimBy_X6 hown hK hP 0 rfl rfl 0 (by decide) (hts _ fl_X6_aimBy_7) (fun _ h9 => h9) rfl dX6_aimBy_40 ?_
          refine lv_iload hx hb dX6_aimBy_43 (lv_at hl 4 rfl) ?_
          refine lv_iconst (v := nI 2) hx hb dX6_aimBy_45 (by decide +kernel) ?_
          refine KM.callS (As := [.ref m1, .int (nI i), .int (nI 2)]) (rest := []) C0 hN (k_X6_by_2 l D cI cS cL m1 s i  (by first | with_reducible assumption | omega)) (va_cwS 3 hts gX6_aimBy_X6_by rfl rfl rfl (by decide +kernel) ⟨Nat.le_of_ble_eq_true rfl, Nat.le_of_ble_eq_true rfl⟩) hK hP hD hS hA [1] rfl (by decide) (fun _ => rfl) rfl hl.1 rfl (Nat.le_of_ble_eq_true rfl) dX6_aimBy_46 ⟨Nat.le_of_ble_eq_true rfl, Nat.le_of_ble_eq_true rfl⟩ (fun v9 u9 H locs hv hP hD hS => ?_)
          subst hv
          have hP : va_P D vwCl [(m0, .inr (6, [.ref m1, .ref m2, .ref m3, .int (nI k), .ref m4, .int (nI n), .int (nI th), .int (nI ax), .int (nI fa), .int (nI vl), .ref m5, .int (nI tn), .int (nI hg), .int (nI bg)])), (m1, .inl (cI, 118, .inl (ro 118 s)))] H := hP
          have hD : va_D A9 [(m0, .inr (6, [.ref m1, .ref m2, .ref m3, .int (nI k), .ref m4, .int (nI n), .int (nI th), .int (nI ax), .int (nI fa), .int (nI vl), .ref m5, .int (nI tn), .int (nI hg), .int (nI bg)])), (m1, .inl (cI, 118, .inl (ro 118 s)))] := hD
          refine W.eq (g2 := F0 m9 49 ls [.int (nI (jeF s i))]) rfl ?_
          refine lv_iload_n hx hb dX6_aimBy_49 rfl (lv_at hl 2 rfl) ?_
          refine q_ine (tgt := 66) (by omega) (by omega) hx hb dX6_aimBy_50 (by decide) (fun c_50 => ?_) (fun c_50 => ?_)
          ·
            refine lv_iload_n hx hb dX6_aimBy_66 rfl (lv_at hl 3 rfl) ?_
            refine lv_istore_n (lv' := [(3, .int (nI u)), (0, .ref m0), (1, .int (nI q)), (2, .int (nI j)), (4, .int (nI i))]) hx hb dX6_aimBy_67 rfl hl (by decide) rfl (fun ls hl => ?_)
            refine lv_iinc (v := (nI (i + 1))) (lv' := [(4, .int (nI (i + 1))), (3, .int (nI u)), (0, .ref m0), (1, .int (nI q)), (2, .int (nI j))]) hx hb dX6_aimBy_68 hl (k := 4) rfl (nI_add i 1) (by decide) rfl (fun ls hl => ?_)
            refine lv_goto (tgt := 13) hx hb dX6_aimBy_71 (by decide) ?_
            exact ih13  (i + 1) u _ _ ls (by first | with_reducible assumption | omega) (by first | exact (if_pos ⟨by omega, by omega⟩).symm | (rw [hu]; exact (if_neg (by omega)).symm)) (by omega) hP hD hS (lv_sub hl [2, 3, 4, 1, 0] rfl)
          ·
            refine lv_aload_n hx hb dX6_aimBy_53 rfl (lv_at hl 0 rfl) ?_
            refine va_get (D := D) (ci := 6) (v := .ref m1) (C := RX6) (T := TX6) (N := 14) hx hb hts in_X6_aimBy_X6 hown hK hP 0 rfl rfl 0 (by decide) (hts _ fl_X6_aimBy_7) (fun _ h9 => h9) rfl dX6_aimBy_54 ?_
            refine lv_iload hx hb dX6_aimBy_57 (lv_at hl 4 rfl) ?_
            refine lv_iconst (v := nI 3) hx hb dX6_aimBy_59 (by decide +kernel) ?_
            refine KM.callS (As := [.ref m1, .int (nI i), .int (nI 3)]) (rest := []) C0 hN (k_X6_by_3 l D cI cS cL m1 s i  (by first | with_reducible assumption | omega)) (va_cwS 3 hts gX6_aimBy_X6_by rfl rfl rfl (by decide +kernel) ⟨Nat.le_of_ble_eq_true rfl, Nat.le_of_ble_eq_true rfl⟩) hK hP hD hS hA [1] rfl (by decide) (fun _ => rfl) rfl hl.1 rfl (Nat.le_of_ble_eq_true rfl) dX6_aimBy_60 ⟨Nat.le_of_ble_eq_true rfl, Nat.le_of_ble_eq_true rfl⟩ (fun v9 u9 H locs hv hP hD hS => ?_)
            subst hv
            have hP : va_P D vwCl [(m0, .inr (6, [.ref m1, .ref m2, .ref m3, .int (nI k), .ref m4, .int (nI n), .int (nI th), .int (nI ax), .int (nI fa), .int (nI vl), .ref m5, .int (nI tn), .int (nI hg), .int (nI bg)])), (m1, .inl (cI, 118, .inl (ro 118 s)))] H := hP
            have hD : va_D A9 [(m0, .inr (6, [.ref m1, .ref m2, .ref m3, .int (nI k), .ref m4, .int (nI n), .int (nI th), .int (nI ax), .int (nI fa), .int (nI vl), .ref m5, .int (nI tn), .int (nI hg), .int (nI bg)])), (m1, .inl (cI, 118, .inl (ro 118 s)))] := hD
            refine W.eq (g2 := F0 m9 63 ls [.int (nI (acF s i))]) rfl ?_
            refine lv_goto (tgt := 67) hx hb dX6_aimBy_63 (by decide) ?_
            refine lv_istore_n (lv' := [(3, .int (nI (acF s i))), (0, .ref m0), (1, .int (nI q)), (2, .int (nI j)), (4, .int (nI i))]) hx hb dX6_aimBy_67 rfl hl (by decide) rfl (fun ls hl => ?_)
            refine lv_iinc (v := (nI (i + 1))) (lv' := [(4, .int (nI (i + 1))), (3, .int (nI (acF s i))), (0, .ref m0), (1, .int (nI q)), (2, .int (nI j))]) hx hb dX6_aimBy_68 hl (k := 4) rfl (nI_add i 1) (by decide) rfl (fun ls hl => ?_)
            refine lv_goto (tgt := 13) hx hb dX6_aimBy_71 (by decide) ?_
            exact ih13  (i + 1) (acF s i) _ _ ls (by first | with_reducible assumption | omega) (by first | exact (if_pos ⟨by omega, by omega⟩).symm | (rw [hu]; exact (if_neg (by omega)).symm)) (by omega) hP hD hS (lv_sub hl [2, 3, 4, 1, 0] rfl)
  exact L13 (s 8 - 0 + 1) 0 (amF s j) _ _ ls (by first | with_reducible assumption | omega) (by rfl) (by omega) hP hD hS (lv_sub hl [2, 3, 4, 1, 0] rfl)

theorem in_X6_isThere_X6 : ∀ w ∈ wsX60, w ∈ wsX6_isThere := by decide +kernel
theorem fl_X6_isThere_7 : Cond.fieldLink RX6 7 "FountainCuesModel" "now" "[I" ∈ wsX6_isThere := by decide +kernel
set_option maxHeartbeats 4000000 in
set_option maxRecDepth 100000 in
theorem k_X6_isThere (l : Launch) (D : va_G) (cI cS cL : ClassId) (T : Nat) (m0 : Nat) (m1 : Nat) (m2 : Nat) (m3 : Nat) (m4 : Nat) (m5 : Nat) (k : Nat) (n : Nat) (th : Nat) (ax : Nat) (fa : Nat) (vl : Nat) (tn : Nat) (hg : Nat) (bg : Nat) (s : Nat → Nat) (q : Nat) (j : Nat) (hI : sI T s) (hT : T ≤ 1001000) (hq : q < 2 ^ 31) (hj : j < 8) : KM l D (TY cI cS cL) yX6_isThere wsX6_isThere ({ frames := 1, cells := 0, slots := 0, locals := 22 } : Room) [(m0, .inr (6, [.ref m1, .ref m2, .ref m3, .int (nI k), .ref m4, .int (nI n), .int (nI th), .int (nI ax), .int (nI fa), .int (nI vl), .ref m5, .int (nI tn), .int (nI hg), .int (nI bg)])), (m1, .inl (cI, 118, .inl (ro 118 s)))] [.ref m0, .int (nI q), .int (nI j)] (fun (v : Option Value) (_ : Unit) => v = some (.int (nI (bI (hasB (tiF s) (jeF s) q j (s 8) = true))))) (fun _ : Unit => [(m0, .inr (6, [.ref m1, .ref m2, .ref m3, .int (nI k), .ref m4, .int (nI n), .int (nI th), .int (nI ax), .int (nI fa), .int (nI vl), .ref m5, .int (nI tn), .int (nI hg), .int (nI bg)])), (m1, .inl (cI, 118, .inl (ro 118 s)))]) := by
  refine KM.of (cc := cX6_isThere) (maxL := 5) (ret := (some .boolean)) (by decide) rfl (Nat.le_of_ble_eq_true rfl) ?_
  intro p9 e9 s9 m9 ar9 be9 me9 c9 Q9 A9 ls C0 hN hnm hlk hK hA hret hP hD hS hl
  obtain ⟨hx, hb, hml, hown, hts⟩ := id C0
  have hl : lv_has ls 5 [(0, .ref m0), (1, .int (nI q)), (2, .int (nI j))] := hl
  obtain ⟨H, hH0⟩ : ∃ H, H = s9.heap := ⟨_, rfl⟩
  obtain ⟨locs, hlc0⟩ : ∃ z : List Loc, z = [] := ⟨_, rfl⟩
  have hP : va_P D vwCl [(m0, .inr (6, [.ref m1, .ref m2, .ref m3, .int (nI k), .ref m4, .int (nI n), .int (nI th), .int (nI ax), .int (nI fa), .int (nI vl), .ref m5, .int (nI tn), .int (nI hg), .int (nI bg)])), (m1, .inl (cI, 118, .inl (ro 118 s)))] H := by rw [hH0]; exact hP
  have hD : va_D A9 [(m0, .inr (6, [.ref m1, .ref m2, .ref m3, .int (nI k), .ref m4, .int (nI n), .int (nI th), .int (nI ax), .int (nI fa), .int (nI vl), .ref m5, .int (nI tn), .int (nI hg), .int (nI bg)])), (m1, .inl (cI, 118, .inl (ro 118 s)))] := hD
  have hS : va_S A9 s9.heap H locs := by rw [hH0, hlc0]; exact hS
  suffices hgo : W p9 l e9 ({ frames := 1, cells := 0, slots := 0, locals := 22 } : Room) s9 m9 ar9 be9 me9 c9 H locs 0 0 Q9 (F0 m9 0 ls []) by rw [hH0, hlc0] at hgo; exact hgo
  clear hH0 hlc0
  obtain ⟨hI1, hI2, hI3, hI4, hI5, hI6, hI7, hI8, hI9, hI10, hI11⟩ := id hI
  refine lv_iconst (v := nI 0) hx hb dX6_isThere_0 (by decide +kernel) ?_
  refine lv_istore_n (lv' := [(3, .int (nI 0)), (0, .ref m0), (1, .int (nI q)), (2, .int (nI j))]) hx hb dX6_isThere_1 rfl hl (by decide) rfl (fun ls hl => ?_)
  refine lv_iconst (v := nI 0) hx hb dX6_isThere_2 (by decide +kernel) ?_
  refine lv_istore (lv' := [(4, .int (nI 0)), (3, .int (nI 0)), (0, .ref m0), (1, .int (nI q)), (2, .int (nI j))]) hx hb dX6_isThere_3 hl (by decide) rfl (fun ls hl => ?_)
  have L5 : ∀ (fuel : Nat) (i : Nat) (b : Nat) (H : Heap) (locs : List Loc) (ls : Array Slot), (i ≤ s 8) → (b = bI (hasB (tiF s) (jeF s) q j i = true)) → (s 8 - i < fuel) → va_P D vwCl [(m0, .inr (6, [.ref m1, .ref m2, .ref m3, .int (nI k), .ref m4, .int (nI n), .int (nI th), .int (nI ax), .int (nI fa), .int (nI vl), .ref m5, .int (nI tn), .int (nI hg), .int (nI bg)])), (m1, .inl (cI, 118, .inl (ro 118 s)))] H → va_D A9 [(m0, .inr (6, [.ref m1, .ref m2, .ref m3, .int (nI k), .ref m4, .int (nI n), .int (nI th), .int (nI ax), .int (nI fa), .int (nI vl), .ref m5, .int (nI tn), .int (nI hg), .int (nI bg)])), (m1, .inl (cI, 118, .inl (ro 118 s)))] → va_S A9 s9.heap H locs → lv_has ls 5 [(0, .ref m0), (1, .int (nI q)), (2, .int (nI j)), (3, .int (nI b)), (4, .int (nI i))] → W p9 l e9 ({ frames := 1, cells := 0, slots := 0, locals := 22 } : Room) s9 m9 ar9 be9 me9 c9 H locs 0 0 Q9 (F0 m9 5 ls []) := by
    intro fuel
    induction fuel with
    | zero => intro i b H locs ls hi hbb hfu; exact absurd hfu (Nat.not_lt_zero _)
    | succ fuel ih5 =>
      intro i b H locs ls hi hbb hfu hP hD hS hl
      have hb1 : b ≤ 1 := by rw [hbb]; exact bI_le
      refine lv_iload hx hb dX6_isThere_5 (lv_at hl 4 rfl) ?_
      refine lv_aload_n hx hb dX6_isThere_7 rfl (lv_at hl 0 rfl) ?_
      refine va_get (D := D) (ci := 6) (v := .ref m1) (C := RX6) (T := TX6) (N := 14) hx hb hts in_X6_isThere_X6 hown hK hP 0 rfl rfl 0 (by decide) (hts _ fl_X6_isThere_7) (fun _ h9 => h9) rfl dX6_isThere_8 ?_
      refine lv_bipush (v := nI 8) hx hb dX6_isThere_11 (by decide +kernel) ?_
      refine q_iald 1 0 (by omega) (by omega) hx hb hK hP rfl rfl dX6_isThere_13 ?_
      refine q_ige (tgt := 61) (by omega) (by omega) hx hb dX6_isThere_14 (by decide) (fun c_14 => ?_) (fun c_14 => ?_)
      ·
        refine lv_iload_n hx hb dX6_isThere_61 rfl (lv_at hl 3 rfl) ?_
        exact hret _ _ _ _ (some (.int (nI b))) () 62 ls (by decide) (by decide) (by exact rv (by rw [hbb, show i = s 8 by omega])) hP hD hS (ret_z dX6_isThere_62 (by first | exact bI_le | omega))
      ·
        have hc9 := hI9 i (by omega)
        refine lv_iload_n hx hb dX6_isThere_17 rfl (lv_at hl 3 rfl) ?_
        refine q_fne (tgt := 49) (by omega) hx hb dX6_isThere_18 (by decide) (fun c_18 => ?_) (fun c_18 => ?_)
        ·
          refine lv_iconst (v := nI 1) hx hb dX6_isThere_49 (by decide +kernel) ?_
          refine lv_goto (tgt := 54) hx hb dX6_isThere_50 (by decide) ?_
          refine lv_istore_n (lv' := [(3, .int (nI 1)), (0, .ref m0), (1, .int (nI q)), (2, .int (nI j)), (4, .int (nI i))]) hx hb dX6_isThere_54 rfl hl (by decide) rfl (fun ls hl => ?_)
          refine lv_iinc (v := (nI (i + 1))) (lv' := [(4, .int (nI (i + 1))), (3, .int (nI 1)), (0, .ref m0), (1, .int (nI q)), (2, .int (nI j))]) hx hb dX6_isThere_55 hl (k := 4) rfl (nI_add i 1) (by decide) rfl (fun ls hl => ?_)
          refine lv_goto (tgt := 5) hx hb dX6_isThere_58 (by decide) ?_
          exact ih5  (i + 1) 1 _ _ ls (by first | with_reducible assumption | omega) (by first | exact ub1 hbb c_18 | exact ub2 (by omega) (by omega) | exact ub3 hbb c_18 (by omega)) (by omega) hP hD hS (lv_sub hl [2, 3, 4, 1, 0] rfl)
        ·
          refine lv_aload_n hx hb dX6_isThere_21 rfl (lv_at hl 0 rfl) ?_
          refine va_get (D := D) (ci := 6) (v := .ref m1) (C := RX6) (T := TX6) (N := 14) hx hb hts in_X6_isThere_X6 hown hK hP 0 rfl rfl 0 (by decide) (hts _ fl_X6_isThere_7) (fun _ h9 => h9) rfl dX6_isThere_22 ?_
          refine lv_iload hx hb dX6_isThere_25 (lv_at hl 4 rfl) ?_
          refine lv_iconst (v := nI 1) hx hb dX6_isThere_27 (by decide +kernel) ?_
          refine KM.callS (As := [.ref m1, .int (nI i), .int (nI 1)]) (rest := []) C0 hN (k_X6_by_1 l D cI cS cL m1 s i  (by first | with_reducible assumption | omega)) (va_cwS 3 hts gX6_isThere_X6_by rfl rfl rfl (by decide +kernel) ⟨Nat.le_of_ble_eq_true rfl, Nat.le_of_ble_eq_true rfl⟩) hK hP hD hS hA [1] rfl (by decide) (fun _ => rfl) rfl hl.1 rfl (Nat.le_of_ble_eq_true rfl) dX6_isThere_28 ⟨Nat.le_of_ble_eq_true rfl, Nat.le_of_ble_eq_true rfl⟩ (fun v9 u9 H locs hv hP hD hS => ?_)
          subst hv
          have hP : va_P D vwCl [(m0, .inr (6, [.ref m1, .ref m2, .ref m3, .int (nI k), .ref m4, .int (nI n), .int (nI th), .int (nI ax), .int (nI fa), .int (nI vl), .ref m5, .int (nI tn), .int (nI hg), .int (nI bg)])), (m1, .inl (cI, 118, .inl (ro 118 s)))] H := hP
          have hD : va_D A9 [(m0, .inr (6, [.ref m1, .ref m2, .ref m3, .int (nI k), .ref m4, .int (nI n), .int (nI th), .int (nI ax), .int (nI fa), .int (nI vl), .ref m5, .int (nI tn), .int (nI hg), .int (nI bg)])), (m1, .inl (cI, 118, .inl (ro 118 s)))] := hD
          refine W.eq (g2 := F0 m9 31 ls [.int (nI (tiF s i))]) rfl ?_
          refine lv_iload_n hx hb dX6_isThere_31 rfl (lv_at hl 1 rfl) ?_
          refine q_ine (tgt := 53) (by omega) (by omega) hx hb dX6_isThere_32 (by decide) (fun c_32 => ?_) (fun c_32 => ?_)
          ·
            refine lv_iconst (v := nI 0) hx hb dX6_isThere_53 (by decide +kernel) ?_
            refine lv_istore_n (lv' := [(3, .int (nI 0)), (0, .ref m0), (1, .int (nI q)), (2, .int (nI j)), (4, .int (nI i))]) hx hb dX6_isThere_54 rfl hl (by decide) rfl (fun ls hl => ?_)
            refine lv_iinc (v := (nI (i + 1))) (lv' := [(4, .int (nI (i + 1))), (3, .int (nI 0)), (0, .ref m0), (1, .int (nI q)), (2, .int (nI j))]) hx hb dX6_isThere_55 hl (k := 4) rfl (nI_add i 1) (by decide) rfl (fun ls hl => ?_)
            refine lv_goto (tgt := 5) hx hb dX6_isThere_58 (by decide) ?_
            exact ih5  (i + 1) 0 _ _ ls (by first | with_reducible assumption | omega) (by first | exact ub1 hbb c_18 | exact ub2 (by omega) (by omega) | exact ub3 hbb c_18 (by omega)) (by omega) hP hD hS (lv_sub hl [2, 3, 4, 1, 0] rfl)
          ·
            refine lv_aload_n hx hb dX6_isThere_35 rfl (lv_at hl 0 rfl) ?_
            refine va_get (D := D) (ci := 6) (v := .ref m1) (C := RX6) (T := TX6) (N := 14) hx hb hts in_X6_isThere_X6 hown hK hP 0 rfl rfl 0 (by decide) (hts _ fl_X6_isThere_7) (fun _ h9 => h9) rfl dX6_isThere_36 ?_
            refine lv_iload hx hb dX6_isThere_39 (lv_at hl 4 rfl) ?_
            refine lv_iconst (v := nI 2) hx hb dX6_isThere_41 (by decide +kernel) ?_
            refine KM.callS (As := [.ref m1, .int (nI i), .int (nI 2)]) (rest := []) C0 hN (k_X6_by_2 l D cI cS cL m1 s i  (by first | with_reducible assumption | omega)) (va_cwS 3 hts gX6_isThere_X6_by rfl rfl rfl (by decide +kernel) ⟨Nat.le_of_ble_eq_true rfl, Nat.le_of_ble_eq_true rfl⟩) hK hP hD hS hA [1] rfl (by decide) (fun _ => rfl) rfl hl.1 rfl (Nat.le_of_ble_eq_true rfl) dX6_isThere_42 ⟨Nat.le_of_ble_eq_true rfl, Nat.le_of_ble_eq_true rfl⟩ (fun v9 u9 H locs hv hP hD hS => ?_)
            subst hv
            have hP : va_P D vwCl [(m0, .inr (6, [.ref m1, .ref m2, .ref m3, .int (nI k), .ref m4, .int (nI n), .int (nI th), .int (nI ax), .int (nI fa), .int (nI vl), .ref m5, .int (nI tn), .int (nI hg), .int (nI bg)])), (m1, .inl (cI, 118, .inl (ro 118 s)))] H := hP
            have hD : va_D A9 [(m0, .inr (6, [.ref m1, .ref m2, .ref m3, .int (nI k), .ref m4, .int (nI n), .int (nI th), .int (nI ax), .int (nI fa), .int (nI vl), .ref m5, .int (nI tn), .int (nI hg), .int (nI bg)])), (m1, .inl (cI, 118, .inl (ro 118 s)))] := hD
            refine W.eq (g2 := F0 m9 45 ls [.int (nI (jeF s i))]) rfl ?_
            refine lv_iload_n hx hb dX6_isThere_45 rfl (lv_at hl 2 rfl) ?_
            refine q_ine (tgt := 53) (by omega) (by omega) hx hb dX6_isThere_46 (by decide) (fun c_46 => ?_) (fun c_46 => ?_)
            ·
              refine lv_iconst (v := nI 0) hx hb dX6_isThere_53 (by decide +kernel) ?_
              refine lv_istore_n (lv' := [(3, .int (nI 0)), (0, .ref m0), (1, .int (nI q)), (2, .int (nI j)), (4, .int (nI i))]) hx hb dX6_isThere_54 rfl hl (by decide) rfl (fun ls hl => ?_)
              refine lv_iinc (v := (nI (i + 1))) (lv' := [(4, .int (nI (i + 1))), (3, .int (nI 0)), (0, .ref m0), (1, .int (nI q)), (2, .int (nI j))]) hx hb dX6_isThere_55 hl (k := 4) rfl (nI_add i 1) (by decide) rfl (fun ls hl => ?_)
              refine lv_goto (tgt := 5) hx hb dX6_isThere_58 (by decide) ?_
              exact ih5  (i + 1) 0 _ _ ls (by first | with_reducible assumption | omega) (by first | exact ub1 hbb c_18 | exact ub2 (by omega) (by omega) | exact ub3 hbb c_18 (by omega)) (by omega) hP hD hS (lv_sub hl [2, 3, 4, 1, 0] rfl)
            ·
              refine lv_iconst (v := nI 1) hx hb dX6_isThere_49 (by decide +kernel) ?_
              refine lv_goto (tgt := 54) hx hb dX6_isThere_50 (by decide) ?_
              refine lv_istore_n (lv' := [(3, .int (nI 1)), (0, .ref m0), (1, .int (nI q)), (2, .int (nI j)), (4, .int (nI i))]) hx hb dX6_isThere_54 rfl hl (by decide) rfl (fun ls hl => ?_)
              refine lv_iinc (v := (nI (i + 1))) (lv' := [(4, .int (nI (i + 1))), (3, .int (nI 1)), (0, .ref m0), (1, .int (nI q)), (2, .int (nI j))]) hx hb dX6_isThere_55 hl (k := 4) rfl (nI_add i 1) (by decide) rfl (fun ls hl => ?_)
              refine lv_goto (tgt := 5) hx hb dX6_isThere_58 (by decide) ?_
              exact ih5  (i + 1) 1 _ _ ls (by first | with_reducible assumption | omega) (by first | exact ub1 hbb c_18 | exact ub2 (by omega) (by omega) | exact ub3 hbb c_18 (by omega)) (by omega) hP hD hS (lv_sub hl [2, 3, 4, 1, 0] rfl)
  exact L5 (s 8 - 0 + 1) 0 0 _ _ ls (by first | with_reducible assumption | omega) (by exact (bI_f (by simp [hasB])).symm) (by omega) hP hD hS (lv_sub hl [2, 3, 4, 1, 0] rfl)

theorem in_X6_reason_X6 : ∀ w ∈ wsX60, w ∈ wsX6_reason := by decide +kernel
theorem fl_X6_reason_7 : Cond.fieldLink RX6 7 "FountainCuesModel" "now" "[I" ∈ wsX6_reason := by decide +kernel
set_option maxHeartbeats 4000000 in
set_option maxRecDepth 100000 in
theorem k_X6_reason (l : Launch) (D : va_G) (cI cS cL : ClassId) (T : Nat) (m0 : Nat) (m1 : Nat) (m2 : Nat) (m3 : Nat) (m4 : Nat) (m5 : Nat) (k : Nat) (n : Nat) (th : Nat) (ax : Nat) (fa : Nat) (vl : Nat) (tn : Nat) (hg : Nat) (bg : Nat) (s : Nat → Nat) (q : Nat) (j : Nat) (x : Nat) (hI : sI T s) (hT : T ≤ 1001000) (hq : q < 2 ^ 31) (hj : j < 8) (hx2 : x ≤ 10) : KM l D (TY cI cS cL) yX6_reason wsX6_reason ({ frames := 2, cells := 0, slots := 0, locals := 46 } : Room) [(m0, .inr (6, [.ref m1, .ref m2, .ref m3, .int (nI k), .ref m4, .int (nI n), .int (nI th), .int (nI ax), .int (nI fa), .int (nI vl), .ref m5, .int (nI tn), .int (nI hg), .int (nI bg)])), (m1, .inl (cI, 118, .inl (ro 118 s)))] [.ref m0, .int (nI q), .int (nI j), .int (nI x)] (fun (v : Option Value) (_ : Unit) => v = some (.int (nI (rS s q j x)))) (fun _ : Unit => [(m0, .inr (6, [.ref m1, .ref m2, .ref m3, .int (nI k), .ref m4, .int (nI n), .int (nI th), .int (nI ax), .int (nI fa), .int (nI vl), .ref m5, .int (nI tn), .int (nI hg), .int (nI bg)])), (m1, .inl (cI, 118, .inl (ro 118 s)))]) := by
  refine KM.of (cc := cX6_reason) (maxL := 6) (ret := (some .int)) (by decide) rfl (Nat.le_of_ble_eq_true rfl) ?_
  intro p9 e9 s9 m9 ar9 be9 me9 c9 Q9 A9 ls C0 hN hnm hlk hK hA hret hP hD hS hl
  obtain ⟨hx, hb, hml, hown, hts⟩ := id C0
  have hl : lv_has ls 6 [(0, .ref m0), (1, .int (nI q)), (2, .int (nI j)), (3, .int (nI x))] := hl
  obtain ⟨H, hH0⟩ : ∃ H, H = s9.heap := ⟨_, rfl⟩
  obtain ⟨locs, hlc0⟩ : ∃ z : List Loc, z = [] := ⟨_, rfl⟩
  have hP : va_P D vwCl [(m0, .inr (6, [.ref m1, .ref m2, .ref m3, .int (nI k), .ref m4, .int (nI n), .int (nI th), .int (nI ax), .int (nI fa), .int (nI vl), .ref m5, .int (nI tn), .int (nI hg), .int (nI bg)])), (m1, .inl (cI, 118, .inl (ro 118 s)))] H := by rw [hH0]; exact hP
  have hD : va_D A9 [(m0, .inr (6, [.ref m1, .ref m2, .ref m3, .int (nI k), .ref m4, .int (nI n), .int (nI th), .int (nI ax), .int (nI fa), .int (nI vl), .ref m5, .int (nI tn), .int (nI hg), .int (nI bg)])), (m1, .inl (cI, 118, .inl (ro 118 s)))] := hD
  have hS : va_S A9 s9.heap H locs := by rw [hH0, hlc0]; exact hS
  suffices hgo : W p9 l e9 ({ frames := 2, cells := 0, slots := 0, locals := 46 } : Room) s9 m9 ar9 be9 me9 c9 H locs 0 0 Q9 (F0 m9 0 ls []) by rw [hH0, hlc0] at hgo; exact hgo
  clear hH0 hlc0
  obtain ⟨hI1, hI2, hI3, hI4, hI5, hI6, hI7, hI8, hI9, hI10, hI11⟩ := id hI
  obtain ⟨hB1, hB2, hB3, hB4, hB5, hB6, hB7, hB8⟩ := id hI1
  have hl1 := hB4 (j / 4) (by omega)
  refine lv_iload_n hx hb dX6_reason_0 rfl (lv_at hl 1 rfl) ?_
  refine lv_aload_n hx hb dX6_reason_1 rfl (lv_at hl 0 rfl) ?_
  refine va_get (D := D) (ci := 6) (v := .ref m1) (C := RX6) (T := TX6) (N := 14) hx hb hts in_X6_reason_X6 hown hK hP 0 rfl rfl 0 (by decide) (hts _ fl_X6_reason_7) (fun _ h9 => h9) rfl dX6_reason_2 ?_
  refine lv_bipush (v := nI 7) hx hb dX6_reason_5 (by decide +kernel) ?_
  refine q_iald 1 0 (by omega) (by omega) hx hb hK hP rfl rfl dX6_reason_7 ?_
  refine q_ige (tgt := 13) (by omega) (by omega) hx hb dX6_reason_8 (by decide) (fun c_8 => ?_) (fun c_8 => ?_)
  ·
    refine lv_aload_n hx hb dX6_reason_13 rfl (lv_at hl 0 rfl) ?_
    refine va_get (D := D) (ci := 6) (v := .ref m1) (C := RX6) (T := TX6) (N := 14) hx hb hts in_X6_reason_X6 hown hK hP 0 rfl rfl 0 (by decide) (hts _ fl_X6_reason_7) (fun _ h9 => h9) rfl dX6_reason_14 ?_
    refine lv_bipush (v := nI 8) hx hb dX6_reason_17 (by decide +kernel) ?_
    refine q_iald 1 0 (by omega) (by omega) hx hb hK hP rfl rfl dX6_reason_19 ?_
    refine lv_bipush (v := nI 16) hx hb dX6_reason_20 (by decide +kernel) ?_
    refine q_ine (tgt := 27) (by omega) (by omega) hx hb dX6_reason_22 (by decide) (fun c_22 => ?_) (fun c_22 => ?_)
    ·
      refine lv_aload_n hx hb dX6_reason_27 rfl (lv_at hl 0 rfl) ?_
      refine lv_iload_n hx hb dX6_reason_28 rfl (lv_at hl 1 rfl) ?_
      refine lv_iload_n hx hb dX6_reason_29 rfl (lv_at hl 2 rfl) ?_
      refine KM.callV (As := [.int (nI q), .int (nI j)]) (rest := []) C0 hN (k_X6_isThere l D cI cS cL T m0 m1 m2 m3 m4 m5 k n th ax fa vl tn hg bg s q j  (by first | with_reducible assumption | omega) (by first | with_reducible assumption | omega) (by first | with_reducible assumption | omega) (by first | with_reducible assumption | omega)) (cwV 2 hts gX6_reason_X6_isThere rfl rfl rfl (by decide +kernel) ⟨Nat.le_of_ble_eq_true rfl, Nat.le_of_ble_eq_true rfl⟩) hK hP hD hS hA [0, 1] rfl (by decide) (fun _ => rfl) 0 6 rfl rfl rfl rfl hl.1 rfl (Nat.le_of_ble_eq_true rfl) dX6_reason_30 ⟨Nat.le_of_ble_eq_true rfl, Nat.le_of_ble_eq_true rfl⟩ (fun v9 u9 H locs hv hP hD hS => ?_)
      subst hv
      have hP : va_P D vwCl [(m0, .inr (6, [.ref m1, .ref m2, .ref m3, .int (nI k), .ref m4, .int (nI n), .int (nI th), .int (nI ax), .int (nI fa), .int (nI vl), .ref m5, .int (nI tn), .int (nI hg), .int (nI bg)])), (m1, .inl (cI, 118, .inl (ro 118 s)))] H := hP
      have hD : va_D A9 [(m0, .inr (6, [.ref m1, .ref m2, .ref m3, .int (nI k), .ref m4, .int (nI n), .int (nI th), .int (nI ax), .int (nI fa), .int (nI vl), .ref m5, .int (nI tn), .int (nI hg), .int (nI bg)])), (m1, .inl (cI, 118, .inl (ro 118 s)))] := hD
      refine W.eq (g2 := F0 m9 33 ls [.int (nI (bI (hasB (tiF s) (jeF s) q j (s 8) = true)))]) rfl ?_
      refine q_feq (tgt := 38) bI_lt hx hb dX6_reason_33 (by decide) (fun c_33 => ?_) (fun c_33 => ?_)
      ·
        have c_33 := bI_z c_33
        refine lv_iconst (v := nI 0) hx hb dX6_reason_38 (by decide +kernel) ?_
        refine lv_istore (lv' := [(4, .int (nI 0)), (0, .ref m0), (1, .int (nI q)), (2, .int (nI j)), (3, .int (nI x))]) hx hb dX6_reason_39 hl (by decide) rfl (fun ls hl => ?_)
        refine lv_iload_n hx hb dX6_reason_41 rfl (lv_at hl 3 rfl) ?_
        refine lv_iconst (v := nI 4) hx hb dX6_reason_42 (by decide +kernel) ?_
        refine q_idiv (by omega) (by omega) (by omega) hx hb dX6_reason_43 ?_
        refine lv_iconst (v := nI 4) hx hb dX6_reason_44 (by decide +kernel) ?_
        refine q_imul hx hb dX6_reason_45 ?_
        refine lv_istore (lv' := [(5, .int (nI ((j / 4) * 4))), (4, .int (nI 0)), (0, .ref m0), (1, .int (nI q)), (2, .int (nI j)), (3, .int (nI x))]) hx hb dX6_reason_46 hl (by decide) rfl (fun ls hl => ?_)
        have L48 : ∀ (fuel : Nat) (i : Nat) (u : Nat) (H : Heap) (locs : List Loc) (ls : Array Slot), (j / 4 * 4 ≤ i) → (i ≤ j / 4 * 4 + 4) → (u = sumTo (askF s q j x) (i - j / 4 * 4)) → (j / 4 * 4 + 4 - i < fuel) → va_P D vwCl [(m0, .inr (6, [.ref m1, .ref m2, .ref m3, .int (nI k), .ref m4, .int (nI n), .int (nI th), .int (nI ax), .int (nI fa), .int (nI vl), .ref m5, .int (nI tn), .int (nI hg), .int (nI bg)])), (m1, .inl (cI, 118, .inl (ro 118 s)))] H → va_D A9 [(m0, .inr (6, [.ref m1, .ref m2, .ref m3, .int (nI k), .ref m4, .int (nI n), .int (nI th), .int (nI ax), .int (nI fa), .int (nI vl), .ref m5, .int (nI tn), .int (nI hg), .int (nI bg)])), (m1, .inl (cI, 118, .inl (ro 118 s)))] → va_S A9 s9.heap H locs → lv_has ls 6 [(0, .ref m0), (1, .int (nI q)), (2, .int (nI j)), (3, .int (nI x)), (4, .int (nI u)), (5, .int (nI i))] → W p9 l e9 ({ frames := 2, cells := 0, slots := 0, locals := 46 } : Room) s9 m9 ar9 be9 me9 c9 H locs 0 0 Q9 (F0 m9 48 ls []) := by
          intro fuel
          induction fuel with
          | zero => intro i u H locs ls hi1 hi2 hu hfu; exact absurd hfu (Nat.not_lt_zero _)
          | succ fuel ih48 =>
            intro i u H locs ls hi1 hi2 hu hfu hP hD hS hl
            refine lv_iload hx hb dX6_reason_48 (lv_at hl 5 rfl) ?_
            refine lv_iload_n hx hb dX6_reason_50 rfl (lv_at hl 2 rfl) ?_
            refine lv_iconst (v := nI 4) hx hb dX6_reason_51 (by decide +kernel) ?_
            refine q_idiv (by omega) (by omega) (by omega) hx hb dX6_reason_52 ?_
            refine lv_iconst (v := nI 4) hx hb dX6_reason_53 (by decide +kernel) ?_
            refine q_imul hx hb dX6_reason_54 ?_
            refine lv_iconst (v := nI 4) hx hb dX6_reason_55 (by decide +kernel) ?_
            refine q_iadd hx hb dX6_reason_56 ?_
            refine q_ige (tgt := 99) (by omega) (by omega) hx hb dX6_reason_57 (by decide) (fun c_57 => ?_) (fun c_57 => ?_)
            ·
              have hu9 : u ≤ 800 := by rw [hu, show i - j / 4 * 4 = 4 by omega]; exact askS_le hI hj hx2
              refine lv_iload hx hb dX6_reason_99 (lv_at hl 4 rfl) ?_
              refine lv_aload_n hx hb dX6_reason_101 rfl (lv_at hl 0 rfl) ?_
              refine va_get (D := D) (ci := 6) (v := .ref m1) (C := RX6) (T := TX6) (N := 14) hx hb hts in_X6_reason_X6 hown hK hP 0 rfl rfl 0 (by decide) (hts _ fl_X6_reason_7) (fun _ h9 => h9) rfl dX6_reason_102 ?_
              refine lv_iconst (v := nI 3) hx hb dX6_reason_105 (by decide +kernel) ?_
              refine lv_iload_n hx hb dX6_reason_106 rfl (lv_at hl 2 rfl) ?_
              refine lv_iconst (v := nI 4) hx hb dX6_reason_107 (by decide +kernel) ?_
              refine q_idiv (by omega) (by omega) (by omega) hx hb dX6_reason_108 ?_
              refine q_iadd hx hb dX6_reason_109 ?_
              refine q_iald 1 0 (by omega) (by omega) hx hb hK hP rfl rfl dX6_reason_110 ?_
              refine q_topi (y := (nI (liF s (j / 4)))) (by rfl) ?_
              refine q_ile (tgt := 118) (by omega) (by omega) hx hb dX6_reason_111 (by decide) (fun c_111 => ?_) (fun c_111 => ?_)
              ·
                refine lv_iconst (v := nI 0) hx hb dX6_reason_118 (by decide +kernel) ?_
                exact hret _ _ _ _ (some (.int (nI 0))) () 119 ls (by decide) (by decide) (by exact rv (by unfold rS; first | (rw [if_pos (by omega)]; done) | (rw [if_neg (by omega), if_pos (by omega)]; done) | (rw [if_neg (by omega), if_neg (by omega), if_pos (by assumption)]; done) | (rw [show i - j / 4 * 4 = 4 by omega] at hu; rw [if_neg (by omega), if_neg (by omega), if_neg (by assumption), askS_eq, ← hu]; first | (rw [if_pos (by omega)]; done) | (rw [if_neg (by omega)]; done)))) hP hD hS (ret_i dX6_reason_119)
              ·
                refine lv_iconst (v := nI 4) hx hb dX6_reason_114 (by decide +kernel) ?_
                refine lv_goto (tgt := 119) hx hb dX6_reason_115 (by decide) ?_
                exact hret _ _ _ _ (some (.int (nI 4))) () 119 ls (by decide) (by decide) (by exact rv (by unfold rS; first | (rw [if_pos (by omega)]; done) | (rw [if_neg (by omega), if_pos (by omega)]; done) | (rw [if_neg (by omega), if_neg (by omega), if_pos (by assumption)]; done) | (rw [show i - j / 4 * 4 = 4 by omega] at hu; rw [if_neg (by omega), if_neg (by omega), if_neg (by assumption), askS_eq, ← hu]; first | (rw [if_pos (by omega)]; done) | (rw [if_neg (by omega)]; done)))) hP hD hS (ret_i dX6_reason_119)
            ·
              refine lv_iload hx hb dX6_reason_60 (lv_at hl 4 rfl) ?_
              refine lv_aload_n hx hb dX6_reason_62 rfl (lv_at hl 0 rfl) ?_
              refine va_get (D := D) (ci := 6) (v := .ref m1) (C := RX6) (T := TX6) (N := 14) hx hb hts in_X6_reason_X6 hown hK hP 0 rfl rfl 0 (by decide) (hts _ fl_X6_reason_7) (fun _ h9 => h9) rfl dX6_reason_63 ?_
              refine lv_iload hx hb dX6_reason_66 (lv_at hl 5 rfl) ?_
              refine lv_iconst (v := nI 0) hx hb dX6_reason_68 (by decide +kernel) ?_
              refine KM.callS (As := [.ref m1, .int (nI i), .int (nI 0)]) (rest := [.int (nI u)]) C0 hN (k_X6_of_0 l D cI cS cL m1 s i  (by first | with_reducible assumption | omega)) (va_cwS 3 hts gX6_reason_X6_of rfl rfl rfl (by decide +kernel) ⟨Nat.le_of_ble_eq_true rfl, Nat.le_of_ble_eq_true rfl⟩) hK hP hD hS hA [1] rfl (by decide) (fun _ => rfl) rfl hl.1 rfl (Nat.le_of_ble_eq_true rfl) dX6_reason_69 ⟨Nat.le_of_ble_eq_true rfl, Nat.le_of_ble_eq_true rfl⟩ (fun v9 u9 H locs hv hP hD hS => ?_)
              subst hv
              have hP : va_P D vwCl [(m0, .inr (6, [.ref m1, .ref m2, .ref m3, .int (nI k), .ref m4, .int (nI n), .int (nI th), .int (nI ax), .int (nI fa), .int (nI vl), .ref m5, .int (nI tn), .int (nI hg), .int (nI bg)])), (m1, .inl (cI, 118, .inl (ro 118 s)))] H := hP
              have hD : va_D A9 [(m0, .inr (6, [.ref m1, .ref m2, .ref m3, .int (nI k), .ref m4, .int (nI n), .int (nI th), .int (nI ax), .int (nI fa), .int (nI vl), .ref m5, .int (nI tn), .int (nI hg), .int (nI bg)])), (m1, .inl (cI, 118, .inl (ro 118 s)))] := hD
              refine W.eq (g2 := F0 m9 72 ls [.int (nI (szF s i)), .int (nI u)]) rfl ?_
              refine lv_iload hx hb dX6_reason_72 (lv_at hl 5 rfl) ?_
              refine lv_iload_n hx hb dX6_reason_74 rfl (lv_at hl 2 rfl) ?_
              refine q_ine (tgt := 82) (by omega) (by omega) hx hb dX6_reason_75 (by decide) (fun c_75 => ?_) (fun c_75 => ?_)
              ·
                refine lv_aload_n hx hb dX6_reason_82 rfl (lv_at hl 0 rfl) ?_
                refine lv_iload_n hx hb dX6_reason_83 rfl (lv_at hl 1 rfl) ?_
                refine lv_iload hx hb dX6_reason_84 (lv_at hl 5 rfl) ?_
                refine KM.callV (As := [.int (nI q), .int (nI i)]) (rest := [.int (nI (szF s i)), .int (nI u)]) C0 hN (k_X6_aimBy l D cI cS cL T m0 m1 m2 m3 m4 m5 k n th ax fa vl tn hg bg s q i  (by first | with_reducible assumption | omega) (by first | with_reducible assumption | omega) (by first | with_reducible assumption | omega) (by first | with_reducible assumption | omega)) (cwV 2 hts gX6_reason_X6_aimBy rfl rfl rfl (by decide +kernel) ⟨Nat.le_of_ble_eq_true rfl, Nat.le_of_ble_eq_true rfl⟩) hK hP hD hS hA [0, 1] rfl (by decide) (fun _ => rfl) 0 6 rfl rfl rfl rfl hl.1 rfl (Nat.le_of_ble_eq_true rfl) dX6_reason_86 ⟨Nat.le_of_ble_eq_true rfl, Nat.le_of_ble_eq_true rfl⟩ (fun v9 u9 H locs hv hP hD hS => ?_)
                subst hv
                have hP : va_P D vwCl [(m0, .inr (6, [.ref m1, .ref m2, .ref m3, .int (nI k), .ref m4, .int (nI n), .int (nI th), .int (nI ax), .int (nI fa), .int (nI vl), .ref m5, .int (nI tn), .int (nI hg), .int (nI bg)])), (m1, .inl (cI, 118, .inl (ro 118 s)))] H := hP
                have hD : va_D A9 [(m0, .inr (6, [.ref m1, .ref m2, .ref m3, .int (nI k), .ref m4, .int (nI n), .int (nI th), .int (nI ax), .int (nI fa), .int (nI vl), .ref m5, .int (nI tn), .int (nI hg), .int (nI bg)])), (m1, .inl (cI, 118, .inl (ro 118 s)))] := hD
                refine W.eq (g2 := F0 m9 89 ls [.int (nI (aimBy (tiF s) (jeF s) (acF s) q i (amF s i) (s 8))), .int (nI (szF s i)), .int (nI u)]) rfl ?_
                refine q_imul hx hb dX6_reason_89 ?_
                refine q_iadd hx hb dX6_reason_90 ?_
                refine lv_istore (lv' := [(4, .int (nI (u + ((szF s i) * (aimBy (tiF s) (jeF s) (acF s) q i (amF s i) (s 8)))))), (0, .ref m0), (1, .int (nI q)), (2, .int (nI j)), (3, .int (nI x)), (5, .int (nI i))]) hx hb dX6_reason_91 hl (by decide) rfl (fun ls hl => ?_)
                refine lv_iinc (v := (nI (i + 1))) (lv' := [(5, .int (nI (i + 1))), (4, .int (nI (u + ((szF s i) * (aimBy (tiF s) (jeF s) (acF s) q i (amF s i) (s 8)))))), (0, .ref m0), (1, .int (nI q)), (2, .int (nI j)), (3, .int (nI x))]) hx hb dX6_reason_93 hl (k := 5) rfl (nI_add i 1) (by decide) rfl (fun ls hl => ?_)
                refine lv_goto (tgt := 48) hx hb dX6_reason_96 (by decide) ?_
                exact ih48  (i + 1) (u + ((szF s i) * (aimBy (tiF s) (jeF s) (acF s) q i (amF s i) (s 8)))) _ _ ls (by first | with_reducible assumption | omega) (by first | with_reducible assumption | omega) (by rw [show i + 1 - j / 4 * 4 = (i - j / 4 * 4) + 1 by omega, hu]; show _ = sumTo _ _ + askF s q j x (i - j / 4 * 4); unfold askF; rw [show j / 4 * 4 + (i - j / 4 * 4) = i by omega]; first | (rw [if_pos c_75]; done) | (rw [if_neg c_75]; done)) (by omega) hP hD hS (lv_sub hl [2, 3, 4, 5, 1, 0] rfl)
              ·
                refine lv_iload_n hx hb dX6_reason_78 rfl (lv_at hl 3 rfl) ?_
                refine lv_goto (tgt := 89) hx hb dX6_reason_79 (by decide) ?_
                refine q_imul hx hb dX6_reason_89 ?_
                refine q_iadd hx hb dX6_reason_90 ?_
                refine lv_istore (lv' := [(4, .int (nI (u + ((szF s i) * x)))), (0, .ref m0), (1, .int (nI q)), (2, .int (nI j)), (3, .int (nI x)), (5, .int (nI i))]) hx hb dX6_reason_91 hl (by decide) rfl (fun ls hl => ?_)
                refine lv_iinc (v := (nI (i + 1))) (lv' := [(5, .int (nI (i + 1))), (4, .int (nI (u + ((szF s i) * x)))), (0, .ref m0), (1, .int (nI q)), (2, .int (nI j)), (3, .int (nI x))]) hx hb dX6_reason_93 hl (k := 5) rfl (nI_add i 1) (by decide) rfl (fun ls hl => ?_)
                refine lv_goto (tgt := 48) hx hb dX6_reason_96 (by decide) ?_
                exact ih48  (i + 1) (u + ((szF s i) * x)) _ _ ls (by first | with_reducible assumption | omega) (by first | with_reducible assumption | omega) (by rw [show i + 1 - j / 4 * 4 = (i - j / 4 * 4) + 1 by omega, hu]; show _ = sumTo _ _ + askF s q j x (i - j / 4 * 4); unfold askF; rw [show j / 4 * 4 + (i - j / 4 * 4) = i by omega]; first | (rw [if_pos c_75]; done) | (rw [if_neg c_75]; done)) (by omega) hP hD hS (lv_sub hl [2, 3, 4, 5, 1, 0] rfl)
        exact L48 (j / 4 * 4 + 4 - ((j / 4) * 4) + 1) ((j / 4) * 4) 0 _ _ ls (by first | with_reducible assumption | omega) (by first | with_reducible assumption | omega) (by rw [show j / 4 * 4 - j / 4 * 4 = 0 by omega]; rfl) (by omega) hP hD hS (lv_sub hl [2, 3, 4, 5, 1, 0] rfl)
      ·
        have c_33 := bI_nz c_33
        refine lv_iconst (v := nI 3) hx hb dX6_reason_36 (by decide +kernel) ?_
        exact hret _ _ _ _ (some (.int (nI 3))) () 37 ls (by decide) (by decide) (by exact rv (by unfold rS; first | (rw [if_pos (by omega)]; done) | (rw [if_neg (by omega), if_pos (by omega)]; done) | (rw [if_neg (by omega), if_neg (by omega), if_pos (by assumption)]; done) | (rw [show i - j / 4 * 4 = 4 by omega] at hu; rw [if_neg (by omega), if_neg (by omega), if_neg (by assumption), askS_eq, ← hu]; first | (rw [if_pos (by omega)]; done) | (rw [if_neg (by omega)]; done)))) hP hD hS (ret_i dX6_reason_37)
    ·
      refine lv_iconst (v := nI 2) hx hb dX6_reason_25 (by decide +kernel) ?_
      exact hret _ _ _ _ (some (.int (nI 2))) () 26 ls (by decide) (by decide) (by exact rv (by unfold rS; first | (rw [if_pos (by omega)]; done) | (rw [if_neg (by omega), if_pos (by omega)]; done) | (rw [if_neg (by omega), if_neg (by omega), if_pos (by assumption)]; done) | (rw [show i - j / 4 * 4 = 4 by omega] at hu; rw [if_neg (by omega), if_neg (by omega), if_neg (by assumption), askS_eq, ← hu]; first | (rw [if_pos (by omega)]; done) | (rw [if_neg (by omega)]; done)))) hP hD hS (ret_i dX6_reason_26)
  ·
    refine lv_iconst (v := nI 1) hx hb dX6_reason_11 (by decide +kernel) ?_
    exact hret _ _ _ _ (some (.int (nI 1))) () 12 ls (by decide) (by decide) (by exact rv (by unfold rS; first | (rw [if_pos (by omega)]; done) | (rw [if_neg (by omega), if_pos (by omega)]; done) | (rw [if_neg (by omega), if_neg (by omega), if_pos (by assumption)]; done) | (rw [show i - j / 4 * 4 = 4 by omega] at hu; rw [if_neg (by omega), if_neg (by omega), if_neg (by assumption), askS_eq, ← hu]; first | (rw [if_pos (by omega)]; done) | (rw [if_neg (by omega)]; done)))) hP hD hS (ret_i dX6_reason_12)

theorem in_X6_comes_X6 : ∀ w ∈ wsX60, w ∈ wsX6_comes := by decide +kernel
theorem fl_X6_comes_7 : Cond.fieldLink RX6 7 "FountainCuesModel" "now" "[I" ∈ wsX6_comes := by decide +kernel
set_option maxHeartbeats 4000000 in
set_option maxRecDepth 100000 in
theorem k_X6_comes (l : Launch) (D : va_G) (cI cS cL : ClassId) (T : Nat) (m0 : Nat) (m1 : Nat) (m2 : Nat) (m3 : Nat) (m4 : Nat) (m5 : Nat) (k : Nat) (n : Nat) (th : Nat) (ax : Nat) (fa : Nat) (vl : Nat) (tn : Nat) (hg : Nat) (bg : Nat) (s : Nat → Nat) (q : Nat) (j : Nat) (x : Nat) (hI : sI T s) (hT : T ≤ 1001000) (hq : q < 2 ^ 31) (h8 : s 8 < 16) : KM l D (TY cI cS cL) yX6_comes wsX6_comes ({ frames := 1, cells := 0, slots := 0, locals := 22 } : Room) [(m0, .inr (6, [.ref m1, .ref m2, .ref m3, .int (nI k), .ref m4, .int (nI n), .int (nI th), .int (nI ax), .int (nI fa), .int (nI vl), .ref m5, .int (nI tn), .int (nI hg), .int (nI bg)])), (m1, .inl (cI, 118, .inl (ro 118 s)))] [.ref m0, .int (nI q), .int (nI j), .int (nI x)] (fun (v : Option Value) (_ : Unit) => v = some (.int (nI (s 9)))) (fun _ : Unit => [(m0, .inr (6, [.ref m1, .ref m2, .ref m3, .int (nI k), .ref m4, .int (nI n), .int (nI th), .int (nI ax), .int (nI fa), .int (nI vl), .ref m5, .int (nI tn), .int (nI hg), .int (nI bg)])), (m1, .inl (cI, 118, .inl (ro 118 (mAdd s q j x))))]) := by
  refine KM.of (cc := cX6_comes) (maxL := 6) (ret := (some .int)) (by decide) rfl (Nat.le_of_ble_eq_true rfl) ?_
  intro p9 e9 s9 m9 ar9 be9 me9 c9 Q9 A9 ls C0 hN hnm hlk hK hA hret hP hD hS hl
  obtain ⟨hx, hb, hml, hown, hts⟩ := id C0
  have hl : lv_has ls 6 [(0, .ref m0), (1, .int (nI q)), (2, .int (nI j)), (3, .int (nI x))] := hl
  obtain ⟨H, hH0⟩ : ∃ H, H = s9.heap := ⟨_, rfl⟩
  obtain ⟨locs, hlc0⟩ : ∃ z : List Loc, z = [] := ⟨_, rfl⟩
  have hP : va_P D vwCl [(m0, .inr (6, [.ref m1, .ref m2, .ref m3, .int (nI k), .ref m4, .int (nI n), .int (nI th), .int (nI ax), .int (nI fa), .int (nI vl), .ref m5, .int (nI tn), .int (nI hg), .int (nI bg)])), (m1, .inl (cI, 118, .inl (ro 118 s)))] H := by rw [hH0]; exact hP
  have hD : va_D A9 [(m0, .inr (6, [.ref m1, .ref m2, .ref m3, .int (nI k), .ref m4, .int (nI n), .int (nI th), .int (nI ax), .int (nI fa), .int (nI vl), .ref m5, .int (nI tn), .int (nI hg), .int (nI bg)])), (m1, .inl (cI, 118, .inl (ro 118 s)))] := hD
  have hS : va_S A9 s9.heap H locs := by rw [hH0, hlc0]; exact hS
  suffices hgo : W p9 l e9 ({ frames := 1, cells := 0, slots := 0, locals := 22 } : Room) s9 m9 ar9 be9 me9 c9 H locs 0 0 Q9 (F0 m9 0 ls []) by rw [hH0, hlc0] at hgo; exact hgo
  clear hH0 hlc0
  obtain ⟨hI1, hI2, hI3, hI4, hI5, hI6, hI7, hI8, hI9, hI10, hI11⟩ := id hI
  refine lv_aload_n hx hb dX6_comes_0 rfl (lv_at hl 0 rfl) ?_
  refine va_get (D := D) (ci := 6) (v := .ref m1) (C := RX6) (T := TX6) (N := 14) hx hb hts in_X6_comes_X6 hown hK hP 0 rfl rfl 0 (by decide) (hts _ fl_X6_comes_7) (fun _ h9 => h9) rfl dX6_comes_1 ?_
  refine lv_bipush (v := nI 8) hx hb dX6_comes_4 (by decide +kernel) ?_
  refine q_iald 1 0 (by omega) (by omega) hx hb hK hP rfl rfl dX6_comes_6 ?_
  have er_1 : ro 118 s = ro 118 (hoI s (s 8)) := by exact hoI_0 s
  rw [er_1] at hP hD
  refine lv_istore (lv' := [(4, .int (nI (s 8))), (0, .ref m0), (1, .int (nI q)), (2, .int (nI j)), (3, .int (nI x))]) hx hb dX6_comes_7 hl (by decide) rfl (fun ls hl => ?_)
  have L9 : ∀ (fuel : Nat) (c : Nat) (H : Heap) (locs : List Loc) (ls : Array Slot), (c ≤ s 8) → (insP (tiF s) q (s 8) = insP (tiF s) q c) → (c < fuel) → va_P D vwCl [(m0, .inr (6, [.ref m1, .ref m2, .ref m3, .int (nI k), .ref m4, .int (nI n), .int (nI th), .int (nI ax), .int (nI fa), .int (nI vl), .ref m5, .int (nI tn), .int (nI hg), .int (nI bg)])), (m1, .inl (cI, 118, .inl (ro 118 (hoI s c))))] H → va_D A9 [(m0, .inr (6, [.ref m1, .ref m2, .ref m3, .int (nI k), .ref m4, .int (nI n), .int (nI th), .int (nI ax), .int (nI fa), .int (nI vl), .ref m5, .int (nI tn), .int (nI hg), .int (nI bg)])), (m1, .inl (cI, 118, .inl (ro 118 (hoI s c))))] → va_S A9 s9.heap H locs → lv_has ls 6 [(0, .ref m0), (1, .int (nI q)), (2, .int (nI j)), (3, .int (nI x)), (4, .int (nI c))] → W p9 l e9 ({ frames := 1, cells := 0, slots := 0, locals := 22 } : Room) s9 m9 ar9 be9 me9 c9 H locs 0 0 Q9 (F0 m9 9 ls []) := by
    intro fuel
    induction fuel with
    | zero => intro c H locs ls hc hp hfu; exact absurd hfu (Nat.not_lt_zero _)
    | succ fuel ih9 =>
      intro c H locs ls hc hp hfu hP hD hS hl
      refine lv_iload hx hb dX6_comes_9 (lv_at hl 4 rfl) ?_
      refine q_fle (tgt := 83) (by omega) hx hb dX6_comes_11 (by decide) (fun c_11 => ?_) (fun c_11 => ?_)
      ·
        have hpc : insP (tiF s) q (s 8) = c := by rw [hp]; exact insP_hit (by omega)
        refine lv_aload_n hx hb dX6_comes_83 rfl (lv_at hl 0 rfl) ?_
        refine va_get (D := D) (ci := 6) (v := .ref m1) (C := RX6) (T := TX6) (N := 14) hx hb hts in_X6_comes_X6 hown hK hP 0 rfl rfl 0 (by decide) (hts _ fl_X6_comes_7) (fun _ h9 => h9) rfl dX6_comes_84 ?_
        refine lv_bipush (v := nI 54) hx hb dX6_comes_87 (by decide +kernel) ?_
        refine lv_iconst (v := nI 4) hx hb dX6_comes_89 (by decide +kernel) ?_
        refine lv_iload hx hb dX6_comes_90 (lv_at hl 4 rfl) ?_
        refine q_imul hx hb dX6_comes_92 ?_
        refine q_iadd hx hb dX6_comes_93 ?_
        refine lv_aload_n hx hb dX6_comes_94 rfl (lv_at hl 0 rfl) ?_
        refine va_get (D := D) (ci := 6) (v := .ref m1) (C := RX6) (T := TX6) (N := 14) hx hb hts in_X6_comes_X6 hown hK hP 0 rfl rfl 0 (by decide) (hts _ fl_X6_comes_7) (fun _ h9 => h9) rfl dX6_comes_95 ?_
        refine lv_bipush (v := nI 9) hx hb dX6_comes_98 (by decide +kernel) ?_
        refine q_iald 1 0 (by omega) (by omega) hx hb hK hP rfl rfl dX6_comes_100 ?_
        refine q_topi (y := (nI (s 9))) (by exact congrArg nI (hoI_lt (by omega))) ?_
        refine q_iast 1 0 (by omega) (by omega) hx hb hK hP hD hS rfl rfl dX6_comes_101 (fun H locs hP hD hS => ?_)
        have hP : va_P D vwCl [(m0, .inr (6, [.ref m1, .ref m2, .ref m3, .int (nI k), .ref m4, .int (nI n), .int (nI th), .int (nI ax), .int (nI fa), .int (nI vl), .ref m5, .int (nI tn), .int (nI hg), .int (nI bg)])), (m1, .inl (cI, 118, .inl (ro 118 (upN (hoI s c) (54 + (4 * c)) (s 9)))))] H := hP
        have hD : va_D A9 [(m0, .inr (6, [.ref m1, .ref m2, .ref m3, .int (nI k), .ref m4, .int (nI n), .int (nI th), .int (nI ax), .int (nI fa), .int (nI vl), .ref m5, .int (nI tn), .int (nI hg), .int (nI bg)])), (m1, .inl (cI, 118, .inl (ro 118 (upN (hoI s c) (54 + (4 * c)) (s 9)))))] := hD
        refine lv_aload_n hx hb dX6_comes_102 rfl (lv_at hl 0 rfl) ?_
        refine va_get (D := D) (ci := 6) (v := .ref m1) (C := RX6) (T := TX6) (N := 14) hx hb hts in_X6_comes_X6 hown hK hP 0 rfl rfl 0 (by decide) (hts _ fl_X6_comes_7) (fun _ h9 => h9) rfl dX6_comes_103 ?_
        refine lv_bipush (v := nI 54) hx hb dX6_comes_106 (by decide +kernel) ?_
        refine lv_iconst (v := nI 4) hx hb dX6_comes_108 (by decide +kernel) ?_
        refine lv_iload hx hb dX6_comes_109 (lv_at hl 4 rfl) ?_
        refine q_imul hx hb dX6_comes_111 ?_
        refine q_iadd hx hb dX6_comes_112 ?_
        refine lv_iconst (v := nI 1) hx hb dX6_comes_113 (by decide +kernel) ?_
        refine q_iadd hx hb dX6_comes_114 ?_
        refine lv_iload_n hx hb dX6_comes_115 rfl (lv_at hl 1 rfl) ?_
        refine q_iast 1 0 (by omega) (by omega) hx hb hK hP hD hS rfl rfl dX6_comes_116 (fun H locs hP hD hS => ?_)
        have hP : va_P D vwCl [(m0, .inr (6, [.ref m1, .ref m2, .ref m3, .int (nI k), .ref m4, .int (nI n), .int (nI th), .int (nI ax), .int (nI fa), .int (nI vl), .ref m5, .int (nI tn), .int (nI hg), .int (nI bg)])), (m1, .inl (cI, 118, .inl (ro 118 (upN (upN (hoI s c) (54 + (4 * c)) (s 9)) ((54 + (4 * c)) + 1) q))))] H := hP
        have hD : va_D A9 [(m0, .inr (6, [.ref m1, .ref m2, .ref m3, .int (nI k), .ref m4, .int (nI n), .int (nI th), .int (nI ax), .int (nI fa), .int (nI vl), .ref m5, .int (nI tn), .int (nI hg), .int (nI bg)])), (m1, .inl (cI, 118, .inl (ro 118 (upN (upN (hoI s c) (54 + (4 * c)) (s 9)) ((54 + (4 * c)) + 1) q))))] := hD
        refine lv_aload_n hx hb dX6_comes_117 rfl (lv_at hl 0 rfl) ?_
        refine va_get (D := D) (ci := 6) (v := .ref m1) (C := RX6) (T := TX6) (N := 14) hx hb hts in_X6_comes_X6 hown hK hP 0 rfl rfl 0 (by decide) (hts _ fl_X6_comes_7) (fun _ h9 => h9) rfl dX6_comes_118 ?_
        refine lv_bipush (v := nI 54) hx hb dX6_comes_121 (by decide +kernel) ?_
        refine lv_iconst (v := nI 4) hx hb dX6_comes_123 (by decide +kernel) ?_
        refine lv_iload hx hb dX6_comes_124 (lv_at hl 4 rfl) ?_
        refine q_imul hx hb dX6_comes_126 ?_
        refine q_iadd hx hb dX6_comes_127 ?_
        refine lv_iconst (v := nI 2) hx hb dX6_comes_128 (by decide +kernel) ?_
        refine q_iadd hx hb dX6_comes_129 ?_
        refine lv_iload_n hx hb dX6_comes_130 rfl (lv_at hl 2 rfl) ?_
        refine q_iast 1 0 (by omega) (by omega) hx hb hK hP hD hS rfl rfl dX6_comes_131 (fun H locs hP hD hS => ?_)
        have hP : va_P D vwCl [(m0, .inr (6, [.ref m1, .ref m2, .ref m3, .int (nI k), .ref m4, .int (nI n), .int (nI th), .int (nI ax), .int (nI fa), .int (nI vl), .ref m5, .int (nI tn), .int (nI hg), .int (nI bg)])), (m1, .inl (cI, 118, .inl (ro 118 (upN (upN (upN (hoI s c) (54 + (4 * c)) (s 9)) ((54 + (4 * c)) + 1) q) ((54 + (4 * c)) + 2) j))))] H := hP
        have hD : va_D A9 [(m0, .inr (6, [.ref m1, .ref m2, .ref m3, .int (nI k), .ref m4, .int (nI n), .int (nI th), .int (nI ax), .int (nI fa), .int (nI vl), .ref m5, .int (nI tn), .int (nI hg), .int (nI bg)])), (m1, .inl (cI, 118, .inl (ro 118 (upN (upN (upN (hoI s c) (54 + (4 * c)) (s 9)) ((54 + (4 * c)) + 1) q) ((54 + (4 * c)) + 2) j))))] := hD
        refine lv_aload_n hx hb dX6_comes_132 rfl (lv_at hl 0 rfl) ?_
        refine va_get (D := D) (ci := 6) (v := .ref m1) (C := RX6) (T := TX6) (N := 14) hx hb hts in_X6_comes_X6 hown hK hP 0 rfl rfl 0 (by decide) (hts _ fl_X6_comes_7) (fun _ h9 => h9) rfl dX6_comes_133 ?_
        refine lv_bipush (v := nI 54) hx hb dX6_comes_136 (by decide +kernel) ?_
        refine lv_iconst (v := nI 4) hx hb dX6_comes_138 (by decide +kernel) ?_
        refine lv_iload hx hb dX6_comes_139 (lv_at hl 4 rfl) ?_
        refine q_imul hx hb dX6_comes_141 ?_
        refine q_iadd hx hb dX6_comes_142 ?_
        refine lv_iconst (v := nI 3) hx hb dX6_comes_143 (by decide +kernel) ?_
        refine q_iadd hx hb dX6_comes_144 ?_
        refine lv_iload_n hx hb dX6_comes_145 rfl (lv_at hl 3 rfl) ?_
        refine q_iast 1 0 (by omega) (by omega) hx hb hK hP hD hS rfl rfl dX6_comes_146 (fun H locs hP hD hS => ?_)
        have hP : va_P D vwCl [(m0, .inr (6, [.ref m1, .ref m2, .ref m3, .int (nI k), .ref m4, .int (nI n), .int (nI th), .int (nI ax), .int (nI fa), .int (nI vl), .ref m5, .int (nI tn), .int (nI hg), .int (nI bg)])), (m1, .inl (cI, 118, .inl (ro 118 (upN (upN (upN (upN (hoI s c) (54 + (4 * c)) (s 9)) ((54 + (4 * c)) + 1) q) ((54 + (4 * c)) + 2) j) ((54 + (4 * c)) + 3) x))))] H := hP
        have hD : va_D A9 [(m0, .inr (6, [.ref m1, .ref m2, .ref m3, .int (nI k), .ref m4, .int (nI n), .int (nI th), .int (nI ax), .int (nI fa), .int (nI vl), .ref m5, .int (nI tn), .int (nI hg), .int (nI bg)])), (m1, .inl (cI, 118, .inl (ro 118 (upN (upN (upN (upN (hoI s c) (54 + (4 * c)) (s 9)) ((54 + (4 * c)) + 1) q) ((54 + (4 * c)) + 2) j) ((54 + (4 * c)) + 3) x))))] := hD
        refine lv_aload_n hx hb dX6_comes_147 rfl (lv_at hl 0 rfl) ?_
        refine va_get (D := D) (ci := 6) (v := .ref m1) (C := RX6) (T := TX6) (N := 14) hx hb hts in_X6_comes_X6 hown hK hP 0 rfl rfl 0 (by decide) (hts _ fl_X6_comes_7) (fun _ h9 => h9) rfl dX6_comes_148 ?_
        refine lv_bipush (v := nI 8) hx hb dX6_comes_151 (by decide +kernel) ?_
        refine lv_dup2_11 hx hb dX6_comes_153 rfl rfl ?_
        refine q_iald 1 0 (by omega) (by omega) hx hb hK hP rfl rfl dX6_comes_154 ?_
        refine q_topi (y := (nI (s 8))) (by exact congrArg nI (by unfold upN; rw [if_neg (by omega), if_neg (by omega), if_neg (by omega), if_neg (by omega)]; exact hoI_lt (by omega))) ?_
        refine lv_iconst (v := nI 1) hx hb dX6_comes_155 (by decide +kernel) ?_
        refine q_iadd hx hb dX6_comes_156 ?_
        refine q_iast 1 0 (by omega) (by omega) hx hb hK hP hD hS rfl rfl dX6_comes_157 (fun H locs hP hD hS => ?_)
        have hP : va_P D vwCl [(m0, .inr (6, [.ref m1, .ref m2, .ref m3, .int (nI k), .ref m4, .int (nI n), .int (nI th), .int (nI ax), .int (nI fa), .int (nI vl), .ref m5, .int (nI tn), .int (nI hg), .int (nI bg)])), (m1, .inl (cI, 118, .inl (ro 118 (upN (upN (upN (upN (upN (hoI s c) (54 + (4 * c)) (s 9)) ((54 + (4 * c)) + 1) q) ((54 + (4 * c)) + 2) j) ((54 + (4 * c)) + 3) x) 8 ((s 8) + 1)))))] H := hP
        have hD : va_D A9 [(m0, .inr (6, [.ref m1, .ref m2, .ref m3, .int (nI k), .ref m4, .int (nI n), .int (nI th), .int (nI ax), .int (nI fa), .int (nI vl), .ref m5, .int (nI tn), .int (nI hg), .int (nI bg)])), (m1, .inl (cI, 118, .inl (ro 118 (upN (upN (upN (upN (upN (hoI s c) (54 + (4 * c)) (s 9)) ((54 + (4 * c)) + 1) q) ((54 + (4 * c)) + 2) j) ((54 + (4 * c)) + 3) x) 8 ((s 8) + 1)))))] := hD
        refine lv_aload_n hx hb dX6_comes_158 rfl (lv_at hl 0 rfl) ?_
        refine va_get (D := D) (ci := 6) (v := .ref m1) (C := RX6) (T := TX6) (N := 14) hx hb hts in_X6_comes_X6 hown hK hP 0 rfl rfl 0 (by decide) (hts _ fl_X6_comes_7) (fun _ h9 => h9) rfl dX6_comes_159 ?_
        refine lv_bipush (v := nI 9) hx hb dX6_comes_162 (by decide +kernel) ?_
        refine lv_dup2_11 hx hb dX6_comes_164 rfl rfl ?_
        refine q_iald 1 0 (by omega) (by omega) hx hb hK hP rfl rfl dX6_comes_165 ?_
        refine q_topi (y := (nI (s 9))) (by exact congrArg nI (by unfold upN; rw [if_neg (by omega), if_neg (by omega), if_neg (by omega), if_neg (by omega), if_neg (by omega)]; exact hoI_lt (by omega))) ?_
        refine lv_iconst (v := nI 1) hx hb dX6_comes_166 (by decide +kernel) ?_
        refine q_iadd hx hb dX6_comes_167 ?_
        refine q_iast 1 0 (by omega) (by omega) hx hb hK hP hD hS rfl rfl dX6_comes_168 (fun H locs hP hD hS => ?_)
        have hP : va_P D vwCl [(m0, .inr (6, [.ref m1, .ref m2, .ref m3, .int (nI k), .ref m4, .int (nI n), .int (nI th), .int (nI ax), .int (nI fa), .int (nI vl), .ref m5, .int (nI tn), .int (nI hg), .int (nI bg)])), (m1, .inl (cI, 118, .inl (ro 118 (upN (upN (upN (upN (upN (upN (hoI s c) (54 + (4 * c)) (s 9)) ((54 + (4 * c)) + 1) q) ((54 + (4 * c)) + 2) j) ((54 + (4 * c)) + 3) x) 8 ((s 8) + 1)) 9 ((s 9) + 1)))))] H := hP
        have hD : va_D A9 [(m0, .inr (6, [.ref m1, .ref m2, .ref m3, .int (nI k), .ref m4, .int (nI n), .int (nI th), .int (nI ax), .int (nI fa), .int (nI vl), .ref m5, .int (nI tn), .int (nI hg), .int (nI bg)])), (m1, .inl (cI, 118, .inl (ro 118 (upN (upN (upN (upN (upN (upN (hoI s c) (54 + (4 * c)) (s 9)) ((54 + (4 * c)) + 1) q) ((54 + (4 * c)) + 2) j) ((54 + (4 * c)) + 3) x) 8 ((s 8) + 1)) 9 ((s 9) + 1)))))] := hD
        have er_2 : ro 118 (upN (upN (upN (upN (upN (upN (hoI s c) (54 + (4 * c)) (s 9)) ((54 + (4 * c)) + 1) q) ((54 + (4 * c)) + 2) j) ((54 + (4 * c)) + 3) x) 8 ((s 8) + 1)) 9 ((s 9) + 1)) = ro 118 (mAdd s q j x) := by rw [show 54 + 4 * c + 1 = 55 + 4 * c by omega, show 54 + 4 * c + 2 = 56 + 4 * c by omega, show 54 + 4 * c + 3 = 57 + 4 * c by omega]; exact add_row hc hpc
        rw [er_2] at hP hD
        refine lv_aload_n hx hb dX6_comes_169 rfl (lv_at hl 0 rfl) ?_
        refine va_get (D := D) (ci := 6) (v := .ref m1) (C := RX6) (T := TX6) (N := 14) hx hb hts in_X6_comes_X6 hown hK hP 0 rfl rfl 0 (by decide) (hts _ fl_X6_comes_7) (fun _ h9 => h9) rfl dX6_comes_170 ?_
        refine lv_bipush (v := nI 9) hx hb dX6_comes_173 (by decide +kernel) ?_
        refine q_iald 1 0 (by omega) (by omega) hx hb hK hP rfl rfl dX6_comes_175 ?_
        refine q_topi (y := (nI (s 9 + 1))) (by rfl) ?_
        refine lv_iconst (v := nI 1) hx hb dX6_comes_176 (by decide +kernel) ?_
        refine q_isub (by omega) hx hb dX6_comes_177 ?_
        refine q_topi (y := (nI (s 9))) (by rfl) ?_
        exact hret _ _ _ _ (some (.int (nI (s 9)))) () 178 ls (by decide) (by decide) (by rfl) hP hD hS (ret_i dX6_comes_178)
      ·
        refine lv_aload_n hx hb dX6_comes_14 rfl (lv_at hl 0 rfl) ?_
        refine va_get (D := D) (ci := 6) (v := .ref m1) (C := RX6) (T := TX6) (N := 14) hx hb hts in_X6_comes_X6 hown hK hP 0 rfl rfl 0 (by decide) (hts _ fl_X6_comes_7) (fun _ h9 => h9) rfl dX6_comes_15 ?_
        refine lv_iload hx hb dX6_comes_18 (lv_at hl 4 rfl) ?_
        refine lv_iconst (v := nI 1) hx hb dX6_comes_20 (by decide +kernel) ?_
        refine q_isub (by omega) hx hb dX6_comes_21 ?_
        refine lv_iconst (v := nI 1) hx hb dX6_comes_22 (by decide +kernel) ?_
        have hc9 := hI9 (c - 1) (by omega)
        refine KM.callS (As := [.ref m1, .int (nI (c - 1)), .int (nI 1)]) (rest := []) C0 hN (k_X6_by_1 l D cI cS cL m1 (hoI s c) (c - 1)  (by first | with_reducible assumption | omega)) (va_cwS 3 hts gX6_comes_X6_by rfl rfl rfl (by decide +kernel) ⟨Nat.le_of_ble_eq_true rfl, Nat.le_of_ble_eq_true rfl⟩) hK hP hD hS hA [1] rfl (by decide) (fun _ => rfl) rfl hl.1 rfl (Nat.le_of_ble_eq_true rfl) dX6_comes_23 ⟨Nat.le_of_ble_eq_true rfl, Nat.le_of_ble_eq_true rfl⟩ (fun v9 u9 H locs hv hP hD hS => ?_)
        subst hv
        have hP : va_P D vwCl [(m0, .inr (6, [.ref m1, .ref m2, .ref m3, .int (nI k), .ref m4, .int (nI n), .int (nI th), .int (nI ax), .int (nI fa), .int (nI vl), .ref m5, .int (nI tn), .int (nI hg), .int (nI bg)])), (m1, .inl (cI, 118, .inl (ro 118 (hoI s c))))] H := hP
        have hD : va_D A9 [(m0, .inr (6, [.ref m1, .ref m2, .ref m3, .int (nI k), .ref m4, .int (nI n), .int (nI th), .int (nI ax), .int (nI fa), .int (nI vl), .ref m5, .int (nI tn), .int (nI hg), .int (nI bg)])), (m1, .inl (cI, 118, .inl (ro 118 (hoI s c))))] := hD
        refine W.eq (g2 := F0 m9 26 ls [.int (nI (tiF (hoI s c) (c - 1)))]) rfl ?_
        refine q_topi (y := (nI (tiF s (c - 1)))) (by exact congrArg nI (hoI_lt (by omega))) ?_
        refine lv_iload_n hx hb dX6_comes_26 rfl (lv_at hl 1 rfl) ?_
        refine q_ile (tgt := 83) (by omega) (by omega) hx hb dX6_comes_27 (by decide) (fun c_27 => ?_) (fun c_27 => ?_)
        ·
          have hpc : insP (tiF s) q (s 8) = c := by rw [hp]; exact insP_hit (by omega)
          refine lv_aload_n hx hb dX6_comes_83 rfl (lv_at hl 0 rfl) ?_
          refine va_get (D := D) (ci := 6) (v := .ref m1) (C := RX6) (T := TX6) (N := 14) hx hb hts in_X6_comes_X6 hown hK hP 0 rfl rfl 0 (by decide) (hts _ fl_X6_comes_7) (fun _ h9 => h9) rfl dX6_comes_84 ?_
          refine lv_bipush (v := nI 54) hx hb dX6_comes_87 (by decide +kernel) ?_
          refine lv_iconst (v := nI 4) hx hb dX6_comes_89 (by decide +kernel) ?_
          refine lv_iload hx hb dX6_comes_90 (lv_at hl 4 rfl) ?_
          refine q_imul hx hb dX6_comes_92 ?_
          refine q_iadd hx hb dX6_comes_93 ?_
          refine lv_aload_n hx hb dX6_comes_94 rfl (lv_at hl 0 rfl) ?_
          refine va_get (D := D) (ci := 6) (v := .ref m1) (C := RX6) (T := TX6) (N := 14) hx hb hts in_X6_comes_X6 hown hK hP 0 rfl rfl 0 (by decide) (hts _ fl_X6_comes_7) (fun _ h9 => h9) rfl dX6_comes_95 ?_
          refine lv_bipush (v := nI 9) hx hb dX6_comes_98 (by decide +kernel) ?_
          refine q_iald 1 0 (by omega) (by omega) hx hb hK hP rfl rfl dX6_comes_100 ?_
          refine q_topi (y := (nI (s 9))) (by exact congrArg nI (hoI_lt (by omega))) ?_
          refine q_iast 1 0 (by omega) (by omega) hx hb hK hP hD hS rfl rfl dX6_comes_101 (fun H locs hP hD hS => ?_)
          have hP : va_P D vwCl [(m0, .inr (6, [.ref m1, .ref m2, .ref m3, .int (nI k), .ref m4, .int (nI n), .int (nI th), .int (nI ax), .int (nI fa), .int (nI vl), .ref m5, .int (nI tn), .int (nI hg), .int (nI bg)])), (m1, .inl (cI, 118, .inl (ro 118 (upN (hoI s c) (54 + (4 * c)) (s 9)))))] H := hP
          have hD : va_D A9 [(m0, .inr (6, [.ref m1, .ref m2, .ref m3, .int (nI k), .ref m4, .int (nI n), .int (nI th), .int (nI ax), .int (nI fa), .int (nI vl), .ref m5, .int (nI tn), .int (nI hg), .int (nI bg)])), (m1, .inl (cI, 118, .inl (ro 118 (upN (hoI s c) (54 + (4 * c)) (s 9)))))] := hD
          refine lv_aload_n hx hb dX6_comes_102 rfl (lv_at hl 0 rfl) ?_
          refine va_get (D := D) (ci := 6) (v := .ref m1) (C := RX6) (T := TX6) (N := 14) hx hb hts in_X6_comes_X6 hown hK hP 0 rfl rfl 0 (by decide) (hts _ fl_X6_comes_7) (fun _ h9 => h9) rfl dX6_comes_103 ?_
          refine lv_bipush (v := nI 54) hx hb dX6_comes_106 (by decide +kernel) ?_
          refine lv_iconst (v := nI 4) hx hb dX6_comes_108 (by decide +kernel) ?_
          refine lv_iload hx hb dX6_comes_109 (lv_at hl 4 rfl) ?_
          refine q_imul hx hb dX6_comes_111 ?_
          refine q_iadd hx hb dX6_comes_112 ?_
          refine lv_iconst (v := nI 1) hx hb dX6_comes_113 (by decide +kernel) ?_
          refine q_iadd hx hb dX6_comes_114 ?_
          refine lv_iload_n hx hb dX6_comes_115 rfl (lv_at hl 1 rfl) ?_
          refine q_iast 1 0 (by omega) (by omega) hx hb hK hP hD hS rfl rfl dX6_comes_116 (fun H locs hP hD hS => ?_)
          have hP : va_P D vwCl [(m0, .inr (6, [.ref m1, .ref m2, .ref m3, .int (nI k), .ref m4, .int (nI n), .int (nI th), .int (nI ax), .int (nI fa), .int (nI vl), .ref m5, .int (nI tn), .int (nI hg), .int (nI bg)])), (m1, .inl (cI, 118, .inl (ro 118 (upN (upN (hoI s c) (54 + (4 * c)) (s 9)) ((54 + (4 * c)) + 1) q))))] H := hP
          have hD : va_D A9 [(m0, .inr (6, [.ref m1, .ref m2, .ref m3, .int (nI k), .ref m4, .int (nI n), .int (nI th), .int (nI ax), .int (nI fa), .int (nI vl), .ref m5, .int (nI tn), .int (nI hg), .int (nI bg)])), (m1, .inl (cI, 118, .inl (ro 118 (upN (upN (hoI s c) (54 + (4 * c)) (s 9)) ((54 + (4 * c)) + 1) q))))] := hD
          refine lv_aload_n hx hb dX6_comes_117 rfl (lv_at hl 0 rfl) ?_
          refine va_get (D := D) (ci := 6) (v := .ref m1) (C := RX6) (T := TX6) (N := 14) hx hb hts in_X6_comes_X6 hown hK hP 0 rfl rfl 0 (by decide) (hts _ fl_X6_comes_7) (fun _ h9 => h9) rfl dX6_comes_118 ?_
          refine lv_bipush (v := nI 54) hx hb dX6_comes_121 (by decide +kernel) ?_
          refine lv_iconst (v := nI 4) hx hb dX6_comes_123 (by decide +kernel) ?_
          refine lv_iload hx hb dX6_comes_124 (lv_at hl 4 rfl) ?_
          refine q_imul hx hb dX6_comes_126 ?_
          refine q_iadd hx hb dX6_comes_127 ?_
          refine lv_iconst (v := nI 2) hx hb dX6_comes_128 (by decide +kernel) ?_
          refine q_iadd hx hb dX6_comes_129 ?_
          refine lv_iload_n hx hb dX6_comes_130 rfl (lv_at hl 2 rfl) ?_
          refine q_iast 1 0 (by omega) (by omega) hx hb hK hP hD hS rfl rfl dX6_comes_131 (fun H locs hP hD hS => ?_)
          have hP : va_P D vwCl [(m0, .inr (6, [.ref m1, .ref m2, .ref m3, .int (nI k), .ref m4, .int (nI n), .int (nI th), .int (nI ax), .int (nI fa), .int (nI vl), .ref m5, .int (nI tn), .int (nI hg), .int (nI bg)])), (m1, .inl (cI, 118, .inl (ro 118 (upN (upN (upN (hoI s c) (54 + (4 * c)) (s 9)) ((54 + (4 * c)) + 1) q) ((54 + (4 * c)) + 2) j))))] H := hP
          have hD : va_D A9 [(m0, .inr (6, [.ref m1, .ref m2, .ref m3, .int (nI k), .ref m4, .int (nI n), .int (nI th), .int (nI ax), .int (nI fa), .int (nI vl), .ref m5, .int (nI tn), .int (nI hg), .int (nI bg)])), (m1, .inl (cI, 118, .inl (ro 118 (upN (upN (upN (hoI s c) (54 + (4 * c)) (s 9)) ((54 + (4 * c)) + 1) q) ((54 + (4 * c)) + 2) j))))] := hD
          refine lv_aload_n hx hb dX6_comes_132 rfl (lv_at hl 0 rfl) ?_
          refine va_get (D := D) (ci := 6) (v := .ref m1) (C := RX6) (T := TX6) (N := 14) hx hb hts in_X6_comes_X6 hown hK hP 0 rfl rfl 0 (by decide) (hts _ fl_X6_comes_7) (fun _ h9 => h9) rfl dX6_comes_133 ?_
          refine lv_bipush (v := nI 54) hx hb dX6_comes_136 (by decide +kernel) ?_
          refine lv_iconst (v := nI 4) hx hb dX6_comes_138 (by decide +kernel) ?_
          refine lv_iload hx hb dX6_comes_139 (lv_at hl 4 rfl) ?_
          refine q_imul hx hb dX6_comes_141 ?_
          refine q_iadd hx hb dX6_comes_142 ?_
          refine lv_iconst (v := nI 3) hx hb dX6_comes_143 (by decide +kernel) ?_
          refine q_iadd hx hb dX6_comes_144 ?_
          refine lv_iload_n hx hb dX6_comes_145 rfl (lv_at hl 3 rfl) ?_
          refine q_iast 1 0 (by omega) (by omega) hx hb hK hP hD hS rfl rfl dX6_comes_146 (fun H locs hP hD hS => ?_)
          have hP : va_P D vwCl [(m0, .inr (6, [.ref m1, .ref m2, .ref m3, .int (nI k), .ref m4, .int (nI n), .int (nI th), .int (nI ax), .int (nI fa), .int (nI vl), .ref m5, .int (nI tn), .int (nI hg), .int (nI bg)])), (m1, .inl (cI, 118, .inl (ro 118 (upN (upN (upN (upN (hoI s c) (54 + (4 * c)) (s 9)) ((54 + (4 * c)) + 1) q) ((54 + (4 * c)) + 2) j) ((54 + (4 * c)) + 3) x))))] H := hP
          have hD : va_D A9 [(m0, .inr (6, [.ref m1, .ref m2, .ref m3, .int (nI k), .ref m4, .int (nI n), .int (nI th), .int (nI ax), .int (nI fa), .int (nI vl), .ref m5, .int (nI tn), .int (nI hg), .int (nI bg)])), (m1, .inl (cI, 118, .inl (ro 118 (upN (upN (upN (upN (hoI s c) (54 + (4 * c)) (s 9)) ((54 + (4 * c)) + 1) q) ((54 + (4 * c)) + 2) j) ((54 + (4 * c)) + 3) x))))] := hD
          refine lv_aload_n hx hb dX6_comes_147 rfl (lv_at hl 0 rfl) ?_
          refine va_get (D := D) (ci := 6) (v := .ref m1) (C := RX6) (T := TX6) (N := 14) hx hb hts in_X6_comes_X6 hown hK hP 0 rfl rfl 0 (by decide) (hts _ fl_X6_comes_7) (fun _ h9 => h9) rfl dX6_comes_148 ?_
          refine lv_bipush (v := nI 8) hx hb dX6_comes_151 (by decide +kernel) ?_
          refine lv_dup2_11 hx hb dX6_comes_153 rfl rfl ?_
          refine q_iald 1 0 (by omega) (by omega) hx hb hK hP rfl rfl dX6_comes_154 ?_
          refine q_topi (y := (nI (s 8))) (by exact congrArg nI (by unfold upN; rw [if_neg (by omega), if_neg (by omega), if_neg (by omega), if_neg (by omega)]; exact hoI_lt (by omega))) ?_
          refine lv_iconst (v := nI 1) hx hb dX6_comes_155 (by decide +kernel) ?_
          refine q_iadd hx hb dX6_comes_156 ?_
          refine q_iast 1 0 (by omega) (by omega) hx hb hK hP hD hS rfl rfl dX6_comes_157 (fun H locs hP hD hS => ?_)
          have hP : va_P D vwCl [(m0, .inr (6, [.ref m1, .ref m2, .ref m3, .int (nI k), .ref m4, .int (nI n), .int (nI th), .int (nI ax), .int (nI fa), .int (nI vl), .ref m5, .int (nI tn), .int (nI hg), .int (nI bg)])), (m1, .inl (cI, 118, .inl (ro 118 (upN (upN (upN (upN (upN (hoI s c) (54 + (4 * c)) (s 9)) ((54 + (4 * c)) + 1) q) ((54 + (4 * c)) + 2) j) ((54 + (4 * c)) + 3) x) 8 ((s 8) + 1)))))] H := hP
          have hD : va_D A9 [(m0, .inr (6, [.ref m1, .ref m2, .ref m3, .int (nI k), .ref m4, .int (nI n), .int (nI th), .int (nI ax), .int (nI fa), .int (nI vl), .ref m5, .int (nI tn), .int (nI hg), .int (nI bg)])), (m1, .inl (cI, 118, .inl (ro 118 (upN (upN (upN (upN (upN (hoI s c) (54 + (4 * c)) (s 9)) ((54 + (4 * c)) + 1) q) ((54 + (4 * c)) + 2) j) ((54 + (4 * c)) + 3) x) 8 ((s 8) + 1)))))] := hD
          refine lv_aload_n hx hb dX6_comes_158 rfl (lv_at hl 0 rfl) ?_
          refine va_get (D := D) (ci := 6) (v := .ref m1) (C := RX6) (T := TX6) (N := 14) hx hb hts in_X6_comes_X6 hown hK hP 0 rfl rfl 0 (by decide) (hts _ fl_X6_comes_7) (fun _ h9 => h9) rfl dX6_comes_159 ?_
          refine lv_bipush (v := nI 9) hx hb dX6_comes_162 (by decide +kernel) ?_
          refine lv_dup2_11 hx hb dX6_comes_164 rfl rfl ?_
          refine q_iald 1 0 (by omega) (by omega) hx hb hK hP rfl rfl dX6_comes_165 ?_
          refine q_topi (y := (nI (s 9))) (by exact congrArg nI (by unfold upN; rw [if_neg (by omega), if_neg (by omega), if_neg (by omega), if_neg (by omega), if_neg (by omega)]; exact hoI_lt (by omega))) ?_
          refine lv_iconst (v := nI 1) hx hb dX6_comes_166 (by decide +kernel) ?_
          refine q_iadd hx hb dX6_comes_167 ?_
          refine q_iast 1 0 (by omega) (by omega) hx hb hK hP hD hS rfl rfl dX6_comes_168 (fun H locs hP hD hS => ?_)
          have hP : va_P D vwCl [(m0, .inr (6, [.ref m1, .ref m2, .ref m3, .int (nI k), .ref m4, .int (nI n), .int (nI th), .int (nI ax), .int (nI fa), .int (nI vl), .ref m5, .int (nI tn), .int (nI hg), .int (nI bg)])), (m1, .inl (cI, 118, .inl (ro 118 (upN (upN (upN (upN (upN (upN (hoI s c) (54 + (4 * c)) (s 9)) ((54 + (4 * c)) + 1) q) ((54 + (4 * c)) + 2) j) ((54 + (4 * c)) + 3) x) 8 ((s 8) + 1)) 9 ((s 9) + 1)))))] H := hP
          have hD : va_D A9 [(m0, .inr (6, [.ref m1, .ref m2, .ref m3, .int (nI k), .ref m4, .int (nI n), .int (nI th), .int (nI ax), .int (nI fa), .int (nI vl), .ref m5, .int (nI tn), .int (nI hg), .int (nI bg)])), (m1, .inl (cI, 118, .inl (ro 118 (upN (upN (upN (upN (upN (upN (hoI s c) (54 + (4 * c)) (s 9)) ((54 + (4 * c)) + 1) q) ((54 + (4 * c)) + 2) j) ((54 + (4 * c)) + 3) x) 8 ((s 8) + 1)) 9 ((s 9) + 1)))))] := hD
          have er_3 : ro 118 (upN (upN (upN (upN (upN (upN (hoI s c) (54 + (4 * c)) (s 9)) ((54 + (4 * c)) + 1) q) ((54 + (4 * c)) + 2) j) ((54 + (4 * c)) + 3) x) 8 ((s 8) + 1)) 9 ((s 9) + 1)) = ro 118 (mAdd s q j x) := by rw [show 54 + 4 * c + 1 = 55 + 4 * c by omega, show 54 + 4 * c + 2 = 56 + 4 * c by omega, show 54 + 4 * c + 3 = 57 + 4 * c by omega]; exact add_row hc hpc
          rw [er_3] at hP hD
          refine lv_aload_n hx hb dX6_comes_169 rfl (lv_at hl 0 rfl) ?_
          refine va_get (D := D) (ci := 6) (v := .ref m1) (C := RX6) (T := TX6) (N := 14) hx hb hts in_X6_comes_X6 hown hK hP 0 rfl rfl 0 (by decide) (hts _ fl_X6_comes_7) (fun _ h9 => h9) rfl dX6_comes_170 ?_
          refine lv_bipush (v := nI 9) hx hb dX6_comes_173 (by decide +kernel) ?_
          refine q_iald 1 0 (by omega) (by omega) hx hb hK hP rfl rfl dX6_comes_175 ?_
          refine q_topi (y := (nI (s 9 + 1))) (by rfl) ?_
          refine lv_iconst (v := nI 1) hx hb dX6_comes_176 (by decide +kernel) ?_
          refine q_isub (by omega) hx hb dX6_comes_177 ?_
          refine q_topi (y := (nI (s 9))) (by rfl) ?_
          exact hret _ _ _ _ (some (.int (nI (s 9)))) () 178 ls (by decide) (by decide) (by rfl) hP hD hS (ret_i dX6_comes_178)
        ·
          have er_4 : ro 118 (hoI s c) = ro 118 (hoJ s c 0) := by exact hoJ_0 s c
          rw [er_4] at hP hD
          refine lv_iconst (v := nI 0) hx hb dX6_comes_30 (by decide +kernel) ?_
          refine lv_istore (lv' := [(5, .int (nI 0)), (0, .ref m0), (1, .int (nI q)), (2, .int (nI j)), (3, .int (nI x)), (4, .int (nI c))]) hx hb dX6_comes_31 hl (by decide) rfl (fun ls hl => ?_)
          have L33 : ∀ (fuel : Nat) (i : Nat) (H : Heap) (locs : List Loc) (ls : Array Slot), (i ≤ 4) → (4 - i < fuel) → va_P D vwCl [(m0, .inr (6, [.ref m1, .ref m2, .ref m3, .int (nI k), .ref m4, .int (nI n), .int (nI th), .int (nI ax), .int (nI fa), .int (nI vl), .ref m5, .int (nI tn), .int (nI hg), .int (nI bg)])), (m1, .inl (cI, 118, .inl (ro 118 (hoJ s c i))))] H → va_D A9 [(m0, .inr (6, [.ref m1, .ref m2, .ref m3, .int (nI k), .ref m4, .int (nI n), .int (nI th), .int (nI ax), .int (nI fa), .int (nI vl), .ref m5, .int (nI tn), .int (nI hg), .int (nI bg)])), (m1, .inl (cI, 118, .inl (ro 118 (hoJ s c i))))] → va_S A9 s9.heap H locs → lv_has ls 6 [(0, .ref m0), (1, .int (nI q)), (2, .int (nI j)), (3, .int (nI x)), (4, .int (nI c)), (5, .int (nI i))] → W p9 l e9 ({ frames := 1, cells := 0, slots := 0, locals := 22 } : Room) s9 m9 ar9 be9 me9 c9 H locs 0 0 Q9 (F0 m9 33 ls []) := by
            intro fuel
            induction fuel with
            | zero => intro i H locs ls hi hfu; exact absurd hfu (Nat.not_lt_zero _)
            | succ fuel ih33 =>
              intro i H locs ls hi hfu hP hD hS hl
              refine lv_iload hx hb dX6_comes_33 (lv_at hl 5 rfl) ?_
              refine lv_iconst (v := nI 4) hx hb dX6_comes_35 (by decide +kernel) ?_
              refine q_ige (tgt := 77) (by omega) (by omega) hx hb dX6_comes_36 (by decide) (fun c_36 => ?_) (fun c_36 => ?_)
              ·
                have er_5 : ro 118 (hoJ s c i) = ro 118 (hoI s (c - 1)) := by exact hoJ_4 (by omega) hc (by omega)
                rw [er_5] at hP hD
                refine lv_iinc (v := (nI (c - 1))) (lv' := [(4, .int (nI (c - 1))), (0, .ref m0), (1, .int (nI q)), (2, .int (nI j)), (3, .int (nI x)), (5, .int (nI i))]) hx hb dX6_comes_77 hl (k := 4) rfl (sb_m1 (by omega)) (by decide) rfl (fun ls hl => ?_)
                refine lv_goto (tgt := 9) hx hb dX6_comes_80 (by decide) ?_
                exact ih9  (c - 1) _ _ ls (by first | with_reducible assumption | omega) (by rw [hp]; exact insP_go (by omega) (by omega)) (by omega) hP hD hS (lv_sub hl [1, 2, 3, 4, 0] rfl)
              ·
                refine lv_aload_n hx hb dX6_comes_39 rfl (lv_at hl 0 rfl) ?_
                refine va_get (D := D) (ci := 6) (v := .ref m1) (C := RX6) (T := TX6) (N := 14) hx hb hts in_X6_comes_X6 hown hK hP 0 rfl rfl 0 (by decide) (hts _ fl_X6_comes_7) (fun _ h9 => h9) rfl dX6_comes_40 ?_
                refine lv_bipush (v := nI 54) hx hb dX6_comes_43 (by decide +kernel) ?_
                refine lv_iconst (v := nI 4) hx hb dX6_comes_45 (by decide +kernel) ?_
                refine lv_iload hx hb dX6_comes_46 (lv_at hl 4 rfl) ?_
                refine q_imul hx hb dX6_comes_48 ?_
                refine q_iadd hx hb dX6_comes_49 ?_
                refine lv_iload hx hb dX6_comes_50 (lv_at hl 5 rfl) ?_
                refine q_iadd hx hb dX6_comes_52 ?_
                refine lv_aload_n hx hb dX6_comes_53 rfl (lv_at hl 0 rfl) ?_
                refine va_get (D := D) (ci := 6) (v := .ref m1) (C := RX6) (T := TX6) (N := 14) hx hb hts in_X6_comes_X6 hown hK hP 0 rfl rfl 0 (by decide) (hts _ fl_X6_comes_7) (fun _ h9 => h9) rfl dX6_comes_54 ?_
                refine lv_bipush (v := nI 54) hx hb dX6_comes_57 (by decide +kernel) ?_
                refine lv_iconst (v := nI 4) hx hb dX6_comes_59 (by decide +kernel) ?_
                refine lv_iload hx hb dX6_comes_60 (lv_at hl 4 rfl) ?_
                refine q_imul hx hb dX6_comes_62 ?_
                refine q_iadd hx hb dX6_comes_63 ?_
                refine lv_iconst (v := nI 4) hx hb dX6_comes_64 (by decide +kernel) ?_
                refine q_isub (by omega) hx hb dX6_comes_65 ?_
                refine lv_iload hx hb dX6_comes_66 (lv_at hl 5 rfl) ?_
                refine q_iadd hx hb dX6_comes_68 ?_
                refine q_iald 1 0 (by omega) (by omega) hx hb hK hP rfl rfl dX6_comes_69 ?_
                refine q_iast 1 0 (by omega) (by omega) hx hb hK hP hD hS rfl rfl dX6_comes_70 (fun H locs hP hD hS => ?_)
                have hP : va_P D vwCl [(m0, .inr (6, [.ref m1, .ref m2, .ref m3, .int (nI k), .ref m4, .int (nI n), .int (nI th), .int (nI ax), .int (nI fa), .int (nI vl), .ref m5, .int (nI tn), .int (nI hg), .int (nI bg)])), (m1, .inl (cI, 118, .inl (ro 118 (upN (hoJ s c i) ((54 + (4 * c)) + i) ((hoJ s c i) (((54 + (4 * c)) - 4) + i))))))] H := hP
                have hD : va_D A9 [(m0, .inr (6, [.ref m1, .ref m2, .ref m3, .int (nI k), .ref m4, .int (nI n), .int (nI th), .int (nI ax), .int (nI fa), .int (nI vl), .ref m5, .int (nI tn), .int (nI hg), .int (nI bg)])), (m1, .inl (cI, 118, .inl (ro 118 (upN (hoJ s c i) ((54 + (4 * c)) + i) ((hoJ s c i) (((54 + (4 * c)) - 4) + i))))))] := hD
                have er_6 : ro 118 (upN (hoJ s c i) ((54 + (4 * c)) + i) ((hoJ s c i) (((54 + (4 * c)) - 4) + i))) = ro 118 (hoJ s c (i + 1)) := by exact hoJ_s (by omega) (by omega)
                rw [er_6] at hP hD
                refine lv_iinc (v := (nI (i + 1))) (lv' := [(5, .int (nI (i + 1))), (0, .ref m0), (1, .int (nI q)), (2, .int (nI j)), (3, .int (nI x)), (4, .int (nI c))]) hx hb dX6_comes_71 hl (k := 5) rfl (nI_add i 1) (by decide) rfl (fun ls hl => ?_)
                refine lv_goto (tgt := 33) hx hb dX6_comes_74 (by decide) ?_
                exact ih33  (i + 1) _ _ ls (by first | with_reducible assumption | omega) (by omega) hP hD hS (lv_sub hl [1, 2, 3, 4, 5, 0] rfl)
          exact L33 (4 - 0 + 1) 0 _ _ ls (by first | with_reducible assumption | omega) (by omega) hP hD hS (lv_sub hl [1, 2, 3, 4, 5, 0] rfl)
  exact L9 ((s 8) + 1) (s 8) _ _ ls (by first | with_reducible assumption | omega) (by rfl) (by omega) hP hD hS (lv_sub hl [1, 2, 3, 4, 0] rfl)

theorem in_X6_ofJet_X6 : ∀ w ∈ wsX60, w ∈ wsX6_ofJet := by decide +kernel
theorem fl_X6_ofJet_7 : Cond.fieldLink RX6 7 "FountainCuesModel" "now" "[I" ∈ wsX6_ofJet := by decide +kernel
set_option maxHeartbeats 4000000 in
set_option maxRecDepth 100000 in
theorem k_X6_ofJet (l : Launch) (D : va_G) (cI cS cL : ClassId) (T : Nat) (m0 : Nat) (m1 : Nat) (m2 : Nat) (m3 : Nat) (m4 : Nat) (m5 : Nat) (k : Nat) (n : Nat) (th : Nat) (ax : Nat) (fa : Nat) (vl : Nat) (tn : Nat) (hg : Nat) (bg : Nat) (s : Nat → Nat) (j : Nat) (y : Nat) (hI : sI T s) (hT : T ≤ 1001000) (hj : j < 8) (hy2 : y ≤ 7) : KM l D (TY cI cS cL) yX6_ofJet wsX6_ofJet ({ frames := 5, cells := 0, slots := 0, locals := 112 } : Room) [(m0, .inr (6, [.ref m1, .ref m2, .ref m3, .int (nI k), .ref m4, .int (nI n), .int (nI th), .int (nI ax), .int (nI fa), .int (nI vl), .ref m5, .int (nI tn), .int (nI hg), .int (nI bg)])), (m1, .inl (cI, 118, .inl (ro 118 s)))] [.ref m0, .int (nI j), .int (nI y)] (fun (v : Option Value) (_ : Unit) => v = some (.int (nI (jetS s j y)))) (fun _ : Unit => [(m0, .inr (6, [.ref m1, .ref m2, .ref m3, .int (nI k), .ref m4, .int (nI n), .int (nI th), .int (nI ax), .int (nI fa), .int (nI vl), .ref m5, .int (nI tn), .int (nI hg), .int (nI bg)])), (m1, .inl (cI, 118, .inl (ro 118 s)))]) := by
  refine KM.of (cc := cX6_ofJet) (maxL := 3) (ret := (some .int)) (by decide) rfl (Nat.le_of_ble_eq_true rfl) ?_
  intro p9 e9 s9 m9 ar9 be9 me9 c9 Q9 A9 ls C0 hN hnm hlk hK hA hret hP hD hS hl
  obtain ⟨hx, hb, hml, hown, hts⟩ := id C0
  have hl : lv_has ls 3 [(0, .ref m0), (1, .int (nI j)), (2, .int (nI y))] := hl
  obtain ⟨H, hH0⟩ : ∃ H, H = s9.heap := ⟨_, rfl⟩
  obtain ⟨locs, hlc0⟩ : ∃ z : List Loc, z = [] := ⟨_, rfl⟩
  have hP : va_P D vwCl [(m0, .inr (6, [.ref m1, .ref m2, .ref m3, .int (nI k), .ref m4, .int (nI n), .int (nI th), .int (nI ax), .int (nI fa), .int (nI vl), .ref m5, .int (nI tn), .int (nI hg), .int (nI bg)])), (m1, .inl (cI, 118, .inl (ro 118 s)))] H := by rw [hH0]; exact hP
  have hD : va_D A9 [(m0, .inr (6, [.ref m1, .ref m2, .ref m3, .int (nI k), .ref m4, .int (nI n), .int (nI th), .int (nI ax), .int (nI fa), .int (nI vl), .ref m5, .int (nI tn), .int (nI hg), .int (nI bg)])), (m1, .inl (cI, 118, .inl (ro 118 s)))] := hD
  have hS : va_S A9 s9.heap H locs := by rw [hH0, hlc0]; exact hS
  suffices hgo : W p9 l e9 ({ frames := 5, cells := 0, slots := 0, locals := 112 } : Room) s9 m9 ar9 be9 me9 c9 H locs 0 0 Q9 (F0 m9 0 ls []) by rw [hH0, hlc0] at hgo; exact hgo
  clear hH0 hlc0
  obtain ⟨hI1, hI2, hI3, hI4, hI5, hI6, hI7, hI8, hI9, hI10, hI11⟩ := id hI
  refine lv_iload_n hx hb dX6_ofJet_0 rfl (lv_at hl 2 rfl) ?_
  refine lv_iconst (v := nI 4) hx hb dX6_ofJet_1 (by decide +kernel) ?_
  refine q_ige (tgt := 17) (by omega) (by omega) hx hb dX6_ofJet_2 (by decide) (fun c_2 => ?_) (fun c_2 => ?_)
  ·
    refine lv_iload_n hx hb dX6_ofJet_17 rfl (lv_at hl 2 rfl) ?_
    refine lv_iconst (v := nI 4) hx hb dX6_ofJet_18 (by decide +kernel) ?_
    refine q_ine (tgt := 33) (by omega) (by omega) hx hb dX6_ofJet_19 (by decide) (fun c_19 => ?_) (fun c_19 => ?_)
    ·
      refine lv_iload_n hx hb dX6_ofJet_33 rfl (lv_at hl 2 rfl) ?_
      refine lv_iconst (v := nI 5) hx hb dX6_ofJet_34 (by decide +kernel) ?_
      refine q_ine (tgt := 49) (by omega) (by omega) hx hb dX6_ofJet_35 (by decide) (fun c_35 => ?_) (fun c_35 => ?_)
      ·
        refine lv_iload_n hx hb dX6_ofJet_49 rfl (lv_at hl 2 rfl) ?_
        refine lv_bipush (v := nI 6) hx hb dX6_ofJet_50 (by decide +kernel) ?_
        refine q_ine (tgt := 66) (by omega) (by omega) hx hb dX6_ofJet_52 (by decide) (fun c_52 => ?_) (fun c_52 => ?_)
        ·
          refine lv_aload_n hx hb dX6_ofJet_66 rfl (lv_at hl 0 rfl) ?_
          refine va_get (D := D) (ci := 6) (v := .ref m1) (C := RX6) (T := TX6) (N := 14) hx hb hts in_X6_ofJet_X6 hown hK hP 0 rfl rfl 0 (by decide) (hts _ fl_X6_ofJet_7) (fun _ h9 => h9) rfl dX6_ofJet_67 ?_
          refine lv_iload_n hx hb dX6_ofJet_70 rfl (lv_at hl 1 rfl) ?_
          refine lv_iconst (v := nI 4) hx hb dX6_ofJet_71 (by decide +kernel) ?_
          refine KM.callS (As := [.ref m1, .int (nI j), .int (nI 4)]) (rest := []) C0 hN (k_X6_of_4 l D cI cS cL m1 s j  (by first | with_reducible assumption | omega)) (va_cwS 3 hts gX6_ofJet_X6_of rfl rfl rfl (by decide +kernel) ⟨Nat.le_of_ble_eq_true rfl, Nat.le_of_ble_eq_true rfl⟩) hK hP hD hS hA [1] rfl (by decide) (fun _ => rfl) rfl hl.1 rfl (Nat.le_of_ble_eq_true rfl) dX6_ofJet_72 ⟨Nat.le_of_ble_eq_true rfl, Nat.le_of_ble_eq_true rfl⟩ (fun v9 u9 H locs hv hP hD hS => ?_)
          subst hv
          have hP : va_P D vwCl [(m0, .inr (6, [.ref m1, .ref m2, .ref m3, .int (nI k), .ref m4, .int (nI n), .int (nI th), .int (nI ax), .int (nI fa), .int (nI vl), .ref m5, .int (nI tn), .int (nI hg), .int (nI bg)])), (m1, .inl (cI, 118, .inl (ro 118 s)))] H := hP
          have hD : va_D A9 [(m0, .inr (6, [.ref m1, .ref m2, .ref m3, .int (nI k), .ref m4, .int (nI n), .int (nI th), .int (nI ax), .int (nI fa), .int (nI vl), .ref m5, .int (nI tn), .int (nI hg), .int (nI bg)])), (m1, .inl (cI, 118, .inl (ro 118 s)))] := hD
          refine W.eq (g2 := F0 m9 75 ls [.int (nI (buF s j))]) rfl ?_
          exact hret _ _ _ _ (some (.int (nI (buF s j)))) () 75 ls (by decide) (by decide) (by exact rv (by unfold jetS; (repeat' split) <;> first | rfl | (show s _ = s _; congr 1; omega) | (exfalso; omega))) hP hD hS (ret_i dX6_ofJet_75)
        ·
          refine lv_aload_n hx hb dX6_ofJet_55 rfl (lv_at hl 0 rfl) ?_
          refine va_get (D := D) (ci := 6) (v := .ref m1) (C := RX6) (T := TX6) (N := 14) hx hb hts in_X6_ofJet_X6 hown hK hP 0 rfl rfl 0 (by decide) (hts _ fl_X6_ofJet_7) (fun _ h9 => h9) rfl dX6_ofJet_56 ?_
          refine lv_iload_n hx hb dX6_ofJet_59 rfl (lv_at hl 1 rfl) ?_
          refine KM.callS (As := [.ref m1, .int (nI j)]) (rest := []) C0 hN (k_X6_height l D cI cS cL m1 s j  (by exact hI1) (by first | with_reducible assumption | omega)) (va_cwS 2 hts gX6_ofJet_X6_height rfl rfl rfl (by decide +kernel) ⟨Nat.le_of_ble_eq_true rfl, Nat.le_of_ble_eq_true rfl⟩) hK hP hD hS hA [1] rfl (by decide) (fun _ => rfl) rfl hl.1 rfl (Nat.le_of_ble_eq_true rfl) dX6_ofJet_60 ⟨Nat.le_of_ble_eq_true rfl, Nat.le_of_ble_eq_true rfl⟩ (fun v9 u9 H locs hv hP hD hS => ?_)
          subst hv
          have hP : va_P D vwCl [(m0, .inr (6, [.ref m1, .ref m2, .ref m3, .int (nI k), .ref m4, .int (nI n), .int (nI th), .int (nI ax), .int (nI fa), .int (nI vl), .ref m5, .int (nI tn), .int (nI hg), .int (nI bg)])), (m1, .inl (cI, 118, .inl (ro 118 s)))] H := hP
          have hD : va_D A9 [(m0, .inr (6, [.ref m1, .ref m2, .ref m3, .int (nI k), .ref m4, .int (nI n), .int (nI th), .int (nI ax), .int (nI fa), .int (nI vl), .ref m5, .int (nI tn), .int (nI hg), .int (nI bg)])), (m1, .inl (cI, 118, .inl (ro 118 s)))] := hD
          refine W.eq (g2 := F0 m9 63 ls [.int (nI (heS s j))]) rfl ?_
          refine lv_goto (tgt := 75) hx hb dX6_ofJet_63 (by decide) ?_
          exact hret _ _ _ _ (some (.int (nI (heS s j)))) () 75 ls (by decide) (by decide) (by exact rv (by unfold jetS; (repeat' split) <;> first | rfl | (show s _ = s _; congr 1; omega) | (exfalso; omega))) hP hD hS (ret_i dX6_ofJet_75)
      ·
        refine lv_aload_n hx hb dX6_ofJet_38 rfl (lv_at hl 0 rfl) ?_
        refine va_get (D := D) (ci := 6) (v := .ref m1) (C := RX6) (T := TX6) (N := 14) hx hb hts in_X6_ofJet_X6 hown hK hP 0 rfl rfl 0 (by decide) (hts _ fl_X6_ofJet_7) (fun _ h9 => h9) rfl dX6_ofJet_39 ?_
        refine lv_iload_n hx hb dX6_ofJet_42 rfl (lv_at hl 1 rfl) ?_
        refine KM.callS (As := [.ref m1, .int (nI j)]) (rest := []) C0 hN (k_X6_gets l D cI cS cL m1 s j  (by exact hI1) (by first | with_reducible assumption | omega)) (va_cwS 2 hts gX6_ofJet_X6_gets rfl rfl rfl (by decide +kernel) ⟨Nat.le_of_ble_eq_true rfl, Nat.le_of_ble_eq_true rfl⟩) hK hP hD hS hA [1] rfl (by decide) (fun _ => rfl) rfl hl.1 rfl (Nat.le_of_ble_eq_true rfl) dX6_ofJet_43 ⟨Nat.le_of_ble_eq_true rfl, Nat.le_of_ble_eq_true rfl⟩ (fun v9 u9 H locs hv hP hD hS => ?_)
        subst hv
        have hP : va_P D vwCl [(m0, .inr (6, [.ref m1, .ref m2, .ref m3, .int (nI k), .ref m4, .int (nI n), .int (nI th), .int (nI ax), .int (nI fa), .int (nI vl), .ref m5, .int (nI tn), .int (nI hg), .int (nI bg)])), (m1, .inl (cI, 118, .inl (ro 118 s)))] H := hP
        have hD : va_D A9 [(m0, .inr (6, [.ref m1, .ref m2, .ref m3, .int (nI k), .ref m4, .int (nI n), .int (nI th), .int (nI ax), .int (nI fa), .int (nI vl), .ref m5, .int (nI tn), .int (nI hg), .int (nI bg)])), (m1, .inl (cI, 118, .inl (ro 118 s)))] := hD
        refine W.eq (g2 := F0 m9 46 ls [.int (nI (gS s j))]) rfl ?_
        refine lv_goto (tgt := 75) hx hb dX6_ofJet_46 (by decide) ?_
        exact hret _ _ _ _ (some (.int (nI (gS s j)))) () 75 ls (by decide) (by decide) (by exact rv (by unfold jetS; (repeat' split) <;> first | rfl | (show s _ = s _; congr 1; omega) | (exfalso; omega))) hP hD hS (ret_i dX6_ofJet_75)
    ·
      refine lv_aload_n hx hb dX6_ofJet_22 rfl (lv_at hl 0 rfl) ?_
      refine va_get (D := D) (ci := 6) (v := .ref m1) (C := RX6) (T := TX6) (N := 14) hx hb hts in_X6_ofJet_X6 hown hK hP 0 rfl rfl 0 (by decide) (hts _ fl_X6_ofJet_7) (fun _ h9 => h9) rfl dX6_ofJet_23 ?_
      refine lv_iload_n hx hb dX6_ofJet_26 rfl (lv_at hl 1 rfl) ?_
      refine KM.callS (As := [.ref m1, .int (nI j)]) (rest := []) C0 hN (k_X6_asks l D cI cS cL m1 s j  (by first | with_reducible assumption | omega)) (va_cwS 2 hts gX6_ofJet_X6_asks rfl rfl rfl (by decide +kernel) ⟨Nat.le_of_ble_eq_true rfl, Nat.le_of_ble_eq_true rfl⟩) hK hP hD hS hA [1] rfl (by decide) (fun _ => rfl) rfl hl.1 rfl (Nat.le_of_ble_eq_true rfl) dX6_ofJet_27 ⟨Nat.le_of_ble_eq_true rfl, Nat.le_of_ble_eq_true rfl⟩ (fun v9 u9 H locs hv hP hD hS => ?_)
      subst hv
      have hP : va_P D vwCl [(m0, .inr (6, [.ref m1, .ref m2, .ref m3, .int (nI k), .ref m4, .int (nI n), .int (nI th), .int (nI ax), .int (nI fa), .int (nI vl), .ref m5, .int (nI tn), .int (nI hg), .int (nI bg)])), (m1, .inl (cI, 118, .inl (ro 118 s)))] H := hP
      have hD : va_D A9 [(m0, .inr (6, [.ref m1, .ref m2, .ref m3, .int (nI k), .ref m4, .int (nI n), .int (nI th), .int (nI ax), .int (nI fa), .int (nI vl), .ref m5, .int (nI tn), .int (nI hg), .int (nI bg)])), (m1, .inl (cI, 118, .inl (ro 118 s)))] := hD
      refine W.eq (g2 := F0 m9 30 ls [.int (nI (szF s j * vaF s j))]) rfl ?_
      refine lv_goto (tgt := 75) hx hb dX6_ofJet_30 (by decide) ?_
      exact hret _ _ _ _ (some (.int (nI (szF s j * vaF s j)))) () 75 ls (by decide) (by decide) (by exact rv (by unfold jetS; (repeat' split) <;> first | rfl | (show s _ = s _; congr 1; omega) | (exfalso; omega))) hP hD hS (ret_i dX6_ofJet_75)
  ·
    refine lv_aload_n hx hb dX6_ofJet_5 rfl (lv_at hl 0 rfl) ?_
    refine va_get (D := D) (ci := 6) (v := .ref m1) (C := RX6) (T := TX6) (N := 14) hx hb hts in_X6_ofJet_X6 hown hK hP 0 rfl rfl 0 (by decide) (hts _ fl_X6_ofJet_7) (fun _ h9 => h9) rfl dX6_ofJet_6 ?_
    refine lv_iload_n hx hb dX6_ofJet_9 rfl (lv_at hl 1 rfl) ?_
    refine lv_iload_n hx hb dX6_ofJet_10 rfl (lv_at hl 2 rfl) ?_
    refine KM.callS (As := [.ref m1, .int (nI j), .int (nI y)]) (rest := []) C0 hN (k_X6_of_v l D cI cS cL m1 s j y  (by first | with_reducible assumption | omega) (by first | with_reducible assumption | omega)) (va_cwS 3 hts gX6_ofJet_X6_of rfl rfl rfl (by decide +kernel) ⟨Nat.le_of_ble_eq_true rfl, Nat.le_of_ble_eq_true rfl⟩) hK hP hD hS hA [1] rfl (by decide) (fun _ => rfl) rfl hl.1 rfl (Nat.le_of_ble_eq_true rfl) dX6_ofJet_11 ⟨Nat.le_of_ble_eq_true rfl, Nat.le_of_ble_eq_true rfl⟩ (fun v9 u9 H locs hv hP hD hS => ?_)
    subst hv
    have hP : va_P D vwCl [(m0, .inr (6, [.ref m1, .ref m2, .ref m3, .int (nI k), .ref m4, .int (nI n), .int (nI th), .int (nI ax), .int (nI fa), .int (nI vl), .ref m5, .int (nI tn), .int (nI hg), .int (nI bg)])), (m1, .inl (cI, 118, .inl (ro 118 s)))] H := hP
    have hD : va_D A9 [(m0, .inr (6, [.ref m1, .ref m2, .ref m3, .int (nI k), .ref m4, .int (nI n), .int (nI th), .int (nI ax), .int (nI fa), .int (nI vl), .ref m5, .int (nI tn), .int (nI hg), .int (nI bg)])), (m1, .inl (cI, 118, .inl (ro 118 s)))] := hD
    refine W.eq (g2 := F0 m9 14 ls [.int (nI (s (14 + 5 * j + y)))]) rfl ?_
    refine lv_goto (tgt := 75) hx hb dX6_ofJet_14 (by decide) ?_
    exact hret _ _ _ _ (some (.int (nI (s (14 + 5 * j + y))))) () 75 ls (by decide) (by decide) (by exact rv (by unfold jetS; (repeat' split) <;> first | rfl | (show s _ = s _; congr 1; omega) | (exfalso; omega))) hP hD hS (ret_i dX6_ofJet_75)

theorem in_X6_ofPump_X6 : ∀ w ∈ wsX60, w ∈ wsX6_ofPump := by decide +kernel
theorem fl_X6_ofPump_7 : Cond.fieldLink RX6 7 "FountainCuesModel" "now" "[I" ∈ wsX6_ofPump := by decide +kernel
set_option maxHeartbeats 4000000 in
set_option maxRecDepth 100000 in
theorem k_X6_ofPump (l : Launch) (D : va_G) (cI cS cL : ClassId) (T : Nat) (m0 : Nat) (m1 : Nat) (m2 : Nat) (m3 : Nat) (m4 : Nat) (m5 : Nat) (k : Nat) (n : Nat) (th : Nat) (ax : Nat) (fa : Nat) (vl : Nat) (tn : Nat) (hg : Nat) (bg : Nat) (s : Nat → Nat) (j : Nat) (y : Nat) (hI : sI T s) (hT : T ≤ 1001000) (hj : j < 2) (hy2 : y ≤ 2) : KM l D (TY cI cS cL) yX6_ofPump wsX6_ofPump ({ frames := 4, cells := 0, slots := 0, locals := 91 } : Room) [(m0, .inr (6, [.ref m1, .ref m2, .ref m3, .int (nI k), .ref m4, .int (nI n), .int (nI th), .int (nI ax), .int (nI fa), .int (nI vl), .ref m5, .int (nI tn), .int (nI hg), .int (nI bg)])), (m1, .inl (cI, 118, .inl (ro 118 s)))] [.ref m0, .int (nI j), .int (nI y)] (fun (v : Option Value) (_ : Unit) => v = some (.int (nI (pmpS s j y)))) (fun _ : Unit => [(m0, .inr (6, [.ref m1, .ref m2, .ref m3, .int (nI k), .ref m4, .int (nI n), .int (nI th), .int (nI ax), .int (nI fa), .int (nI vl), .ref m5, .int (nI tn), .int (nI hg), .int (nI bg)])), (m1, .inl (cI, 118, .inl (ro 118 s)))]) := by
  refine KM.of (cc := cX6_ofPump) (maxL := 5) (ret := (some .int)) (by decide) rfl (Nat.le_of_ble_eq_true rfl) ?_
  intro p9 e9 s9 m9 ar9 be9 me9 c9 Q9 A9 ls C0 hN hnm hlk hK hA hret hP hD hS hl
  obtain ⟨hx, hb, hml, hown, hts⟩ := id C0
  have hl : lv_has ls 5 [(0, .ref m0), (1, .int (nI j)), (2, .int (nI y))] := hl
  obtain ⟨H, hH0⟩ : ∃ H, H = s9.heap := ⟨_, rfl⟩
  obtain ⟨locs, hlc0⟩ : ∃ z : List Loc, z = [] := ⟨_, rfl⟩
  have hP : va_P D vwCl [(m0, .inr (6, [.ref m1, .ref m2, .ref m3, .int (nI k), .ref m4, .int (nI n), .int (nI th), .int (nI ax), .int (nI fa), .int (nI vl), .ref m5, .int (nI tn), .int (nI hg), .int (nI bg)])), (m1, .inl (cI, 118, .inl (ro 118 s)))] H := by rw [hH0]; exact hP
  have hD : va_D A9 [(m0, .inr (6, [.ref m1, .ref m2, .ref m3, .int (nI k), .ref m4, .int (nI n), .int (nI th), .int (nI ax), .int (nI fa), .int (nI vl), .ref m5, .int (nI tn), .int (nI hg), .int (nI bg)])), (m1, .inl (cI, 118, .inl (ro 118 s)))] := hD
  have hS : va_S A9 s9.heap H locs := by rw [hH0, hlc0]; exact hS
  suffices hgo : W p9 l e9 ({ frames := 4, cells := 0, slots := 0, locals := 91 } : Room) s9 m9 ar9 be9 me9 c9 H locs 0 0 Q9 (F0 m9 0 ls []) by rw [hH0, hlc0] at hgo; exact hgo
  clear hH0 hlc0
  obtain ⟨hI1, hI2, hI3, hI4, hI5, hI6, hI7, hI8, hI9, hI10, hI11⟩ := id hI
  refine lv_iconst (v := nI 0) hx hb dX6_ofPump_0 (by decide +kernel) ?_
  refine lv_istore_n (lv' := [(3, .int (nI 0)), (0, .ref m0), (1, .int (nI j)), (2, .int (nI y))]) hx hb dX6_ofPump_1 rfl hl (by decide) rfl (fun ls hl => ?_)
  refine lv_iconst (v := nI 4) hx hb dX6_ofPump_2 (by decide +kernel) ?_
  refine lv_iload_n hx hb dX6_ofPump_3 rfl (lv_at hl 2 rfl) ?_
  refine q_imul hx hb dX6_ofPump_4 ?_
  refine lv_istore (lv' := [(4, .int (nI (4 * j))), (3, .int (nI 0)), (0, .ref m0), (1, .int (nI j)), (2, .int (nI y))]) hx hb dX6_ofPump_5 hl (by decide) rfl (fun ls hl => ?_)
  have L7 : ∀ (fuel : Nat) (i : Nat) (u : Nat) (H : Heap) (locs : List Loc) (ls : Array Slot), (j * 4 ≤ i) → (i ≤ j * 4 + 4) → (u = sumTo (fun i => gS s (j * 4 + i)) (i - j * 4)) → (j * 4 + 4 - i < fuel) → va_P D vwCl [(m0, .inr (6, [.ref m1, .ref m2, .ref m3, .int (nI k), .ref m4, .int (nI n), .int (nI th), .int (nI ax), .int (nI fa), .int (nI vl), .ref m5, .int (nI tn), .int (nI hg), .int (nI bg)])), (m1, .inl (cI, 118, .inl (ro 118 s)))] H → va_D A9 [(m0, .inr (6, [.ref m1, .ref m2, .ref m3, .int (nI k), .ref m4, .int (nI n), .int (nI th), .int (nI ax), .int (nI fa), .int (nI vl), .ref m5, .int (nI tn), .int (nI hg), .int (nI bg)])), (m1, .inl (cI, 118, .inl (ro 118 s)))] → va_S A9 s9.heap H locs → lv_has ls 5 [(0, .ref m0), (1, .int (nI j)), (2, .int (nI y)), (3, .int (nI u)), (4, .int (nI i))] → W p9 l e9 ({ frames := 4, cells := 0, slots := 0, locals := 91 } : Room) s9 m9 ar9 be9 me9 c9 H locs 0 0 Q9 (F0 m9 7 ls []) := by
    intro fuel
    induction fuel with
    | zero => intro i u H locs ls hi1 hi2 hu hfu; exact absurd hfu (Nat.not_lt_zero _)
    | succ fuel ih7 =>
      intro i u H locs ls hi1 hi2 hu hfu hP hD hS hl
      refine lv_iload hx hb dX6_ofPump_7 (lv_at hl 4 rfl) ?_
      refine lv_iconst (v := nI 4) hx hb dX6_ofPump_9 (by decide +kernel) ?_
      refine lv_iload_n hx hb dX6_ofPump_10 rfl (lv_at hl 1 rfl) ?_
      refine q_imul hx hb dX6_ofPump_11 ?_
      refine lv_iconst (v := nI 4) hx hb dX6_ofPump_12 (by decide +kernel) ?_
      refine q_iadd hx hb dX6_ofPump_13 ?_
      refine q_ige (tgt := 35) (by omega) (by omega) hx hb dX6_ofPump_14 (by decide) (fun c_14 => ?_) (fun c_14 => ?_)
      ·
        refine lv_iload_n hx hb dX6_ofPump_35 rfl (lv_at hl 2 rfl) ?_
        refine q_fne (tgt := 50) (by omega) hx hb dX6_ofPump_36 (by decide) (fun c_36 => ?_) (fun c_36 => ?_)
        ·
          refine lv_iload_n hx hb dX6_ofPump_50 rfl (lv_at hl 2 rfl) ?_
          refine lv_iconst (v := nI 1) hx hb dX6_ofPump_51 (by decide +kernel) ?_
          refine q_ine (tgt := 66) (by omega) (by omega) hx hb dX6_ofPump_52 (by decide) (fun c_52 => ?_) (fun c_52 => ?_)
          ·
            refine lv_iload_n hx hb dX6_ofPump_66 rfl (lv_at hl 3 rfl) ?_
            exact hret _ _ _ _ (some (.int (nI u))) () 67 ls (by decide) (by decide) (by exact rv (by unfold pmpS; (repeat' split) <;> first | rfl | (exfalso; omega) | (rw [hu, show i - j * 4 = 4 by omega]; exact sumTo_cg 4 fun i hi => by (unfold gS fGets; rw [show (j * 4 + i) / 4 = j by omega])))) hP hD hS (ret_i dX6_ofPump_67)
          ·
            refine lv_aload_n hx hb dX6_ofPump_55 rfl (lv_at hl 0 rfl) ?_
            refine va_get (D := D) (ci := 6) (v := .ref m1) (C := RX6) (T := TX6) (N := 14) hx hb hts in_X6_ofPump_X6 hown hK hP 0 rfl rfl 0 (by decide) (hts _ fl_X6_ofPump_7) (fun _ h9 => h9) rfl dX6_ofPump_56 ?_
            refine lv_iload_n hx hb dX6_ofPump_59 rfl (lv_at hl 1 rfl) ?_
            refine KM.callS (As := [.ref m1, .int (nI j)]) (rest := []) C0 hN (k_X6_pumpAsks l D cI cS cL m1 s j  (by first | with_reducible assumption | omega)) (va_cwS 2 hts gX6_ofPump_X6_pumpAsks rfl rfl rfl (by decide +kernel) ⟨Nat.le_of_ble_eq_true rfl, Nat.le_of_ble_eq_true rfl⟩) hK hP hD hS hA [1] rfl (by decide) (fun _ => rfl) rfl hl.1 rfl (Nat.le_of_ble_eq_true rfl) dX6_ofPump_60 ⟨Nat.le_of_ble_eq_true rfl, Nat.le_of_ble_eq_true rfl⟩ (fun v9 u9 H locs hv hP hD hS => ?_)
            subst hv
            have hP : va_P D vwCl [(m0, .inr (6, [.ref m1, .ref m2, .ref m3, .int (nI k), .ref m4, .int (nI n), .int (nI th), .int (nI ax), .int (nI fa), .int (nI vl), .ref m5, .int (nI tn), .int (nI hg), .int (nI bg)])), (m1, .inl (cI, 118, .inl (ro 118 s)))] H := hP
            have hD : va_D A9 [(m0, .inr (6, [.ref m1, .ref m2, .ref m3, .int (nI k), .ref m4, .int (nI n), .int (nI th), .int (nI ax), .int (nI fa), .int (nI vl), .ref m5, .int (nI tn), .int (nI hg), .int (nI bg)])), (m1, .inl (cI, 118, .inl (ro 118 s)))] := hD
            refine W.eq (g2 := F0 m9 63 ls [.int (nI (pA (szF s) (vaF s) j))]) rfl ?_
            refine lv_goto (tgt := 67) hx hb dX6_ofPump_63 (by decide) ?_
            exact hret _ _ _ _ (some (.int (nI (pA (szF s) (vaF s) j)))) () 67 ls (by decide) (by decide) (by exact rv (by unfold pmpS; (repeat' split) <;> first | rfl | (exfalso; omega) | (rw [hu, show i - j * 4 = 4 by omega]; exact sumTo_cg 4 fun i hi => by (unfold gS fGets; rw [show (j * 4 + i) / 4 = j by omega])))) hP hD hS (ret_i dX6_ofPump_67)
        ·
          refine lv_aload_n hx hb dX6_ofPump_39 rfl (lv_at hl 0 rfl) ?_
          refine va_get (D := D) (ci := 6) (v := .ref m1) (C := RX6) (T := TX6) (N := 14) hx hb hts in_X6_ofPump_X6 hown hK hP 0 rfl rfl 0 (by decide) (hts _ fl_X6_ofPump_7) (fun _ h9 => h9) rfl dX6_ofPump_40 ?_
          refine lv_iconst (v := nI 3) hx hb dX6_ofPump_43 (by decide +kernel) ?_
          refine lv_iload_n hx hb dX6_ofPump_44 rfl (lv_at hl 1 rfl) ?_
          refine q_iadd hx hb dX6_ofPump_45 ?_
          refine q_iald 1 0 (by omega) (by omega) hx hb hK hP rfl rfl dX6_ofPump_46 ?_
          refine lv_goto (tgt := 67) hx hb dX6_ofPump_47 (by decide) ?_
          exact hret _ _ _ _ (some (.int (nI (s (3 + j))))) () 67 ls (by decide) (by decide) (by exact rv (by unfold pmpS; (repeat' split) <;> first | rfl | (exfalso; omega) | (rw [hu, show i - j * 4 = 4 by omega]; exact sumTo_cg 4 fun i hi => by (unfold gS fGets; rw [show (j * 4 + i) / 4 = j by omega])))) hP hD hS (ret_i dX6_ofPump_67)
      ·
        refine lv_iload_n hx hb dX6_ofPump_17 rfl (lv_at hl 3 rfl) ?_
        refine lv_aload_n hx hb dX6_ofPump_18 rfl (lv_at hl 0 rfl) ?_
        refine va_get (D := D) (ci := 6) (v := .ref m1) (C := RX6) (T := TX6) (N := 14) hx hb hts in_X6_ofPump_X6 hown hK hP 0 rfl rfl 0 (by decide) (hts _ fl_X6_ofPump_7) (fun _ h9 => h9) rfl dX6_ofPump_19 ?_
        refine lv_iload hx hb dX6_ofPump_22 (lv_at hl 4 rfl) ?_
        refine KM.callS (As := [.ref m1, .int (nI i)]) (rest := [.int (nI u)]) C0 hN (k_X6_gets l D cI cS cL m1 s i  (by exact hI1) (by first | with_reducible assumption | omega)) (va_cwS 2 hts gX6_ofPump_X6_gets rfl rfl rfl (by decide +kernel) ⟨Nat.le_of_ble_eq_true rfl, Nat.le_of_ble_eq_true rfl⟩) hK hP hD hS hA [1] rfl (by decide) (fun _ => rfl) rfl hl.1 rfl (Nat.le_of_ble_eq_true rfl) dX6_ofPump_24 ⟨Nat.le_of_ble_eq_true rfl, Nat.le_of_ble_eq_true rfl⟩ (fun v9 u9 H locs hv hP hD hS => ?_)
        subst hv
        have hP : va_P D vwCl [(m0, .inr (6, [.ref m1, .ref m2, .ref m3, .int (nI k), .ref m4, .int (nI n), .int (nI th), .int (nI ax), .int (nI fa), .int (nI vl), .ref m5, .int (nI tn), .int (nI hg), .int (nI bg)])), (m1, .inl (cI, 118, .inl (ro 118 s)))] H := hP
        have hD : va_D A9 [(m0, .inr (6, [.ref m1, .ref m2, .ref m3, .int (nI k), .ref m4, .int (nI n), .int (nI th), .int (nI ax), .int (nI fa), .int (nI vl), .ref m5, .int (nI tn), .int (nI hg), .int (nI bg)])), (m1, .inl (cI, 118, .inl (ro 118 s)))] := hD
        refine W.eq (g2 := F0 m9 27 ls [.int (nI (gS s i)), .int (nI u)]) rfl ?_
        refine q_iadd hx hb dX6_ofPump_27 ?_
        refine lv_istore_n (lv' := [(3, .int (nI (u + (gS s i)))), (0, .ref m0), (1, .int (nI j)), (2, .int (nI y)), (4, .int (nI i))]) hx hb dX6_ofPump_28 rfl hl (by decide) rfl (fun ls hl => ?_)
        refine lv_iinc (v := (nI (i + 1))) (lv' := [(4, .int (nI (i + 1))), (3, .int (nI (u + (gS s i)))), (0, .ref m0), (1, .int (nI j)), (2, .int (nI y))]) hx hb dX6_ofPump_29 hl (k := 4) rfl (nI_add i 1) (by decide) rfl (fun ls hl => ?_)
        refine lv_goto (tgt := 7) hx hb dX6_ofPump_32 (by decide) ?_
        exact ih7  (i + 1) (u + (gS s i)) _ _ ls (by first | with_reducible assumption | omega) (by first | with_reducible assumption | omega) (by rw [show i + 1 - j * 4 = (i - j * 4) + 1 by omega, hu]; show _ = sumTo _ _ + gS s (j * 4 + (i - j * 4)); rw [show j * 4 + (i - j * 4) = i by omega]) (by omega) hP hD hS (lv_sub hl [2, 3, 4, 1, 0] rfl)
  exact L7 (j * 4 + 4 - (4 * j) + 1) (4 * j) 0 _ _ ls (by first | with_reducible assumption | omega) (by first | with_reducible assumption | omega) (by rw [show 4 * j - j * 4 = 0 by omega]; rfl) (by omega) hP hD hS (lv_sub hl [2, 3, 4, 1, 0] rfl)

theorem in_X6_lamps_X6 : ∀ w ∈ wsX60, w ∈ wsX6_lamps := by decide +kernel
theorem fl_X6_lamps_7 : Cond.fieldLink RX6 7 "FountainCuesModel" "now" "[I" ∈ wsX6_lamps := by decide +kernel
set_option maxHeartbeats 4000000 in
set_option maxRecDepth 100000 in
theorem k_X6_lamps (l : Launch) (D : va_G) (cI cS cL : ClassId) (T : Nat) (m0 : Nat) (m1 : Nat) (m2 : Nat) (m3 : Nat) (m4 : Nat) (m5 : Nat) (k : Nat) (n : Nat) (th : Nat) (ax : Nat) (fa : Nat) (vl : Nat) (tn : Nat) (hg : Nat) (bg : Nat) (s : Nat → Nat) (hI : sI T s) (hT : T ≤ 1001000) : KM l D (TY cI cS cL) yX6_lamps wsX6_lamps ({ frames := 5, cells := 0, slots := 0, locals := 112 } : Room) [(m0, .inr (6, [.ref m1, .ref m2, .ref m3, .int (nI k), .ref m4, .int (nI n), .int (nI th), .int (nI ax), .int (nI fa), .int (nI vl), .ref m5, .int (nI tn), .int (nI hg), .int (nI bg)])), (m1, .inl (cI, 118, .inl (ro 118 s)))] [.ref m0] (fun (v : Option Value) (_ : Unit) => v = some (.int (nI (fLamps (szF s) (vaF s) (liF s) (seF s) (s 5))))) (fun _ : Unit => [(m0, .inr (6, [.ref m1, .ref m2, .ref m3, .int (nI k), .ref m4, .int (nI n), .int (nI th), .int (nI ax), .int (nI fa), .int (nI vl), .ref m5, .int (nI tn), .int (nI hg), .int (nI bg)])), (m1, .inl (cI, 118, .inl (ro 118 s)))]) := by
  refine KM.of (cc := cX6_lamps) (maxL := 3) (ret := (some .int)) (by decide) rfl (Nat.le_of_ble_eq_true rfl) ?_
  intro p9 e9 s9 m9 ar9 be9 me9 c9 Q9 A9 ls C0 hN hnm hlk hK hA hret hP hD hS hl
  obtain ⟨hx, hb, hml, hown, hts⟩ := id C0
  have hl : lv_has ls 3 [(0, .ref m0)] := hl
  obtain ⟨H, hH0⟩ : ∃ H, H = s9.heap := ⟨_, rfl⟩
  obtain ⟨locs, hlc0⟩ : ∃ z : List Loc, z = [] := ⟨_, rfl⟩
  have hP : va_P D vwCl [(m0, .inr (6, [.ref m1, .ref m2, .ref m3, .int (nI k), .ref m4, .int (nI n), .int (nI th), .int (nI ax), .int (nI fa), .int (nI vl), .ref m5, .int (nI tn), .int (nI hg), .int (nI bg)])), (m1, .inl (cI, 118, .inl (ro 118 s)))] H := by rw [hH0]; exact hP
  have hD : va_D A9 [(m0, .inr (6, [.ref m1, .ref m2, .ref m3, .int (nI k), .ref m4, .int (nI n), .int (nI th), .int (nI ax), .int (nI fa), .int (nI vl), .ref m5, .int (nI tn), .int (nI hg), .int (nI bg)])), (m1, .inl (cI, 118, .inl (ro 118 s)))] := hD
  have hS : va_S A9 s9.heap H locs := by rw [hH0, hlc0]; exact hS
  suffices hgo : W p9 l e9 ({ frames := 5, cells := 0, slots := 0, locals := 112 } : Room) s9 m9 ar9 be9 me9 c9 H locs 0 0 Q9 (F0 m9 0 ls []) by rw [hH0, hlc0] at hgo; exact hgo
  clear hH0 hlc0
  obtain ⟨hI1, hI2, hI3, hI4, hI5, hI6, hI7, hI8, hI9, hI10, hI11⟩ := id hI
  refine lv_iconst (v := nI 0) hx hb dX6_lamps_0 (by decide +kernel) ?_
  refine lv_istore_n (lv' := [(1, .int (nI 0)), (0, .ref m0)]) hx hb dX6_lamps_1 rfl hl (by decide) rfl (fun ls hl => ?_)
  refine lv_iconst (v := nI 0) hx hb dX6_lamps_2 (by decide +kernel) ?_
  refine lv_istore_n (lv' := [(2, .int (nI 0)), (1, .int (nI 0)), (0, .ref m0)]) hx hb dX6_lamps_3 rfl hl (by decide) rfl (fun ls hl => ?_)
  have L4 : ∀ (fuel : Nat) (i : Nat) (u : Nat) (H : Heap) (locs : List Loc) (ls : Array Slot), (i ≤ 8) → (u = sumTo (fun j => if 0 < heS s j then 1 else 0) i) → (8 - i < fuel) → va_P D vwCl [(m0, .inr (6, [.ref m1, .ref m2, .ref m3, .int (nI k), .ref m4, .int (nI n), .int (nI th), .int (nI ax), .int (nI fa), .int (nI vl), .ref m5, .int (nI tn), .int (nI hg), .int (nI bg)])), (m1, .inl (cI, 118, .inl (ro 118 s)))] H → va_D A9 [(m0, .inr (6, [.ref m1, .ref m2, .ref m3, .int (nI k), .ref m4, .int (nI n), .int (nI th), .int (nI ax), .int (nI fa), .int (nI vl), .ref m5, .int (nI tn), .int (nI hg), .int (nI bg)])), (m1, .inl (cI, 118, .inl (ro 118 s)))] → va_S A9 s9.heap H locs → lv_has ls 3 [(0, .ref m0), (1, .int (nI u)), (2, .int (nI i))] → W p9 l e9 ({ frames := 5, cells := 0, slots := 0, locals := 112 } : Room) s9 m9 ar9 be9 me9 c9 H locs 0 0 Q9 (F0 m9 4 ls []) := by
    intro fuel
    induction fuel with
    | zero => intro i u H locs ls hi hu hfu; exact absurd hfu (Nat.not_lt_zero _)
    | succ fuel ih4 =>
      intro i u H locs ls hi hu hfu hP hD hS hl
      refine lv_iload_n hx hb dX6_lamps_4 rfl (lv_at hl 2 rfl) ?_
      refine lv_bipush (v := nI 8) hx hb dX6_lamps_5 (by decide +kernel) ?_
      refine q_ige (tgt := 35) (by omega) (by omega) hx hb dX6_lamps_7 (by decide) (fun c_7 => ?_) (fun c_7 => ?_)
      ·
        refine lv_iload_n hx hb dX6_lamps_35 rfl (lv_at hl 1 rfl) ?_
        exact hret _ _ _ _ (some (.int (nI u))) () 36 ls (by decide) (by decide) (by exact rv (by rw [hu, show i = 8 by omega]; rfl)) hP hD hS (ret_i dX6_lamps_36)
      ·
        refine lv_iload_n hx hb dX6_lamps_10 rfl (lv_at hl 1 rfl) ?_
        refine lv_aload_n hx hb dX6_lamps_11 rfl (lv_at hl 0 rfl) ?_
        refine va_get (D := D) (ci := 6) (v := .ref m1) (C := RX6) (T := TX6) (N := 14) hx hb hts in_X6_lamps_X6 hown hK hP 0 rfl rfl 0 (by decide) (hts _ fl_X6_lamps_7) (fun _ h9 => h9) rfl dX6_lamps_12 ?_
        refine lv_iload_n hx hb dX6_lamps_15 rfl (lv_at hl 2 rfl) ?_
        refine KM.callS (As := [.ref m1, .int (nI i)]) (rest := [.int (nI u)]) C0 hN (k_X6_height l D cI cS cL m1 s i  (by exact hI1) (by first | with_reducible assumption | omega)) (va_cwS 2 hts gX6_lamps_X6_height rfl rfl rfl (by decide +kernel) ⟨Nat.le_of_ble_eq_true rfl, Nat.le_of_ble_eq_true rfl⟩) hK hP hD hS hA [1] rfl (by decide) (fun _ => rfl) rfl hl.1 rfl (Nat.le_of_ble_eq_true rfl) dX6_lamps_16 ⟨Nat.le_of_ble_eq_true rfl, Nat.le_of_ble_eq_true rfl⟩ (fun v9 u9 H locs hv hP hD hS => ?_)
        subst hv
        have hP : va_P D vwCl [(m0, .inr (6, [.ref m1, .ref m2, .ref m3, .int (nI k), .ref m4, .int (nI n), .int (nI th), .int (nI ax), .int (nI fa), .int (nI vl), .ref m5, .int (nI tn), .int (nI hg), .int (nI bg)])), (m1, .inl (cI, 118, .inl (ro 118 s)))] H := hP
        have hD : va_D A9 [(m0, .inr (6, [.ref m1, .ref m2, .ref m3, .int (nI k), .ref m4, .int (nI n), .int (nI th), .int (nI ax), .int (nI fa), .int (nI vl), .ref m5, .int (nI tn), .int (nI hg), .int (nI bg)])), (m1, .inl (cI, 118, .inl (ro 118 s)))] := hD
        refine W.eq (g2 := F0 m9 19 ls [.int (nI (heS s i)), .int (nI u)]) rfl ?_
        have hh9 : heS s i ≤ 10 := heS_le hI (by omega)
        refine q_fle (tgt := 26) (by omega) hx hb dX6_lamps_19 (by decide) (fun c_19 => ?_) (fun c_19 => ?_)
        ·
          refine lv_iconst (v := nI 0) hx hb dX6_lamps_26 (by decide +kernel) ?_
          refine q_iadd hx hb dX6_lamps_27 ?_
          refine lv_istore_n (lv' := [(1, .int (nI (u + 0))), (0, .ref m0), (2, .int (nI i))]) hx hb dX6_lamps_28 rfl hl (by decide) rfl (fun ls hl => ?_)
          refine lv_iinc (v := (nI (i + 1))) (lv' := [(2, .int (nI (i + 1))), (1, .int (nI (u + 0))), (0, .ref m0)]) hx hb dX6_lamps_29 hl (k := 2) rfl (nI_add i 1) (by decide) rfl (fun ls hl => ?_)
          refine lv_goto (tgt := 4) hx hb dX6_lamps_32 (by decide) ?_
          exact ih4  (i + 1) (u + 0) _ _ ls (by first | with_reducible assumption | omega) (by rw [hu]; show _ = sumTo _ i + (if 0 < heS s i then 1 else 0); split <;> first | rfl | omega | (exfalso; omega)) (by omega) hP hD hS (lv_sub hl [2, 1, 0] rfl)
        ·
          refine lv_iconst (v := nI 1) hx hb dX6_lamps_22 (by decide +kernel) ?_
          refine lv_goto (tgt := 27) hx hb dX6_lamps_23 (by decide) ?_
          refine q_iadd hx hb dX6_lamps_27 ?_
          refine lv_istore_n (lv' := [(1, .int (nI (u + 1))), (0, .ref m0), (2, .int (nI i))]) hx hb dX6_lamps_28 rfl hl (by decide) rfl (fun ls hl => ?_)
          refine lv_iinc (v := (nI (i + 1))) (lv' := [(2, .int (nI (i + 1))), (1, .int (nI (u + 1))), (0, .ref m0)]) hx hb dX6_lamps_29 hl (k := 2) rfl (nI_add i 1) (by decide) rfl (fun ls hl => ?_)
          refine lv_goto (tgt := 4) hx hb dX6_lamps_32 (by decide) ?_
          exact ih4  (i + 1) (u + 1) _ _ ls (by first | with_reducible assumption | omega) (by rw [hu]; show _ = sumTo _ i + (if 0 < heS s i then 1 else 0); split <;> first | rfl | omega | (exfalso; omega)) (by omega) hP hD hS (lv_sub hl [2, 1, 0] rfl)
  exact L4 (8 - 0 + 1) 0 0 _ _ ls (by first | with_reducible assumption | omega) (by rfl) (by omega) hP hD hS (lv_sub hl [2, 1, 0] rfl)

theorem in_X6_counted_X6 : ∀ w ∈ wsX60, w ∈ wsX6_counted := by decide +kernel
theorem fl_X6_counted_7 : Cond.fieldLink RX6 7 "FountainCuesModel" "now" "[I" ∈ wsX6_counted := by decide +kernel
theorem fl_X6_counted_33 : Cond.fieldLink RX6 33 "FountainCuesModel" "kept" "I" ∈ wsX6_counted := by decide +kernel
set_option maxHeartbeats 4000000 in
set_option maxRecDepth 100000 in
theorem k_X6_counted (l : Launch) (D : va_G) (cI cS cL : ClassId) (T : Nat) (m0 : Nat) (m1 : Nat) (m2 : Nat) (m3 : Nat) (m4 : Nat) (m5 : Nat) (k : Nat) (n : Nat) (th : Nat) (ax : Nat) (fa : Nat) (vl : Nat) (tn : Nat) (hg : Nat) (bg : Nat) (s : Nat → Nat) (y : Nat) (hI : sI T s) (hT : T ≤ 1001000) (hy2 : y ≤ 9) : KM l D (TY cI cS cL) yX6_counted wsX6_counted ({ frames := 6, cells := 0, slots := 0, locals := 134 } : Room) [(m0, .inr (6, [.ref m1, .ref m2, .ref m3, .int (nI k), .ref m4, .int (nI n), .int (nI th), .int (nI ax), .int (nI fa), .int (nI vl), .ref m5, .int (nI tn), .int (nI hg), .int (nI bg)])), (m1, .inl (cI, 118, .inl (ro 118 s)))] [.ref m0, .int (nI y)] (fun (v : Option Value) (_ : Unit) => v = some (.int (nI (cntS s k y)))) (fun _ : Unit => [(m0, .inr (6, [.ref m1, .ref m2, .ref m3, .int (nI k), .ref m4, .int (nI n), .int (nI th), .int (nI ax), .int (nI fa), .int (nI vl), .ref m5, .int (nI tn), .int (nI hg), .int (nI bg)])), (m1, .inl (cI, 118, .inl (ro 118 s)))]) := by
  refine KM.of (cc := cX6_counted) (maxL := 2) (ret := (some .int)) (by decide) rfl (Nat.le_of_ble_eq_true rfl) ?_
  intro p9 e9 s9 m9 ar9 be9 me9 c9 Q9 A9 ls C0 hN hnm hlk hK hA hret hP hD hS hl
  obtain ⟨hx, hb, hml, hown, hts⟩ := id C0
  have hl : lv_has ls 2 [(0, .ref m0), (1, .int (nI y))] := hl
  obtain ⟨H, hH0⟩ : ∃ H, H = s9.heap := ⟨_, rfl⟩
  obtain ⟨locs, hlc0⟩ : ∃ z : List Loc, z = [] := ⟨_, rfl⟩
  have hP : va_P D vwCl [(m0, .inr (6, [.ref m1, .ref m2, .ref m3, .int (nI k), .ref m4, .int (nI n), .int (nI th), .int (nI ax), .int (nI fa), .int (nI vl), .ref m5, .int (nI tn), .int (nI hg), .int (nI bg)])), (m1, .inl (cI, 118, .inl (ro 118 s)))] H := by rw [hH0]; exact hP
  have hD : va_D A9 [(m0, .inr (6, [.ref m1, .ref m2, .ref m3, .int (nI k), .ref m4, .int (nI n), .int (nI th), .int (nI ax), .int (nI fa), .int (nI vl), .ref m5, .int (nI tn), .int (nI hg), .int (nI bg)])), (m1, .inl (cI, 118, .inl (ro 118 s)))] := hD
  have hS : va_S A9 s9.heap H locs := by rw [hH0, hlc0]; exact hS
  suffices hgo : W p9 l e9 ({ frames := 6, cells := 0, slots := 0, locals := 134 } : Room) s9 m9 ar9 be9 me9 c9 H locs 0 0 Q9 (F0 m9 0 ls []) by rw [hH0, hlc0] at hgo; exact hgo
  clear hH0 hlc0
  obtain ⟨hI1, hI2, hI3, hI4, hI5, hI6, hI7, hI8, hI9, hI10, hI11⟩ := id hI
  refine lv_iload_n hx hb dX6_counted_0 rfl (lv_at hl 1 rfl) ?_
  by_cases c_1_0 : y = 0
  ·
    have hsw : ((nI y)).toInt = 0 := by rw [c_1_0]; decide +kernel
    refine lv_tableIn (off := 51) (tgt := 52) hx hb dX6_counted_1 (by rw [hsw]; decide) (by rw [hsw]; decide) (by rw [hsw]; rfl) (by decide) ?_
    refine lv_aload_n hx hb dX6_counted_52 rfl (lv_at hl 0 rfl) ?_
    refine va_get (D := D) (ci := 6) (v := .ref m1) (C := RX6) (T := TX6) (N := 14) hx hb hts in_X6_counted_X6 hown hK hP 0 rfl rfl 0 (by decide) (hts _ fl_X6_counted_7) (fun _ h9 => h9) rfl dX6_counted_53 ?_
    refine lv_bipush (v := nI 7) hx hb dX6_counted_56 (by decide +kernel) ?_
    refine lv_iload_n hx hb dX6_counted_58 rfl (lv_at hl 1 rfl) ?_
    refine q_iadd hx hb dX6_counted_59 ?_
    refine q_iald 1 0 (by omega) (by omega) hx hb hK hP rfl rfl dX6_counted_60 ?_
    exact hret _ _ _ _ (some (.int (nI (s (7 + y))))) () 61 ls (by decide) (by decide) (by exact rv (by unfold cntS; (repeat' split) <;> first | rfl | (exfalso; omega) | (congr 1; omega))) hP hD hS (ret_i dX6_counted_61)
  by_cases c_1_1 : y = 1
  ·
    have hsw : ((nI y)).toInt = 1 := by rw [c_1_1]; decide +kernel
    refine lv_tableIn (off := 51) (tgt := 52) hx hb dX6_counted_1 (by rw [hsw]; decide) (by rw [hsw]; decide) (by rw [hsw]; rfl) (by decide) ?_
    refine lv_aload_n hx hb dX6_counted_52 rfl (lv_at hl 0 rfl) ?_
    refine va_get (D := D) (ci := 6) (v := .ref m1) (C := RX6) (T := TX6) (N := 14) hx hb hts in_X6_counted_X6 hown hK hP 0 rfl rfl 0 (by decide) (hts _ fl_X6_counted_7) (fun _ h9 => h9) rfl dX6_counted_53 ?_
    refine lv_bipush (v := nI 7) hx hb dX6_counted_56 (by decide +kernel) ?_
    refine lv_iload_n hx hb dX6_counted_58 rfl (lv_at hl 1 rfl) ?_
    refine q_iadd hx hb dX6_counted_59 ?_
    refine q_iald 1 0 (by omega) (by omega) hx hb hK hP rfl rfl dX6_counted_60 ?_
    exact hret _ _ _ _ (some (.int (nI (s (7 + y))))) () 61 ls (by decide) (by decide) (by exact rv (by unfold cntS; (repeat' split) <;> first | rfl | (exfalso; omega) | (congr 1; omega))) hP hD hS (ret_i dX6_counted_61)
  by_cases c_1_2 : y = 2
  ·
    have hsw : ((nI y)).toInt = 2 := by rw [c_1_2]; decide +kernel
    refine lv_tableIn (off := 61) (tgt := 62) hx hb dX6_counted_1 (by rw [hsw]; decide) (by rw [hsw]; decide) (by rw [hsw]; rfl) (by decide) ?_
    refine lv_aload_n hx hb dX6_counted_62 rfl (lv_at hl 0 rfl) ?_
    refine va_get (D := D) (ci := 6) (v := .ref m1) (C := RX6) (T := TX6) (N := 14) hx hb hts in_X6_counted_X6 hown hK hP 0 rfl rfl 0 (by decide) (hts _ fl_X6_counted_7) (fun _ h9 => h9) rfl dX6_counted_63 ?_
    refine lv_iconst (v := nI 5) hx hb dX6_counted_66 (by decide +kernel) ?_
    refine lv_iload_n hx hb dX6_counted_67 rfl (lv_at hl 1 rfl) ?_
    refine q_iadd hx hb dX6_counted_68 ?_
    refine lv_iconst (v := nI 2) hx hb dX6_counted_69 (by decide +kernel) ?_
    refine q_isub (by omega) hx hb dX6_counted_70 ?_
    refine q_iald 1 0 (by omega) (by omega) hx hb hK hP rfl rfl dX6_counted_71 ?_
    exact hret _ _ _ _ (some (.int (nI (s ((5 + y) - 2))))) () 72 ls (by decide) (by decide) (by exact rv (by unfold cntS; (repeat' split) <;> first | rfl | (exfalso; omega) | (congr 1; omega))) hP hD hS (ret_i dX6_counted_72)
  by_cases c_1_3 : y = 3
  ·
    have hsw : ((nI y)).toInt = 3 := by rw [c_1_3]; decide +kernel
    refine lv_tableIn (off := 61) (tgt := 62) hx hb dX6_counted_1 (by rw [hsw]; decide) (by rw [hsw]; decide) (by rw [hsw]; rfl) (by decide) ?_
    refine lv_aload_n hx hb dX6_counted_62 rfl (lv_at hl 0 rfl) ?_
    refine va_get (D := D) (ci := 6) (v := .ref m1) (C := RX6) (T := TX6) (N := 14) hx hb hts in_X6_counted_X6 hown hK hP 0 rfl rfl 0 (by decide) (hts _ fl_X6_counted_7) (fun _ h9 => h9) rfl dX6_counted_63 ?_
    refine lv_iconst (v := nI 5) hx hb dX6_counted_66 (by decide +kernel) ?_
    refine lv_iload_n hx hb dX6_counted_67 rfl (lv_at hl 1 rfl) ?_
    refine q_iadd hx hb dX6_counted_68 ?_
    refine lv_iconst (v := nI 2) hx hb dX6_counted_69 (by decide +kernel) ?_
    refine q_isub (by omega) hx hb dX6_counted_70 ?_
    refine q_iald 1 0 (by omega) (by omega) hx hb hK hP rfl rfl dX6_counted_71 ?_
    exact hret _ _ _ _ (some (.int (nI (s ((5 + y) - 2))))) () 72 ls (by decide) (by decide) (by exact rv (by unfold cntS; (repeat' split) <;> first | rfl | (exfalso; omega) | (congr 1; omega))) hP hD hS (ret_i dX6_counted_72)
  by_cases c_1_4 : y = 4
  ·
    have hsw : ((nI y)).toInt = 4 := by rw [c_1_4]; decide +kernel
    refine lv_tableIn (off := 72) (tgt := 73) hx hb dX6_counted_1 (by rw [hsw]; decide) (by rw [hsw]; decide) (by rw [hsw]; rfl) (by decide) ?_
    refine lv_aload_n hx hb dX6_counted_73 rfl (lv_at hl 0 rfl) ?_
    refine va_get (D := D) (ci := 6) (v := .ref m1) (C := RX6) (T := TX6) (N := 14) hx hb hts in_X6_counted_X6 hown hK hP 0 rfl rfl 0 (by decide) (hts _ fl_X6_counted_7) (fun _ h9 => h9) rfl dX6_counted_74 ?_
    refine lv_bipush (v := nI 10) hx hb dX6_counted_77 (by decide +kernel) ?_
    refine lv_iload_n hx hb dX6_counted_79 rfl (lv_at hl 1 rfl) ?_
    refine q_iadd hx hb dX6_counted_80 ?_
    refine lv_iconst (v := nI 4) hx hb dX6_counted_81 (by decide +kernel) ?_
    refine q_isub (by omega) hx hb dX6_counted_82 ?_
    refine q_iald 1 0 (by omega) (by omega) hx hb hK hP rfl rfl dX6_counted_83 ?_
    exact hret _ _ _ _ (some (.int (nI (s ((10 + y) - 4))))) () 84 ls (by decide) (by decide) (by exact rv (by unfold cntS; (repeat' split) <;> first | rfl | (exfalso; omega) | (congr 1; omega))) hP hD hS (ret_i dX6_counted_84)
  by_cases c_1_5 : y = 5
  ·
    have hsw : ((nI y)).toInt = 5 := by rw [c_1_5]; decide +kernel
    refine lv_tableIn (off := 72) (tgt := 73) hx hb dX6_counted_1 (by rw [hsw]; decide) (by rw [hsw]; decide) (by rw [hsw]; rfl) (by decide) ?_
    refine lv_aload_n hx hb dX6_counted_73 rfl (lv_at hl 0 rfl) ?_
    refine va_get (D := D) (ci := 6) (v := .ref m1) (C := RX6) (T := TX6) (N := 14) hx hb hts in_X6_counted_X6 hown hK hP 0 rfl rfl 0 (by decide) (hts _ fl_X6_counted_7) (fun _ h9 => h9) rfl dX6_counted_74 ?_
    refine lv_bipush (v := nI 10) hx hb dX6_counted_77 (by decide +kernel) ?_
    refine lv_iload_n hx hb dX6_counted_79 rfl (lv_at hl 1 rfl) ?_
    refine q_iadd hx hb dX6_counted_80 ?_
    refine lv_iconst (v := nI 4) hx hb dX6_counted_81 (by decide +kernel) ?_
    refine q_isub (by omega) hx hb dX6_counted_82 ?_
    refine q_iald 1 0 (by omega) (by omega) hx hb hK hP rfl rfl dX6_counted_83 ?_
    exact hret _ _ _ _ (some (.int (nI (s ((10 + y) - 4))))) () 84 ls (by decide) (by decide) (by exact rv (by unfold cntS; (repeat' split) <;> first | rfl | (exfalso; omega) | (congr 1; omega))) hP hD hS (ret_i dX6_counted_84)
  by_cases c_1_6 : y = 6
  ·
    have hsw : ((nI y)).toInt = 6 := by rw [c_1_6]; decide +kernel
    refine lv_tableIn (off := 84) (tgt := 85) hx hb dX6_counted_1 (by rw [hsw]; decide) (by rw [hsw]; decide) (by rw [hsw]; rfl) (by decide) ?_
    refine lv_aload_n hx hb dX6_counted_85 rfl (lv_at hl 0 rfl) ?_
    refine KM.callV (As := []) (rest := []) C0 hN (k_X6_lamps l D cI cS cL T m0 m1 m2 m3 m4 m5 k n th ax fa vl tn hg bg s  (by first | with_reducible assumption | omega) (by first | with_reducible assumption | omega)) (cwV 0 hts gX6_counted_X6_lamps rfl rfl rfl (by decide +kernel) ⟨Nat.le_of_ble_eq_true rfl, Nat.le_of_ble_eq_true rfl⟩) hK hP hD hS hA [0, 1] rfl (by decide) (fun _ => rfl) 0 6 rfl rfl rfl rfl hl.1 rfl (Nat.le_of_ble_eq_true rfl) dX6_counted_86 ⟨Nat.le_of_ble_eq_true rfl, Nat.le_of_ble_eq_true rfl⟩ (fun v9 u9 H locs hv hP hD hS => ?_)
    subst hv
    have hP : va_P D vwCl [(m0, .inr (6, [.ref m1, .ref m2, .ref m3, .int (nI k), .ref m4, .int (nI n), .int (nI th), .int (nI ax), .int (nI fa), .int (nI vl), .ref m5, .int (nI tn), .int (nI hg), .int (nI bg)])), (m1, .inl (cI, 118, .inl (ro 118 s)))] H := hP
    have hD : va_D A9 [(m0, .inr (6, [.ref m1, .ref m2, .ref m3, .int (nI k), .ref m4, .int (nI n), .int (nI th), .int (nI ax), .int (nI fa), .int (nI vl), .ref m5, .int (nI tn), .int (nI hg), .int (nI bg)])), (m1, .inl (cI, 118, .inl (ro 118 s)))] := hD
    refine W.eq (g2 := F0 m9 89 ls [.int (nI (fLamps (szF s) (vaF s) (liF s) (seF s) (s 5)))]) rfl ?_
    exact hret _ _ _ _ (some (.int (nI (fLamps (szF s) (vaF s) (liF s) (seF s) (s 5))))) () 89 ls (by decide) (by decide) (by exact rv (by unfold cntS; (repeat' split) <;> first | rfl | (exfalso; omega) | (congr 1; omega))) hP hD hS (ret_i dX6_counted_89)
  by_cases c_1_7 : y = 7
  ·
    have hsw : ((nI y)).toInt = 7 := by rw [c_1_7]; decide +kernel
    refine lv_tableIn (off := 89) (tgt := 90) hx hb dX6_counted_1 (by rw [hsw]; decide) (by rw [hsw]; decide) (by rw [hsw]; rfl) (by decide) ?_
    refine lv_aload_n hx hb dX6_counted_90 rfl (lv_at hl 0 rfl) ?_
    refine va_get (D := D) (ci := 6) (v := .ref m1) (C := RX6) (T := TX6) (N := 14) hx hb hts in_X6_counted_X6 hown hK hP 0 rfl rfl 0 (by decide) (hts _ fl_X6_counted_7) (fun _ h9 => h9) rfl dX6_counted_91 ?_
    refine lv_bipush (v := nI 12) hx hb dX6_counted_94 (by decide +kernel) ?_
    refine lv_iload_n hx hb dX6_counted_96 rfl (lv_at hl 1 rfl) ?_
    refine q_iadd hx hb dX6_counted_97 ?_
    refine lv_bipush (v := nI 7) hx hb dX6_counted_98 (by decide +kernel) ?_
    refine q_isub (by omega) hx hb dX6_counted_100 ?_
    refine q_iald 1 0 (by omega) (by omega) hx hb hK hP rfl rfl dX6_counted_101 ?_
    exact hret _ _ _ _ (some (.int (nI (s ((12 + y) - 7))))) () 102 ls (by decide) (by decide) (by exact rv (by unfold cntS; (repeat' split) <;> first | rfl | (exfalso; omega) | (congr 1; omega))) hP hD hS (ret_i dX6_counted_102)
  by_cases c_1_8 : y = 8
  ·
    have hsw : ((nI y)).toInt = 8 := by rw [c_1_8]; decide +kernel
    refine lv_tableIn (off := 89) (tgt := 90) hx hb dX6_counted_1 (by rw [hsw]; decide) (by rw [hsw]; decide) (by rw [hsw]; rfl) (by decide) ?_
    refine lv_aload_n hx hb dX6_counted_90 rfl (lv_at hl 0 rfl) ?_
    refine va_get (D := D) (ci := 6) (v := .ref m1) (C := RX6) (T := TX6) (N := 14) hx hb hts in_X6_counted_X6 hown hK hP 0 rfl rfl 0 (by decide) (hts _ fl_X6_counted_7) (fun _ h9 => h9) rfl dX6_counted_91 ?_
    refine lv_bipush (v := nI 12) hx hb dX6_counted_94 (by decide +kernel) ?_
    refine lv_iload_n hx hb dX6_counted_96 rfl (lv_at hl 1 rfl) ?_
    refine q_iadd hx hb dX6_counted_97 ?_
    refine lv_bipush (v := nI 7) hx hb dX6_counted_98 (by decide +kernel) ?_
    refine q_isub (by omega) hx hb dX6_counted_100 ?_
    refine q_iald 1 0 (by omega) (by omega) hx hb hK hP rfl rfl dX6_counted_101 ?_
    exact hret _ _ _ _ (some (.int (nI (s ((12 + y) - 7))))) () 102 ls (by decide) (by decide) (by exact rv (by unfold cntS; (repeat' split) <;> first | rfl | (exfalso; omega) | (congr 1; omega))) hP hD hS (ret_i dX6_counted_102)
  have hsw : (nI y).toInt = (y : Int) := nI_toInt (by omega)
  refine lv_tableOut (tgt := 103) hx hb dX6_counted_1 (by rw [hsw]; omega) (by decide) ?_
  refine lv_aload_n hx hb dX6_counted_103 rfl (lv_at hl 0 rfl) ?_
  refine va_get (D := D) (ci := 6) (v := .int (nI k)) (C := RX6) (T := TX6) (N := 14) hx hb hts in_X6_counted_X6 hown hK hP 0 rfl rfl 3 (by decide) (hts _ fl_X6_counted_33) (fun _ h9 => h9) rfl dX6_counted_104 ?_
  exact hret _ _ _ _ (some (.int (nI k))) () 107 ls (by decide) (by decide) (by exact rv (by unfold cntS; (repeat' split) <;> first | rfl | (exfalso; omega) | (congr 1; omega))) hP hD hS (ret_i dX6_counted_107)

set_option maxHeartbeats 4000000 in
set_option maxRecDepth 100000 in
theorem k_X6_greatest (l : Launch) (D : va_G) (cI cS cL : ClassId) (T : Nat) (m0 : Nat) (m1 : Nat) (m2 : Nat) (m3 : Nat) (m4 : Nat) (m5 : Nat) (k : Nat) (n : Nat) (th : Nat) (ax : Nat) (fa : Nat) (vl : Nat) (tn : Nat) (hg : Nat) (bg : Nat) (s : Nat → Nat) (q : Nat) (j : Nat) (hI : sI T s) (hT : T ≤ 1001000) (hq : q < 2 ^ 31) (hj : j < 8) : KM l D (TY cI cS cL) yX6_greatest wsX6_greatest ({ frames := 3, cells := 0, slots := 0, locals := 71 } : Room) [(m0, .inr (6, [.ref m1, .ref m2, .ref m3, .int (nI k), .ref m4, .int (nI n), .int (nI th), .int (nI ax), .int (nI fa), .int (nI vl), .ref m5, .int (nI tn), .int (nI hg), .int (nI bg)])), (m1, .inl (cI, 118, .inl (ro 118 s)))] [.ref m0, .int (nI q), .int (nI j)] (fun (v : Option Value) (_ : Unit) => v = some (.int (mostD s q j 11))) (fun _ : Unit => [(m0, .inr (6, [.ref m1, .ref m2, .ref m3, .int (nI k), .ref m4, .int (nI n), .int (nI th), .int (nI ax), .int (nI fa), .int (nI vl), .ref m5, .int (nI tn), .int (nI hg), .int (nI bg)])), (m1, .inl (cI, 118, .inl (ro 118 s)))]) := by
  refine KM.of (cc := cX6_greatest) (maxL := 4) (ret := (some .int)) (by decide) rfl (Nat.le_of_ble_eq_true rfl) ?_
  intro p9 e9 s9 m9 ar9 be9 me9 c9 Q9 A9 ls C0 hN hnm hlk hK hA hret hP hD hS hl
  obtain ⟨hx, hb, hml, hown, hts⟩ := id C0
  have hl : lv_has ls 4 [(0, .ref m0), (1, .int (nI q)), (2, .int (nI j))] := hl
  obtain ⟨H, hH0⟩ : ∃ H, H = s9.heap := ⟨_, rfl⟩
  obtain ⟨locs, hlc0⟩ : ∃ z : List Loc, z = [] := ⟨_, rfl⟩
  have hP : va_P D vwCl [(m0, .inr (6, [.ref m1, .ref m2, .ref m3, .int (nI k), .ref m4, .int (nI n), .int (nI th), .int (nI ax), .int (nI fa), .int (nI vl), .ref m5, .int (nI tn), .int (nI hg), .int (nI bg)])), (m1, .inl (cI, 118, .inl (ro 118 s)))] H := by rw [hH0]; exact hP
  have hD : va_D A9 [(m0, .inr (6, [.ref m1, .ref m2, .ref m3, .int (nI k), .ref m4, .int (nI n), .int (nI th), .int (nI ax), .int (nI fa), .int (nI vl), .ref m5, .int (nI tn), .int (nI hg), .int (nI bg)])), (m1, .inl (cI, 118, .inl (ro 118 s)))] := hD
  have hS : va_S A9 s9.heap H locs := by rw [hH0, hlc0]; exact hS
  suffices hgo : W p9 l e9 ({ frames := 3, cells := 0, slots := 0, locals := 71 } : Room) s9 m9 ar9 be9 me9 c9 H locs 0 0 Q9 (F0 m9 0 ls []) by rw [hH0, hlc0] at hgo; exact hgo
  clear hH0 hlc0
  obtain ⟨hI1, hI2, hI3, hI4, hI5, hI6, hI7, hI8, hI9, hI10, hI11⟩ := id hI
  refine lv_bipush (v := nI 10) hx hb dX6_greatest_0 (by decide +kernel) ?_
  refine q_topi (y := (am1 11)) (by rfl) ?_
  refine lv_istore_n (lv' := [(3, .int (am1 11)), (0, .ref m0), (1, .int (nI q)), (2, .int (nI j))]) hx hb dX6_greatest_2 rfl hl (by decide) rfl (fun ls hl => ?_)
  have L3 : ∀ (fuel : Nat) (i : Nat) (H : Heap) (locs : List Loc) (ls : Array Slot), (i ≤ 11) → (mostD s q j 11 = mostD s q j i) → (i < fuel) → va_P D vwCl [(m0, .inr (6, [.ref m1, .ref m2, .ref m3, .int (nI k), .ref m4, .int (nI n), .int (nI th), .int (nI ax), .int (nI fa), .int (nI vl), .ref m5, .int (nI tn), .int (nI hg), .int (nI bg)])), (m1, .inl (cI, 118, .inl (ro 118 s)))] H → va_D A9 [(m0, .inr (6, [.ref m1, .ref m2, .ref m3, .int (nI k), .ref m4, .int (nI n), .int (nI th), .int (nI ax), .int (nI fa), .int (nI vl), .ref m5, .int (nI tn), .int (nI hg), .int (nI bg)])), (m1, .inl (cI, 118, .inl (ro 118 s)))] → va_S A9 s9.heap H locs → lv_has ls 4 [(0, .ref m0), (1, .int (nI q)), (2, .int (nI j)), (3, .int (am1 i))] → W p9 l e9 ({ frames := 3, cells := 0, slots := 0, locals := 71 } : Room) s9 m9 ar9 be9 me9 c9 H locs 0 0 Q9 (F0 m9 3 ls []) := by
    intro fuel
    induction fuel with
    | zero => intro i H locs ls hi hm hfu; exact absurd hfu (Nat.not_lt_zero _)
    | succ fuel ih3 =>
      intro i H locs ls hi hm hfu hP hD hS hl
      refine lv_iload_n hx hb dX6_greatest_3 rfl (lv_at hl 3 rfl) ?_
      by_cases hi0 : i = 0
      ·
        refine lv_if_lt (tgt := 23) hx hb dX6_greatest_4 (by decide) (fun c_4 => ?_) (fun c_4 => ?_)
        ·
          refine lv_iload_n hx hb dX6_greatest_23 rfl (lv_at hl 3 rfl) ?_
          exact hret _ _ _ _ (some (.int (am1 i))) () 24 ls (by decide) (by decide) (by first | exact rvi (by rw [hm, hi0]; rfl) | exact rvi (by rw [hm, am1_s hi0]; exact (most_hit hi0 c_14).symm)) hP hD hS (ret_i dX6_greatest_24)
        · rw [hi0] at c_4; exact absurd (by decide +kernel) c_4
      ·
        refine lv_if_lt (tgt := 23) hx hb dX6_greatest_4 (by decide) (fun c_4 => ?_) (fun c_4 => ?_)
        · rw [am1_s hi0] at c_4; exact absurd c_4 (nI_pos (by omega))
        ·
          refine lv_aload_n hx hb dX6_greatest_7 rfl (lv_at hl 0 rfl) ?_
          refine lv_iload_n hx hb dX6_greatest_8 rfl (lv_at hl 1 rfl) ?_
          refine lv_iload_n hx hb dX6_greatest_9 rfl (lv_at hl 2 rfl) ?_
          refine lv_iload_n hx hb dX6_greatest_10 rfl (lv_at hl 3 rfl) ?_
          refine q_topi (y := (nI (i - 1))) (by exact am1_s hi0) ?_
          refine KM.callV (As := [.int (nI q), .int (nI j), .int (nI (i - 1))]) (rest := []) C0 hN (k_X6_reason l D cI cS cL T m0 m1 m2 m3 m4 m5 k n th ax fa vl tn hg bg s q j (i - 1)  (by first | with_reducible assumption | omega) (by first | with_reducible assumption | omega) (by first | with_reducible assumption | omega) (by first | with_reducible assumption | omega) (by first | with_reducible assumption | omega)) (cwV 3 hts gX6_greatest_X6_reason rfl rfl rfl (by decide +kernel) ⟨Nat.le_of_ble_eq_true rfl, Nat.le_of_ble_eq_true rfl⟩) hK hP hD hS hA [0, 1] rfl (by decide) (fun _ => rfl) 0 6 rfl rfl rfl rfl hl.1 rfl (Nat.le_of_ble_eq_true rfl) dX6_greatest_11 ⟨Nat.le_of_ble_eq_true rfl, Nat.le_of_ble_eq_true rfl⟩ (fun v9 u9 H locs hv hP hD hS => ?_)
          subst hv
          have hP : va_P D vwCl [(m0, .inr (6, [.ref m1, .ref m2, .ref m3, .int (nI k), .ref m4, .int (nI n), .int (nI th), .int (nI ax), .int (nI fa), .int (nI vl), .ref m5, .int (nI tn), .int (nI hg), .int (nI bg)])), (m1, .inl (cI, 118, .inl (ro 118 s)))] H := hP
          have hD : va_D A9 [(m0, .inr (6, [.ref m1, .ref m2, .ref m3, .int (nI k), .ref m4, .int (nI n), .int (nI th), .int (nI ax), .int (nI fa), .int (nI vl), .ref m5, .int (nI tn), .int (nI hg), .int (nI bg)])), (m1, .inl (cI, 118, .inl (ro 118 s)))] := hD
          refine W.eq (g2 := F0 m9 14 ls [.int (nI (rS s q j (i - 1)))]) rfl ?_
          have hr8 : rS s q j (i - 1) < 2 ^ 31 := rS_lt
          refine q_feq (tgt := 23) (by omega) hx hb dX6_greatest_14 (by decide) (fun c_14 => ?_) (fun c_14 => ?_)
          ·
            refine lv_iload_n hx hb dX6_greatest_23 rfl (lv_at hl 3 rfl) ?_
            exact hret _ _ _ _ (some (.int (am1 i))) () 24 ls (by decide) (by decide) (by first | exact rvi (by rw [hm, hi0]; rfl) | exact rvi (by rw [hm, am1_s hi0]; exact (most_hit hi0 c_14).symm)) hP hD hS (ret_i dX6_greatest_24)
          ·
            refine lv_iinc (v := am1 (i - 1)) (lv' := [(3, .int (am1 (i - 1))), (0, .ref m0), (1, .int (nI q)), (2, .int (nI j))]) hx hb dX6_greatest_17 hl (k := 3) rfl (by rw [am1_s hi0, am1_d hi0]) (by decide) rfl (fun ls hl => ?_)
            refine lv_goto (tgt := 3) hx hb dX6_greatest_20 (by decide) ?_
            exact ih3  (i - 1) _ _ ls (by first | with_reducible assumption | omega) (by rw [hm]; exact most_miss hi0 c_14) (by omega) hP hD hS (lv_sub hl [1, 2, 3, 0] rfl)
  exact L3 (11 + 1) 11 _ _ ls (by first | with_reducible assumption | omega) (by rfl) (by omega) hP hD hS (lv_sub hl [1, 2, 3, 0] rfl)

set_option maxHeartbeats 4000000 in
set_option maxRecDepth 100000 in
theorem k_X6_fit (l : Launch) (D : va_G) (cI cS cL : ClassId) (T : Nat) (m0 : Nat) (m1 : Nat) (m2 : Nat) (m3 : Nat) (m4 : Nat) (m5 : Nat) (k : Nat) (n : Nat) (th : Nat) (ax : Nat) (fa : Nat) (vl : Nat) (tn : Nat) (hg : Nat) (bg : Nat) (s : Nat → Nat) (q : Nat) (j : Nat) (x : Nat) (hI : sI T s) (hT : T ≤ 1001000) (hq : q ≤ 999) (hj : j < 8) (hx2 : x ≤ 10) : KM l D (TY cI cS cL) yX6_fit wsX6_fit ({ frames := 3, cells := 0, slots := 0, locals := 71 } : Room) [(m0, .inr (6, [.ref m1, .ref m2, .ref m3, .int (nI k), .ref m4, .int (nI n), .int (nI th), .int (nI ax), .int (nI fa), .int (nI vl), .ref m5, .int (nI tn), .int (nI hg), .int (nI bg)])), (m1, .inl (cI, 118, .inl (ro 118 s)))] [.ref m0, .int (nI q), .int (nI j), .int (nI x)] (fun (v : Option Value) (_ : Unit) => v = some (.int (fitD s j x (1000 - q) q))) (fun _ : Unit => [(m0, .inr (6, [.ref m1, .ref m2, .ref m3, .int (nI k), .ref m4, .int (nI n), .int (nI th), .int (nI ax), .int (nI fa), .int (nI vl), .ref m5, .int (nI tn), .int (nI hg), .int (nI bg)])), (m1, .inl (cI, 118, .inl (ro 118 s)))]) := by
  refine KM.of (cc := cX6_fit) (maxL := 5) (ret := (some .int)) (by decide) rfl (Nat.le_of_ble_eq_true rfl) ?_
  intro p9 e9 s9 m9 ar9 be9 me9 c9 Q9 A9 ls C0 hN hnm hlk hK hA hret hP hD hS hl
  obtain ⟨hx, hb, hml, hown, hts⟩ := id C0
  have hl : lv_has ls 5 [(0, .ref m0), (1, .int (nI q)), (2, .int (nI j)), (3, .int (nI x))] := hl
  obtain ⟨H, hH0⟩ : ∃ H, H = s9.heap := ⟨_, rfl⟩
  obtain ⟨locs, hlc0⟩ : ∃ z : List Loc, z = [] := ⟨_, rfl⟩
  have hP : va_P D vwCl [(m0, .inr (6, [.ref m1, .ref m2, .ref m3, .int (nI k), .ref m4, .int (nI n), .int (nI th), .int (nI ax), .int (nI fa), .int (nI vl), .ref m5, .int (nI tn), .int (nI hg), .int (nI bg)])), (m1, .inl (cI, 118, .inl (ro 118 s)))] H := by rw [hH0]; exact hP
  have hD : va_D A9 [(m0, .inr (6, [.ref m1, .ref m2, .ref m3, .int (nI k), .ref m4, .int (nI n), .int (nI th), .int (nI ax), .int (nI fa), .int (nI vl), .ref m5, .int (nI tn), .int (nI hg), .int (nI bg)])), (m1, .inl (cI, 118, .inl (ro 118 s)))] := hD
  have hS : va_S A9 s9.heap H locs := by rw [hH0, hlc0]; exact hS
  suffices hgo : W p9 l e9 ({ frames := 3, cells := 0, slots := 0, locals := 71 } : Room) s9 m9 ar9 be9 me9 c9 H locs 0 0 Q9 (F0 m9 0 ls []) by rw [hH0, hlc0] at hgo; exact hgo
  clear hH0 hlc0
  obtain ⟨hI1, hI2, hI3, hI4, hI5, hI6, hI7, hI8, hI9, hI10, hI11⟩ := id hI
  refine lv_iload_n hx hb dX6_fit_0 rfl (lv_at hl 1 rfl) ?_
  refine lv_istore (lv' := [(4, .int (nI q)), (0, .ref m0), (1, .int (nI q)), (2, .int (nI j)), (3, .int (nI x))]) hx hb dX6_fit_1 hl (by decide) rfl (fun ls hl => ?_)
  have L3 : ∀ (fuel : Nat) (p : Nat) (H : Heap) (locs : List Loc) (ls : Array Slot), (p ≤ 1000) → (fitD s j x (1000 - q) q = fitD s j x (1000 - p) p) → (1000 - p < fuel) → va_P D vwCl [(m0, .inr (6, [.ref m1, .ref m2, .ref m3, .int (nI k), .ref m4, .int (nI n), .int (nI th), .int (nI ax), .int (nI fa), .int (nI vl), .ref m5, .int (nI tn), .int (nI hg), .int (nI bg)])), (m1, .inl (cI, 118, .inl (ro 118 s)))] H → va_D A9 [(m0, .inr (6, [.ref m1, .ref m2, .ref m3, .int (nI k), .ref m4, .int (nI n), .int (nI th), .int (nI ax), .int (nI fa), .int (nI vl), .ref m5, .int (nI tn), .int (nI hg), .int (nI bg)])), (m1, .inl (cI, 118, .inl (ro 118 s)))] → va_S A9 s9.heap H locs → lv_has ls 5 [(0, .ref m0), (2, .int (nI j)), (3, .int (nI x)), (4, .int (nI p))] → W p9 l e9 ({ frames := 3, cells := 0, slots := 0, locals := 71 } : Room) s9 m9 ar9 be9 me9 c9 H locs 0 0 Q9 (F0 m9 3 ls []) := by
    intro fuel
    induction fuel with
    | zero => intro p H locs ls hp hm hfu; exact absurd hfu (Nat.not_lt_zero _)
    | succ fuel ih3 =>
      intro p H locs ls hp hm hfu hP hD hS hl
      refine lv_iload hx hb dX6_fit_3 (lv_at hl 3 rfl) ?_
      refine lv_sipush (v := nI 999) hx hb dX6_fit_5 (by decide +kernel) ?_
      refine q_igt (tgt := 31) (by omega) (by omega) hx hb dX6_fit_8 (by decide) (fun c_8 => ?_) (fun c_8 => ?_)
      ·
        refine lv_iconst (v := (-1)) hx hb dX6_fit_31 (by decide +kernel) ?_
        exact hret _ _ _ _ (some (.int (-1))) () 32 ls (by decide) (by decide) (by exact rvi (by rw [hm]; exact (fit_over (by omega)).symm)) hP hD hS (ret_i dX6_fit_32)
      ·
        refine lv_aload_n hx hb dX6_fit_11 rfl (lv_at hl 0 rfl) ?_
        refine lv_iload hx hb dX6_fit_12 (lv_at hl 3 rfl) ?_
        refine lv_iload_n hx hb dX6_fit_14 rfl (lv_at hl 1 rfl) ?_
        refine lv_iload_n hx hb dX6_fit_15 rfl (lv_at hl 2 rfl) ?_
        refine KM.callV (As := [.int (nI p), .int (nI j), .int (nI x)]) (rest := []) C0 hN (k_X6_reason l D cI cS cL T m0 m1 m2 m3 m4 m5 k n th ax fa vl tn hg bg s p j x  (by first | with_reducible assumption | omega) (by first | with_reducible assumption | omega) (by first | with_reducible assumption | omega) (by first | with_reducible assumption | omega) (by first | with_reducible assumption | omega)) (cwV 3 hts gX6_fit_X6_reason rfl rfl rfl (by decide +kernel) ⟨Nat.le_of_ble_eq_true rfl, Nat.le_of_ble_eq_true rfl⟩) hK hP hD hS hA [0, 1] rfl (by decide) (fun _ => rfl) 0 6 rfl rfl rfl rfl hl.1 rfl (Nat.le_of_ble_eq_true rfl) dX6_fit_16 ⟨Nat.le_of_ble_eq_true rfl, Nat.le_of_ble_eq_true rfl⟩ (fun v9 u9 H locs hv hP hD hS => ?_)
        subst hv
        have hP : va_P D vwCl [(m0, .inr (6, [.ref m1, .ref m2, .ref m3, .int (nI k), .ref m4, .int (nI n), .int (nI th), .int (nI ax), .int (nI fa), .int (nI vl), .ref m5, .int (nI tn), .int (nI hg), .int (nI bg)])), (m1, .inl (cI, 118, .inl (ro 118 s)))] H := hP
        have hD : va_D A9 [(m0, .inr (6, [.ref m1, .ref m2, .ref m3, .int (nI k), .ref m4, .int (nI n), .int (nI th), .int (nI ax), .int (nI fa), .int (nI vl), .ref m5, .int (nI tn), .int (nI hg), .int (nI bg)])), (m1, .inl (cI, 118, .inl (ro 118 s)))] := hD
        refine W.eq (g2 := F0 m9 19 ls [.int (nI (rS s p j x))]) rfl ?_
        have hr8 : rS s p j x < 2 ^ 31 := rS_lt
        refine q_fne (tgt := 25) (by omega) hx hb dX6_fit_19 (by decide) (fun c_19 => ?_) (fun c_19 => ?_)
        ·
          refine lv_iinc (v := (nI (p + 1))) (lv' := [(4, .int (nI (p + 1))), (0, .ref m0), (2, .int (nI j)), (3, .int (nI x))]) hx hb dX6_fit_25 hl (k := 3) rfl (nI_add p 1) (by decide) rfl (fun ls hl => ?_)
          refine lv_goto (tgt := 3) hx hb dX6_fit_28 (by decide) ?_
          exact ih3  (p + 1) _ _ ls (by first | with_reducible assumption | omega) (by rw [hm]; exact fit_skip 1 p (p + 1) rfl (fun y h1 h2 => by rw [show y = p by omega]; exact c_19)) (by omega) hP hD hS (lv_sub hl [1, 2, 3, 0] rfl)
        ·
          refine lv_iload hx hb dX6_fit_22 (lv_at hl 3 rfl) ?_
          exact hret _ _ _ _ (some (.int (nI p))) () 24 ls (by decide) (by decide) (by exact rvi (by rw [hm]; exact (fit_hit (by omega) c_19).symm)) hP hD hS (ret_i dX6_fit_24)
  exact L3 (1000 - q + 1) q _ _ ls (by first | with_reducible assumption | omega) (by rfl) (by omega) hP hD hS (lv_sub hl [1, 3, 4, 0] rfl)

theorem in_X6_byPlaying_X6 : ∀ w ∈ wsX60, w ∈ wsX6_byPlaying := by decide +kernel
theorem fl_X6_byPlaying_7 : Cond.fieldLink RX6 7 "FountainCuesModel" "now" "[I" ∈ wsX6_byPlaying := by decide +kernel
theorem fl_X6_byPlaying_13 : Cond.fieldLink RX6 13 "FountainCuesModel" "then" "[I" ∈ wsX6_byPlaying := by decide +kernel
theorem fl_X6_byPlaying_65 : Cond.fieldLink RX6 65 "FountainCuesModel" "high" "I" ∈ wsX6_byPlaying := by decide +kernel
theorem fl_X6_byPlaying_68 : Cond.fieldLink RX6 68 "FountainCuesModel" "burning" "I" ∈ wsX6_byPlaying := by decide +kernel
set_option maxHeartbeats 4000000 in
set_option maxRecDepth 100000 in
theorem k_X6_byPlaying (l : Launch) (D : va_G) (cI cS cL : ClassId) (T : Nat) (m0 : Nat) (m1 : Nat) (m2 : Nat) (m3 : Nat) (m4 : Nat) (m5 : Nat) (k : Nat) (n : Nat) (th : Nat) (ax : Nat) (fa : Nat) (vl : Nat) (tn : Nat) (hg : Nat) (bg : Nat) (s : Nat → Nat) (h : Nat → Nat) (x : Nat) (y : Nat) (hI : sI T s) (hT : T ≤ 1000000) (hx2 : x ≤ 100) (hy2 : y ≤ 3) : KM l D (TY cI cS cL) yX6_byPlaying wsX6_byPlaying ({ frames := 6, cells := 0, slots := 0, locals := 138 } : Room) [(m0, .inr (6, [.ref m1, .ref m2, .ref m3, .int (nI k), .ref m4, .int (nI n), .int (nI th), .int (nI ax), .int (nI fa), .int (nI vl), .ref m5, .int (nI tn), .int (nI hg), .int (nI bg)])), (m1, .inl (cI, 118, .inl (ro 118 s))), (m2, .inl (cI, 118, .inl (ro 118 h)))] [.ref m0, .int (nI x), .int (nI y)] (fun (v : Option Value) (u : Nat → Nat → Nat) => v = some (.int (nI (ifpS s x y)))) (fun (u : Nat → Nat → Nat) => [(m0, .inr (6, [.ref m1, .ref m2, .ref m3, .int (nI k), .ref m4, .int (nI n), .int (nI th), .int (nI ax), .int (nI fa), .int (nI vl), .ref m5, .int (nI tn), .int (nI (u 0 0)), .int (nI (u 0 1))])), (m1, .inl (cI, 118, .inl (ro 118 s))), (m2, .inl (cI, 118, .inl (ro 118 (u 1))))]) := by
  refine KM.of (cc := cX6_byPlaying) (maxL := 6) (ret := (some .int)) (by decide) rfl (Nat.le_of_ble_eq_true rfl) ?_
  intro p9 e9 s9 m9 ar9 be9 me9 c9 Q9 A9 ls C0 hN hnm hlk hK hA hret hP hD hS hl
  obtain ⟨hx, hb, hml, hown, hts⟩ := id C0
  have hl : lv_has ls 6 [(0, .ref m0), (1, .int (nI x)), (2, .int (nI y))] := hl
  obtain ⟨H, hH0⟩ : ∃ H, H = s9.heap := ⟨_, rfl⟩
  obtain ⟨locs, hlc0⟩ : ∃ z : List Loc, z = [] := ⟨_, rfl⟩
  have hP : va_P D vwCl [(m0, .inr (6, [.ref m1, .ref m2, .ref m3, .int (nI k), .ref m4, .int (nI n), .int (nI th), .int (nI ax), .int (nI fa), .int (nI vl), .ref m5, .int (nI tn), .int (nI hg), .int (nI bg)])), (m1, .inl (cI, 118, .inl (ro 118 s))), (m2, .inl (cI, 118, .inl (ro 118 h)))] H := by rw [hH0]; exact hP
  have hD : va_D A9 [(m0, .inr (6, [.ref m1, .ref m2, .ref m3, .int (nI k), .ref m4, .int (nI n), .int (nI th), .int (nI ax), .int (nI fa), .int (nI vl), .ref m5, .int (nI tn), .int (nI hg), .int (nI bg)])), (m1, .inl (cI, 118, .inl (ro 118 s))), (m2, .inl (cI, 118, .inl (ro 118 h)))] := hD
  have hS : va_S A9 s9.heap H locs := by rw [hH0, hlc0]; exact hS
  suffices hgo : W p9 l e9 ({ frames := 6, cells := 0, slots := 0, locals := 138 } : Room) s9 m9 ar9 be9 me9 c9 H locs 0 0 Q9 (F0 m9 0 ls []) by rw [hH0, hlc0] at hgo; exact hgo
  clear hH0 hlc0
  obtain ⟨hI1, hI2, hI3, hI4, hI5, hI6, hI7, hI8, hI9, hI10, hI11⟩ := id hI
  have hR := plR_play x s
  obtain ⟨-, hR2, hR3⟩ := id hR
  refine lv_aload_n hx hb dX6_byPlaying_0 rfl (lv_at hl 0 rfl) ?_
  refine va_get (D := D) (ci := 6) (v := .ref m1) (C := RX6) (T := TX6) (N := 14) hx hb hts in_X6_byPlaying_X6 hown hK hP 0 rfl rfl 0 (by decide) (hts _ fl_X6_byPlaying_7) (fun _ h9 => h9) rfl dX6_byPlaying_1 ?_
  refine lv_iconst (v := nI 0) hx hb dX6_byPlaying_4 (by decide +kernel) ?_
  refine lv_aload_n hx hb dX6_byPlaying_5 rfl (lv_at hl 0 rfl) ?_
  refine va_get (D := D) (ci := 6) (v := .ref m2) (C := RX6) (T := TX6) (N := 14) hx hb hts in_X6_byPlaying_X6 hown hK hP 0 rfl rfl 1 (by decide) (hts _ fl_X6_byPlaying_13) (fun _ h9 => h9) rfl dX6_byPlaying_6 ?_
  refine lv_iconst (v := nI 0) hx hb dX6_byPlaying_9 (by decide +kernel) ?_
  refine KM.callS (As := [.ref m1, .int (nI 0), .ref m2, .int (nI 0)]) (rest := []) C0 hN (k_X6_copies l D cI cS cL m1 118 s 0 m2 118 h 0  (by first | with_reducible assumption | omega) (by first | with_reducible assumption | omega) (by first | with_reducible assumption | omega) (by first | with_reducible assumption | omega)) (va_cwS 4 hts gX6_byPlaying_X6_copies rfl rfl rfl (by decide +kernel) ⟨Nat.le_of_ble_eq_true rfl, Nat.le_of_ble_eq_true rfl⟩) hK hP hD hS hA [1, 2] rfl (by decide) (fun _ => rfl) rfl hl.1 rfl (Nat.le_of_ble_eq_true rfl) dX6_byPlaying_10 ⟨Nat.le_of_ble_eq_true rfl, Nat.le_of_ble_eq_true rfl⟩ (fun v9 u9 H locs hv hP hD hS => ?_)
  subst hv
  have hP : va_P D vwCl [(m0, .inr (6, [.ref m1, .ref m2, .ref m3, .int (nI k), .ref m4, .int (nI n), .int (nI th), .int (nI ax), .int (nI fa), .int (nI vl), .ref m5, .int (nI tn), .int (nI hg), .int (nI bg)])), (m1, .inl (cI, 118, .inl (ro 118 s))), (m2, .inl (cI, 118, .inl (ro 118 (cpF s 0 h 0 118))))] H := hP
  have hD : va_D A9 [(m0, .inr (6, [.ref m1, .ref m2, .ref m3, .int (nI k), .ref m4, .int (nI n), .int (nI th), .int (nI ax), .int (nI fa), .int (nI vl), .ref m5, .int (nI tn), .int (nI hg), .int (nI bg)])), (m1, .inl (cI, 118, .inl (ro 118 s))), (m2, .inl (cI, 118, .inl (ro 118 (cpF s 0 h 0 118))))] := hD
  refine W.eq (g2 := F0 m9 13 ls []) rfl ?_
  have er_1 : ro 118 (cpF s 0 h 0 118) = ro 118 (mPlay 0 s) := by exact copy_row
  rw [er_1] at hP hD
  refine lv_iconst (v := nI 0) hx hb dX6_byPlaying_13 (by decide +kernel) ?_
  refine q_topi (y := (nI (mPlay 0 (mZero s) 13))) (by rfl) ?_
  refine lv_istore_n (lv' := [(3, .int (nI (mPlay 0 (mZero s) 13))), (0, .ref m0), (1, .int (nI x)), (2, .int (nI y))]) hx hb dX6_byPlaying_14 rfl hl (by decide) rfl (fun ls hl => ?_)
  refine lv_iconst (v := nI 0) hx hb dX6_byPlaying_15 (by decide +kernel) ?_
  refine q_topi (y := (nI (lampS (mPlay 0 (mZero s)) 0))) (by exact congrArg nI (lampS_0 s).symm) ?_
  refine lv_istore (lv' := [(4, .int (nI (lampS (mPlay 0 (mZero s)) 0))), (3, .int (nI (mPlay 0 (mZero s) 13))), (0, .ref m0), (1, .int (nI x)), (2, .int (nI y))]) hx hb dX6_byPlaying_16 hl (by decide) rfl (fun ls hl => ?_)
  refine lv_iconst (v := nI 0) hx hb dX6_byPlaying_18 (by decide +kernel) ?_
  refine lv_istore (lv' := [(5, .int (nI 0)), (4, .int (nI (lampS (mPlay 0 (mZero s)) 0))), (3, .int (nI (mPlay 0 (mZero s) 13))), (0, .ref m0), (1, .int (nI x)), (2, .int (nI y))]) hx hb dX6_byPlaying_19 hl (by decide) rfl (fun ls hl => ?_)
  have L21 : ∀ (fuel : Nat) (i : Nat) (h2 : Nat) (b2 : Nat) (H : Heap) (locs : List Loc) (ls : Array Slot), (i ≤ x) → (x - i < fuel) → va_P D vwCl [(m0, .inr (6, [.ref m1, .ref m2, .ref m3, .int (nI k), .ref m4, .int (nI n), .int (nI th), .int (nI ax), .int (nI fa), .int (nI vl), .ref m5, .int (nI tn), .int (nI h2), .int (nI b2)])), (m1, .inl (cI, 118, .inl (ro 118 s))), (m2, .inl (cI, 118, .inl (ro 118 (mPlay i s))))] H → va_D A9 [(m0, .inr (6, [.ref m1, .ref m2, .ref m3, .int (nI k), .ref m4, .int (nI n), .int (nI th), .int (nI ax), .int (nI fa), .int (nI vl), .ref m5, .int (nI tn), .int (nI h2), .int (nI b2)])), (m1, .inl (cI, 118, .inl (ro 118 s))), (m2, .inl (cI, 118, .inl (ro 118 (mPlay i s))))] → va_S A9 s9.heap H locs → lv_has ls 6 [(0, .ref m0), (1, .int (nI x)), (2, .int (nI y)), (3, .int (nI (mPlay i (mZero s) 13))), (4, .int (nI (lampS (mPlay i (mZero s)) 0))), (5, .int (nI i))] → W p9 l e9 ({ frames := 6, cells := 0, slots := 0, locals := 138 } : Room) s9 m9 ar9 be9 me9 c9 H locs 0 0 Q9 (F0 m9 21 ls []) := by
    intro fuel
    induction fuel with
    | zero => intro i h2 b2 H locs ls hi hfu; exact absurd hfu (Nat.not_lt_zero _)
    | succ fuel ih21 =>
      intro i h2 b2 H locs ls hi hfu hP hD hS hl
      have hIi := sI_play i hI
      have hIz := sI_play i (sI_zero hI)
      have hm13 : mPlay i (mZero s) 13 ≤ 10 := hIz.2.2.2.2.2.2.2.1
      have hIu := sI_move (sI_cues 16 hIi)
      have hh10 := hiS_le hIu
      have e13 := by_hi i s
      have ela := by_la i s
      refine lv_iload hx hb dX6_byPlaying_21 (lv_at hl 5 rfl) ?_
      refine lv_iload_n hx hb dX6_byPlaying_23 rfl (lv_at hl 1 rfl) ?_
      refine q_ige (tgt := 67) (by omega) (by omega) hx hb dX6_byPlaying_24 (by decide) (fun c_24 => ?_) (fun c_24 => ?_)
      ·
        have hix : i = x := by omega
        subst hix
        refine lv_iload_n hx hb dX6_byPlaying_67 rfl (lv_at hl 2 rfl) ?_
        refine q_fne (tgt := 89) (by omega) hx hb dX6_byPlaying_68 (by decide) (fun c_68 => ?_) (fun c_68 => ?_)
        ·
          refine lv_iload_n hx hb dX6_byPlaying_89 rfl (lv_at hl 2 rfl) ?_
          refine lv_iconst (v := nI 1) hx hb dX6_byPlaying_90 (by decide +kernel) ?_
          refine q_ine (tgt := 112) (by omega) (by omega) hx hb dX6_byPlaying_91 (by decide) (fun c_91 => ?_) (fun c_91 => ?_)
          ·
            refine lv_iload_n hx hb dX6_byPlaying_112 rfl (lv_at hl 2 rfl) ?_
            refine lv_iconst (v := nI 2) hx hb dX6_byPlaying_113 (by decide +kernel) ?_
            refine q_ine (tgt := 121) (by omega) (by omega) hx hb dX6_byPlaying_114 (by decide) (fun c_114 => ?_) (fun c_114 => ?_)
            ·
              refine lv_iload hx hb dX6_byPlaying_121 (lv_at hl 4 rfl) ?_
              exact hret _ _ _ _ (some (.int (nI (lampS (mPlay i (mZero s)) 0)))) (fun i9 => [(fun j9 => [h2, b2].getD j9 0), mPlay i s].getD i9 (fun _ => 0)) 123 ls (by decide) (by decide) (by exact rv (by unfold ifpS; (repeat' split) <;> first | rfl | omega | (exfalso; omega))) hP hD hS (ret_i dX6_byPlaying_123)
            ·
              refine lv_iload_n hx hb dX6_byPlaying_117 rfl (lv_at hl 3 rfl) ?_
              refine lv_goto (tgt := 123) hx hb dX6_byPlaying_118 (by decide) ?_
              exact hret _ _ _ _ (some (.int (nI (mPlay i (mZero s) 13)))) (fun i9 => [(fun j9 => [h2, b2].getD j9 0), mPlay i s].getD i9 (fun _ => 0)) 123 ls (by decide) (by decide) (by exact rv (by unfold ifpS; (repeat' split) <;> first | rfl | omega | (exfalso; omega))) hP hD hS (ret_i dX6_byPlaying_123)
          ·
            refine lv_aload_n hx hb dX6_byPlaying_94 rfl (lv_at hl 0 rfl) ?_
            refine va_get (D := D) (ci := 6) (v := .ref m2) (C := RX6) (T := TX6) (N := 14) hx hb hts in_X6_byPlaying_X6 hown hK hP 0 rfl rfl 1 (by decide) (hts _ fl_X6_byPlaying_13) (fun _ h9 => h9) rfl dX6_byPlaying_95 ?_
            refine lv_bipush (v := nI 11) hx hb dX6_byPlaying_98 (by decide +kernel) ?_
            refine q_iald 2 0 (by omega) (by omega) hx hb hK hP rfl rfl dX6_byPlaying_100 ?_
            refine lv_aload_n hx hb dX6_byPlaying_101 rfl (lv_at hl 0 rfl) ?_
            refine va_get (D := D) (ci := 6) (v := .ref m1) (C := RX6) (T := TX6) (N := 14) hx hb hts in_X6_byPlaying_X6 hown hK hP 0 rfl rfl 0 (by decide) (hts _ fl_X6_byPlaying_7) (fun _ h9 => h9) rfl dX6_byPlaying_102 ?_
            refine lv_bipush (v := nI 11) hx hb dX6_byPlaying_105 (by decide +kernel) ?_
            refine q_iald 1 0 (by omega) (by omega) hx hb hK hP rfl rfl dX6_byPlaying_107 ?_
            refine q_isub (by omega) hx hb dX6_byPlaying_108 ?_
            refine lv_goto (tgt := 123) hx hb dX6_byPlaying_109 (by decide) ?_
            exact hret _ _ _ _ (some (.int (nI (((mPlay i s) 11) - (s 11))))) (fun i9 => [(fun j9 => [h2, b2].getD j9 0), mPlay i s].getD i9 (fun _ => 0)) 123 ls (by decide) (by decide) (by exact rv (by unfold ifpS; (repeat' split) <;> first | rfl | omega | (exfalso; omega))) hP hD hS (ret_i dX6_byPlaying_123)
        ·
          refine lv_aload_n hx hb dX6_byPlaying_71 rfl (lv_at hl 0 rfl) ?_
          refine va_get (D := D) (ci := 6) (v := .ref m2) (C := RX6) (T := TX6) (N := 14) hx hb hts in_X6_byPlaying_X6 hown hK hP 0 rfl rfl 1 (by decide) (hts _ fl_X6_byPlaying_13) (fun _ h9 => h9) rfl dX6_byPlaying_72 ?_
          refine lv_bipush (v := nI 10) hx hb dX6_byPlaying_75 (by decide +kernel) ?_
          refine q_iald 2 0 (by omega) (by omega) hx hb hK hP rfl rfl dX6_byPlaying_77 ?_
          refine lv_aload_n hx hb dX6_byPlaying_78 rfl (lv_at hl 0 rfl) ?_
          refine va_get (D := D) (ci := 6) (v := .ref m1) (C := RX6) (T := TX6) (N := 14) hx hb hts in_X6_byPlaying_X6 hown hK hP 0 rfl rfl 0 (by decide) (hts _ fl_X6_byPlaying_7) (fun _ h9 => h9) rfl dX6_byPlaying_79 ?_
          refine lv_bipush (v := nI 10) hx hb dX6_byPlaying_82 (by decide +kernel) ?_
          refine q_iald 1 0 (by omega) (by omega) hx hb hK hP rfl rfl dX6_byPlaying_84 ?_
          refine q_isub (by omega) hx hb dX6_byPlaying_85 ?_
          refine lv_goto (tgt := 123) hx hb dX6_byPlaying_86 (by decide) ?_
          exact hret _ _ _ _ (some (.int (nI (((mPlay i s) 10) - (s 10))))) (fun i9 => [(fun j9 => [h2, b2].getD j9 0), mPlay i s].getD i9 (fun _ => 0)) 123 ls (by decide) (by decide) (by exact rv (by unfold ifpS; (repeat' split) <;> first | rfl | omega | (exfalso; omega))) hP hD hS (ret_i dX6_byPlaying_123)
      ·
        refine lv_aload_n hx hb dX6_byPlaying_27 rfl (lv_at hl 0 rfl) ?_
        refine lv_aload_n hx hb dX6_byPlaying_28 rfl (lv_at hl 0 rfl) ?_
        refine va_get (D := D) (ci := 6) (v := .ref m2) (C := RX6) (T := TX6) (N := 14) hx hb hts in_X6_byPlaying_X6 hown hK hP 0 rfl rfl 1 (by decide) (hts _ fl_X6_byPlaying_13) (fun _ h9 => h9) rfl dX6_byPlaying_29 ?_
        refine KM.callV (As := [.ref m2]) (rest := []) C0 hN (k_X6_tick l D cI cS cL (T + i) m0 m1 m2 m3 m4 m5 k n th ax fa vl tn h2 b2 m2 (mPlay i s)  (by exact hIi) (by omega)) (cwV 1 hts gX6_byPlaying_X6_tick rfl rfl rfl (by decide +kernel) ⟨Nat.le_of_ble_eq_true rfl, Nat.le_of_ble_eq_true rfl⟩) hK hP hD hS hA [0, 2] rfl (by decide) (fun _ => rfl) 0 6 rfl rfl rfl rfl hl.1 rfl (Nat.le_of_ble_eq_true rfl) dX6_byPlaying_32 ⟨Nat.le_of_ble_eq_true rfl, Nat.le_of_ble_eq_true rfl⟩ (fun v9 u9 H locs hv hP hD hS => ?_)
        subst hv
        have hP : va_P D vwCl [(m0, .inr (6, [.ref m1, .ref m2, .ref m3, .int (nI k), .ref m4, .int (nI n), .int (nI th), .int (nI ax), .int (nI fa), .int (nI vl), .ref m5, .int (nI tn), .int (nI (hiS (mMove (mCues 16 (mPlay i s))))), .int (nI (brS (mMove (mCues 16 (mPlay i s)))))])), (m1, .inl (cI, 118, .inl (ro 118 s))), (m2, .inl (cI, 118, .inl (ro 118 (mTick (mPlay i s)))))] H := hP
        have hD : va_D A9 [(m0, .inr (6, [.ref m1, .ref m2, .ref m3, .int (nI k), .ref m4, .int (nI n), .int (nI th), .int (nI ax), .int (nI fa), .int (nI vl), .ref m5, .int (nI tn), .int (nI (hiS (mMove (mCues 16 (mPlay i s))))), .int (nI (brS (mMove (mCues 16 (mPlay i s)))))])), (m1, .inl (cI, 118, .inl (ro 118 s))), (m2, .inl (cI, 118, .inl (ro 118 (mTick (mPlay i s)))))] := hD
        refine W.eq (g2 := F0 m9 35 ls []) rfl ?_
        have er_2 : ro 118 (mTick (mPlay i s)) = ro 118 (mPlay (i + 1) s) := by rw [mPlay_succ]
        rw [er_2] at hP hD
        refine lv_aload_n hx hb dX6_byPlaying_35 rfl (lv_at hl 0 rfl) ?_
        refine va_get (D := D) (ci := 6) (v := .int (nI (hiS (mMove (mCues 16 (mPlay i s)))))) (C := RX6) (T := TX6) (N := 14) hx hb hts in_X6_byPlaying_X6 hown hK hP 0 rfl rfl 12 (by decide) (hts _ fl_X6_byPlaying_65) (fun _ h9 => h9) rfl dX6_byPlaying_36 ?_
        refine lv_iload_n hx hb dX6_byPlaying_39 rfl (lv_at hl 3 rfl) ?_
        refine q_ile (tgt := 50) (by omega) (by omega) hx hb dX6_byPlaying_40 (by decide) (fun c_40 => ?_) (fun c_40 => ?_)
        ·
          refine lv_iload_n hx hb dX6_byPlaying_50 rfl (lv_at hl 3 rfl) ?_
          refine q_topi (y := (nI (mPlay (i + 1) (mZero s) 13))) (by exact congrArg nI (by omega)) ?_
          refine lv_istore_n (lv' := [(3, .int (nI (mPlay (i + 1) (mZero s) 13))), (0, .ref m0), (1, .int (nI x)), (2, .int (nI y)), (4, .int (nI (lampS (mPlay i (mZero s)) 0))), (5, .int (nI i))]) hx hb dX6_byPlaying_51 rfl hl (by decide) rfl (fun ls hl => ?_)
          refine lv_iload hx hb dX6_byPlaying_52 (lv_at hl 4 rfl) ?_
          refine lv_aload_n hx hb dX6_byPlaying_54 rfl (lv_at hl 1 rfl) ?_
          refine va_get (D := D) (ci := 6) (v := .int (nI (brS (mMove (mCues 16 (mPlay i s)))))) (C := RX6) (T := TX6) (N := 14) hx hb hts in_X6_byPlaying_X6 hown hK hP 0 rfl rfl 13 (by decide) (hts _ fl_X6_byPlaying_68) (fun _ h9 => h9) rfl dX6_byPlaying_55 ?_
          refine q_iadd hx hb dX6_byPlaying_58 ?_
          refine q_topi (y := (nI (lampS (mPlay (i + 1) (mZero s)) 0))) (by exact congrArg nI (by omega)) ?_
          refine lv_istore (lv' := [(4, .int (nI (lampS (mPlay (i + 1) (mZero s)) 0))), (3, .int (nI (mPlay (i + 1) (mZero s) 13))), (0, .ref m0), (1, .int (nI x)), (2, .int (nI y)), (5, .int (nI i))]) hx hb dX6_byPlaying_59 hl (by decide) rfl (fun ls hl => ?_)
          refine lv_iinc (v := (nI (i + 1))) (lv' := [(5, .int (nI (i + 1))), (4, .int (nI (lampS (mPlay (i + 1) (mZero s)) 0))), (3, .int (nI (mPlay (i + 1) (mZero s) 13))), (0, .ref m0), (1, .int (nI x)), (2, .int (nI y))]) hx hb dX6_byPlaying_61 hl (k := 5) rfl (nI_add i 1) (by decide) rfl (fun ls hl => ?_)
          refine lv_goto (tgt := 21) hx hb dX6_byPlaying_64 (by decide) ?_
          exact ih21  (i + 1) (hiS (mMove (mCues 16 (mPlay i s)))) (brS (mMove (mCues 16 (mPlay i s)))) _ _ ls (by first | with_reducible assumption | omega) (by omega) hP hD hS (lv_sub hl [3, 4, 5, 2, 1, 0] rfl)
        ·
          refine lv_aload_n hx hb dX6_byPlaying_43 rfl (lv_at hl 0 rfl) ?_
          refine va_get (D := D) (ci := 6) (v := .int (nI (hiS (mMove (mCues 16 (mPlay i s)))))) (C := RX6) (T := TX6) (N := 14) hx hb hts in_X6_byPlaying_X6 hown hK hP 0 rfl rfl 12 (by decide) (hts _ fl_X6_byPlaying_65) (fun _ h9 => h9) rfl dX6_byPlaying_44 ?_
          refine q_topi (y := (nI (mPlay (i + 1) (mZero s) 13))) (by exact congrArg nI (by omega)) ?_
          refine lv_goto (tgt := 51) hx hb dX6_byPlaying_47 (by decide) ?_
          refine lv_istore_n (lv' := [(3, .int (nI (mPlay (i + 1) (mZero s) 13))), (0, .ref m0), (1, .int (nI x)), (2, .int (nI y)), (4, .int (nI (lampS (mPlay i (mZero s)) 0))), (5, .int (nI i))]) hx hb dX6_byPlaying_51 rfl hl (by decide) rfl (fun ls hl => ?_)
          refine lv_iload hx hb dX6_byPlaying_52 (lv_at hl 4 rfl) ?_
          refine lv_aload_n hx hb dX6_byPlaying_54 rfl (lv_at hl 1 rfl) ?_
          refine va_get (D := D) (ci := 6) (v := .int (nI (brS (mMove (mCues 16 (mPlay i s)))))) (C := RX6) (T := TX6) (N := 14) hx hb hts in_X6_byPlaying_X6 hown hK hP 0 rfl rfl 13 (by decide) (hts _ fl_X6_byPlaying_68) (fun _ h9 => h9) rfl dX6_byPlaying_55 ?_
          refine q_iadd hx hb dX6_byPlaying_58 ?_
          refine q_topi (y := (nI (lampS (mPlay (i + 1) (mZero s)) 0))) (by exact congrArg nI (by omega)) ?_
          refine lv_istore (lv' := [(4, .int (nI (lampS (mPlay (i + 1) (mZero s)) 0))), (3, .int (nI (mPlay (i + 1) (mZero s) 13))), (0, .ref m0), (1, .int (nI x)), (2, .int (nI y)), (5, .int (nI i))]) hx hb dX6_byPlaying_59 hl (by decide) rfl (fun ls hl => ?_)
          refine lv_iinc (v := (nI (i + 1))) (lv' := [(5, .int (nI (i + 1))), (4, .int (nI (lampS (mPlay (i + 1) (mZero s)) 0))), (3, .int (nI (mPlay (i + 1) (mZero s) 13))), (0, .ref m0), (1, .int (nI x)), (2, .int (nI y))]) hx hb dX6_byPlaying_61 hl (k := 5) rfl (nI_add i 1) (by decide) rfl (fun ls hl => ?_)
          refine lv_goto (tgt := 21) hx hb dX6_byPlaying_64 (by decide) ?_
          exact ih21  (i + 1) (hiS (mMove (mCues 16 (mPlay i s)))) (brS (mMove (mCues 16 (mPlay i s)))) _ _ ls (by first | with_reducible assumption | omega) (by omega) hP hD hS (lv_sub hl [3, 4, 5, 2, 1, 0] rfl)
  exact L21 (x - 0 + 1) 0 hg bg _ _ ls (by first | with_reducible assumption | omega) (by omega) hP hD hS (lv_sub hl [3, 4, 5, 2, 1, 0] rfl)

theorem in_X6_lasts_X6 : ∀ w ∈ wsX60, w ∈ wsX6_lasts := by decide +kernel
theorem fl_X6_lasts_7 : Cond.fieldLink RX6 7 "FountainCuesModel" "now" "[I" ∈ wsX6_lasts := by decide +kernel
theorem fl_X6_lasts_13 : Cond.fieldLink RX6 13 "FountainCuesModel" "then" "[I" ∈ wsX6_lasts := by decide +kernel
set_option maxHeartbeats 4000000 in
set_option maxRecDepth 100000 in
theorem k_X6_lasts (l : Launch) (D : va_G) (cI cS cL : ClassId) (T : Nat) (m0 : Nat) (m1 : Nat) (m2 : Nat) (m3 : Nat) (m4 : Nat) (m5 : Nat) (k : Nat) (n : Nat) (th : Nat) (ax : Nat) (fa : Nat) (vl : Nat) (tn : Nat) (hg : Nat) (bg : Nat) (s : Nat → Nat) (h : Nat → Nat) (hI : sI T s) (hT : T ≤ 1000000) : KM l D (TY cI cS cL) yX6_lasts wsX6_lasts ({ frames := 6, cells := 0, slots := 0, locals := 138 } : Room) [(m0, .inr (6, [.ref m1, .ref m2, .ref m3, .int (nI k), .ref m4, .int (nI n), .int (nI th), .int (nI ax), .int (nI fa), .int (nI vl), .ref m5, .int (nI tn), .int (nI hg), .int (nI bg)])), (m1, .inl (cI, 118, .inl (ro 118 s))), (m2, .inl (cI, 118, .inl (ro 118 h)))] [.ref m0] (fun (v : Option Value) (u : Nat → Nat → Nat) => v = some (.int (dryD 500 1 (mZero s)))) (fun (u : Nat → Nat → Nat) => [(m0, .inr (6, [.ref m1, .ref m2, .ref m3, .int (nI k), .ref m4, .int (nI n), .int (nI th), .int (nI ax), .int (nI fa), .int (nI vl), .ref m5, .int (nI tn), .int (nI (u 0 0)), .int (nI (u 0 1))])), (m1, .inl (cI, 118, .inl (ro 118 s))), (m2, .inl (cI, 118, .inl (ro 118 (u 1))))]) := by
  refine KM.of (cc := cX6_lasts) (maxL := 2) (ret := (some .int)) (by decide) rfl (Nat.le_of_ble_eq_true rfl) ?_
  intro p9 e9 s9 m9 ar9 be9 me9 c9 Q9 A9 ls C0 hN hnm hlk hK hA hret hP hD hS hl
  obtain ⟨hx, hb, hml, hown, hts⟩ := id C0
  have hl : lv_has ls 2 [(0, .ref m0)] := hl
  obtain ⟨H, hH0⟩ : ∃ H, H = s9.heap := ⟨_, rfl⟩
  obtain ⟨locs, hlc0⟩ : ∃ z : List Loc, z = [] := ⟨_, rfl⟩
  have hP : va_P D vwCl [(m0, .inr (6, [.ref m1, .ref m2, .ref m3, .int (nI k), .ref m4, .int (nI n), .int (nI th), .int (nI ax), .int (nI fa), .int (nI vl), .ref m5, .int (nI tn), .int (nI hg), .int (nI bg)])), (m1, .inl (cI, 118, .inl (ro 118 s))), (m2, .inl (cI, 118, .inl (ro 118 h)))] H := by rw [hH0]; exact hP
  have hD : va_D A9 [(m0, .inr (6, [.ref m1, .ref m2, .ref m3, .int (nI k), .ref m4, .int (nI n), .int (nI th), .int (nI ax), .int (nI fa), .int (nI vl), .ref m5, .int (nI tn), .int (nI hg), .int (nI bg)])), (m1, .inl (cI, 118, .inl (ro 118 s))), (m2, .inl (cI, 118, .inl (ro 118 h)))] := hD
  have hS : va_S A9 s9.heap H locs := by rw [hH0, hlc0]; exact hS
  suffices hgo : W p9 l e9 ({ frames := 6, cells := 0, slots := 0, locals := 138 } : Room) s9 m9 ar9 be9 me9 c9 H locs 0 0 Q9 (F0 m9 0 ls []) by rw [hH0, hlc0] at hgo; exact hgo
  clear hH0 hlc0
  obtain ⟨hI1, hI2, hI3, hI4, hI5, hI6, hI7, hI8, hI9, hI10, hI11⟩ := id hI
  refine lv_aload_n hx hb dX6_lasts_0 rfl (lv_at hl 0 rfl) ?_
  refine va_get (D := D) (ci := 6) (v := .ref m1) (C := RX6) (T := TX6) (N := 14) hx hb hts in_X6_lasts_X6 hown hK hP 0 rfl rfl 0 (by decide) (hts _ fl_X6_lasts_7) (fun _ h9 => h9) rfl dX6_lasts_1 ?_
  refine lv_iconst (v := nI 0) hx hb dX6_lasts_4 (by decide +kernel) ?_
  refine lv_aload_n hx hb dX6_lasts_5 rfl (lv_at hl 0 rfl) ?_
  refine va_get (D := D) (ci := 6) (v := .ref m2) (C := RX6) (T := TX6) (N := 14) hx hb hts in_X6_lasts_X6 hown hK hP 0 rfl rfl 1 (by decide) (hts _ fl_X6_lasts_13) (fun _ h9 => h9) rfl dX6_lasts_6 ?_
  refine lv_iconst (v := nI 0) hx hb dX6_lasts_9 (by decide +kernel) ?_
  refine KM.callS (As := [.ref m1, .int (nI 0), .ref m2, .int (nI 0)]) (rest := []) C0 hN (k_X6_copies l D cI cS cL m1 118 s 0 m2 118 h 0  (by first | with_reducible assumption | omega) (by first | with_reducible assumption | omega) (by first | with_reducible assumption | omega) (by first | with_reducible assumption | omega)) (va_cwS 4 hts gX6_lasts_X6_copies rfl rfl rfl (by decide +kernel) ⟨Nat.le_of_ble_eq_true rfl, Nat.le_of_ble_eq_true rfl⟩) hK hP hD hS hA [1, 2] rfl (by decide) (fun _ => rfl) rfl hl.1 rfl (Nat.le_of_ble_eq_true rfl) dX6_lasts_10 ⟨Nat.le_of_ble_eq_true rfl, Nat.le_of_ble_eq_true rfl⟩ (fun v9 u9 H locs hv hP hD hS => ?_)
  subst hv
  have hP : va_P D vwCl [(m0, .inr (6, [.ref m1, .ref m2, .ref m3, .int (nI k), .ref m4, .int (nI n), .int (nI th), .int (nI ax), .int (nI fa), .int (nI vl), .ref m5, .int (nI tn), .int (nI hg), .int (nI bg)])), (m1, .inl (cI, 118, .inl (ro 118 s))), (m2, .inl (cI, 118, .inl (ro 118 (cpF s 0 h 0 118))))] H := hP
  have hD : va_D A9 [(m0, .inr (6, [.ref m1, .ref m2, .ref m3, .int (nI k), .ref m4, .int (nI n), .int (nI th), .int (nI ax), .int (nI fa), .int (nI vl), .ref m5, .int (nI tn), .int (nI hg), .int (nI bg)])), (m1, .inl (cI, 118, .inl (ro 118 s))), (m2, .inl (cI, 118, .inl (ro 118 (cpF s 0 h 0 118))))] := hD
  refine W.eq (g2 := F0 m9 13 ls []) rfl ?_
  have er_1 : ro 118 (cpF s 0 h 0 118) = ro 118 (mPlay 0 s) := by exact copy_row
  rw [er_1] at hP hD
  refine lv_iconst (v := nI 1) hx hb dX6_lasts_13 (by decide +kernel) ?_
  refine q_topi (y := (nI (0 + 1))) (by rfl) ?_
  refine lv_istore_n (lv' := [(1, .int (nI (0 + 1))), (0, .ref m0)]) hx hb dX6_lasts_14 rfl hl (by decide) rfl (fun ls hl => ?_)
  have L15 : ∀ (fuel : Nat) (i : Nat) (h2 : Nat) (b2 : Nat) (H : Heap) (locs : List Loc) (ls : Array Slot), (i ≤ 500) → (dryD 500 1 (mZero s) = dryD (501 - (i + 1)) (i + 1) (mPlay i (mZero s))) → (500 - i < fuel) → va_P D vwCl [(m0, .inr (6, [.ref m1, .ref m2, .ref m3, .int (nI k), .ref m4, .int (nI n), .int (nI th), .int (nI ax), .int (nI fa), .int (nI vl), .ref m5, .int (nI tn), .int (nI h2), .int (nI b2)])), (m1, .inl (cI, 118, .inl (ro 118 s))), (m2, .inl (cI, 118, .inl (ro 118 (mPlay i s))))] H → va_D A9 [(m0, .inr (6, [.ref m1, .ref m2, .ref m3, .int (nI k), .ref m4, .int (nI n), .int (nI th), .int (nI ax), .int (nI fa), .int (nI vl), .ref m5, .int (nI tn), .int (nI h2), .int (nI b2)])), (m1, .inl (cI, 118, .inl (ro 118 s))), (m2, .inl (cI, 118, .inl (ro 118 (mPlay i s))))] → va_S A9 s9.heap H locs → lv_has ls 2 [(0, .ref m0), (1, .int (nI (i + 1)))] → W p9 l e9 ({ frames := 6, cells := 0, slots := 0, locals := 138 } : Room) s9 m9 ar9 be9 me9 c9 H locs 0 0 Q9 (F0 m9 15 ls []) := by
    intro fuel
    induction fuel with
    | zero => intro i h2 b2 H locs ls hi hm hfu; exact absurd hfu (Nat.not_lt_zero _)
    | succ fuel ih15 =>
      intro i h2 b2 H locs ls hi hm hfu hP hD hS hl
      have hIi := sI_play i hI
      have hR := plR_tick (plR_play i s)
      obtain ⟨-, -, hR3⟩ := id hR
      have ht11 : mTick (mPlay i s) 11 ≤ T + i + 1 := (sI_tick hIi).2.2.2.2.2.2.1
      refine lv_iload_n hx hb dX6_lasts_15 rfl (lv_at hl 1 rfl) ?_
      refine lv_sipush (v := nI 500) hx hb dX6_lasts_16 (by decide +kernel) ?_
      refine q_igt (tgt := 55) (by omega) (by omega) hx hb dX6_lasts_19 (by decide) (fun c_19 => ?_) (fun c_19 => ?_)
      ·
        refine lv_iconst (v := (-1)) hx hb dX6_lasts_55 (by decide +kernel) ?_
        exact hret _ _ _ _ (some (.int (-1))) (fun i9 => [(fun j9 => [h2, b2].getD j9 0), mPlay i s].getD i9 (fun _ => 0)) 56 ls (by decide) (by decide) (by exact rvi (by rw [hm, show i = 500 by omega]; rfl)) hP hD hS (ret_i dX6_lasts_56)
      ·
        refine lv_aload_n hx hb dX6_lasts_22 rfl (lv_at hl 0 rfl) ?_
        refine lv_aload_n hx hb dX6_lasts_23 rfl (lv_at hl 0 rfl) ?_
        refine va_get (D := D) (ci := 6) (v := .ref m2) (C := RX6) (T := TX6) (N := 14) hx hb hts in_X6_lasts_X6 hown hK hP 0 rfl rfl 1 (by decide) (hts _ fl_X6_lasts_13) (fun _ h9 => h9) rfl dX6_lasts_24 ?_
        refine KM.callV (As := [.ref m2]) (rest := []) C0 hN (k_X6_tick l D cI cS cL (T + i) m0 m1 m2 m3 m4 m5 k n th ax fa vl tn h2 b2 m2 (mPlay i s)  (by exact hIi) (by omega)) (cwV 1 hts gX6_lasts_X6_tick rfl rfl rfl (by decide +kernel) ⟨Nat.le_of_ble_eq_true rfl, Nat.le_of_ble_eq_true rfl⟩) hK hP hD hS hA [0, 2] rfl (by decide) (fun _ => rfl) 0 6 rfl rfl rfl rfl hl.1 rfl (Nat.le_of_ble_eq_true rfl) dX6_lasts_27 ⟨Nat.le_of_ble_eq_true rfl, Nat.le_of_ble_eq_true rfl⟩ (fun v9 u9 H locs hv hP hD hS => ?_)
        subst hv
        have hP : va_P D vwCl [(m0, .inr (6, [.ref m1, .ref m2, .ref m3, .int (nI k), .ref m4, .int (nI n), .int (nI th), .int (nI ax), .int (nI fa), .int (nI vl), .ref m5, .int (nI tn), .int (nI (hiS (mMove (mCues 16 (mPlay i s))))), .int (nI (brS (mMove (mCues 16 (mPlay i s)))))])), (m1, .inl (cI, 118, .inl (ro 118 s))), (m2, .inl (cI, 118, .inl (ro 118 (mTick (mPlay i s)))))] H := hP
        have hD : va_D A9 [(m0, .inr (6, [.ref m1, .ref m2, .ref m3, .int (nI k), .ref m4, .int (nI n), .int (nI th), .int (nI ax), .int (nI fa), .int (nI vl), .ref m5, .int (nI tn), .int (nI (hiS (mMove (mCues 16 (mPlay i s))))), .int (nI (brS (mMove (mCues 16 (mPlay i s)))))])), (m1, .inl (cI, 118, .inl (ro 118 s))), (m2, .inl (cI, 118, .inl (ro 118 (mTick (mPlay i s)))))] := hD
        refine W.eq (g2 := F0 m9 30 ls []) rfl ?_
        refine lv_aload_n hx hb dX6_lasts_30 rfl (lv_at hl 0 rfl) ?_
        refine va_get (D := D) (ci := 6) (v := .ref m2) (C := RX6) (T := TX6) (N := 14) hx hb hts in_X6_lasts_X6 hown hK hP 0 rfl rfl 1 (by decide) (hts _ fl_X6_lasts_13) (fun _ h9 => h9) rfl dX6_lasts_31 ?_
        refine lv_bipush (v := nI 11) hx hb dX6_lasts_34 (by decide +kernel) ?_
        refine q_iald 2 0 (by omega) (by omega) hx hb hK hP rfl rfl dX6_lasts_36 ?_
        refine lv_aload_n hx hb dX6_lasts_37 rfl (lv_at hl 0 rfl) ?_
        refine va_get (D := D) (ci := 6) (v := .ref m1) (C := RX6) (T := TX6) (N := 14) hx hb hts in_X6_lasts_X6 hown hK hP 0 rfl rfl 0 (by decide) (hts _ fl_X6_lasts_7) (fun _ h9 => h9) rfl dX6_lasts_38 ?_
        refine lv_bipush (v := nI 11) hx hb dX6_lasts_41 (by decide +kernel) ?_
        refine q_iald 1 0 (by omega) (by omega) hx hb hK hP rfl rfl dX6_lasts_43 ?_
        refine q_ile (tgt := 49) (by omega) (by omega) hx hb dX6_lasts_44 (by decide) (fun c_44 => ?_) (fun c_44 => ?_)
        ·
          have er_2 : ro 118 (mTick (mPlay i s)) = ro 118 (mPlay (i + 1) s) := by rw [mPlay_succ]
          rw [er_2] at hP hD
          refine lv_iinc (v := (nI ((i + 1) + 1))) (lv' := [(1, .int (nI ((i + 1) + 1))), (0, .ref m0)]) hx hb dX6_lasts_49 hl (k := 1) rfl (nI_add (i + 1) 1) (by decide) rfl (fun ls hl => ?_)
          refine lv_goto (tgt := 15) hx hb dX6_lasts_52 (by decide) ?_
          exact ih15  (i + 1) (hiS (mMove (mCues 16 (mPlay i s)))) (brS (mMove (mCues 16 (mPlay i s)))) _ _ ls (by first | with_reducible assumption | omega) (by rw [hm, mPlay_succ]; exact dry_miss (by omega) (by omega)) (by omega) hP hD hS (lv_sub hl [1, 0] rfl)
        ·
          refine lv_iload_n hx hb dX6_lasts_47 rfl (lv_at hl 1 rfl) ?_
          exact hret _ _ _ _ (some (.int (nI (i + 1)))) (fun i9 => [(fun j9 => [(hiS (mMove (mCues 16 (mPlay i s)))), (brS (mMove (mCues 16 (mPlay i s))))].getD j9 0), (mTick (mPlay i s))].getD i9 (fun _ => 0)) 48 ls (by decide) (by decide) (by exact rvi (by rw [hm]; exact (dry_hit (by omega) (by omega)).symm)) hP hD hS (ret_i dX6_lasts_48)
  exact L15 (500 - 0 + 1) 0 hg bg _ _ ls (by first | with_reducible assumption | omega) (by rfl) (by omega) hP hD hS (lv_sub hl [1, 0] rfl)
