/-! the state with its saved ones -/
def gI (T : Nat) (s : Nat → Nat) (t : Nat → Nat → Nat) (k : Nat) : Prop := sI T s ∧ sJ s ∧ k ≤ 6 ∧ ∀ i, i < k → sI T (t i) ∧ sJ (t i)
theorem gI_mono {T T2 : Nat} {s : Nat → Nat} {t : Nat → Nat → Nat} {k : Nat} (h : gI T s t k) (hT : T ≤ T2) : gI T2 s t k :=
  ⟨sI_mono h.1 hT, h.2.1, h.2.2.1, fun i hi => ⟨sI_mono (h.2.2.2 i hi).1 hT, (h.2.2.2 i hi).2⟩⟩
theorem gI_mut {T : Nat} {s s2 : Nat → Nat} {t : Nat → Nat → Nat} {k : Nat} (h : gI T s t k) (h1 : sI (T + 9) s2) (h2 : sJ s2) : gI (T + 9) s2 (kpT k t s) (kpK k) := by
  have e := kp_all (P := fun z => sI (T + 9) z ∧ sJ z) h.2.2.1 (fun i hi => ⟨sI_mono (h.2.2.2 i hi).1 (by omega), (h.2.2.2 i hi).2⟩) ⟨sI_mono h.1 (by omega), h.2.1⟩
  exact ⟨h1, h2, e.1, e.2⟩
theorem gI_undo {T : Nat} {s : Nat → Nat} {t : Nat → Nat → Nat} {k : Nat} (h : gI T s t k) (hk : k ≠ 0) : gI (T + 9) (t (k - 1)) t (k - 1) := by
  have e := h.2.2.2 (k - 1) (by omega)
  have h6 := h.2.2.1
  exact ⟨sI_mono e.1 (by omega), e.2, by omega, fun i hi => ⟨sI_mono (h.2.2.2 i (by omega)).1 (by omega), (h.2.2.2 i (by omega)).2⟩⟩
/-- what a call of the law's own does -/
def actP (T : Nat) (s : Nat → Nat) (k sel n q j z : Nat) (x : Int32) (s2 : Nat → Nat) (t2 : Nat → Nat → Nat) (k2 : Nat) : Prop :=
  gI (T + 9) s2 t2 k2 ∧ (¬ 0 ≤ x → s2 = s ∧ k2 = k) ∧ (8 ≤ sel → sel ≤ 12 → x = nI (mPlay n s 10 - s 10) ∧ s2 = mPlay n s) ∧ (sel ≤ 6 → (0 ≤ x ↔ rS s q j z = 0))
theorem neg_3 : ¬ (0 : Int32) ≤ -3 := by decide
theorem neg_1 : ¬ (0 : Int32) ≤ -1 := by decide
theorem aP_cue {T : Nat} {s : Nat → Nat} {t : Nat → Nat → Nat} {k sel n q j z : Nat} (h : gI T s t k) (hT : T ≤ 900000) (hs : sel ≤ 6) (hr : rS s q j z = 0) (hq : q ≤ 999) (hj : j < 8) (hz : z ≤ 10) : actP T s k sel n q j z (nI (s 9)) (mAdd s q j z) (kpT k t s) (kpK k) := by
  have h9 : s 9 ≤ T := h.1.2.2.2.2.2.1
  have hp : (0 : Int32) ≤ nI (s 9) := nI_pos' (by omega)
  exact ⟨gI_mut h (sI_mono (sI_add h.1 (rS_ok hr) hq hj hz) (by omega)) (sJ_add h.1 h.2.1 hr), fun g => absurd hp g, fun g1 _ => by omega, fun _ => ⟨fun _ => hr, fun _ => hp⟩⟩
theorem aP_cueno {T : Nat} {s : Nat → Nat} {t : Nat → Nat → Nat} {k sel n q j z : Nat} (h : gI T s t k) (hs : sel ≤ 6) (hr : ¬ rS s q j z = 0) : actP T s k sel n q j z (-3) s t k :=
  ⟨gI_mono h (by omega), fun _ => ⟨rfl, rfl⟩, fun g1 _ => by omega, fun _ => ⟨fun g => absurd g neg_3, fun g => absurd g hr⟩⟩
theorem aP_no {T : Nat} {s : Nat → Nat} {t : Nat → Nat → Nat} {k sel n q j z : Nat} {x : Int32} (h : gI T s t k) (hs : sel = 7 ∨ 12 < sel) : actP T s k sel n q j z x s t k :=
  ⟨gI_mono h (by omega), fun _ => ⟨rfl, rfl⟩, fun g1 g2 => by omega, fun g => by omega⟩
theorem aP_mut {T : Nat} {s s2 : Nat → Nat} {t2 : Nat → Nat → Nat} {k k2 sel n q j z m : Nat} (h : gI (T + 9) s2 t2 k2) (hs : sel = 7 ∨ 12 < sel) (hm : m < 2 ^ 31) : actP T s k sel n q j z (nI m) s2 t2 k2 :=
  ⟨h, fun g => absurd (nI_pos' hm) g, fun g1 g2 => by omega, fun g => by omega⟩
theorem play_lost {T n : Nat} {s : Nat → Nat} (h : sI T s) : mPlay n s 10 - s 10 ≤ 99999 := by
  have h1 := kept_play n h
  have h6 : s 6 ≤ 99999 := h.2.2.1
  omega
theorem aP_play {T : Nat} {s : Nat → Nat} {t : Nat → Nat → Nat} {k sel n q j z : Nat} (h : gI T s t k) (hn : n ≤ 9) (hs : 8 ≤ sel) (hs2 : sel ≤ 12) : actP T s k sel n q j z (nI (mPlay n s 10 - s 10)) (mPlay n s) (kpT k t s) (kpK k) := by
  have hl := play_lost (n := n) h.1
  exact ⟨gI_mut h (sI_mono (sI_play n h.1) (by omega)) (sJ_play n h.1 h.2.1), fun g => absurd (nI_pos' (by omega)) g, fun _ _ => ⟨rfl, rfl⟩, fun g => by omega⟩
-- what the looks show
theorem gS_asks (s : Nat → Nat) (j : Nat) : gS s j ≤ szF s j * vaF s j := gets_asks
def lmS (s : Nat → Nat) (n : Nat) : Nat := sumTo (fun i => if 0 < heS s i then 1 else 0) n
def asT (s : Nat → Nat) (p n : Nat) : Nat := sumTo (fun i => szF s (p * 4 + i) * vaF s (p * 4 + i)) n
def gtT (s : Nat → Nat) (p n : Nat) : Nat := sumTo (fun i => gS s (p * 4 + i)) n
theorem lm_le (s : Nat → Nat) : ∀ n, lmS s n ≤ n
  | 0 => Nat.le_refl _
  | n + 1 => by
    have h := lm_le s n
    show lmS s n + (if 0 < heS s n then 1 else 0) ≤ n + 1
    split <;> omega
theorem lm_step (s : Nat → Nat) (j : Nat) {e : Nat} (he : e = if 0 < heS s j then 1 else 0) : lmS s j + e = lmS s (j + 1) := by
  rw [he]; rfl
theorem as_step (s : Nat → Nat) {p j : Nat} (h : p * 4 ≤ j) : asT s p (j - p * 4) + szF s j * vaF s j = asT s p (j + 1 - p * 4) := by
  rw [show j + 1 - p * 4 = (j - p * 4) + 1 by omega]
  show _ = asT s p _ + szF s (p * 4 + (j - p * 4)) * vaF s (p * 4 + (j - p * 4))
  rw [show p * 4 + (j - p * 4) = j by omega]
theorem gt_step (s : Nat → Nat) {p j : Nat} (h : p * 4 ≤ j) : gtT s p (j - p * 4) + gS s j = gtT s p (j + 1 - p * 4) := by
  rw [show j + 1 - p * 4 = (j - p * 4) + 1 by omega]
  show _ = gtT s p _ + gS s (p * 4 + (j - p * 4))
  rw [show p * 4 + (j - p * 4) = j by omega]
theorem gt_all (s : Nat → Nat) (p : Nat) : fGives (szF s) (vaF s) (liF s) (seF s) (s 5) p = gtT s p 4 := sumTo_cg 4 fun i hi => by
  show fPart (szF s) (vaF s) (liF s) (seF s) (s 5) (p * 4 + i) (pA (szF s) (vaF s) p) = gS s (p * 4 + i)
  unfold gS fGets
  rw [show (p * 4 + i) / 4 = p by omega]
theorem gt_li (s : Nat → Nat) (p : Nat) : gtT s p 4 ≤ liF s p := gets_li
/-- the height is not above what the wind leaves -/
theorem he_wind {T : Nat} {s : Nat → Nat} (h : sI T s) {j : Nat} (hj : j < 8) (hw : s 0 < s 5) : heS s j ≤ 10 + s 0 - s 5 := by
  have e := gets_wind (sz := szF s) (va := vaF s) (li := liF s) (se := seF s) (w := s 5) (j := j) (h.1.1 j hj).1
  have e2 : fHi (seF s) (s 5) = 10 + s 0 - s 5 := if_pos hw
  rw [e2] at e
  exact e
theorem most_lt {a b : Nat} (ha : a ≤ 20) (hb : b ≤ 20) (h : ¬ 0 ≤ nI 10 + nI a - nI b) : 10 + a - b = 0 := by
  rw [nI_add, Int32.le_iff_toInt_le, pk_sub_toInt (by omega) (by omega)] at h
  simp at h
  omega
theorem most_ge {a b : Nat} (ha : a ≤ 20) (hb : b ≤ 20) (h : 0 ≤ nI 10 + nI a - nI b) : nI 10 + nI a - nI b = nI (10 + a - b) := by
  rw [nI_add] at h ⊢
  rw [Int32.le_iff_toInt_le, pk_sub_toInt (by omega) (by omega)] at h
  simp at h
  exact pk_sub (by omega)
theorem cl_le {a b : Int} (h : b ≤ a) : ¬ Op.cmpValue (some (compare a b)) .l < 0 := by
  rcases Int.lt_or_eq_of_le h with g | g
  · rw [(FP.Core.compare_gt_iff a b).mpr g]; decide
  · rw [(FP.Core.compare_eq_iff a b).mpr g.symm]; decide
theorem cg_ge {a b : Int} (h : a ≤ b) : ¬ 0 < Op.cmpValue (some (compare a b)) .g := by
  rcases Int.lt_or_eq_of_le h with g | g
  · rw [(FP.Core.compare_lt_iff a b).mpr g]; decide
  · rw [(FP.Core.compare_eq_iff a b).mpr g]; decide
theorem shS_l {T : Nat} {s : Nat → Nat} (h : sI T s) : ¬ Op.cmpValue (FP.dcmp (shS s) FP.dconst0) .l < 0 := by
  obtain ⟨n, e, hn⟩ := shS_bt h
  rw [e, dc0, bt_cmp (by omega) (Or.inl rfl)]
  exact cl_le (by omega)
theorem shS_g {T : Nat} {s : Nat → Nat} (h : sI T s) : ¬ 0 < Op.cmpValue (FP.dcmp (shS s) FP.dconst1) .g := by
  obtain ⟨n, e, hn⟩ := shS_bt h
  rw [e, dc1, bt_cmp (by omega) (Or.inr ⟨by decide, by decide⟩)]
  exact cg_ge (by omega)
