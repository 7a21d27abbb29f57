-- the reference's reader
def foS (td s : Nat → Nat) : Nat → Nat → Nat
  | 0 => s
  | i + 1 => mAddIf (foS td s i) (td (3 * i)) (td (3 * i + 1)) (td (3 * i + 2))
def foN (td s : Nat → Nat) : Nat → Nat
  | 0 => 0
  | i + 1 => foN td s i + bI (rS (foS td s i) (td (3 * i)) (td (3 * i + 1)) (td (3 * i + 2)) = 0)
theorem fo_cg {td td' : Nat → Nat} (s : Nat → Nat) : ∀ n : Nat, (∀ y, y < 3 * n → td' y = td y) → foS td' s n = foS td s n ∧ foN td' s n = foN td s n
  | 0, _ => ⟨rfl, rfl⟩
  | n + 1, h => by
    obtain ⟨h1, h2⟩ := fo_cg s n (fun y hy => h y (by omega))
    have e0 := h (3 * n) (by omega)
    have e1 := h (3 * n + 1) (by omega)
    have e2 := h (3 * n + 2) (by omega)
    refine ⟨?_, ?_⟩
    · show mAddIf (foS td' s n) (td' (3 * n)) (td' (3 * n + 1)) (td' (3 * n + 2)) = mAddIf (foS td s n) (td (3 * n)) (td (3 * n + 1)) (td (3 * n + 2))
      rw [h1, e0, e1, e2]
    · show foN td' s n + bI (rS (foS td' s n) (td' (3 * n)) (td' (3 * n + 1)) (td' (3 * n + 2)) = 0) = foN td s n + bI (rS (foS td s n) (td (3 * n)) (td (3 * n + 1)) (td (3 * n + 2)) = 0)
      rw [h1, h2, e0, e1, e2]
def Seg (cs : Nat → Nat) (p q : Nat) : Prop := ∀ s, adS cs s q = adS cs s p ∧ adN cs s q = adN cs s p
theorem Seg.step {cs : Nat → Nat} {p q : Nat} (h : Seg cs p q) (h1 : cs q ≠ 59) : Seg cs p (q + 1) := fun s => by
  refine ⟨?_, ?_⟩
  · show (if cs q = 59 then _ else adS cs s q) = _
    rw [if_neg h1]; exact (h s).1
  · show (if cs q = 59 then _ else adN cs s q) = _
    rw [if_neg h1]; exact (h s).2
theorem Seg.rf {cs : Nat → Nat} {p : Nat} : Seg cs p p := fun _ => ⟨rfl, rfl⟩
theorem Seg.trans {cs : Nat → Nat} {p q r : Nat} (h : Seg cs p q) (h2 : Seg cs q r) : Seg cs p r := fun s => ⟨(h2 s).1.trans (h s).1, (h2 s).2.trans (h s).2⟩
def rd0 (cs : Nat → Nat) (ax p v : Nat) : Prop := ax < p ∧ ((runS cs p = 1 ∧ 1 ≤ v ∧ v ≤ 9) ∨ (runS cs p = 2 ∧ 10 ≤ v ∧ v ≤ 99) ∨ (runS cs p = 3 ∧ (v = 0 ∨ (100 ≤ v ∧ v ≤ 999)))) ∧ prT cs p = (v, 8, 0) ∧ Seg cs ax p
def rd2 (cs : Nat → Nat) (ax p v a j : Nat) : Prop := ax < p ∧ ((runS cs p = 6 ∧ v = 1) ∨ (runS cs p = 7 ∧ (v = 0 ∨ (2 ≤ v ∧ v ≤ 10)))) ∧ prT cs p = (a, j, v) ∧ Seg cs ax p
theorem pr_dig {cs : Nat → Nat} {i : Nat} (hd : isD (cs i)) : prT cs (i + 1) = if (prT cs i).2.1 = 8 then ((prT cs i).1 * 10 + (cs i - 48), 8, (prT cs i).2.2) else ((prT cs i).1, (prT cs i).2.1, (prT cs i).2.2 * 10 + (cs i - 48)) := if_pos hd
theorem rd0_1 {cs : Nat → Nat} {ax : Nat} (h0 : runS cs ax = 0) (h1 : 48 ≤ cs ax) (h2 : cs ax ≤ 57) : rd0 cs ax (ax + 1) (cs ax - 48) := by
  have hd : isD (cs ax) := ⟨h1, h2⟩
  have hp : prT cs ax = (0, 8, 0) := by have := prOK_all (cs := cs) ax; rw [h0] at this; exact this
  refine ⟨by omega, ?_, ?_, Seg.rf.step (by omega)⟩
  · have e : runS cs (ax + 1) = sB 0 (cs ax) := by show sB (runS cs ax) (cs ax) = _; rw [h0]
    rw [e]
    show ((if cs ax = 48 then 3 else if isD (cs ax) then 1 else 8) = 1 ∧ _) ∨ ((if cs ax = 48 then 3 else if isD (cs ax) then 1 else 8) = 2 ∧ _) ∨ ((if cs ax = 48 then 3 else if isD (cs ax) then 1 else 8) = 3 ∧ _)
    by_cases h48 : cs ax = 48
    · rw [if_pos h48]; omega
    · rw [if_neg h48, if_pos hd]; omega
  · rw [pr_dig hd, hp, if_pos rfl]
    simp
theorem rd0_s {cs : Nat → Nat} {ax p v : Nat} (h : rd0 cs ax p v) (h1 : 48 ≤ cs p) (h2 : cs p ≤ 57) (hv : 0 < v) (h9 : 10 * v + cs p ≤ 999 + 48) : rd0 cs ax (p + 1) (10 * v + cs p - 48) := by
  obtain ⟨a1, a2, a3, a4⟩ := h
  have hd : isD (cs p) := ⟨h1, h2⟩
  refine ⟨by omega, ?_, ?_, a4.step (by omega)⟩
  · have e : runS cs (p + 1) = sB (runS cs p) (cs p) := rfl
    rcases a2 with ⟨b1, b2⟩ | ⟨b1, b2⟩ | ⟨b1, b2⟩
    · rw [e, b1]
      show ((if cs p = 64 then 4 else if isD (cs p) then 2 else 8) = 1 ∧ _) ∨ ((if cs p = 64 then 4 else if isD (cs p) then 2 else 8) = 2 ∧ _) ∨ _
      rw [if_neg (by omega), if_pos hd]; omega
    · rw [e, b1]
      show ((if cs p = 64 then 4 else if isD (cs p) then 3 else 8) = 1 ∧ _) ∨ ((if cs p = 64 then 4 else if isD (cs p) then 3 else 8) = 2 ∧ _) ∨ ((if cs p = 64 then 4 else if isD (cs p) then 3 else 8) = 3 ∧ _)
      rw [if_neg (by omega), if_pos hd]; omega
    · exfalso; omega
  · rw [pr_dig hd, a3, if_pos rfl]
    show (v * 10 + (cs p - 48), 8, 0) = (10 * v + cs p - 48, 8, 0)
    rw [show v * 10 + (cs p - 48) = 10 * v + cs p - 48 by omega]
theorem rd0_e {cs : Nat → Nat} {ax p v : Nat} (h : rd0 cs ax p v) (hx : v = 0 ∨ ¬ (48 ≤ cs p ∧ cs p ≤ 57) ∨ 999 + 48 < 10 * v + cs p) (h64 : cs p ≠ 64) : runS cs (p + 1) = 8 := by
  obtain ⟨a1, a2, a3, a4⟩ := h
  have e : runS cs (p + 1) = sB (runS cs p) (cs p) := rfl
  have hnd : ¬ (48 ≤ cs p ∧ cs p ≤ 57) → ¬ isD (cs p) := fun z w => z w
  rcases a2 with ⟨b1, b2⟩ | ⟨b1, b2⟩ | ⟨b1, b2⟩
  · rw [e, b1]
    show (if cs p = 64 then 4 else if isD (cs p) then 2 else 8) = 8
    rw [if_neg h64, if_neg (fun w => by have w1 := w.1; have w2 := w.2; omega)]
  · rw [e, b1]
    show (if cs p = 64 then 4 else if isD (cs p) then 3 else 8) = 8
    rw [if_neg h64, if_neg (fun w => by have w1 := w.1; have w2 := w.2; omega)]
  · rw [e, b1]
    exact if_neg h64
theorem rd2_1 {cs : Nat → Nat} {ax a j : Nat} (h0 : runS cs ax = 5) (hj : j < 8) (hp : prT cs ax = (a, j, 0)) (h1 : 48 ≤ cs ax) (h2 : cs ax ≤ 57) : rd2 cs ax (ax + 1) (cs ax - 48) a j := by
  have hd : isD (cs ax) := ⟨h1, h2⟩
  refine ⟨by omega, ?_, ?_, Seg.rf.step (by omega)⟩
  · have e : runS cs (ax + 1) = sB 5 (cs ax) := by show sB (runS cs ax) (cs ax) = _; rw [h0]
    rw [e]
    show ((if cs ax = 49 then 6 else if isD (cs ax) then 7 else 8) = 6 ∧ _) ∨ ((if cs ax = 49 then 6 else if isD (cs ax) then 7 else 8) = 7 ∧ _)
    by_cases h48 : cs ax = 49
    · rw [if_pos h48]; omega
    · rw [if_neg h48, if_pos hd]; omega
  · rw [pr_dig hd, hp, if_neg (by show ¬ j = 8; omega)]
    simp
theorem rd2_s {cs : Nat → Nat} {ax p v a j : Nat} (h : rd2 cs ax p v a j) (hj : j < 8) (h1 : 48 ≤ cs p) (h2 : cs p ≤ 57) (hv : 0 < v) (h9 : 10 * v + cs p ≤ 10 + 48) : rd2 cs ax (p + 1) (10 * v + cs p - 48) a j := by
  obtain ⟨a1, a2, a3, a4⟩ := h
  have hd : isD (cs p) := ⟨h1, h2⟩
  refine ⟨by omega, ?_, ?_, a4.step (by omega)⟩
  · have e : runS cs (p + 1) = sB (runS cs p) (cs p) := rfl
    rcases a2 with ⟨b1, b2⟩ | ⟨b1, b2⟩
    · rw [e, b1]
      show ((if cs p = 48 then 7 else if cs p = 59 then 0 else 8) = 6 ∧ _) ∨ ((if cs p = 48 then 7 else if cs p = 59 then 0 else 8) = 7 ∧ _)
      rw [if_pos (by omega)]; omega
    · exfalso; omega
  · rw [pr_dig hd, a3, if_neg (by show ¬ j = 8; omega)]
    show (a, j, v * 10 + (cs p - 48)) = (a, j, 10 * v + cs p - 48)
    rw [show v * 10 + (cs p - 48) = 10 * v + cs p - 48 by omega]
theorem rd2_e {cs : Nat → Nat} {ax p v a j : Nat} (h : rd2 cs ax p v a j) (hx : v = 0 ∨ ¬ (48 ≤ cs p ∧ cs p ≤ 57) ∨ 10 + 48 < 10 * v + cs p) (h59 : cs p ≠ 59) : runS cs (p + 1) = 8 := by
  obtain ⟨a1, a2, a3, a4⟩ := h
  have e : runS cs (p + 1) = sB (runS cs p) (cs p) := rfl
  rcases a2 with ⟨b1, b2⟩ | ⟨b1, b2⟩
  · rw [e, b1]
    show (if cs p = 48 then 7 else if cs p = 59 then 0 else 8) = 8
    rw [if_neg (by omega), if_neg h59]
  · rw [e, b1]
    exact if_neg h59
theorem no_dig {cs : Nat → Nat} {ax k : Nat} (h0 : runS cs ax = k) (hk : k = 0 ∨ k = 5) (h : ¬ (48 ≤ cs ax ∧ cs ax ≤ 57)) : runS cs (ax + 1) = 8 := by
  have e : runS cs (ax + 1) = sB k (cs ax) := by show sB (runS cs ax) (cs ax) = _; rw [h0]
  have hd : ¬ isD (cs ax) := fun w => h w
  rcases hk with rfl | rfl
  · rw [e]; show (if cs ax = 48 then 3 else if isD (cs ax) then 1 else 8) = 8
    rw [if_neg (by omega), if_neg hd]
  · rw [e]; show (if cs ax = 49 then 6 else if isD (cs ax) then 7 else 8) = 8
    rw [if_neg (by omega), if_neg hd]
theorem at_64 {cs : Nat → Nat} {ax p v : Nat} (h : rd0 cs ax p v) (h64 : cs p = 64) : runS cs (p + 1) = 4 ∧ prT cs (p + 1) = (v, 8, 0) ∧ Seg cs ax (p + 1) := by
  obtain ⟨a1, a2, a3, a4⟩ := h
  have e : runS cs (p + 1) = sB (runS cs p) (cs p) := rfl
  refine ⟨?_, ?_, a4.step (by omega)⟩
  · rcases a2 with ⟨b1, b2⟩ | ⟨b1, b2⟩ | ⟨b1, b2⟩ <;> (rw [e, b1]; exact if_pos h64)
  · show (if isD (cs p) then _ else if isJ (cs p) then _ else if cs p = 59 then _ else prT cs p) = _
    rw [if_neg (fun w => by have w2 := w.2; omega), if_neg (fun w => by have w1 := w.1; omega), if_neg (by omega), a3]
theorem at_jet {cs : Nat → Nat} {p v : Nat} (h4 : runS cs p = 4) (hp : prT cs p = (v, 8, 0)) (h1 : 97 ≤ cs p) (h2 : cs p ≤ 104) : runS cs (p + 1) = 5 ∧ prT cs (p + 1) = (v, cs p - 97, 0) := by
  have hj : isJ (cs p) := ⟨h1, h2⟩
  refine ⟨?_, ?_⟩
  · show sB (runS cs p) (cs p) = 5
    rw [h4]; exact if_pos hj
  · show (if isD (cs p) then _ else if isJ (cs p) then _ else _) = _
    rw [if_neg (fun w => by have w2 := w.2; omega), if_pos hj, hp]
theorem no_jet {cs : Nat → Nat} {p : Nat} (h4 : runS cs p = 4) (h : ¬ (97 ≤ cs p ∧ cs p ≤ 104)) : runS cs (p + 1) = 8 := by
  show sB (runS cs p) (cs p) = 8
  rw [h4]; exact if_neg (fun w => h w)
/-- a part that was read -/
def part1 (cs : Nat → Nat) (ax p : Nat) (i : Nat) (td td' : Nat → Nat) : Prop := ax + 4 ≤ p ∧ (runS cs p = 6 ∨ runS cs p = 7) ∧ Seg cs ax p ∧ prT cs p = (td' (3 * i), td' (3 * i + 1), td' (3 * i + 2)) ∧ ∀ y, y < 3 * i → td' y = td y
theorem semi_0 {cs : Nat → Nat} {p : Nat} (h : runS cs p = 6 ∨ runS cs p = 7) (h59 : cs p = 59) : runS cs (p + 1) = 0 := by
  show sB (runS cs p) (cs p) = 0
  rcases h with h | h
  · rw [h]; show (if cs p = 48 then 7 else if cs p = 59 then 0 else 8) = 0; rw [if_neg (by omega), if_pos h59]
  · rw [h]; exact if_pos h59
theorem fo_part {cs td td' : Nat → Nat} {ax p i : Nat} (h : part1 cs ax p i td td') (h0 : ∀ s, foS td s i = adS cs s ax ∧ foN td s i = adN cs s ax) (s : Nat → Nat) : foS td' s (i + 1) = mAddIf (adS cs s p) (prT cs p).1 (prT cs p).2.1 (prT cs p).2.2 ∧ foN td' s (i + 1) = adN cs s p + bI (rS (adS cs s p) (prT cs p).1 (prT cs p).2.1 (prT cs p).2.2 = 0) := by
  obtain ⟨a1, a2, a3, a4, a5⟩ := h
  obtain ⟨f1, f2⟩ := fo_cg s i a5
  obtain ⟨g1, g2⟩ := h0 s
  obtain ⟨e1, e2⟩ := a3 s
  rw [a4, e1, e2]
  refine ⟨?_, ?_⟩
  · show mAddIf (foS td' s i) _ _ _ = _
    rw [f1, g1]
  · show foN td' s i + bI (rS (foS td' s i) _ _ _ = 0) = _
    rw [f1, f2, g1, g2]
theorem fo_semi {cs td td' : Nat → Nat} {ax p i : Nat} (h : part1 cs ax p i td td') (h59 : cs p = 59) (h0 : ∀ s, foS td s i = adS cs s ax ∧ foN td s i = adN cs s ax) : ∀ s, foS td' s (i + 1) = adS cs s (p + 1) ∧ foN td' s (i + 1) = adN cs s (p + 1) := fun s => by
  obtain ⟨e1, e2⟩ := fo_part h h0 s
  rw [e1, e2]
  exact ⟨(if_pos h59).symm, (if_pos h59).symm⟩
theorem part_in {cs td td' : Nat → Nat} {ax p i : Nat} (h : part1 cs ax p i td td') (h0 : ∀ y, y < i → td (3 * y) ≤ 999 ∧ td (3 * y + 1) < 8 ∧ td (3 * y + 2) ≤ 10) : ∀ y, y < i + 1 → td' (3 * y) ≤ 999 ∧ td' (3 * y + 1) < 8 ∧ td' (3 * y + 2) ≤ 10 := by
  intro y hy
  rcases Nat.lt_or_ge y i with h1 | h1
  · rw [h.2.2.2.2 (3 * y) (by omega), h.2.2.2.2 (3 * y + 1) (by omega), h.2.2.2.2 (3 * y + 2) (by omega)]
    exact h0 y h1
  · have e : y = i := by omega
    subst e
    have h2 := prT_in (cs := cs) (i := p) h.2.1
    rw [h.2.2.2.1] at h2
    exact h2
theorem sI_fo {T : Nat} {td s : Nat → Nat} (hI : sI T s) : ∀ i : Nat, (∀ y, y < i → td (3 * y) ≤ 999 ∧ td (3 * y + 1) < 8 ∧ td (3 * y + 2) ≤ 10) → sI (T + i) (foS td s i)
  | 0, _ => hI
  | i + 1, h => by
    have h1 := h i (by omega)
    exact sI_addIf (sI_fo hI i (fun y hy => h y (by omega))) h1.1 h1.2.1 h1.2.2
/-- the place of the first fault is one -/
theorem err_one {cs : Nat → Nat} {n a b : Nat} (ha : a ≤ n) (ha1 : ∀ j, j ≤ a → runS cs j ≠ 8) (ha2 : a < n → runS cs (a + 1) = 8) (hb : b ≤ n) (hb1 : ∀ j, j ≤ b → runS cs j ≠ 8) (hb2 : b < n → runS cs (b + 1) = 8) : a = b := by
  rcases Nat.lt_trichotomy a b with h | h | h
  · exact absurd (ha2 (by omega)) (hb1 (a + 1) (by omega))
  · exact h
  · exact absurd (hb2 (by omega)) (ha1 (b + 1) (by omega))
theorem err_no {cs : Nat → Nat} {n p : Nat} (hp : p ≤ n) (h6 : runS cs p ≠ 6) (h7 : runS cs p ≠ 7) (h8 : p < n → runS cs (p + 1) = 8) (z : runS cs n = 6 ∨ runS cs n = 7) : False := by
  rcases Nat.eq_or_lt_of_le hp with h | h
  · rw [← h] at z; omega
  · exact runS_ok (cs := cs) (n := n) (by omega) (i := p + 1) (by omega) (h8 h)
theorem txt_all {cs td td2 : Nat → Nat} {n p0 p i : Nat} (hq : part1 cs p0 p i td2 td) (hp : p ≤ n) (hpn : p = n) (hi : 5 * i ≤ p0) (hfo : ∀ s, foS td2 s i = adS cs s p0 ∧ foN td2 s i = adN cs s p0) (hin : ∀ y, y < i → td2 (3 * y) ≤ 999 ∧ td2 (3 * y + 1) < 8 ∧ td2 (3 * y + 2) ≤ 10) :
    (runS cs n = 6 ∨ runS cs n = 7) ∧ p = n ∧ 5 * (i + 1) ≤ n + 1 ∧ (∀ s, foS td s (i + 1) = allS cs s n ∧ foN td s (i + 1) = allN cs s n) ∧ (∀ y, y < i + 1 → td (3 * y) ≤ 999 ∧ td (3 * y + 1) < 8 ∧ td (3 * y + 2) ≤ 10) := by
  subst hpn
  exact ⟨hq.2.1, rfl, by have := hq.1; omega, fun s => fo_part hq hfo s, part_in hq hin⟩
theorem txt_err {cs td td2 : Nat → Nat} {n p0 p i : Nat} (hq : part1 cs p0 p i td2 td) (hp : p ≤ n) (h2 : p < n → cs p ≠ 59 → runS cs (p + 1) = 8) (hpn : p < n) (h59 : cs p ≠ 59) : p ≤ n ∧ (1 : Nat) = bI (p < n) ∧ ¬ (runS cs n = 6 ∨ runS cs n = 7) ∧ runS cs p ≠ 8 ∧ (p < n → runS cs (p + 1) = 8) :=
  ⟨hp, (bI_t hpn).symm, fun z => runS_ok (cs := cs) (n := n) (by omega) (i := p + 1) (by omega) (h2 hpn h59), by have := hq.2.1; omega, fun h => h2 h h59⟩
theorem er_n {p n : Nat} (h : bI (p < n) = 0) (h1 : p ≤ n) : p = n := by
  have := bI_z h
  omega
theorem in_X6_isAt_X6 : ∀ w ∈ wsX60, w ∈ wsX6_isAt := by decide +kernel
theorem fl_X6_isAt_114 : Cond.fieldLink RX6 114 "FountainCuesModel" "at" "I" ∈ wsX6_isAt := by decide +kernel
theorem fl_X6_isAt_111 : Cond.fieldLink RX6 111 "FountainCuesModel" "typed" "I" ∈ wsX6_isAt := by decide +kernel
theorem fl_X6_isAt_19 : Cond.fieldLink RX6 19 "FountainCuesModel" "text" "[I" ∈ wsX6_isAt := by decide +kernel
set_option maxHeartbeats 4000000 in
set_option maxRecDepth 100000 in
theorem k_X6_isAt (l : Launch) (D : va_G) (cI cS cL : ClassId) (m0 : Nat) (m1 : Nat) (m2 : Nat) (m3 : Nat) (m4 : Nat) (m5 : Nat) (k : Nat) (n : Nat) (th : Nat) (ax : Nat) (fa : Nat) (vl : Nat) (tn : Nat) (hg : Nat) (bg : Nat) (cs : Nat → Nat) (lo : Nat) (hi : Nat) (hn : n ≤ 60) (hcs : ∀ j, j < n → cs j < 2 ^ 30) (hax : ax ≤ n) (h1 : lo < 2 ^ 31) (h2 : hi < 2 ^ 31) : KM l D (TY cI cS cL) yX6_isAt wsX6_isAt ({ frames := 1, cells := 0, slots := 0, locals := 22 } : Room) [(m0, .inr (6, [.ref m1, .ref m2, .ref m3, .int (nI k), .ref m4, .int (nI n), .int (nI th), .int (nI ax), .int (nI fa), .int (nI vl), .ref m5, .int (nI tn), .int (nI hg), .int (nI bg)])), (m4, .inl (cI, 60, .inl (ro 60 cs)))] [.ref m0, .int (nI lo), .int (nI hi)] (fun (v : Option Value) (_ : Unit) => v = some (.int (nI (bI (ax < n ∧ lo ≤ cs ax ∧ cs ax ≤ hi))))) (fun _ : Unit => [(m0, .inr (6, [.ref m1, .ref m2, .ref m3, .int (nI k), .ref m4, .int (nI n), .int (nI th), .int (nI ax), .int (nI fa), .int (nI vl), .ref m5, .int (nI tn), .int (nI hg), .int (nI bg)])), (m4, .inl (cI, 60, .inl (ro 60 cs)))]) := by
  refine KM.of (cc := cX6_isAt) (maxL := 3) (ret := (some .boolean)) (by decide) rfl (Nat.le_of_ble_eq_true rfl) ?_
  intro p9 e9 s9 m9 ar9 be9 me9 c9 Q9 A9 ls C0 hN hnm hlk hK hA hret hP hD hS hl
  obtain ⟨hx, hb, hml, hown, hts⟩ := id C0
  have hl : lv_has ls 3 [(0, .ref m0), (1, .int (nI lo)), (2, .int (nI hi))] := hl
  obtain ⟨H, hH0⟩ : ∃ H, H = s9.heap := ⟨_, rfl⟩
  obtain ⟨locs, hlc0⟩ : ∃ z : List Loc, z = [] := ⟨_, rfl⟩
  have hP : va_P D vwCl [(m0, .inr (6, [.ref m1, .ref m2, .ref m3, .int (nI k), .ref m4, .int (nI n), .int (nI th), .int (nI ax), .int (nI fa), .int (nI vl), .ref m5, .int (nI tn), .int (nI hg), .int (nI bg)])), (m4, .inl (cI, 60, .inl (ro 60 cs)))] H := by rw [hH0]; exact hP
  have hD : va_D A9 [(m0, .inr (6, [.ref m1, .ref m2, .ref m3, .int (nI k), .ref m4, .int (nI n), .int (nI th), .int (nI ax), .int (nI fa), .int (nI vl), .ref m5, .int (nI tn), .int (nI hg), .int (nI bg)])), (m4, .inl (cI, 60, .inl (ro 60 cs)))] := hD
  have hS : va_S A9 s9.heap H locs := by rw [hH0, hlc0]; exact hS
  suffices hgo : W p9 l e9 ({ frames := 1, cells := 0, slots := 0, locals := 22 } : Room) s9 m9 ar9 be9 me9 c9 H locs 0 0 Q9 (F0 m9 0 ls []) by rw [hH0, hlc0] at hgo; exact hgo
  clear hH0 hlc0
  refine lv_aload_n hx hb dX6_isAt_0 rfl (lv_at hl 0 rfl) ?_
  refine va_get (D := D) (ci := 6) (v := .int (nI ax)) (C := RX6) (T := TX6) (N := 14) hx hb hts in_X6_isAt_X6 hown hK hP 0 rfl rfl 7 (by decide) (hts _ fl_X6_isAt_114) (fun _ h9 => h9) rfl dX6_isAt_1 ?_
  refine lv_aload_n hx hb dX6_isAt_4 rfl (lv_at hl 0 rfl) ?_
  refine va_get (D := D) (ci := 6) (v := .int (nI n)) (C := RX6) (T := TX6) (N := 14) hx hb hts in_X6_isAt_X6 hown hK hP 0 rfl rfl 5 (by decide) (hts _ fl_X6_isAt_111) (fun _ h9 => h9) rfl dX6_isAt_5 ?_
  refine q_ige (tgt := 32) (by omega) (by omega) hx hb dX6_isAt_8 (by decide) (fun c_8 => ?_) (fun c_8 => ?_)
  ·
    refine lv_iconst (v := nI 0) hx hb dX6_isAt_32 (by decide +kernel) ?_
    exact hret _ _ _ _ (some (.int (nI 0))) () 33 ls (by decide) (by decide) (by exact rv (by first | exact (bI_f (by omega)).symm | (rw [inR_nI (by omega)] at c_25; first | exact (bI_t (by omega)).symm | exact (bI_f (by omega)).symm))) hP hD hS (ret_z dX6_isAt_33 (by first | exact bI_le | omega))
  ·
    refine lv_aload_n hx hb dX6_isAt_11 rfl (lv_at hl 0 rfl) ?_
    refine va_get (D := D) (ci := 6) (v := .ref m4) (C := RX6) (T := TX6) (N := 14) hx hb hts in_X6_isAt_X6 hown hK hP 0 rfl rfl 4 (by decide) (hts _ fl_X6_isAt_19) (fun _ h9 => h9) rfl dX6_isAt_12 ?_
    refine lv_aload_n hx hb dX6_isAt_15 rfl (lv_at hl 0 rfl) ?_
    refine va_get (D := D) (ci := 6) (v := .int (nI ax)) (C := RX6) (T := TX6) (N := 14) hx hb hts in_X6_isAt_X6 hown hK hP 0 rfl rfl 7 (by decide) (hts _ fl_X6_isAt_114) (fun _ h9 => h9) rfl dX6_isAt_16 ?_
    refine q_iald 1 0 (by omega) (by omega) hx hb hK hP rfl rfl dX6_isAt_19 ?_
    have hc9 := hcs ax (by omega)
    refine lv_iload_n hx hb dX6_isAt_20 rfl (lv_at hl 1 rfl) ?_
    refine lv_iload_n hx hb dX6_isAt_21 rfl (lv_at hl 2 rfl) ?_
    refine KM.callS (As := [.int (nI (cs ax)), .int (nI lo), .int (nI hi)]) (rest := []) C0 hN (k_X6_in l D cI cS cL (nI (cs ax)) lo hi  (by first | with_reducible assumption | omega) (by first | with_reducible assumption | omega)) (va_cwS 3 hts gX6_isAt_X6_in rfl rfl rfl (by decide +kernel) ⟨Nat.le_of_ble_eq_true rfl, Nat.le_of_ble_eq_true rfl⟩) hK hP hD hS hA [] rfl (by decide) (fun _ => rfl) rfl hl.1 rfl (Nat.le_of_ble_eq_true rfl) dX6_isAt_22 ⟨Nat.le_of_ble_eq_true rfl, Nat.le_of_ble_eq_true rfl⟩ (fun v9 u9 H locs hv hP hD hS => ?_)
    subst hv
    have hP : va_P D vwCl [(m0, .inr (6, [.ref m1, .ref m2, .ref m3, .int (nI k), .ref m4, .int (nI n), .int (nI th), .int (nI ax), .int (nI fa), .int (nI vl), .ref m5, .int (nI tn), .int (nI hg), .int (nI bg)])), (m4, .inl (cI, 60, .inl (ro 60 cs)))] H := hP
    have hD : va_D A9 [(m0, .inr (6, [.ref m1, .ref m2, .ref m3, .int (nI k), .ref m4, .int (nI n), .int (nI th), .int (nI ax), .int (nI fa), .int (nI vl), .ref m5, .int (nI tn), .int (nI hg), .int (nI bg)])), (m4, .inl (cI, 60, .inl (ro 60 cs)))] := hD
    refine W.eq (g2 := F0 m9 25 ls [.int (nI (bI (inR (nI (cs ax)) lo hi)))]) rfl ?_
    refine q_feq (tgt := 32) bI_lt hx hb dX6_isAt_25 (by decide) (fun c_25 => ?_) (fun c_25 => ?_)
    ·
      have c_25 := bI_z c_25
      refine lv_iconst (v := nI 0) hx hb dX6_isAt_32 (by decide +kernel) ?_
      exact hret _ _ _ _ (some (.int (nI 0))) () 33 ls (by decide) (by decide) (by exact rv (by first | exact (bI_f (by omega)).symm | (rw [inR_nI (by omega)] at c_25; first | exact (bI_t (by omega)).symm | exact (bI_f (by omega)).symm))) hP hD hS (ret_z dX6_isAt_33 (by first | exact bI_le | omega))
    ·
      have c_25 := bI_nz c_25
      refine lv_iconst (v := nI 1) hx hb dX6_isAt_28 (by decide +kernel) ?_
      refine lv_goto (tgt := 33) hx hb dX6_isAt_29 (by decide) ?_
      exact hret _ _ _ _ (some (.int (nI 1))) () 33 ls (by decide) (by decide) (by exact rv (by first | exact (bI_f (by omega)).symm | (rw [inR_nI (by omega)] at c_25; first | exact (bI_t (by omega)).symm | exact (bI_f (by omega)).symm))) hP hD hS (ret_z dX6_isAt_33 (by first | exact bI_le | omega))

theorem in_X6_stops_X6 : ∀ w ∈ wsX60, w ∈ wsX6_stops := by decide +kernel
theorem fl_X6_stops_114 : Cond.fieldLink RX6 114 "FountainCuesModel" "at" "I" ∈ wsX6_stops := by decide +kernel
theorem fl_X6_stops_111 : Cond.fieldLink RX6 111 "FountainCuesModel" "typed" "I" ∈ wsX6_stops := by decide +kernel
theorem fl_X6_stops_117 : Cond.fieldLink RX6 117 "FountainCuesModel" "isFault" "Z" ∈ wsX6_stops := by decide +kernel
set_option maxHeartbeats 4000000 in
set_option maxRecDepth 100000 in
theorem k_X6_stops (l : Launch) (D : va_G) (cI cS cL : ClassId) (m0 : Nat) (m1 : Nat) (m2 : Nat) (m3 : Nat) (m4 : Nat) (m5 : Nat) (k : Nat) (n : Nat) (th : Nat) (ax : Nat) (fa : Nat) (vl : Nat) (tn : Nat) (hg : Nat) (bg : Nat) (hn : n ≤ 60) (hax : ax ≤ n) : KM l D (TY cI cS cL) yX6_stops wsX6_stops ({ frames := 0, cells := 0, slots := 0, locals := 0 } : Room) [(m0, .inr (6, [.ref m1, .ref m2, .ref m3, .int (nI k), .ref m4, .int (nI n), .int (nI th), .int (nI ax), .int (nI fa), .int (nI vl), .ref m5, .int (nI tn), .int (nI hg), .int (nI bg)]))] [.ref m0] (fun (v : Option Value) (_ : Unit) => v = some (.int (nI 0))) (fun _ : Unit => [(m0, .inr (6, [.ref m1, .ref m2, .ref m3, .int (nI k), .ref m4, .int (nI n), .int (nI th), .int (nI ax), .int (nI (bI (ax < n))), .int (nI vl), .ref m5, .int (nI tn), .int (nI hg), .int (nI bg)]))]) := by
  refine KM.of (cc := cX6_stops) (maxL := 1) (ret := (some .boolean)) (by decide) rfl (Nat.le_of_ble_eq_true rfl) ?_
  intro p9 e9 s9 m9 ar9 be9 me9 c9 Q9 A9 ls C0 hN hnm hlk hK hA hret hP hD hS hl
  obtain ⟨hx, hb, hml, hown, hts⟩ := id C0
  have hl : lv_has ls 1 [(0, .ref m0)] := hl
  obtain ⟨H, hH0⟩ : ∃ H, H = s9.heap := ⟨_, rfl⟩
  obtain ⟨locs, hlc0⟩ : ∃ z : List Loc, z = [] := ⟨_, rfl⟩
  have hP : va_P D vwCl [(m0, .inr (6, [.ref m1, .ref m2, .ref m3, .int (nI k), .ref m4, .int (nI n), .int (nI th), .int (nI ax), .int (nI fa), .int (nI vl), .ref m5, .int (nI tn), .int (nI hg), .int (nI bg)]))] H := by rw [hH0]; exact hP
  have hD : va_D A9 [(m0, .inr (6, [.ref m1, .ref m2, .ref m3, .int (nI k), .ref m4, .int (nI n), .int (nI th), .int (nI ax), .int (nI fa), .int (nI vl), .ref m5, .int (nI tn), .int (nI hg), .int (nI bg)]))] := hD
  have hS : va_S A9 s9.heap H locs := by rw [hH0, hlc0]; exact hS
  suffices hgo : W p9 l e9 ({ frames := 0, cells := 0, slots := 0, locals := 0 } : Room) s9 m9 ar9 be9 me9 c9 H locs 0 0 Q9 (F0 m9 0 ls []) by rw [hH0, hlc0] at hgo; exact hgo
  clear hH0 hlc0
  refine lv_aload_n hx hb dX6_stops_0 rfl (lv_at hl 0 rfl) ?_
  refine lv_aload_n hx hb dX6_stops_1 rfl (lv_at hl 0 rfl) ?_
  refine va_get (D := D) (ci := 6) (v := .int (nI ax)) (C := RX6) (T := TX6) (N := 14) hx hb hts in_X6_stops_X6 hown hK hP 0 rfl rfl 7 (by decide) (hts _ fl_X6_stops_114) (fun _ h9 => h9) rfl dX6_stops_2 ?_
  refine lv_aload_n hx hb dX6_stops_5 rfl (lv_at hl 0 rfl) ?_
  refine va_get (D := D) (ci := 6) (v := .int (nI n)) (C := RX6) (T := TX6) (N := 14) hx hb hts in_X6_stops_X6 hown hK hP 0 rfl rfl 5 (by decide) (hts _ fl_X6_stops_111) (fun _ h9 => h9) rfl dX6_stops_6 ?_
  refine q_ige (tgt := 16) (by omega) (by omega) hx hb dX6_stops_9 (by decide) (fun c_9 => ?_) (fun c_9 => ?_)
  ·
    refine lv_iconst (v := nI 0) hx hb dX6_stops_16 (by decide +kernel) ?_
    refine va_put (D := D) (ci := 6) (v := .int (nI 0)) (ty := tyX6 8) (C := RX6) (T := TX6) (N := 14) hx hb hts in_X6_stops_X6 tyX6 tyX6_ok nmX6 hown hK hP hD hS 0 rfl rfl 8 (by decide) (hts _ fl_X6_stops_117) (fun _ h9 => h9) rfl (by decide +kernel) (by decide +kernel) rfl (Nat.le_of_ble_eq_true rfl) dX6_stops_17 (fun H locs hP hD hS => ?_)
    have hP : va_P D vwCl [(m0, .inr (6, [.ref m1, .ref m2, .ref m3, .int (nI k), .ref m4, .int (nI n), .int (nI th), .int (nI ax), .int (nI 0), .int (nI vl), .ref m5, .int (nI tn), .int (nI hg), .int (nI bg)]))] H := hP
    have hD : va_D A9 [(m0, .inr (6, [.ref m1, .ref m2, .ref m3, .int (nI k), .ref m4, .int (nI n), .int (nI th), .int (nI ax), .int (nI 0), .int (nI vl), .ref m5, .int (nI tn), .int (nI hg), .int (nI bg)]))] := hD
    refine lv_iconst (v := nI 0) hx hb dX6_stops_20 (by decide +kernel) ?_
    rw [show bI (ax < n) = 0 from by first | exact bI_t (by omega) | exact bI_f (by omega)] at hret
    exact hret _ _ _ _ (some (.int (nI 0))) () 21 ls (by decide) (by decide) (by rfl) hP hD hS (ret_z dX6_stops_21 (by first | exact bI_le | omega))
  ·
    refine lv_iconst (v := nI 1) hx hb dX6_stops_12 (by decide +kernel) ?_
    refine lv_goto (tgt := 17) hx hb dX6_stops_13 (by decide) ?_
    refine va_put (D := D) (ci := 6) (v := .int (nI 1)) (ty := tyX6 8) (C := RX6) (T := TX6) (N := 14) hx hb hts in_X6_stops_X6 tyX6 tyX6_ok nmX6 hown hK hP hD hS 0 rfl rfl 8 (by decide) (hts _ fl_X6_stops_117) (fun _ h9 => h9) rfl (by decide +kernel) (by decide +kernel) rfl (Nat.le_of_ble_eq_true rfl) dX6_stops_17 (fun H locs hP hD hS => ?_)
    have hP : va_P D vwCl [(m0, .inr (6, [.ref m1, .ref m2, .ref m3, .int (nI k), .ref m4, .int (nI n), .int (nI th), .int (nI ax), .int (nI 1), .int (nI vl), .ref m5, .int (nI tn), .int (nI hg), .int (nI bg)]))] H := hP
    have hD : va_D A9 [(m0, .inr (6, [.ref m1, .ref m2, .ref m3, .int (nI k), .ref m4, .int (nI n), .int (nI th), .int (nI ax), .int (nI 1), .int (nI vl), .ref m5, .int (nI tn), .int (nI hg), .int (nI bg)]))] := hD
    refine lv_iconst (v := nI 0) hx hb dX6_stops_20 (by decide +kernel) ?_
    rw [show bI (ax < n) = 1 from by first | exact bI_t (by omega) | exact bI_f (by omega)] at hret
    exact hret _ _ _ _ (some (.int (nI 0))) () 21 ls (by decide) (by decide) (by rfl) hP hD hS (ret_z dX6_stops_21 (by first | exact bI_le | omega))

theorem in_X6_isNumber_0_X6 : ∀ w ∈ wsX60, w ∈ wsX6_isNumber := by decide +kernel
theorem fl_X6_isNumber_0_19 : Cond.fieldLink RX6 19 "FountainCuesModel" "text" "[I" ∈ wsX6_isNumber := by decide +kernel
theorem fl_X6_isNumber_0_114 : Cond.fieldLink RX6 114 "FountainCuesModel" "at" "I" ∈ wsX6_isNumber := by decide +kernel
theorem fl_X6_isNumber_0_128 : Cond.fieldLink RX6 128 "FountainCuesModel" "value" "I" ∈ wsX6_isNumber := by decide +kernel
theorem fl_X6_isNumber_0_22 : Cond.fieldLink RX6 22 "FountainCuesModel" "told" "[I" ∈ wsX6_isNumber := by decide +kernel
theorem fl_X6_isNumber_0_131 : Cond.fieldLink RX6 131 "FountainCuesModel" "tolds" "I" ∈ wsX6_isNumber := by decide +kernel
set_option maxHeartbeats 4000000 in
set_option maxRecDepth 100000 in
theorem k_X6_isNumber_0 (l : Launch) (D : va_G) (cI cS cL : ClassId) (m0 : Nat) (m1 : Nat) (m2 : Nat) (m3 : Nat) (m4 : Nat) (m5 : Nat) (k : Nat) (n : Nat) (th : Nat) (ax : Nat) (fa : Nat) (vl : Nat) (tn : Nat) (hg : Nat) (bg : Nat) (cs : Nat → Nat) (td : Nat → Nat) (hn : n ≤ 60) (hcs : ∀ j, j < n → cs j < 2 ^ 30) (hax : ax ≤ n) (htn : 5 * tn ≤ ax) (hr : runS cs ax = 0) : KM l D (TY cI cS cL) yX6_isNumber wsX6_isNumber ({ frames := 2, cells := 0, slots := 0, locals := 44 } : Room) [(m0, .inr (6, [.ref m1, .ref m2, .ref m3, .int (nI k), .ref m4, .int (nI n), .int (nI th), .int (nI ax), .int (nI fa), .int (nI vl), .ref m5, .int (nI tn), .int (nI hg), .int (nI bg)])), (m4, .inl (cI, 60, .inl (ro 60 cs))), (m5, .inl (cI, 48, .inl (ro 48 td)))] [.ref m0, .int (nI 0), .int (nI 999)] (fun (v : Option Value) (u : Nat → Nat → Nat) => (u 0 0 ≤ 1) ∧ (u 0 0 = 0 → u 0 1 = ax ∧ u 0 3 = bI (ax < n) ∧ (ax < n → runS cs (ax + 1) = 8) ∧ u 1 = td) ∧ (u 0 0 = 1 → rd0 cs ax (u 0 1) (u 0 2) ∧ u 0 1 ≤ n ∧ (u 0 1 < n → cs (u 0 1) ≠ 64 → runS cs (u 0 1 + 1) = 8) ∧ u 1 = upN td (3 * tn + 0) (u 0 2) ∧ u 0 3 = fa) ∧ v = some (.int (nI (u 0 0)))) (fun (u : Nat → Nat → Nat) => [(m0, .inr (6, [.ref m1, .ref m2, .ref m3, .int (nI k), .ref m4, .int (nI n), .int (nI th), .int (nI (u 0 1)), .int (nI (u 0 3)), .int (nI (u 0 2)), .ref m5, .int (nI tn), .int (nI hg), .int (nI bg)])), (m4, .inl (cI, 60, .inl (ro 60 cs))), (m5, .inl (cI, 48, .inl (ro 48 (u 1))))]) := by
  refine KM.of (cc := cX6_isNumber) (maxL := 3) (ret := (some .boolean)) (by decide) rfl (Nat.le_of_ble_eq_true rfl) ?_
  intro p9 e9 s9 m9 ar9 be9 me9 c9 Q9 A9 ls C0 hN hnm hlk hK hA hret hP hD hS hl
  obtain ⟨hx, hb, hml, hown, hts⟩ := id C0
  have hl : lv_has ls 3 [(0, .ref m0), (1, .int (nI 0)), (2, .int (nI 999))] := hl
  obtain ⟨H, hH0⟩ : ∃ H, H = s9.heap := ⟨_, rfl⟩
  obtain ⟨locs, hlc0⟩ : ∃ z : List Loc, z = [] := ⟨_, rfl⟩
  have hP : va_P D vwCl [(m0, .inr (6, [.ref m1, .ref m2, .ref m3, .int (nI k), .ref m4, .int (nI n), .int (nI th), .int (nI ax), .int (nI fa), .int (nI vl), .ref m5, .int (nI tn), .int (nI hg), .int (nI bg)])), (m4, .inl (cI, 60, .inl (ro 60 cs))), (m5, .inl (cI, 48, .inl (ro 48 td)))] H := by rw [hH0]; exact hP
  have hD : va_D A9 [(m0, .inr (6, [.ref m1, .ref m2, .ref m3, .int (nI k), .ref m4, .int (nI n), .int (nI th), .int (nI ax), .int (nI fa), .int (nI vl), .ref m5, .int (nI tn), .int (nI hg), .int (nI bg)])), (m4, .inl (cI, 60, .inl (ro 60 cs))), (m5, .inl (cI, 48, .inl (ro 48 td)))] := hD
  have hS : va_S A9 s9.heap H locs := by rw [hH0, hlc0]; exact hS
  suffices hgo : W p9 l e9 ({ frames := 2, cells := 0, slots := 0, locals := 44 } : Room) s9 m9 ar9 be9 me9 c9 H locs 0 0 Q9 (F0 m9 0 ls []) by rw [hH0, hlc0] at hgo; exact hgo
  clear hH0 hlc0
  refine lv_aload_n hx hb dX6_isNumber_0 rfl (lv_at hl 0 rfl) ?_
  refine lv_bipush (v := nI 48) hx hb dX6_isNumber_1 (by decide +kernel) ?_
  refine lv_bipush (v := nI 57) hx hb dX6_isNumber_3 (by decide +kernel) ?_
  refine KM.callV (As := [.int (nI 48), .int (nI 57)]) (rest := []) C0 hN (k_X6_isAt l D cI cS cL m0 m1 m2 m3 m4 m5 k n th ax fa vl tn hg bg cs 48 57  (by first | with_reducible assumption | omega) (by first | with_reducible assumption | omega) (by first | with_reducible assumption | omega) (by decide) (by decide)) (cwV 2 hts gX6_isNumber_X6_isAt rfl rfl rfl (by decide +kernel) ⟨Nat.le_of_ble_eq_true rfl, Nat.le_of_ble_eq_true rfl⟩) hK hP hD hS hA [0, 1] rfl (by decide) (fun _ => rfl) 0 6 rfl rfl rfl rfl hl.1 rfl (Nat.le_of_ble_eq_true rfl) dX6_isNumber_5 ⟨Nat.le_of_ble_eq_true rfl, Nat.le_of_ble_eq_true rfl⟩ (fun v9 u9 H locs hv hP hD hS => ?_)
  subst hv
  have hP : va_P D vwCl [(m0, .inr (6, [.ref m1, .ref m2, .ref m3, .int (nI k), .ref m4, .int (nI n), .int (nI th), .int (nI ax), .int (nI fa), .int (nI vl), .ref m5, .int (nI tn), .int (nI hg), .int (nI bg)])), (m4, .inl (cI, 60, .inl (ro 60 cs))), (m5, .inl (cI, 48, .inl (ro 48 td)))] H := hP
  have hD : va_D A9 [(m0, .inr (6, [.ref m1, .ref m2, .ref m3, .int (nI k), .ref m4, .int (nI n), .int (nI th), .int (nI ax), .int (nI fa), .int (nI vl), .ref m5, .int (nI tn), .int (nI hg), .int (nI bg)])), (m4, .inl (cI, 60, .inl (ro 60 cs))), (m5, .inl (cI, 48, .inl (ro 48 td)))] := hD
  refine W.eq (g2 := F0 m9 8 ls [.int (nI (bI (ax < n ∧ 48 ≤ cs ax ∧ cs ax ≤ 57)))]) rfl ?_
  refine q_fne (tgt := 16) bI_lt hx hb dX6_isNumber_8 (by decide) (fun c_8 => ?_) (fun c_8 => ?_)
  ·
    have c_8 := bI_nz c_8
    refine lv_aload_n hx hb dX6_isNumber_16 rfl (lv_at hl 0 rfl) ?_
    refine lv_aload_n hx hb dX6_isNumber_17 rfl (lv_at hl 0 rfl) ?_
    refine va_get (D := D) (ci := 6) (v := .ref m4) (C := RX6) (T := TX6) (N := 14) hx hb hts in_X6_isNumber_0_X6 hown hK hP 0 rfl rfl 4 (by decide) (hts _ fl_X6_isNumber_0_19) (fun _ h9 => h9) rfl dX6_isNumber_18 ?_
    refine lv_aload_n hx hb dX6_isNumber_21 rfl (lv_at hl 0 rfl) ?_
    refine va_get (D := D) (ci := 6) (v := .int (nI ax)) (C := RX6) (T := TX6) (N := 14) hx hb hts in_X6_isNumber_0_X6 hown hK hP 0 rfl rfl 7 (by decide) (hts _ fl_X6_isNumber_0_114) (fun _ h9 => h9) rfl dX6_isNumber_22 ?_
    have hc8 := hcs ax (by omega)
    refine q_iald 1 0 (by omega) (by omega) hx hb hK hP rfl rfl dX6_isNumber_25 ?_
    refine lv_bipush (v := nI 48) hx hb dX6_isNumber_26 (by decide +kernel) ?_
    refine q_isub (by omega) hx hb dX6_isNumber_28 ?_
    refine va_put (D := D) (ci := 6) (v := .int (nI ((cs ax) - 48))) (ty := tyX6 9) (C := RX6) (T := TX6) (N := 14) hx hb hts in_X6_isNumber_0_X6 tyX6 tyX6_ok nmX6 hown hK hP hD hS 0 rfl rfl 9 (by decide) (hts _ fl_X6_isNumber_0_128) (fun _ h9 => h9) rfl (by decide +kernel) rfl rfl (Nat.le_of_ble_eq_true rfl) dX6_isNumber_29 (fun H locs hP hD hS => ?_)
    have hP : va_P D vwCl [(m0, .inr (6, [.ref m1, .ref m2, .ref m3, .int (nI k), .ref m4, .int (nI n), .int (nI th), .int (nI ax), .int (nI fa), .int (nI ((cs ax) - 48)), .ref m5, .int (nI tn), .int (nI hg), .int (nI bg)])), (m4, .inl (cI, 60, .inl (ro 60 cs))), (m5, .inl (cI, 48, .inl (ro 48 td)))] H := hP
    have hD : va_D A9 [(m0, .inr (6, [.ref m1, .ref m2, .ref m3, .int (nI k), .ref m4, .int (nI n), .int (nI th), .int (nI ax), .int (nI fa), .int (nI ((cs ax) - 48)), .ref m5, .int (nI tn), .int (nI hg), .int (nI bg)])), (m4, .inl (cI, 60, .inl (ro 60 cs))), (m5, .inl (cI, 48, .inl (ro 48 td)))] := hD
    refine lv_aload_n hx hb dX6_isNumber_32 rfl (lv_at hl 0 rfl) ?_
    refine lv_dup hx hb dX6_isNumber_33 rfl ?_
    refine va_get (D := D) (ci := 6) (v := .int (nI ax)) (C := RX6) (T := TX6) (N := 14) hx hb hts in_X6_isNumber_0_X6 hown hK hP 0 rfl rfl 7 (by decide) (hts _ fl_X6_isNumber_0_114) (fun _ h9 => h9) rfl dX6_isNumber_34 ?_
    refine lv_iconst (v := nI 1) hx hb dX6_isNumber_37 (by decide +kernel) ?_
    refine q_iadd hx hb dX6_isNumber_38 ?_
    refine va_put (D := D) (ci := 6) (v := .int (nI (ax + 1))) (ty := tyX6 7) (C := RX6) (T := TX6) (N := 14) hx hb hts in_X6_isNumber_0_X6 tyX6 tyX6_ok nmX6 hown hK hP hD hS 0 rfl rfl 7 (by decide) (hts _ fl_X6_isNumber_0_114) (fun _ h9 => h9) rfl (by decide +kernel) rfl rfl (Nat.le_of_ble_eq_true rfl) dX6_isNumber_39 (fun H locs hP hD hS => ?_)
    have hP : va_P D vwCl [(m0, .inr (6, [.ref m1, .ref m2, .ref m3, .int (nI k), .ref m4, .int (nI n), .int (nI th), .int (nI (ax + 1)), .int (nI fa), .int (nI ((cs ax) - 48)), .ref m5, .int (nI tn), .int (nI hg), .int (nI bg)])), (m4, .inl (cI, 60, .inl (ro 60 cs))), (m5, .inl (cI, 48, .inl (ro 48 td)))] H := hP
    have hD : va_D A9 [(m0, .inr (6, [.ref m1, .ref m2, .ref m3, .int (nI k), .ref m4, .int (nI n), .int (nI th), .int (nI (ax + 1)), .int (nI fa), .int (nI ((cs ax) - 48)), .ref m5, .int (nI tn), .int (nI hg), .int (nI bg)])), (m4, .inl (cI, 60, .inl (ro 60 cs))), (m5, .inl (cI, 48, .inl (ro 48 td)))] := hD
    have L42 : ∀ (fuel : Nat) (p : Nat) (v2 : Nat) (H : Heap) (locs : List Loc) (ls : Array Slot), (p ≤ n) → (rd0 cs ax p v2) → (v2 ≤ 999) → (n - p < fuel) → va_P D vwCl [(m0, .inr (6, [.ref m1, .ref m2, .ref m3, .int (nI k), .ref m4, .int (nI n), .int (nI th), .int (nI p), .int (nI fa), .int (nI v2), .ref m5, .int (nI tn), .int (nI hg), .int (nI bg)])), (m4, .inl (cI, 60, .inl (ro 60 cs))), (m5, .inl (cI, 48, .inl (ro 48 td)))] H → va_D A9 [(m0, .inr (6, [.ref m1, .ref m2, .ref m3, .int (nI k), .ref m4, .int (nI n), .int (nI th), .int (nI p), .int (nI fa), .int (nI v2), .ref m5, .int (nI tn), .int (nI hg), .int (nI bg)])), (m4, .inl (cI, 60, .inl (ro 60 cs))), (m5, .inl (cI, 48, .inl (ro 48 td)))] → va_S A9 s9.heap H locs → lv_has ls 3 [(0, .ref m0), (1, .int (nI 0)), (2, .int (nI 999))] → W p9 l e9 ({ frames := 2, cells := 0, slots := 0, locals := 44 } : Room) s9 m9 ar9 be9 me9 c9 H locs 0 0 Q9 (F0 m9 42 ls []) := by
      intro fuel
      induction fuel with
      | zero => intro p v2 H locs ls hp hrd hv2 hfu; exact absurd hfu (Nat.not_lt_zero _)
      | succ fuel ih42 =>
        intro p v2 H locs ls hp hrd hv2 hfu hP hD hS hl
        refine lv_aload_n hx hb dX6_isNumber_42 rfl (lv_at hl 0 rfl) ?_
        refine va_get (D := D) (ci := 6) (v := .int (nI v2)) (C := RX6) (T := TX6) (N := 14) hx hb hts in_X6_isNumber_0_X6 hown hK hP 0 rfl rfl 9 (by decide) (hts _ fl_X6_isNumber_0_128) (fun _ h9 => h9) rfl dX6_isNumber_43 ?_
        refine q_fle (tgt := 121) (by omega) hx hb dX6_isNumber_46 (by decide) (fun c_46 => ?_) (fun c_46 => ?_)
        ·
          refine lv_aload_n hx hb dX6_isNumber_121 rfl (lv_at hl 0 rfl) ?_
          refine va_get (D := D) (ci := 6) (v := .ref m5) (C := RX6) (T := TX6) (N := 14) hx hb hts in_X6_isNumber_0_X6 hown hK hP 0 rfl rfl 10 (by decide) (hts _ fl_X6_isNumber_0_22) (fun _ h9 => h9) rfl dX6_isNumber_122 ?_
          refine lv_iconst (v := nI 3) hx hb dX6_isNumber_125 (by decide +kernel) ?_
          refine lv_aload_n hx hb dX6_isNumber_126 rfl (lv_at hl 0 rfl) ?_
          refine va_get (D := D) (ci := 6) (v := .int (nI tn)) (C := RX6) (T := TX6) (N := 14) hx hb hts in_X6_isNumber_0_X6 hown hK hP 0 rfl rfl 11 (by decide) (hts _ fl_X6_isNumber_0_131) (fun _ h9 => h9) rfl dX6_isNumber_127 ?_
          refine q_imul hx hb dX6_isNumber_130 ?_
          refine lv_iload_n hx hb dX6_isNumber_131 rfl (lv_at hl 1 rfl) ?_
          refine q_iadd hx hb dX6_isNumber_132 ?_
          refine lv_aload_n hx hb dX6_isNumber_133 rfl (lv_at hl 0 rfl) ?_
          refine va_get (D := D) (ci := 6) (v := .int (nI v2)) (C := RX6) (T := TX6) (N := 14) hx hb hts in_X6_isNumber_0_X6 hown hK hP 0 rfl rfl 9 (by decide) (hts _ fl_X6_isNumber_0_128) (fun _ h9 => h9) rfl dX6_isNumber_134 ?_
          refine q_iast 2 0 (by omega) (by omega) hx hb hK hP hD hS rfl rfl dX6_isNumber_137 (fun H locs hP hD hS => ?_)
          have hP : va_P D vwCl [(m0, .inr (6, [.ref m1, .ref m2, .ref m3, .int (nI k), .ref m4, .int (nI n), .int (nI th), .int (nI p), .int (nI fa), .int (nI v2), .ref m5, .int (nI tn), .int (nI hg), .int (nI bg)])), (m4, .inl (cI, 60, .inl (ro 60 cs))), (m5, .inl (cI, 48, .inl (ro 48 (upN td ((3 * tn) + 0) v2))))] H := hP
          have hD : va_D A9 [(m0, .inr (6, [.ref m1, .ref m2, .ref m3, .int (nI k), .ref m4, .int (nI n), .int (nI th), .int (nI p), .int (nI fa), .int (nI v2), .ref m5, .int (nI tn), .int (nI hg), .int (nI bg)])), (m4, .inl (cI, 60, .inl (ro 60 cs))), (m5, .inl (cI, 48, .inl (ro 48 (upN td ((3 * tn) + 0) v2))))] := hD
          refine lv_iconst (v := nI 1) hx hb dX6_isNumber_138 (by decide +kernel) ?_
          exact hret _ _ _ _ (some (.int (nI 1))) (fun i9 => [(fun j9 => [1, p, v2, fa].getD j9 0), upN td ((3 * tn) + 0) v2].getD i9 (fun _ => 0)) 139 ls (by decide) (by decide) (by exact ⟨Nat.le_refl 1, fun h9 => absurd (show (1 : Nat) = 0 from h9) (by decide), fun _ => ⟨hrd, hp, fun (h8 : p < n) h9 => (rd0_e (p := p) hrd (by omega) h9 : runS cs (p + 1) = 8), rfl, rfl⟩, rfl⟩) hP hD hS (ret_z dX6_isNumber_139 (by first | exact bI_le | omega))
        ·
          refine lv_aload_n hx hb dX6_isNumber_49 rfl (lv_at hl 0 rfl) ?_
          refine lv_bipush (v := nI 48) hx hb dX6_isNumber_50 (by decide +kernel) ?_
          refine lv_bipush (v := nI 57) hx hb dX6_isNumber_52 (by decide +kernel) ?_
          refine KM.callV (As := [.int (nI 48), .int (nI 57)]) (rest := []) C0 hN (k_X6_isAt l D cI cS cL m0 m1 m2 m3 m4 m5 k n th p fa v2 tn hg bg cs 48 57  (by first | with_reducible assumption | omega) (by first | with_reducible assumption | omega) (by first | with_reducible assumption | omega) (by decide) (by decide)) (cwV 2 hts gX6_isNumber_X6_isAt rfl rfl rfl (by decide +kernel) ⟨Nat.le_of_ble_eq_true rfl, Nat.le_of_ble_eq_true rfl⟩) hK hP hD hS hA [0, 1] rfl (by decide) (fun _ => rfl) 0 6 rfl rfl rfl rfl hl.1 rfl (Nat.le_of_ble_eq_true rfl) dX6_isNumber_54 ⟨Nat.le_of_ble_eq_true rfl, Nat.le_of_ble_eq_true rfl⟩ (fun v9 u9 H locs hv hP hD hS => ?_)
          subst hv
          have hP : va_P D vwCl [(m0, .inr (6, [.ref m1, .ref m2, .ref m3, .int (nI k), .ref m4, .int (nI n), .int (nI th), .int (nI p), .int (nI fa), .int (nI v2), .ref m5, .int (nI tn), .int (nI hg), .int (nI bg)])), (m4, .inl (cI, 60, .inl (ro 60 cs))), (m5, .inl (cI, 48, .inl (ro 48 td)))] H := hP
          have hD : va_D A9 [(m0, .inr (6, [.ref m1, .ref m2, .ref m3, .int (nI k), .ref m4, .int (nI n), .int (nI th), .int (nI p), .int (nI fa), .int (nI v2), .ref m5, .int (nI tn), .int (nI hg), .int (nI bg)])), (m4, .inl (cI, 60, .inl (ro 60 cs))), (m5, .inl (cI, 48, .inl (ro 48 td)))] := hD
          refine W.eq (g2 := F0 m9 57 ls [.int (nI (bI (p < n ∧ 48 ≤ cs p ∧ cs p ≤ 57)))]) rfl ?_
          refine q_feq (tgt := 121) bI_lt hx hb dX6_isNumber_57 (by decide) (fun c_57 => ?_) (fun c_57 => ?_)
          ·
            have c_57 := bI_z c_57
            refine lv_aload_n hx hb dX6_isNumber_121 rfl (lv_at hl 0 rfl) ?_
            refine va_get (D := D) (ci := 6) (v := .ref m5) (C := RX6) (T := TX6) (N := 14) hx hb hts in_X6_isNumber_0_X6 hown hK hP 0 rfl rfl 10 (by decide) (hts _ fl_X6_isNumber_0_22) (fun _ h9 => h9) rfl dX6_isNumber_122 ?_
            refine lv_iconst (v := nI 3) hx hb dX6_isNumber_125 (by decide +kernel) ?_
            refine lv_aload_n hx hb dX6_isNumber_126 rfl (lv_at hl 0 rfl) ?_
            refine va_get (D := D) (ci := 6) (v := .int (nI tn)) (C := RX6) (T := TX6) (N := 14) hx hb hts in_X6_isNumber_0_X6 hown hK hP 0 rfl rfl 11 (by decide) (hts _ fl_X6_isNumber_0_131) (fun _ h9 => h9) rfl dX6_isNumber_127 ?_
            refine q_imul hx hb dX6_isNumber_130 ?_
            refine lv_iload_n hx hb dX6_isNumber_131 rfl (lv_at hl 1 rfl) ?_
            refine q_iadd hx hb dX6_isNumber_132 ?_
            refine lv_aload_n hx hb dX6_isNumber_133 rfl (lv_at hl 0 rfl) ?_
            refine va_get (D := D) (ci := 6) (v := .int (nI v2)) (C := RX6) (T := TX6) (N := 14) hx hb hts in_X6_isNumber_0_X6 hown hK hP 0 rfl rfl 9 (by decide) (hts _ fl_X6_isNumber_0_128) (fun _ h9 => h9) rfl dX6_isNumber_134 ?_
            refine q_iast 2 0 (by omega) (by omega) hx hb hK hP hD hS rfl rfl dX6_isNumber_137 (fun H locs hP hD hS => ?_)
            have hP : va_P D vwCl [(m0, .inr (6, [.ref m1, .ref m2, .ref m3, .int (nI k), .ref m4, .int (nI n), .int (nI th), .int (nI p), .int (nI fa), .int (nI v2), .ref m5, .int (nI tn), .int (nI hg), .int (nI bg)])), (m4, .inl (cI, 60, .inl (ro 60 cs))), (m5, .inl (cI, 48, .inl (ro 48 (upN td ((3 * tn) + 0) v2))))] H := hP
            have hD : va_D A9 [(m0, .inr (6, [.ref m1, .ref m2, .ref m3, .int (nI k), .ref m4, .int (nI n), .int (nI th), .int (nI p), .int (nI fa), .int (nI v2), .ref m5, .int (nI tn), .int (nI hg), .int (nI bg)])), (m4, .inl (cI, 60, .inl (ro 60 cs))), (m5, .inl (cI, 48, .inl (ro 48 (upN td ((3 * tn) + 0) v2))))] := hD
            refine lv_iconst (v := nI 1) hx hb dX6_isNumber_138 (by decide +kernel) ?_
            exact hret _ _ _ _ (some (.int (nI 1))) (fun i9 => [(fun j9 => [1, p, v2, fa].getD j9 0), upN td ((3 * tn) + 0) v2].getD i9 (fun _ => 0)) 139 ls (by decide) (by decide) (by exact ⟨Nat.le_refl 1, fun h9 => absurd (show (1 : Nat) = 0 from h9) (by decide), fun _ => ⟨hrd, hp, fun (h8 : p < n) h9 => (rd0_e (p := p) hrd (by omega) h9 : runS cs (p + 1) = 8), rfl, rfl⟩, rfl⟩) hP hD hS (ret_z dX6_isNumber_139 (by first | exact bI_le | omega))
          ·
            have c_57 := bI_nz c_57
            refine lv_bipush (v := nI 10) hx hb dX6_isNumber_60 (by decide +kernel) ?_
            refine lv_aload_n hx hb dX6_isNumber_62 rfl (lv_at hl 0 rfl) ?_
            refine va_get (D := D) (ci := 6) (v := .int (nI v2)) (C := RX6) (T := TX6) (N := 14) hx hb hts in_X6_isNumber_0_X6 hown hK hP 0 rfl rfl 9 (by decide) (hts _ fl_X6_isNumber_0_128) (fun _ h9 => h9) rfl dX6_isNumber_63 ?_
            refine q_imul hx hb dX6_isNumber_66 ?_
            refine lv_aload_n hx hb dX6_isNumber_67 rfl (lv_at hl 0 rfl) ?_
            refine va_get (D := D) (ci := 6) (v := .ref m4) (C := RX6) (T := TX6) (N := 14) hx hb hts in_X6_isNumber_0_X6 hown hK hP 0 rfl rfl 4 (by decide) (hts _ fl_X6_isNumber_0_19) (fun _ h9 => h9) rfl dX6_isNumber_68 ?_
            refine lv_aload_n hx hb dX6_isNumber_71 rfl (lv_at hl 0 rfl) ?_
            refine va_get (D := D) (ci := 6) (v := .int (nI p)) (C := RX6) (T := TX6) (N := 14) hx hb hts in_X6_isNumber_0_X6 hown hK hP 0 rfl rfl 7 (by decide) (hts _ fl_X6_isNumber_0_114) (fun _ h9 => h9) rfl dX6_isNumber_72 ?_
            refine q_iald 1 0 (by omega) (by omega) hx hb hK hP rfl rfl dX6_isNumber_75 ?_
            have hc9 := hcs p (by omega)
            refine q_iadd hx hb dX6_isNumber_76 ?_
            refine lv_bipush (v := nI 48) hx hb dX6_isNumber_77 (by decide +kernel) ?_
            refine q_isub (by omega) hx hb dX6_isNumber_79 ?_
            refine lv_iload_n hx hb dX6_isNumber_80 rfl (lv_at hl 2 rfl) ?_
            refine q_igt (tgt := 121) (by omega) (by omega) hx hb dX6_isNumber_81 (by decide) (fun c_81 => ?_) (fun c_81 => ?_)
            ·
              refine lv_aload_n hx hb dX6_isNumber_121 rfl (lv_at hl 0 rfl) ?_
              refine va_get (D := D) (ci := 6) (v := .ref m5) (C := RX6) (T := TX6) (N := 14) hx hb hts in_X6_isNumber_0_X6 hown hK hP 0 rfl rfl 10 (by decide) (hts _ fl_X6_isNumber_0_22) (fun _ h9 => h9) rfl dX6_isNumber_122 ?_
              refine lv_iconst (v := nI 3) hx hb dX6_isNumber_125 (by decide +kernel) ?_
              refine lv_aload_n hx hb dX6_isNumber_126 rfl (lv_at hl 0 rfl) ?_
              refine va_get (D := D) (ci := 6) (v := .int (nI tn)) (C := RX6) (T := TX6) (N := 14) hx hb hts in_X6_isNumber_0_X6 hown hK hP 0 rfl rfl 11 (by decide) (hts _ fl_X6_isNumber_0_131) (fun _ h9 => h9) rfl dX6_isNumber_127 ?_
              refine q_imul hx hb dX6_isNumber_130 ?_
              refine lv_iload_n hx hb dX6_isNumber_131 rfl (lv_at hl 1 rfl) ?_
              refine q_iadd hx hb dX6_isNumber_132 ?_
              refine lv_aload_n hx hb dX6_isNumber_133 rfl (lv_at hl 0 rfl) ?_
              refine va_get (D := D) (ci := 6) (v := .int (nI v2)) (C := RX6) (T := TX6) (N := 14) hx hb hts in_X6_isNumber_0_X6 hown hK hP 0 rfl rfl 9 (by decide) (hts _ fl_X6_isNumber_0_128) (fun _ h9 => h9) rfl dX6_isNumber_134 ?_
              refine q_iast 2 0 (by omega) (by omega) hx hb hK hP hD hS rfl rfl dX6_isNumber_137 (fun H locs hP hD hS => ?_)
              have hP : va_P D vwCl [(m0, .inr (6, [.ref m1, .ref m2, .ref m3, .int (nI k), .ref m4, .int (nI n), .int (nI th), .int (nI p), .int (nI fa), .int (nI v2), .ref m5, .int (nI tn), .int (nI hg), .int (nI bg)])), (m4, .inl (cI, 60, .inl (ro 60 cs))), (m5, .inl (cI, 48, .inl (ro 48 (upN td ((3 * tn) + 0) v2))))] H := hP
              have hD : va_D A9 [(m0, .inr (6, [.ref m1, .ref m2, .ref m3, .int (nI k), .ref m4, .int (nI n), .int (nI th), .int (nI p), .int (nI fa), .int (nI v2), .ref m5, .int (nI tn), .int (nI hg), .int (nI bg)])), (m4, .inl (cI, 60, .inl (ro 60 cs))), (m5, .inl (cI, 48, .inl (ro 48 (upN td ((3 * tn) + 0) v2))))] := hD
              refine lv_iconst (v := nI 1) hx hb dX6_isNumber_138 (by decide +kernel) ?_
              exact hret _ _ _ _ (some (.int (nI 1))) (fun i9 => [(fun j9 => [1, p, v2, fa].getD j9 0), upN td ((3 * tn) + 0) v2].getD i9 (fun _ => 0)) 139 ls (by decide) (by decide) (by exact ⟨Nat.le_refl 1, fun h9 => absurd (show (1 : Nat) = 0 from h9) (by decide), fun _ => ⟨hrd, hp, fun (h8 : p < n) h9 => (rd0_e (p := p) hrd (by omega) h9 : runS cs (p + 1) = 8), rfl, rfl⟩, rfl⟩) hP hD hS (ret_z dX6_isNumber_139 (by first | exact bI_le | omega))
            ·
              refine lv_aload_n hx hb dX6_isNumber_84 rfl (lv_at hl 0 rfl) ?_
              refine lv_bipush (v := nI 10) hx hb dX6_isNumber_85 (by decide +kernel) ?_
              refine lv_aload_n hx hb dX6_isNumber_87 rfl (lv_at hl 0 rfl) ?_
              refine va_get (D := D) (ci := 6) (v := .int (nI v2)) (C := RX6) (T := TX6) (N := 14) hx hb hts in_X6_isNumber_0_X6 hown hK hP 0 rfl rfl 9 (by decide) (hts _ fl_X6_isNumber_0_128) (fun _ h9 => h9) rfl dX6_isNumber_88 ?_
              refine q_imul hx hb dX6_isNumber_91 ?_
              refine lv_aload_n hx hb dX6_isNumber_92 rfl (lv_at hl 0 rfl) ?_
              refine va_get (D := D) (ci := 6) (v := .ref m4) (C := RX6) (T := TX6) (N := 14) hx hb hts in_X6_isNumber_0_X6 hown hK hP 0 rfl rfl 4 (by decide) (hts _ fl_X6_isNumber_0_19) (fun _ h9 => h9) rfl dX6_isNumber_93 ?_
              refine lv_aload_n hx hb dX6_isNumber_96 rfl (lv_at hl 0 rfl) ?_
              refine va_get (D := D) (ci := 6) (v := .int (nI p)) (C := RX6) (T := TX6) (N := 14) hx hb hts in_X6_isNumber_0_X6 hown hK hP 0 rfl rfl 7 (by decide) (hts _ fl_X6_isNumber_0_114) (fun _ h9 => h9) rfl dX6_isNumber_97 ?_
              refine q_iald 1 0 (by omega) (by omega) hx hb hK hP rfl rfl dX6_isNumber_100 ?_
              refine q_iadd hx hb dX6_isNumber_101 ?_
              refine lv_bipush (v := nI 48) hx hb dX6_isNumber_102 (by decide +kernel) ?_
              refine q_isub (by omega) hx hb dX6_isNumber_104 ?_
              refine va_put (D := D) (ci := 6) (v := .int (nI (((10 * v2) + (cs p)) - 48))) (ty := tyX6 9) (C := RX6) (T := TX6) (N := 14) hx hb hts in_X6_isNumber_0_X6 tyX6 tyX6_ok nmX6 hown hK hP hD hS 0 rfl rfl 9 (by decide) (hts _ fl_X6_isNumber_0_128) (fun _ h9 => h9) rfl (by decide +kernel) rfl rfl (Nat.le_of_ble_eq_true rfl) dX6_isNumber_105 (fun H locs hP hD hS => ?_)
              have hP : va_P D vwCl [(m0, .inr (6, [.ref m1, .ref m2, .ref m3, .int (nI k), .ref m4, .int (nI n), .int (nI th), .int (nI p), .int (nI fa), .int (nI (((10 * v2) + (cs p)) - 48)), .ref m5, .int (nI tn), .int (nI hg), .int (nI bg)])), (m4, .inl (cI, 60, .inl (ro 60 cs))), (m5, .inl (cI, 48, .inl (ro 48 td)))] H := hP
              have hD : va_D A9 [(m0, .inr (6, [.ref m1, .ref m2, .ref m3, .int (nI k), .ref m4, .int (nI n), .int (nI th), .int (nI p), .int (nI fa), .int (nI (((10 * v2) + (cs p)) - 48)), .ref m5, .int (nI tn), .int (nI hg), .int (nI bg)])), (m4, .inl (cI, 60, .inl (ro 60 cs))), (m5, .inl (cI, 48, .inl (ro 48 td)))] := hD
              refine lv_aload_n hx hb dX6_isNumber_108 rfl (lv_at hl 0 rfl) ?_
              refine lv_dup hx hb dX6_isNumber_109 rfl ?_
              refine va_get (D := D) (ci := 6) (v := .int (nI p)) (C := RX6) (T := TX6) (N := 14) hx hb hts in_X6_isNumber_0_X6 hown hK hP 0 rfl rfl 7 (by decide) (hts _ fl_X6_isNumber_0_114) (fun _ h9 => h9) rfl dX6_isNumber_110 ?_
              refine lv_iconst (v := nI 1) hx hb dX6_isNumber_113 (by decide +kernel) ?_
              refine q_iadd hx hb dX6_isNumber_114 ?_
              refine va_put (D := D) (ci := 6) (v := .int (nI (p + 1))) (ty := tyX6 7) (C := RX6) (T := TX6) (N := 14) hx hb hts in_X6_isNumber_0_X6 tyX6 tyX6_ok nmX6 hown hK hP hD hS 0 rfl rfl 7 (by decide) (hts _ fl_X6_isNumber_0_114) (fun _ h9 => h9) rfl (by decide +kernel) rfl rfl (Nat.le_of_ble_eq_true rfl) dX6_isNumber_115 (fun H locs hP hD hS => ?_)
              have hP : va_P D vwCl [(m0, .inr (6, [.ref m1, .ref m2, .ref m3, .int (nI k), .ref m4, .int (nI n), .int (nI th), .int (nI (p + 1)), .int (nI fa), .int (nI (((10 * v2) + (cs p)) - 48)), .ref m5, .int (nI tn), .int (nI hg), .int (nI bg)])), (m4, .inl (cI, 60, .inl (ro 60 cs))), (m5, .inl (cI, 48, .inl (ro 48 td)))] H := hP
              have hD : va_D A9 [(m0, .inr (6, [.ref m1, .ref m2, .ref m3, .int (nI k), .ref m4, .int (nI n), .int (nI th), .int (nI (p + 1)), .int (nI fa), .int (nI (((10 * v2) + (cs p)) - 48)), .ref m5, .int (nI tn), .int (nI hg), .int (nI bg)])), (m4, .inl (cI, 60, .inl (ro 60 cs))), (m5, .inl (cI, 48, .inl (ro 48 td)))] := hD
              refine lv_goto (tgt := 42) hx hb dX6_isNumber_118 (by decide) ?_
              exact ih42  (p + 1) (((10 * v2) + (cs p)) - 48) _ _ ls (by omega) (by exact rd0_s hrd (by omega) (by omega) (by omega) (by omega)) (by first | with_reducible assumption | omega) (by omega) hP hD hS (lv_sub hl [0, 1, 2] rfl)
    exact L42 (n - (ax + 1) + 1) (ax + 1) ((cs ax) - 48) _ _ ls (by omega) (by exact rd0_1 hr (by omega) (by omega)) (by omega) (by omega) hP hD hS (lv_sub hl [0, 1, 2] rfl)
  ·
    have c_8 := bI_z c_8
    refine lv_aload_n hx hb dX6_isNumber_11 rfl (lv_at hl 0 rfl) ?_
    refine KM.callV (As := []) (rest := []) C0 hN (k_X6_stops l D cI cS cL m0 m1 m2 m3 m4 m5 k n th ax fa vl tn hg bg  (by first | with_reducible assumption | omega) (by first | with_reducible assumption | omega)) (cwV 0 hts gX6_isNumber_X6_stops rfl rfl rfl (by decide +kernel) ⟨Nat.le_of_ble_eq_true rfl, Nat.le_of_ble_eq_true rfl⟩) hK hP hD hS hA [0] rfl (by decide) (fun _ => rfl) 0 6 rfl rfl rfl rfl hl.1 rfl (Nat.le_of_ble_eq_true rfl) dX6_isNumber_12 ⟨Nat.le_of_ble_eq_true rfl, Nat.le_of_ble_eq_true rfl⟩ (fun v9 u9 H locs hv hP hD hS => ?_)
    subst hv
    have hP : va_P D vwCl [(m0, .inr (6, [.ref m1, .ref m2, .ref m3, .int (nI k), .ref m4, .int (nI n), .int (nI th), .int (nI ax), .int (nI (bI (ax < n))), .int (nI vl), .ref m5, .int (nI tn), .int (nI hg), .int (nI bg)])), (m4, .inl (cI, 60, .inl (ro 60 cs))), (m5, .inl (cI, 48, .inl (ro 48 td)))] H := hP
    have hD : va_D A9 [(m0, .inr (6, [.ref m1, .ref m2, .ref m3, .int (nI k), .ref m4, .int (nI n), .int (nI th), .int (nI ax), .int (nI (bI (ax < n))), .int (nI vl), .ref m5, .int (nI tn), .int (nI hg), .int (nI bg)])), (m4, .inl (cI, 60, .inl (ro 60 cs))), (m5, .inl (cI, 48, .inl (ro 48 td)))] := hD
    refine W.eq (g2 := F0 m9 15 ls [.int (nI 0)]) rfl ?_
    exact hret _ _ _ _ (some (.int (nI 0))) (fun i9 => [(fun j9 => [0, ax, vl, bI (ax < n)].getD j9 0), td].getD i9 (fun _ => 0)) 15 ls (by decide) (by decide) (by exact ⟨Nat.zero_le 1, fun _ => ⟨rfl, rfl, fun (h9 : ax < n) => no_dig hr (by decide) (by omega), rfl⟩, fun h9 => absurd (show (0 : Nat) = 1 from h9) (by decide), rfl⟩) hP hD hS (ret_z dX6_isNumber_15 (by first | exact bI_le | omega))

theorem in_X6_isNumber_2_X6 : ∀ w ∈ wsX60, w ∈ wsX6_isNumber := by decide +kernel
theorem fl_X6_isNumber_2_19 : Cond.fieldLink RX6 19 "FountainCuesModel" "text" "[I" ∈ wsX6_isNumber := by decide +kernel
theorem fl_X6_isNumber_2_114 : Cond.fieldLink RX6 114 "FountainCuesModel" "at" "I" ∈ wsX6_isNumber := by decide +kernel
theorem fl_X6_isNumber_2_128 : Cond.fieldLink RX6 128 "FountainCuesModel" "value" "I" ∈ wsX6_isNumber := by decide +kernel
theorem fl_X6_isNumber_2_22 : Cond.fieldLink RX6 22 "FountainCuesModel" "told" "[I" ∈ wsX6_isNumber := by decide +kernel
theorem fl_X6_isNumber_2_131 : Cond.fieldLink RX6 131 "FountainCuesModel" "tolds" "I" ∈ wsX6_isNumber := by decide +kernel
set_option maxHeartbeats 4000000 in
set_option maxRecDepth 100000 in
theorem k_X6_isNumber_2 (l : Launch) (D : va_G) (cI cS cL : ClassId) (m0 : Nat) (m1 : Nat) (m2 : Nat) (m3 : Nat) (m4 : Nat) (m5 : Nat) (k : Nat) (n : Nat) (th : Nat) (ax : Nat) (fa : Nat) (vl : Nat) (tn : Nat) (hg : Nat) (bg : Nat) (cs : Nat → Nat) (td : Nat → Nat) (a : Nat) (j : Nat) (hn : n ≤ 60) (hcs : ∀ j, j < n → cs j < 2 ^ 30) (hax : ax ≤ n) (htn : 5 * tn ≤ ax) (hr : runS cs ax = 5) (hj : j < 8) (hpr : prT cs ax = (a, j, 0)) : KM l D (TY cI cS cL) yX6_isNumber wsX6_isNumber ({ frames := 2, cells := 0, slots := 0, locals := 44 } : Room) [(m0, .inr (6, [.ref m1, .ref m2, .ref m3, .int (nI k), .ref m4, .int (nI n), .int (nI th), .int (nI ax), .int (nI fa), .int (nI vl), .ref m5, .int (nI tn), .int (nI hg), .int (nI bg)])), (m4, .inl (cI, 60, .inl (ro 60 cs))), (m5, .inl (cI, 48, .inl (ro 48 td)))] [.ref m0, .int (nI 2), .int (nI 10)] (fun (v : Option Value) (u : Nat → Nat → Nat) => (u 0 0 ≤ 1) ∧ (u 0 0 = 0 → u 0 1 = ax ∧ u 0 3 = bI (ax < n) ∧ (ax < n → runS cs (ax + 1) = 8) ∧ u 1 = td) ∧ (u 0 0 = 1 → rd2 cs ax (u 0 1) (u 0 2) a j ∧ u 0 1 ≤ n ∧ (u 0 1 < n → cs (u 0 1) ≠ 59 → runS cs (u 0 1 + 1) = 8) ∧ u 1 = upN td (3 * tn + 2) (u 0 2) ∧ u 0 3 = fa) ∧ v = some (.int (nI (u 0 0)))) (fun (u : Nat → Nat → Nat) => [(m0, .inr (6, [.ref m1, .ref m2, .ref m3, .int (nI k), .ref m4, .int (nI n), .int (nI th), .int (nI (u 0 1)), .int (nI (u 0 3)), .int (nI (u 0 2)), .ref m5, .int (nI tn), .int (nI hg), .int (nI bg)])), (m4, .inl (cI, 60, .inl (ro 60 cs))), (m5, .inl (cI, 48, .inl (ro 48 (u 1))))]) := by
  refine KM.of (cc := cX6_isNumber) (maxL := 3) (ret := (some .boolean)) (by decide) rfl (Nat.le_of_ble_eq_true rfl) ?_
  intro p9 e9 s9 m9 ar9 be9 me9 c9 Q9 A9 ls C0 hN hnm hlk hK hA hret hP hD hS hl
  obtain ⟨hx, hb, hml, hown, hts⟩ := id C0
  have hl : lv_has ls 3 [(0, .ref m0), (1, .int (nI 2)), (2, .int (nI 10))] := hl
  obtain ⟨H, hH0⟩ : ∃ H, H = s9.heap := ⟨_, rfl⟩
  obtain ⟨locs, hlc0⟩ : ∃ z : List Loc, z = [] := ⟨_, rfl⟩
  have hP : va_P D vwCl [(m0, .inr (6, [.ref m1, .ref m2, .ref m3, .int (nI k), .ref m4, .int (nI n), .int (nI th), .int (nI ax), .int (nI fa), .int (nI vl), .ref m5, .int (nI tn), .int (nI hg), .int (nI bg)])), (m4, .inl (cI, 60, .inl (ro 60 cs))), (m5, .inl (cI, 48, .inl (ro 48 td)))] H := by rw [hH0]; exact hP
  have hD : va_D A9 [(m0, .inr (6, [.ref m1, .ref m2, .ref m3, .int (nI k), .ref m4, .int (nI n), .int (nI th), .int (nI ax), .int (nI fa), .int (nI vl), .ref m5, .int (nI tn), .int (nI hg), .int (nI bg)])), (m4, .inl (cI, 60, .inl (ro 60 cs))), (m5, .inl (cI, 48, .inl (ro 48 td)))] := hD
  have hS : va_S A9 s9.heap H locs := by rw [hH0, hlc0]; exact hS
  suffices hgo : W p9 l e9 ({ frames := 2, cells := 0, slots := 0, locals := 44 } : Room) s9 m9 ar9 be9 me9 c9 H locs 0 0 Q9 (F0 m9 0 ls []) by rw [hH0, hlc0] at hgo; exact hgo
  clear hH0 hlc0
  refine lv_aload_n hx hb dX6_isNumber_0 rfl (lv_at hl 0 rfl) ?_
  refine lv_bipush (v := nI 48) hx hb dX6_isNumber_1 (by decide +kernel) ?_
  refine lv_bipush (v := nI 57) hx hb dX6_isNumber_3 (by decide +kernel) ?_
  refine KM.callV (As := [.int (nI 48), .int (nI 57)]) (rest := []) C0 hN (k_X6_isAt l D cI cS cL m0 m1 m2 m3 m4 m5 k n th ax fa vl tn hg bg cs 48 57  (by first | with_reducible assumption | omega) (by first | with_reducible assumption | omega) (by first | with_reducible assumption | omega) (by decide) (by decide)) (cwV 2 hts gX6_isNumber_X6_isAt rfl rfl rfl (by decide +kernel) ⟨Nat.le_of_ble_eq_true rfl, Nat.le_of_ble_eq_true rfl⟩) hK hP hD hS hA [0, 1] rfl (by decide) (fun _ => rfl) 0 6 rfl rfl rfl rfl hl.1 rfl (Nat.le_of_ble_eq_true rfl) dX6_isNumber_5 ⟨Nat.le_of_ble_eq_true rfl, Nat.le_of_ble_eq_true rfl⟩ (fun v9 u9 H locs hv hP hD hS => ?_)
  subst hv
  have hP : va_P D vwCl [(m0, .inr (6, [.ref m1, .ref m2, .ref m3, .int (nI k), .ref m4, .int (nI n), .int (nI th), .int (nI ax), .int (nI fa), .int (nI vl), .ref m5, .int (nI tn), .int (nI hg), .int (nI bg)])), (m4, .inl (cI, 60, .inl (ro 60 cs))), (m5, .inl (cI, 48, .inl (ro 48 td)))] H := hP
  have hD : va_D A9 [(m0, .inr (6, [.ref m1, .ref m2, .ref m3, .int (nI k), .ref m4, .int (nI n), .int (nI th), .int (nI ax), .int (nI fa), .int (nI vl), .ref m5, .int (nI tn), .int (nI hg), .int (nI bg)])), (m4, .inl (cI, 60, .inl (ro 60 cs))), (m5, .inl (cI, 48, .inl (ro 48 td)))] := hD
  refine W.eq (g2 := F0 m9 8 ls [.int (nI (bI (ax < n ∧ 48 ≤ cs ax ∧ cs ax ≤ 57)))]) rfl ?_
  refine q_fne (tgt := 16) bI_lt hx hb dX6_isNumber_8 (by decide) (fun c_8 => ?_) (fun c_8 => ?_)
  ·
    have c_8 := bI_nz c_8
    refine lv_aload_n hx hb dX6_isNumber_16 rfl (lv_at hl 0 rfl) ?_
    refine lv_aload_n hx hb dX6_isNumber_17 rfl (lv_at hl 0 rfl) ?_
    refine va_get (D := D) (ci := 6) (v := .ref m4) (C := RX6) (T := TX6) (N := 14) hx hb hts in_X6_isNumber_2_X6 hown hK hP 0 rfl rfl 4 (by decide) (hts _ fl_X6_isNumber_2_19) (fun _ h9 => h9) rfl dX6_isNumber_18 ?_
    refine lv_aload_n hx hb dX6_isNumber_21 rfl (lv_at hl 0 rfl) ?_
    refine va_get (D := D) (ci := 6) (v := .int (nI ax)) (C := RX6) (T := TX6) (N := 14) hx hb hts in_X6_isNumber_2_X6 hown hK hP 0 rfl rfl 7 (by decide) (hts _ fl_X6_isNumber_2_114) (fun _ h9 => h9) rfl dX6_isNumber_22 ?_
    have hc8 := hcs ax (by omega)
    refine q_iald 1 0 (by omega) (by omega) hx hb hK hP rfl rfl dX6_isNumber_25 ?_
    refine lv_bipush (v := nI 48) hx hb dX6_isNumber_26 (by decide +kernel) ?_
    refine q_isub (by omega) hx hb dX6_isNumber_28 ?_
    refine va_put (D := D) (ci := 6) (v := .int (nI ((cs ax) - 48))) (ty := tyX6 9) (C := RX6) (T := TX6) (N := 14) hx hb hts in_X6_isNumber_2_X6 tyX6 tyX6_ok nmX6 hown hK hP hD hS 0 rfl rfl 9 (by decide) (hts _ fl_X6_isNumber_2_128) (fun _ h9 => h9) rfl (by decide +kernel) rfl rfl (Nat.le_of_ble_eq_true rfl) dX6_isNumber_29 (fun H locs hP hD hS => ?_)
    have hP : va_P D vwCl [(m0, .inr (6, [.ref m1, .ref m2, .ref m3, .int (nI k), .ref m4, .int (nI n), .int (nI th), .int (nI ax), .int (nI fa), .int (nI ((cs ax) - 48)), .ref m5, .int (nI tn), .int (nI hg), .int (nI bg)])), (m4, .inl (cI, 60, .inl (ro 60 cs))), (m5, .inl (cI, 48, .inl (ro 48 td)))] H := hP
    have hD : va_D A9 [(m0, .inr (6, [.ref m1, .ref m2, .ref m3, .int (nI k), .ref m4, .int (nI n), .int (nI th), .int (nI ax), .int (nI fa), .int (nI ((cs ax) - 48)), .ref m5, .int (nI tn), .int (nI hg), .int (nI bg)])), (m4, .inl (cI, 60, .inl (ro 60 cs))), (m5, .inl (cI, 48, .inl (ro 48 td)))] := hD
    refine lv_aload_n hx hb dX6_isNumber_32 rfl (lv_at hl 0 rfl) ?_
    refine lv_dup hx hb dX6_isNumber_33 rfl ?_
    refine va_get (D := D) (ci := 6) (v := .int (nI ax)) (C := RX6) (T := TX6) (N := 14) hx hb hts in_X6_isNumber_2_X6 hown hK hP 0 rfl rfl 7 (by decide) (hts _ fl_X6_isNumber_2_114) (fun _ h9 => h9) rfl dX6_isNumber_34 ?_
    refine lv_iconst (v := nI 1) hx hb dX6_isNumber_37 (by decide +kernel) ?_
    refine q_iadd hx hb dX6_isNumber_38 ?_
    refine va_put (D := D) (ci := 6) (v := .int (nI (ax + 1))) (ty := tyX6 7) (C := RX6) (T := TX6) (N := 14) hx hb hts in_X6_isNumber_2_X6 tyX6 tyX6_ok nmX6 hown hK hP hD hS 0 rfl rfl 7 (by decide) (hts _ fl_X6_isNumber_2_114) (fun _ h9 => h9) rfl (by decide +kernel) rfl rfl (Nat.le_of_ble_eq_true rfl) dX6_isNumber_39 (fun H locs hP hD hS => ?_)
    have hP : va_P D vwCl [(m0, .inr (6, [.ref m1, .ref m2, .ref m3, .int (nI k), .ref m4, .int (nI n), .int (nI th), .int (nI (ax + 1)), .int (nI fa), .int (nI ((cs ax) - 48)), .ref m5, .int (nI tn), .int (nI hg), .int (nI bg)])), (m4, .inl (cI, 60, .inl (ro 60 cs))), (m5, .inl (cI, 48, .inl (ro 48 td)))] H := hP
    have hD : va_D A9 [(m0, .inr (6, [.ref m1, .ref m2, .ref m3, .int (nI k), .ref m4, .int (nI n), .int (nI th), .int (nI (ax + 1)), .int (nI fa), .int (nI ((cs ax) - 48)), .ref m5, .int (nI tn), .int (nI hg), .int (nI bg)])), (m4, .inl (cI, 60, .inl (ro 60 cs))), (m5, .inl (cI, 48, .inl (ro 48 td)))] := hD
    have L42 : ∀ (fuel : Nat) (p : Nat) (v2 : Nat) (H : Heap) (locs : List Loc) (ls : Array Slot), (p ≤ n) → (rd2 cs ax p v2 a j) → (v2 ≤ 999) → (n - p < fuel) → va_P D vwCl [(m0, .inr (6, [.ref m1, .ref m2, .ref m3, .int (nI k), .ref m4, .int (nI n), .int (nI th), .int (nI p), .int (nI fa), .int (nI v2), .ref m5, .int (nI tn), .int (nI hg), .int (nI bg)])), (m4, .inl (cI, 60, .inl (ro 60 cs))), (m5, .inl (cI, 48, .inl (ro 48 td)))] H → va_D A9 [(m0, .inr (6, [.ref m1, .ref m2, .ref m3, .int (nI k), .ref m4, .int (nI n), .int (nI th), .int (nI p), .int (nI fa), .int (nI v2), .ref m5, .int (nI tn), .int (nI hg), .int (nI bg)])), (m4, .inl (cI, 60, .inl (ro 60 cs))), (m5, .inl (cI, 48, .inl (ro 48 td)))] → va_S A9 s9.heap H locs → lv_has ls 3 [(0, .ref m0), (1, .int (nI 2)), (2, .int (nI 10))] → W p9 l e9 ({ frames := 2, cells := 0, slots := 0, locals := 44 } : Room) s9 m9 ar9 be9 me9 c9 H locs 0 0 Q9 (F0 m9 42 ls []) := by
      intro fuel
      induction fuel with
      | zero => intro p v2 H locs ls hp hrd hv2 hfu; exact absurd hfu (Nat.not_lt_zero _)
      | succ fuel ih42 =>
        intro p v2 H locs ls hp hrd hv2 hfu hP hD hS hl
        refine lv_aload_n hx hb dX6_isNumber_42 rfl (lv_at hl 0 rfl) ?_
        refine va_get (D := D) (ci := 6) (v := .int (nI v2)) (C := RX6) (T := TX6) (N := 14) hx hb hts in_X6_isNumber_2_X6 hown hK hP 0 rfl rfl 9 (by decide) (hts _ fl_X6_isNumber_2_128) (fun _ h9 => h9) rfl dX6_isNumber_43 ?_
        refine q_fle (tgt := 121) (by omega) hx hb dX6_isNumber_46 (by decide) (fun c_46 => ?_) (fun c_46 => ?_)
        ·
          refine lv_aload_n hx hb dX6_isNumber_121 rfl (lv_at hl 0 rfl) ?_
          refine va_get (D := D) (ci := 6) (v := .ref m5) (C := RX6) (T := TX6) (N := 14) hx hb hts in_X6_isNumber_2_X6 hown hK hP 0 rfl rfl 10 (by decide) (hts _ fl_X6_isNumber_2_22) (fun _ h9 => h9) rfl dX6_isNumber_122 ?_
          refine lv_iconst (v := nI 3) hx hb dX6_isNumber_125 (by decide +kernel) ?_
          refine lv_aload_n hx hb dX6_isNumber_126 rfl (lv_at hl 0 rfl) ?_
          refine va_get (D := D) (ci := 6) (v := .int (nI tn)) (C := RX6) (T := TX6) (N := 14) hx hb hts in_X6_isNumber_2_X6 hown hK hP 0 rfl rfl 11 (by decide) (hts _ fl_X6_isNumber_2_131) (fun _ h9 => h9) rfl dX6_isNumber_127 ?_
          refine q_imul hx hb dX6_isNumber_130 ?_
          refine lv_iload_n hx hb dX6_isNumber_131 rfl (lv_at hl 1 rfl) ?_
          refine q_iadd hx hb dX6_isNumber_132 ?_
          refine lv_aload_n hx hb dX6_isNumber_133 rfl (lv_at hl 0 rfl) ?_
          refine va_get (D := D) (ci := 6) (v := .int (nI v2)) (C := RX6) (T := TX6) (N := 14) hx hb hts in_X6_isNumber_2_X6 hown hK hP 0 rfl rfl 9 (by decide) (hts _ fl_X6_isNumber_2_128) (fun _ h9 => h9) rfl dX6_isNumber_134 ?_
          refine q_iast 2 0 (by omega) (by omega) hx hb hK hP hD hS rfl rfl dX6_isNumber_137 (fun H locs hP hD hS => ?_)
          have hP : va_P D vwCl [(m0, .inr (6, [.ref m1, .ref m2, .ref m3, .int (nI k), .ref m4, .int (nI n), .int (nI th), .int (nI p), .int (nI fa), .int (nI v2), .ref m5, .int (nI tn), .int (nI hg), .int (nI bg)])), (m4, .inl (cI, 60, .inl (ro 60 cs))), (m5, .inl (cI, 48, .inl (ro 48 (upN td ((3 * tn) + 2) v2))))] H := hP
          have hD : va_D A9 [(m0, .inr (6, [.ref m1, .ref m2, .ref m3, .int (nI k), .ref m4, .int (nI n), .int (nI th), .int (nI p), .int (nI fa), .int (nI v2), .ref m5, .int (nI tn), .int (nI hg), .int (nI bg)])), (m4, .inl (cI, 60, .inl (ro 60 cs))), (m5, .inl (cI, 48, .inl (ro 48 (upN td ((3 * tn) + 2) v2))))] := hD
          refine lv_iconst (v := nI 1) hx hb dX6_isNumber_138 (by decide +kernel) ?_
          exact hret _ _ _ _ (some (.int (nI 1))) (fun i9 => [(fun j9 => [1, p, v2, fa].getD j9 0), upN td ((3 * tn) + 2) v2].getD i9 (fun _ => 0)) 139 ls (by decide) (by decide) (by exact ⟨Nat.le_refl 1, fun h9 => absurd (show (1 : Nat) = 0 from h9) (by decide), fun _ => ⟨hrd, hp, fun (h8 : p < n) h9 => (rd2_e (p := p) hrd (by omega) h9 : runS cs (p + 1) = 8), rfl, rfl⟩, rfl⟩) hP hD hS (ret_z dX6_isNumber_139 (by first | exact bI_le | omega))
        ·
          refine lv_aload_n hx hb dX6_isNumber_49 rfl (lv_at hl 0 rfl) ?_
          refine lv_bipush (v := nI 48) hx hb dX6_isNumber_50 (by decide +kernel) ?_
          refine lv_bipush (v := nI 57) hx hb dX6_isNumber_52 (by decide +kernel) ?_
          refine KM.callV (As := [.int (nI 48), .int (nI 57)]) (rest := []) C0 hN (k_X6_isAt l D cI cS cL m0 m1 m2 m3 m4 m5 k n th p fa v2 tn hg bg cs 48 57  (by first | with_reducible assumption | omega) (by first | with_reducible assumption | omega) (by first | with_reducible assumption | omega) (by decide) (by decide)) (cwV 2 hts gX6_isNumber_X6_isAt rfl rfl rfl (by decide +kernel) ⟨Nat.le_of_ble_eq_true rfl, Nat.le_of_ble_eq_true rfl⟩) hK hP hD hS hA [0, 1] rfl (by decide) (fun _ => rfl) 0 6 rfl rfl rfl rfl hl.1 rfl (Nat.le_of_ble_eq_true rfl) dX6_isNumber_54 ⟨Nat.le_of_ble_eq_true rfl, Nat.le_of_ble_eq_true rfl⟩ (fun v9 u9 H locs hv hP hD hS => ?_)
          subst hv
          have hP : va_P D vwCl [(m0, .inr (6, [.ref m1, .ref m2, .ref m3, .int (nI k), .ref m4, .int (nI n), .int (nI th), .int (nI p), .int (nI fa), .int (nI v2), .ref m5, .int (nI tn), .int (nI hg), .int (nI bg)])), (m4, .inl (cI, 60, .inl (ro 60 cs))), (m5, .inl (cI, 48, .inl (ro 48 td)))] H := hP
          have hD : va_D A9 [(m0, .inr (6, [.ref m1, .ref m2, .ref m3, .int (nI k), .ref m4, .int (nI n), .int (nI th), .int (nI p), .int (nI fa), .int (nI v2), .ref m5, .int (nI tn), .int (nI hg), .int (nI bg)])), (m4, .inl (cI, 60, .inl (ro 60 cs))), (m5, .inl (cI, 48, .inl (ro 48 td)))] := hD
          refine W.eq (g2 := F0 m9 57 ls [.int (nI (bI (p < n ∧ 48 ≤ cs p ∧ cs p ≤ 57)))]) rfl ?_
          refine q_feq (tgt := 121) bI_lt hx hb dX6_isNumber_57 (by decide) (fun c_57 => ?_) (fun c_57 => ?_)
          ·
            have c_57 := bI_z c_57
            refine lv_aload_n hx hb dX6_isNumber_121 rfl (lv_at hl 0 rfl) ?_
            refine va_get (D := D) (ci := 6) (v := .ref m5) (C := RX6) (T := TX6) (N := 14) hx hb hts in_X6_isNumber_2_X6 hown hK hP 0 rfl rfl 10 (by decide) (hts _ fl_X6_isNumber_2_22) (fun _ h9 => h9) rfl dX6_isNumber_122 ?_
            refine lv_iconst (v := nI 3) hx hb dX6_isNumber_125 (by decide +kernel) ?_
            refine lv_aload_n hx hb dX6_isNumber_126 rfl (lv_at hl 0 rfl) ?_
            refine va_get (D := D) (ci := 6) (v := .int (nI tn)) (C := RX6) (T := TX6) (N := 14) hx hb hts in_X6_isNumber_2_X6 hown hK hP 0 rfl rfl 11 (by decide) (hts _ fl_X6_isNumber_2_131) (fun _ h9 => h9) rfl dX6_isNumber_127 ?_
            refine q_imul hx hb dX6_isNumber_130 ?_
            refine lv_iload_n hx hb dX6_isNumber_131 rfl (lv_at hl 1 rfl) ?_
            refine q_iadd hx hb dX6_isNumber_132 ?_
            refine lv_aload_n hx hb dX6_isNumber_133 rfl (lv_at hl 0 rfl) ?_
            refine va_get (D := D) (ci := 6) (v := .int (nI v2)) (C := RX6) (T := TX6) (N := 14) hx hb hts in_X6_isNumber_2_X6 hown hK hP 0 rfl rfl 9 (by decide) (hts _ fl_X6_isNumber_2_128) (fun _ h9 => h9) rfl dX6_isNumber_134 ?_
            refine q_iast 2 0 (by omega) (by omega) hx hb hK hP hD hS rfl rfl dX6_isNumber_137 (fun H locs hP hD hS => ?_)
            have hP : va_P D vwCl [(m0, .inr (6, [.ref m1, .ref m2, .ref m3, .int (nI k), .ref m4, .int (nI n), .int (nI th), .int (nI p), .int (nI fa), .int (nI v2), .ref m5, .int (nI tn), .int (nI hg), .int (nI bg)])), (m4, .inl (cI, 60, .inl (ro 60 cs))), (m5, .inl (cI, 48, .inl (ro 48 (upN td ((3 * tn) + 2) v2))))] H := hP
            have hD : va_D A9 [(m0, .inr (6, [.ref m1, .ref m2, .ref m3, .int (nI k), .ref m4, .int (nI n), .int (nI th), .int (nI p), .int (nI fa), .int (nI v2), .ref m5, .int (nI tn), .int (nI hg), .int (nI bg)])), (m4, .inl (cI, 60, .inl (ro 60 cs))), (m5, .inl (cI, 48, .inl (ro 48 (upN td ((3 * tn) + 2) v2))))] := hD
            refine lv_iconst (v := nI 1) hx hb dX6_isNumber_138 (by decide +kernel) ?_
            exact hret _ _ _ _ (some (.int (nI 1))) (fun i9 => [(fun j9 => [1, p, v2, fa].getD j9 0), upN td ((3 * tn) + 2) v2].getD i9 (fun _ => 0)) 139 ls (by decide) (by decide) (by exact ⟨Nat.le_refl 1, fun h9 => absurd (show (1 : Nat) = 0 from h9) (by decide), fun _ => ⟨hrd, hp, fun (h8 : p < n) h9 => (rd2_e (p := p) hrd (by omega) h9 : runS cs (p + 1) = 8), rfl, rfl⟩, rfl⟩) hP hD hS (ret_z dX6_isNumber_139 (by first | exact bI_le | omega))
          ·
            have c_57 := bI_nz c_57
            refine lv_bipush (v := nI 10) hx hb dX6_isNumber_60 (by decide +kernel) ?_
            refine lv_aload_n hx hb dX6_isNumber_62 rfl (lv_at hl 0 rfl) ?_
            refine va_get (D := D) (ci := 6) (v := .int (nI v2)) (C := RX6) (T := TX6) (N := 14) hx hb hts in_X6_isNumber_2_X6 hown hK hP 0 rfl rfl 9 (by decide) (hts _ fl_X6_isNumber_2_128) (fun _ h9 => h9) rfl dX6_isNumber_63 ?_
            refine q_imul hx hb dX6_isNumber_66 ?_
            refine lv_aload_n hx hb dX6_isNumber_67 rfl (lv_at hl 0 rfl) ?_
            refine va_get (D := D) (ci := 6) (v := .ref m4) (C := RX6) (T := TX6) (N := 14) hx hb hts in_X6_isNumber_2_X6 hown hK hP 0 rfl rfl 4 (by decide) (hts _ fl_X6_isNumber_2_19) (fun _ h9 => h9) rfl dX6_isNumber_68 ?_
            refine lv_aload_n hx hb dX6_isNumber_71 rfl (lv_at hl 0 rfl) ?_
            refine va_get (D := D) (ci := 6) (v := .int (nI p)) (C := RX6) (T := TX6) (N := 14) hx hb hts in_X6_isNumber_2_X6 hown hK hP 0 rfl rfl 7 (by decide) (hts _ fl_X6_isNumber_2_114) (fun _ h9 => h9) rfl dX6_isNumber_72 ?_
            refine q_iald 1 0 (by omega) (by omega) hx hb hK hP rfl rfl dX6_isNumber_75 ?_
            have hc9 := hcs p (by omega)
            refine q_iadd hx hb dX6_isNumber_76 ?_
            refine lv_bipush (v := nI 48) hx hb dX6_isNumber_77 (by decide +kernel) ?_
            refine q_isub (by omega) hx hb dX6_isNumber_79 ?_
            refine lv_iload_n hx hb dX6_isNumber_80 rfl (lv_at hl 2 rfl) ?_
            refine q_igt (tgt := 121) (by omega) (by omega) hx hb dX6_isNumber_81 (by decide) (fun c_81 => ?_) (fun c_81 => ?_)
            ·
              refine lv_aload_n hx hb dX6_isNumber_121 rfl (lv_at hl 0 rfl) ?_
              refine va_get (D := D) (ci := 6) (v := .ref m5) (C := RX6) (T := TX6) (N := 14) hx hb hts in_X6_isNumber_2_X6 hown hK hP 0 rfl rfl 10 (by decide) (hts _ fl_X6_isNumber_2_22) (fun _ h9 => h9) rfl dX6_isNumber_122 ?_
              refine lv_iconst (v := nI 3) hx hb dX6_isNumber_125 (by decide +kernel) ?_
              refine lv_aload_n hx hb dX6_isNumber_126 rfl (lv_at hl 0 rfl) ?_
              refine va_get (D := D) (ci := 6) (v := .int (nI tn)) (C := RX6) (T := TX6) (N := 14) hx hb hts in_X6_isNumber_2_X6 hown hK hP 0 rfl rfl 11 (by decide) (hts _ fl_X6_isNumber_2_131) (fun _ h9 => h9) rfl dX6_isNumber_127 ?_
              refine q_imul hx hb dX6_isNumber_130 ?_
              refine lv_iload_n hx hb dX6_isNumber_131 rfl (lv_at hl 1 rfl) ?_
              refine q_iadd hx hb dX6_isNumber_132 ?_
              refine lv_aload_n hx hb dX6_isNumber_133 rfl (lv_at hl 0 rfl) ?_
              refine va_get (D := D) (ci := 6) (v := .int (nI v2)) (C := RX6) (T := TX6) (N := 14) hx hb hts in_X6_isNumber_2_X6 hown hK hP 0 rfl rfl 9 (by decide) (hts _ fl_X6_isNumber_2_128) (fun _ h9 => h9) rfl dX6_isNumber_134 ?_
              refine q_iast 2 0 (by omega) (by omega) hx hb hK hP hD hS rfl rfl dX6_isNumber_137 (fun H locs hP hD hS => ?_)
              have hP : va_P D vwCl [(m0, .inr (6, [.ref m1, .ref m2, .ref m3, .int (nI k), .ref m4, .int (nI n), .int (nI th), .int (nI p), .int (nI fa), .int (nI v2), .ref m5, .int (nI tn), .int (nI hg), .int (nI bg)])), (m4, .inl (cI, 60, .inl (ro 60 cs))), (m5, .inl (cI, 48, .inl (ro 48 (upN td ((3 * tn) + 2) v2))))] H := hP
              have hD : va_D A9 [(m0, .inr (6, [.ref m1, .ref m2, .ref m3, .int (nI k), .ref m4, .int (nI n), .int (nI th), .int (nI p), .int (nI fa), .int (nI v2), .ref m5, .int (nI tn), .int (nI hg), .int (nI bg)])), (m4, .inl (cI, 60, .inl (ro 60 cs))), (m5, .inl (cI, 48, .inl (ro 48 (upN td ((3 * tn) + 2) v2))))] := hD
              refine lv_iconst (v := nI 1) hx hb dX6_isNumber_138 (by decide +kernel) ?_
              exact hret _ _ _ _ (some (.int (nI 1))) (fun i9 => [(fun j9 => [1, p, v2, fa].getD j9 0), upN td ((3 * tn) + 2) v2].getD i9 (fun _ => 0)) 139 ls (by decide) (by decide) (by exact ⟨Nat.le_refl 1, fun h9 => absurd (show (1 : Nat) = 0 from h9) (by decide), fun _ => ⟨hrd, hp, fun (h8 : p < n) h9 => (rd2_e (p := p) hrd (by omega) h9 : runS cs (p + 1) = 8), rfl, rfl⟩, rfl⟩) hP hD hS (ret_z dX6_isNumber_139 (by first | exact bI_le | omega))
            ·
              refine lv_aload_n hx hb dX6_isNumber_84 rfl (lv_at hl 0 rfl) ?_
              refine lv_bipush (v := nI 10) hx hb dX6_isNumber_85 (by decide +kernel) ?_
              refine lv_aload_n hx hb dX6_isNumber_87 rfl (lv_at hl 0 rfl) ?_
              refine va_get (D := D) (ci := 6) (v := .int (nI v2)) (C := RX6) (T := TX6) (N := 14) hx hb hts in_X6_isNumber_2_X6 hown hK hP 0 rfl rfl 9 (by decide) (hts _ fl_X6_isNumber_2_128) (fun _ h9 => h9) rfl dX6_isNumber_88 ?_
              refine q_imul hx hb dX6_isNumber_91 ?_
              refine lv_aload_n hx hb dX6_isNumber_92 rfl (lv_at hl 0 rfl) ?_
              refine va_get (D := D) (ci := 6) (v := .ref m4) (C := RX6) (T := TX6) (N := 14) hx hb hts in_X6_isNumber_2_X6 hown hK hP 0 rfl rfl 4 (by decide) (hts _ fl_X6_isNumber_2_19) (fun _ h9 => h9) rfl dX6_isNumber_93 ?_
              refine lv_aload_n hx hb dX6_isNumber_96 rfl (lv_at hl 0 rfl) ?_
              refine va_get (D := D) (ci := 6) (v := .int (nI p)) (C := RX6) (T := TX6) (N := 14) hx hb hts in_X6_isNumber_2_X6 hown hK hP 0 rfl rfl 7 (by decide) (hts _ fl_X6_isNumber_2_114) (fun _ h9 => h9) rfl dX6_isNumber_97 ?_
              refine q_iald 1 0 (by omega) (by omega) hx hb hK hP rfl rfl dX6_isNumber_100 ?_
              refine q_iadd hx hb dX6_isNumber_101 ?_
              refine lv_bipush (v := nI 48) hx hb dX6_isNumber_102 (by decide +kernel) ?_
              refine q_isub (by omega) hx hb dX6_isNumber_104 ?_
              refine va_put (D := D) (ci := 6) (v := .int (nI (((10 * v2) + (cs p)) - 48))) (ty := tyX6 9) (C := RX6) (T := TX6) (N := 14) hx hb hts in_X6_isNumber_2_X6 tyX6 tyX6_ok nmX6 hown hK hP hD hS 0 rfl rfl 9 (by decide) (hts _ fl_X6_isNumber_2_128) (fun _ h9 => h9) rfl (by decide +kernel) rfl rfl (Nat.le_of_ble_eq_true rfl) dX6_isNumber_105 (fun H locs hP hD hS => ?_)
              have hP : va_P D vwCl [(m0, .inr (6, [.ref m1, .ref m2, .ref m3, .int (nI k), .ref m4, .int (nI n), .int (nI th), .int (nI p), .int (nI fa), .int (nI (((10 * v2) + (cs p)) - 48)), .ref m5, .int (nI tn), .int (nI hg), .int (nI bg)])), (m4, .inl (cI, 60, .inl (ro 60 cs))), (m5, .inl (cI, 48, .inl (ro 48 td)))] H := hP
              have hD : va_D A9 [(m0, .inr (6, [.ref m1, .ref m2, .ref m3, .int (nI k), .ref m4, .int (nI n), .int (nI th), .int (nI p), .int (nI fa), .int (nI (((10 * v2) + (cs p)) - 48)), .ref m5, .int (nI tn), .int (nI hg), .int (nI bg)])), (m4, .inl (cI, 60, .inl (ro 60 cs))), (m5, .inl (cI, 48, .inl (ro 48 td)))] := hD
              refine lv_aload_n hx hb dX6_isNumber_108 rfl (lv_at hl 0 rfl) ?_
              refine lv_dup hx hb dX6_isNumber_109 rfl ?_
              refine va_get (D := D) (ci := 6) (v := .int (nI p)) (C := RX6) (T := TX6) (N := 14) hx hb hts in_X6_isNumber_2_X6 hown hK hP 0 rfl rfl 7 (by decide) (hts _ fl_X6_isNumber_2_114) (fun _ h9 => h9) rfl dX6_isNumber_110 ?_
              refine lv_iconst (v := nI 1) hx hb dX6_isNumber_113 (by decide +kernel) ?_
              refine q_iadd hx hb dX6_isNumber_114 ?_
              refine va_put (D := D) (ci := 6) (v := .int (nI (p + 1))) (ty := tyX6 7) (C := RX6) (T := TX6) (N := 14) hx hb hts in_X6_isNumber_2_X6 tyX6 tyX6_ok nmX6 hown hK hP hD hS 0 rfl rfl 7 (by decide) (hts _ fl_X6_isNumber_2_114) (fun _ h9 => h9) rfl (by decide +kernel) rfl rfl (Nat.le_of_ble_eq_true rfl) dX6_isNumber_115 (fun H locs hP hD hS => ?_)
              have hP : va_P D vwCl [(m0, .inr (6, [.ref m1, .ref m2, .ref m3, .int (nI k), .ref m4, .int (nI n), .int (nI th), .int (nI (p + 1)), .int (nI fa), .int (nI (((10 * v2) + (cs p)) - 48)), .ref m5, .int (nI tn), .int (nI hg), .int (nI bg)])), (m4, .inl (cI, 60, .inl (ro 60 cs))), (m5, .inl (cI, 48, .inl (ro 48 td)))] H := hP
              have hD : va_D A9 [(m0, .inr (6, [.ref m1, .ref m2, .ref m3, .int (nI k), .ref m4, .int (nI n), .int (nI th), .int (nI (p + 1)), .int (nI fa), .int (nI (((10 * v2) + (cs p)) - 48)), .ref m5, .int (nI tn), .int (nI hg), .int (nI bg)])), (m4, .inl (cI, 60, .inl (ro 60 cs))), (m5, .inl (cI, 48, .inl (ro 48 td)))] := hD
              refine lv_goto (tgt := 42) hx hb dX6_isNumber_118 (by decide) ?_
              exact ih42  (p + 1) (((10 * v2) + (cs p)) - 48) _ _ ls (by omega) (by exact rd2_s hrd hj (by omega) (by omega) (by omega) (by omega)) (by first | with_reducible assumption | omega) (by omega) hP hD hS (lv_sub hl [0, 1, 2] rfl)
    exact L42 (n - (ax + 1) + 1) (ax + 1) ((cs ax) - 48) _ _ ls (by omega) (by exact rd2_1 hr hj hpr (by omega) (by omega)) (by omega) (by omega) hP hD hS (lv_sub hl [0, 1, 2] rfl)
  ·
    have c_8 := bI_z c_8
    refine lv_aload_n hx hb dX6_isNumber_11 rfl (lv_at hl 0 rfl) ?_
    refine KM.callV (As := []) (rest := []) C0 hN (k_X6_stops l D cI cS cL m0 m1 m2 m3 m4 m5 k n th ax fa vl tn hg bg  (by first | with_reducible assumption | omega) (by first | with_reducible assumption | omega)) (cwV 0 hts gX6_isNumber_X6_stops rfl rfl rfl (by decide +kernel) ⟨Nat.le_of_ble_eq_true rfl, Nat.le_of_ble_eq_true rfl⟩) hK hP hD hS hA [0] rfl (by decide) (fun _ => rfl) 0 6 rfl rfl rfl rfl hl.1 rfl (Nat.le_of_ble_eq_true rfl) dX6_isNumber_12 ⟨Nat.le_of_ble_eq_true rfl, Nat.le_of_ble_eq_true rfl⟩ (fun v9 u9 H locs hv hP hD hS => ?_)
    subst hv
    have hP : va_P D vwCl [(m0, .inr (6, [.ref m1, .ref m2, .ref m3, .int (nI k), .ref m4, .int (nI n), .int (nI th), .int (nI ax), .int (nI (bI (ax < n))), .int (nI vl), .ref m5, .int (nI tn), .int (nI hg), .int (nI bg)])), (m4, .inl (cI, 60, .inl (ro 60 cs))), (m5, .inl (cI, 48, .inl (ro 48 td)))] H := hP
    have hD : va_D A9 [(m0, .inr (6, [.ref m1, .ref m2, .ref m3, .int (nI k), .ref m4, .int (nI n), .int (nI th), .int (nI ax), .int (nI (bI (ax < n))), .int (nI vl), .ref m5, .int (nI tn), .int (nI hg), .int (nI bg)])), (m4, .inl (cI, 60, .inl (ro 60 cs))), (m5, .inl (cI, 48, .inl (ro 48 td)))] := hD
    refine W.eq (g2 := F0 m9 15 ls [.int (nI 0)]) rfl ?_
    exact hret _ _ _ _ (some (.int (nI 0))) (fun i9 => [(fun j9 => [0, ax, vl, bI (ax < n)].getD j9 0), td].getD i9 (fun _ => 0)) 15 ls (by decide) (by decide) (by exact ⟨Nat.zero_le 1, fun _ => ⟨rfl, rfl, fun (h9 : ax < n) => no_dig hr (by decide) (by omega), rfl⟩, fun h9 => absurd (show (0 : Nat) = 1 from h9) (by decide), rfl⟩) hP hD hS (ret_z dX6_isNumber_15 (by first | exact bI_le | omega))

theorem in_X6_isPart_X6 : ∀ w ∈ wsX60, w ∈ wsX6_isPart := by decide +kernel
theorem fl_X6_isPart_114 : Cond.fieldLink RX6 114 "FountainCuesModel" "at" "I" ∈ wsX6_isPart := by decide +kernel
theorem fl_X6_isPart_22 : Cond.fieldLink RX6 22 "FountainCuesModel" "told" "[I" ∈ wsX6_isPart := by decide +kernel
theorem fl_X6_isPart_131 : Cond.fieldLink RX6 131 "FountainCuesModel" "tolds" "I" ∈ wsX6_isPart := by decide +kernel
theorem fl_X6_isPart_19 : Cond.fieldLink RX6 19 "FountainCuesModel" "text" "[I" ∈ wsX6_isPart := by decide +kernel
set_option maxHeartbeats 4000000 in
set_option maxRecDepth 100000 in
theorem k_X6_isPart (l : Launch) (D : va_G) (cI cS cL : ClassId) (m0 : Nat) (m1 : Nat) (m2 : Nat) (m3 : Nat) (m4 : Nat) (m5 : Nat) (k : Nat) (n : Nat) (th : Nat) (ax : Nat) (fa : Nat) (vl : Nat) (tn : Nat) (hg : Nat) (bg : Nat) (cs : Nat → Nat) (td : Nat → Nat) (hn : n ≤ 60) (hcs : ∀ j, j < n → cs j < 2 ^ 30) (hax : ax ≤ n) (htn : 5 * tn ≤ ax) (hr : runS cs ax = 0) : KM l D (TY cI cS cL) yX6_isPart wsX6_isPart ({ frames := 3, cells := 0, slots := 0, locals := 66 } : Room) [(m0, .inr (6, [.ref m1, .ref m2, .ref m3, .int (nI k), .ref m4, .int (nI n), .int (nI th), .int (nI ax), .int (nI fa), .int (nI vl), .ref m5, .int (nI tn), .int (nI hg), .int (nI bg)])), (m4, .inl (cI, 60, .inl (ro 60 cs))), (m5, .inl (cI, 48, .inl (ro 48 td)))] [.ref m0] (fun (v : Option Value) (u : Nat → Nat → Nat) => (u 0 0 ≤ 1) ∧ (u 0 0 = 0 → u 0 1 ≤ n ∧ u 0 3 = bI (u 0 1 < n) ∧ runS cs (u 0 1) ≠ 6 ∧ runS cs (u 0 1) ≠ 7 ∧ runS cs (u 0 1) ≠ 8 ∧ (u 0 1 < n → runS cs (u 0 1 + 1) = 8)) ∧ (u 0 0 = 1 → part1 cs ax (u 0 1) tn td (u 1) ∧ u 0 1 ≤ n ∧ (u 0 1 < n → cs (u 0 1) ≠ 59 → runS cs (u 0 1 + 1) = 8) ∧ u 0 3 = fa) ∧ v = some (.int (nI (u 0 0)))) (fun (u : Nat → Nat → Nat) => [(m0, .inr (6, [.ref m1, .ref m2, .ref m3, .int (nI k), .ref m4, .int (nI n), .int (nI th), .int (nI (u 0 1)), .int (nI (u 0 3)), .int (nI (u 0 2)), .ref m5, .int (nI tn), .int (nI hg), .int (nI bg)])), (m4, .inl (cI, 60, .inl (ro 60 cs))), (m5, .inl (cI, 48, .inl (ro 48 (u 1))))]) := by
  refine KM.of (cc := cX6_isPart) (maxL := 1) (ret := (some .boolean)) (by decide) rfl (Nat.le_of_ble_eq_true rfl) ?_
  intro p9 e9 s9 m9 ar9 be9 me9 c9 Q9 A9 ls C0 hN hnm hlk hK hA hret hP hD hS hl
  obtain ⟨hx, hb, hml, hown, hts⟩ := id C0
  have hl : lv_has ls 1 [(0, .ref m0)] := hl
  obtain ⟨H, hH0⟩ : ∃ H, H = s9.heap := ⟨_, rfl⟩
  obtain ⟨locs, hlc0⟩ : ∃ z : List Loc, z = [] := ⟨_, rfl⟩
  have hP : va_P D vwCl [(m0, .inr (6, [.ref m1, .ref m2, .ref m3, .int (nI k), .ref m4, .int (nI n), .int (nI th), .int (nI ax), .int (nI fa), .int (nI vl), .ref m5, .int (nI tn), .int (nI hg), .int (nI bg)])), (m4, .inl (cI, 60, .inl (ro 60 cs))), (m5, .inl (cI, 48, .inl (ro 48 td)))] H := by rw [hH0]; exact hP
  have hD : va_D A9 [(m0, .inr (6, [.ref m1, .ref m2, .ref m3, .int (nI k), .ref m4, .int (nI n), .int (nI th), .int (nI ax), .int (nI fa), .int (nI vl), .ref m5, .int (nI tn), .int (nI hg), .int (nI bg)])), (m4, .inl (cI, 60, .inl (ro 60 cs))), (m5, .inl (cI, 48, .inl (ro 48 td)))] := hD
  have hS : va_S A9 s9.heap H locs := by rw [hH0, hlc0]; exact hS
  suffices hgo : W p9 l e9 ({ frames := 3, cells := 0, slots := 0, locals := 66 } : Room) s9 m9 ar9 be9 me9 c9 H locs 0 0 Q9 (F0 m9 0 ls []) by rw [hH0, hlc0] at hgo; exact hgo
  clear hH0 hlc0
  refine lv_aload_n hx hb dX6_isPart_0 rfl (lv_at hl 0 rfl) ?_
  refine lv_iconst (v := nI 0) hx hb dX6_isPart_1 (by decide +kernel) ?_
  refine lv_sipush (v := nI 999) hx hb dX6_isPart_2 (by decide +kernel) ?_
  refine KM.callV (As := [.int (nI 0), .int (nI 999)]) (rest := []) C0 hN (k_X6_isNumber_0 l D cI cS cL m0 m1 m2 m3 m4 m5 k n th ax fa vl tn hg bg cs td  (by first | with_reducible assumption | omega) (by first | with_reducible assumption | omega) (by first | with_reducible assumption | omega) (by first | with_reducible assumption | omega) (by first | with_reducible assumption | omega)) (cwV 2 hts gX6_isPart_X6_isNumber rfl rfl rfl (by decide +kernel) ⟨Nat.le_of_ble_eq_true rfl, Nat.le_of_ble_eq_true rfl⟩) hK hP hD hS hA [0, 1, 2] rfl (by decide) (fun _ => rfl) 0 6 rfl rfl rfl rfl hl.1 rfl (Nat.le_of_ble_eq_true rfl) dX6_isPart_5 ⟨Nat.le_of_ble_eq_true rfl, Nat.le_of_ble_eq_true rfl⟩ (fun v9 u9 H locs hv hP hD hS => ?_)
  obtain ⟨w, rfl⟩ : ∃ z, z = u9 := ⟨_, rfl⟩
  obtain ⟨hc_5_0, hc_5_1, hc_5_2, hv⟩ := hv
  subst hv
  have hc_5_0 : w 0 0 ≤ 1 := hc_5_0
  have hc_5_1 : w 0 0 = 0 → w 0 1 = ax ∧ w 0 3 = bI (ax < n) ∧ (ax < n → runS cs (ax + 1) = 8) ∧ w 1 = td := hc_5_1
  have hc_5_2 : w 0 0 = 1 → rd0 cs ax (w 0 1) (w 0 2) ∧ w 0 1 ≤ n ∧ (w 0 1 < n → cs (w 0 1) ≠ 64 → runS cs (w 0 1 + 1) = 8) ∧ w 1 = upN td (3 * tn + 0) (w 0 2) ∧ w 0 3 = fa := hc_5_2
  have hP : va_P D vwCl [(m0, .inr (6, [.ref m1, .ref m2, .ref m3, .int (nI k), .ref m4, .int (nI n), .int (nI th), .int (nI (w 0 1)), .int (nI (w 0 3)), .int (nI (w 0 2)), .ref m5, .int (nI tn), .int (nI hg), .int (nI bg)])), (m4, .inl (cI, 60, .inl (ro 60 cs))), (m5, .inl (cI, 48, .inl (ro 48 (w 1))))] H := hP
  have hD : va_D A9 [(m0, .inr (6, [.ref m1, .ref m2, .ref m3, .int (nI k), .ref m4, .int (nI n), .int (nI th), .int (nI (w 0 1)), .int (nI (w 0 3)), .int (nI (w 0 2)), .ref m5, .int (nI tn), .int (nI hg), .int (nI bg)])), (m4, .inl (cI, 60, .inl (ro 60 cs))), (m5, .inl (cI, 48, .inl (ro 48 (w 1))))] := hD
  refine W.eq (g2 := F0 m9 8 ls [.int (nI (w 0 0))]) rfl ?_
  have hb0 := hc_5_0
  refine q_fne (tgt := 13) (by omega) hx hb dX6_isPart_8 (by decide) (fun c_8 => ?_) (fun c_8 => ?_)
  ·
    obtain ⟨hrd, hp1, hp2, htd, hfa⟩ := hc_5_2 (by omega)
    have hp0 := hrd.1
    refine lv_aload_n hx hb dX6_isPart_13 rfl (lv_at hl 0 rfl) ?_
    refine lv_bipush (v := nI 64) hx hb dX6_isPart_14 (by decide +kernel) ?_
    refine lv_bipush (v := nI 64) hx hb dX6_isPart_16 (by decide +kernel) ?_
    refine KM.callV (As := [.int (nI 64), .int (nI 64)]) (rest := []) C0 hN (k_X6_isAt l D cI cS cL m0 m1 m2 m3 m4 m5 k n th (w 0 1) (w 0 3) (w 0 2) tn hg bg cs 64 64  (by first | with_reducible assumption | omega) (by first | with_reducible assumption | omega) (by first | with_reducible assumption | omega) (by decide) (by decide)) (cwV 2 hts gX6_isPart_X6_isAt rfl rfl rfl (by decide +kernel) ⟨Nat.le_of_ble_eq_true rfl, Nat.le_of_ble_eq_true rfl⟩) hK hP hD hS hA [0, 1] rfl (by decide) (fun _ => rfl) 0 6 rfl rfl rfl rfl hl.1 rfl (Nat.le_of_ble_eq_true rfl) dX6_isPart_18 ⟨Nat.le_of_ble_eq_true rfl, Nat.le_of_ble_eq_true rfl⟩ (fun v9 u9 H locs hv hP hD hS => ?_)
    subst hv
    have hP : va_P D vwCl [(m0, .inr (6, [.ref m1, .ref m2, .ref m3, .int (nI k), .ref m4, .int (nI n), .int (nI th), .int (nI (w 0 1)), .int (nI (w 0 3)), .int (nI (w 0 2)), .ref m5, .int (nI tn), .int (nI hg), .int (nI bg)])), (m4, .inl (cI, 60, .inl (ro 60 cs))), (m5, .inl (cI, 48, .inl (ro 48 (w 1))))] H := hP
    have hD : va_D A9 [(m0, .inr (6, [.ref m1, .ref m2, .ref m3, .int (nI k), .ref m4, .int (nI n), .int (nI th), .int (nI (w 0 1)), .int (nI (w 0 3)), .int (nI (w 0 2)), .ref m5, .int (nI tn), .int (nI hg), .int (nI bg)])), (m4, .inl (cI, 60, .inl (ro 60 cs))), (m5, .inl (cI, 48, .inl (ro 48 (w 1))))] := hD
    refine W.eq (g2 := F0 m9 21 ls [.int (nI (bI ((w 0 1) < n ∧ 64 ≤ cs (w 0 1) ∧ cs (w 0 1) ≤ 64)))]) rfl ?_
    refine q_fne (tgt := 29) bI_lt hx hb dX6_isPart_21 (by decide) (fun c_21 => ?_) (fun c_21 => ?_)
    ·
      have c_21 := bI_nz c_21
      obtain ⟨h4, hpr4, hsg4⟩ := at_64 hrd (by omega)
      refine lv_aload_n hx hb dX6_isPart_29 rfl (lv_at hl 0 rfl) ?_
      refine lv_dup hx hb dX6_isPart_30 rfl ?_
      refine va_get (D := D) (ci := 6) (v := .int (nI (w 0 1))) (C := RX6) (T := TX6) (N := 14) hx hb hts in_X6_isPart_X6 hown hK hP 0 rfl rfl 7 (by decide) (hts _ fl_X6_isPart_114) (fun _ h9 => h9) rfl dX6_isPart_31 ?_
      refine lv_iconst (v := nI 1) hx hb dX6_isPart_34 (by decide +kernel) ?_
      refine q_iadd hx hb dX6_isPart_35 ?_
      refine va_put (D := D) (ci := 6) (v := .int (nI ((w 0 1) + 1))) (ty := tyX6 7) (C := RX6) (T := TX6) (N := 14) hx hb hts in_X6_isPart_X6 tyX6 tyX6_ok nmX6 hown hK hP hD hS 0 rfl rfl 7 (by decide) (hts _ fl_X6_isPart_114) (fun _ h9 => h9) rfl (by decide +kernel) rfl rfl (Nat.le_of_ble_eq_true rfl) dX6_isPart_36 (fun H locs hP hD hS => ?_)
      have hP : va_P D vwCl [(m0, .inr (6, [.ref m1, .ref m2, .ref m3, .int (nI k), .ref m4, .int (nI n), .int (nI th), .int (nI ((w 0 1) + 1)), .int (nI (w 0 3)), .int (nI (w 0 2)), .ref m5, .int (nI tn), .int (nI hg), .int (nI bg)])), (m4, .inl (cI, 60, .inl (ro 60 cs))), (m5, .inl (cI, 48, .inl (ro 48 (w 1))))] H := hP
      have hD : va_D A9 [(m0, .inr (6, [.ref m1, .ref m2, .ref m3, .int (nI k), .ref m4, .int (nI n), .int (nI th), .int (nI ((w 0 1) + 1)), .int (nI (w 0 3)), .int (nI (w 0 2)), .ref m5, .int (nI tn), .int (nI hg), .int (nI bg)])), (m4, .inl (cI, 60, .inl (ro 60 cs))), (m5, .inl (cI, 48, .inl (ro 48 (w 1))))] := hD
      refine lv_aload_n hx hb dX6_isPart_39 rfl (lv_at hl 0 rfl) ?_
      refine lv_bipush (v := nI 97) hx hb dX6_isPart_40 (by decide +kernel) ?_
      refine lv_bipush (v := nI 104) hx hb dX6_isPart_42 (by decide +kernel) ?_
      refine KM.callV (As := [.int (nI 97), .int (nI 104)]) (rest := []) C0 hN (k_X6_isAt l D cI cS cL m0 m1 m2 m3 m4 m5 k n th ((w 0 1) + 1) (w 0 3) (w 0 2) tn hg bg cs 97 104  (by first | with_reducible assumption | omega) (by first | with_reducible assumption | omega) (by first | with_reducible assumption | omega) (by decide) (by decide)) (cwV 2 hts gX6_isPart_X6_isAt rfl rfl rfl (by decide +kernel) ⟨Nat.le_of_ble_eq_true rfl, Nat.le_of_ble_eq_true rfl⟩) hK hP hD hS hA [0, 1] rfl (by decide) (fun _ => rfl) 0 6 rfl rfl rfl rfl hl.1 rfl (Nat.le_of_ble_eq_true rfl) dX6_isPart_44 ⟨Nat.le_of_ble_eq_true rfl, Nat.le_of_ble_eq_true rfl⟩ (fun v9 u9 H locs hv hP hD hS => ?_)
      subst hv
      have hP : va_P D vwCl [(m0, .inr (6, [.ref m1, .ref m2, .ref m3, .int (nI k), .ref m4, .int (nI n), .int (nI th), .int (nI ((w 0 1) + 1)), .int (nI (w 0 3)), .int (nI (w 0 2)), .ref m5, .int (nI tn), .int (nI hg), .int (nI bg)])), (m4, .inl (cI, 60, .inl (ro 60 cs))), (m5, .inl (cI, 48, .inl (ro 48 (w 1))))] H := hP
      have hD : va_D A9 [(m0, .inr (6, [.ref m1, .ref m2, .ref m3, .int (nI k), .ref m4, .int (nI n), .int (nI th), .int (nI ((w 0 1) + 1)), .int (nI (w 0 3)), .int (nI (w 0 2)), .ref m5, .int (nI tn), .int (nI hg), .int (nI bg)])), (m4, .inl (cI, 60, .inl (ro 60 cs))), (m5, .inl (cI, 48, .inl (ro 48 (w 1))))] := hD
      refine W.eq (g2 := F0 m9 47 ls [.int (nI (bI (((w 0 1) + 1) < n ∧ 97 ≤ cs ((w 0 1) + 1) ∧ cs ((w 0 1) + 1) ≤ 104)))]) rfl ?_
      refine q_fne (tgt := 55) bI_lt hx hb dX6_isPart_47 (by decide) (fun c_47 => ?_) (fun c_47 => ?_)
      ·
        have c_47 := bI_nz c_47
        obtain ⟨h5, hpr5⟩ := at_jet h4 hpr4 (by omega) (by omega)
        have hc7 := hcs (w 0 1 + 1) (by omega)
        refine lv_aload_n hx hb dX6_isPart_55 rfl (lv_at hl 0 rfl) ?_
        refine va_get (D := D) (ci := 6) (v := .ref m5) (C := RX6) (T := TX6) (N := 14) hx hb hts in_X6_isPart_X6 hown hK hP 0 rfl rfl 10 (by decide) (hts _ fl_X6_isPart_22) (fun _ h9 => h9) rfl dX6_isPart_56 ?_
        refine lv_iconst (v := nI 3) hx hb dX6_isPart_59 (by decide +kernel) ?_
        refine lv_aload_n hx hb dX6_isPart_60 rfl (lv_at hl 0 rfl) ?_
        refine va_get (D := D) (ci := 6) (v := .int (nI tn)) (C := RX6) (T := TX6) (N := 14) hx hb hts in_X6_isPart_X6 hown hK hP 0 rfl rfl 11 (by decide) (hts _ fl_X6_isPart_131) (fun _ h9 => h9) rfl dX6_isPart_61 ?_
        refine q_imul hx hb dX6_isPart_64 ?_
        refine lv_iconst (v := nI 1) hx hb dX6_isPart_65 (by decide +kernel) ?_
        refine q_iadd hx hb dX6_isPart_66 ?_
        refine lv_aload_n hx hb dX6_isPart_67 rfl (lv_at hl 0 rfl) ?_
        refine va_get (D := D) (ci := 6) (v := .ref m4) (C := RX6) (T := TX6) (N := 14) hx hb hts in_X6_isPart_X6 hown hK hP 0 rfl rfl 4 (by decide) (hts _ fl_X6_isPart_19) (fun _ h9 => h9) rfl dX6_isPart_68 ?_
        refine lv_aload_n hx hb dX6_isPart_71 rfl (lv_at hl 0 rfl) ?_
        refine va_get (D := D) (ci := 6) (v := .int (nI ((w 0 1) + 1))) (C := RX6) (T := TX6) (N := 14) hx hb hts in_X6_isPart_X6 hown hK hP 0 rfl rfl 7 (by decide) (hts _ fl_X6_isPart_114) (fun _ h9 => h9) rfl dX6_isPart_72 ?_
        refine q_iald 1 0 (by omega) (by omega) hx hb hK hP rfl rfl dX6_isPart_75 ?_
        refine lv_bipush (v := nI 97) hx hb dX6_isPart_76 (by decide +kernel) ?_
        refine q_isub (by omega) hx hb dX6_isPart_78 ?_
        refine q_iast 2 0 (by omega) (by omega) hx hb hK hP hD hS rfl rfl dX6_isPart_79 (fun H locs hP hD hS => ?_)
        have hP : va_P D vwCl [(m0, .inr (6, [.ref m1, .ref m2, .ref m3, .int (nI k), .ref m4, .int (nI n), .int (nI th), .int (nI ((w 0 1) + 1)), .int (nI (w 0 3)), .int (nI (w 0 2)), .ref m5, .int (nI tn), .int (nI hg), .int (nI bg)])), (m4, .inl (cI, 60, .inl (ro 60 cs))), (m5, .inl (cI, 48, .inl (ro 48 (upN (w 1) ((3 * tn) + 1) ((cs ((w 0 1) + 1)) - 97)))))] H := hP
        have hD : va_D A9 [(m0, .inr (6, [.ref m1, .ref m2, .ref m3, .int (nI k), .ref m4, .int (nI n), .int (nI th), .int (nI ((w 0 1) + 1)), .int (nI (w 0 3)), .int (nI (w 0 2)), .ref m5, .int (nI tn), .int (nI hg), .int (nI bg)])), (m4, .inl (cI, 60, .inl (ro 60 cs))), (m5, .inl (cI, 48, .inl (ro 48 (upN (w 1) ((3 * tn) + 1) ((cs ((w 0 1) + 1)) - 97)))))] := hD
        refine lv_aload_n hx hb dX6_isPart_80 rfl (lv_at hl 0 rfl) ?_
        refine lv_dup hx hb dX6_isPart_81 rfl ?_
        refine va_get (D := D) (ci := 6) (v := .int (nI ((w 0 1) + 1))) (C := RX6) (T := TX6) (N := 14) hx hb hts in_X6_isPart_X6 hown hK hP 0 rfl rfl 7 (by decide) (hts _ fl_X6_isPart_114) (fun _ h9 => h9) rfl dX6_isPart_82 ?_
        refine lv_iconst (v := nI 1) hx hb dX6_isPart_85 (by decide +kernel) ?_
        refine q_iadd hx hb dX6_isPart_86 ?_
        refine va_put (D := D) (ci := 6) (v := .int (nI (((w 0 1) + 1) + 1))) (ty := tyX6 7) (C := RX6) (T := TX6) (N := 14) hx hb hts in_X6_isPart_X6 tyX6 tyX6_ok nmX6 hown hK hP hD hS 0 rfl rfl 7 (by decide) (hts _ fl_X6_isPart_114) (fun _ h9 => h9) rfl (by decide +kernel) rfl rfl (Nat.le_of_ble_eq_true rfl) dX6_isPart_87 (fun H locs hP hD hS => ?_)
        have hP : va_P D vwCl [(m0, .inr (6, [.ref m1, .ref m2, .ref m3, .int (nI k), .ref m4, .int (nI n), .int (nI th), .int (nI (((w 0 1) + 1) + 1)), .int (nI (w 0 3)), .int (nI (w 0 2)), .ref m5, .int (nI tn), .int (nI hg), .int (nI bg)])), (m4, .inl (cI, 60, .inl (ro 60 cs))), (m5, .inl (cI, 48, .inl (ro 48 (upN (w 1) ((3 * tn) + 1) ((cs ((w 0 1) + 1)) - 97)))))] H := hP
        have hD : va_D A9 [(m0, .inr (6, [.ref m1, .ref m2, .ref m3, .int (nI k), .ref m4, .int (nI n), .int (nI th), .int (nI (((w 0 1) + 1) + 1)), .int (nI (w 0 3)), .int (nI (w 0 2)), .ref m5, .int (nI tn), .int (nI hg), .int (nI bg)])), (m4, .inl (cI, 60, .inl (ro 60 cs))), (m5, .inl (cI, 48, .inl (ro 48 (upN (w 1) ((3 * tn) + 1) ((cs ((w 0 1) + 1)) - 97)))))] := hD
        refine lv_aload_n hx hb dX6_isPart_90 rfl (lv_at hl 0 rfl) ?_
        refine lv_iconst (v := nI 2) hx hb dX6_isPart_91 (by decide +kernel) ?_
        refine lv_bipush (v := nI 10) hx hb dX6_isPart_92 (by decide +kernel) ?_
        refine KM.callV (As := [.int (nI 2), .int (nI 10)]) (rest := []) C0 hN (k_X6_isNumber_2 l D cI cS cL m0 m1 m2 m3 m4 m5 k n th (((w 0 1) + 1) + 1) (w 0 3) (w 0 2) tn hg bg cs (upN (w 1) ((3 * tn) + 1) ((cs ((w 0 1) + 1)) - 97)) (w 0 2) (cs (w 0 1 + 1) - 97)  (by first | with_reducible assumption | omega) (by first | with_reducible assumption | omega) (by first | with_reducible assumption | omega) (by first | with_reducible assumption | omega) (by exact h5) (by omega) (by exact hpr5)) (cwV 2 hts gX6_isPart_X6_isNumber rfl rfl rfl (by decide +kernel) ⟨Nat.le_of_ble_eq_true rfl, Nat.le_of_ble_eq_true rfl⟩) hK hP hD hS hA [0, 1, 2] rfl (by decide) (fun _ => rfl) 0 6 rfl rfl rfl rfl hl.1 rfl (Nat.le_of_ble_eq_true rfl) dX6_isPart_94 ⟨Nat.le_of_ble_eq_true rfl, Nat.le_of_ble_eq_true rfl⟩ (fun v9 u9 H locs hv hP hD hS => ?_)
        obtain ⟨w2, rfl⟩ : ∃ z, z = u9 := ⟨_, rfl⟩
        obtain ⟨hc_94_0, hc_94_1, hc_94_2, hv⟩ := hv
        subst hv
        have hc_94_0 : w2 0 0 ≤ 1 := hc_94_0
        have hc_94_1 : w2 0 0 = 0 → w2 0 1 = (((w 0 1) + 1) + 1) ∧ w2 0 3 = bI ((((w 0 1) + 1) + 1) < n) ∧ ((((w 0 1) + 1) + 1) < n → runS cs ((((w 0 1) + 1) + 1) + 1) = 8) ∧ w2 1 = (upN (w 1) ((3 * tn) + 1) ((cs ((w 0 1) + 1)) - 97)) := hc_94_1
        have hc_94_2 : w2 0 0 = 1 → rd2 cs (((w 0 1) + 1) + 1) (w2 0 1) (w2 0 2) (w 0 2) (cs (w 0 1 + 1) - 97) ∧ w2 0 1 ≤ n ∧ (w2 0 1 < n → cs (w2 0 1) ≠ 59 → runS cs (w2 0 1 + 1) = 8) ∧ w2 1 = upN (upN (w 1) ((3 * tn) + 1) ((cs ((w 0 1) + 1)) - 97)) (3 * tn + 2) (w2 0 2) ∧ w2 0 3 = (w 0 3) := hc_94_2
        have hP : va_P D vwCl [(m0, .inr (6, [.ref m1, .ref m2, .ref m3, .int (nI k), .ref m4, .int (nI n), .int (nI th), .int (nI (w2 0 1)), .int (nI (w2 0 3)), .int (nI (w2 0 2)), .ref m5, .int (nI tn), .int (nI hg), .int (nI bg)])), (m4, .inl (cI, 60, .inl (ro 60 cs))), (m5, .inl (cI, 48, .inl (ro 48 (w2 1))))] H := hP
        have hD : va_D A9 [(m0, .inr (6, [.ref m1, .ref m2, .ref m3, .int (nI k), .ref m4, .int (nI n), .int (nI th), .int (nI (w2 0 1)), .int (nI (w2 0 3)), .int (nI (w2 0 2)), .ref m5, .int (nI tn), .int (nI hg), .int (nI bg)])), (m4, .inl (cI, 60, .inl (ro 60 cs))), (m5, .inl (cI, 48, .inl (ro 48 (w2 1))))] := hD
        refine W.eq (g2 := F0 m9 97 ls [.int (nI (w2 0 0))]) rfl ?_
        exact hret _ _ _ _ (some (.int (nI (w2 0 0)))) (fun i9 => [(fun j9 => [w2 0 0, w2 0 1, w2 0 2, w2 0 3].getD j9 0), w2 1].getD i9 (fun _ => 0)) 97 ls (by decide) (by decide) (by exact ⟨hc_94_0, fun h9 => by (obtain ⟨z1, z2, z3, z4⟩ := hc_94_1 h9; show w2 0 1 ≤ n ∧ w2 0 3 = bI (w2 0 1 < n) ∧ runS cs (w2 0 1) ≠ 6 ∧ runS cs (w2 0 1) ≠ 7 ∧ runS cs (w2 0 1) ≠ 8 ∧ (w2 0 1 < n → runS cs (w2 0 1 + 1) = 8); rw [z1, h5]; exact ⟨by omega, z2, by decide, by decide, by decide, z3⟩), fun h9 => by (obtain ⟨z1, z2, z3, z4, z5⟩ := hc_94_2 h9; refine ⟨⟨?_, ?_, ?_, ?_, ?_⟩, z2, z3, z5.trans hfa⟩; (show ax + 4 ≤ w2 0 1; have := z1.1; omega); (show runS cs (w2 0 1) = 6 ∨ runS cs (w2 0 1) = 7; have := z1.2.1; omega); (exact (hsg4.step (by omega)).trans z1.2.2.2); (show prT cs (w2 0 1) = (w2 1 (3 * tn), w2 1 (3 * tn + 1), w2 1 (3 * tn + 2)); rw [z4, z1.2.2.1, upN_s, upN_n (show 3 * tn ≠ 3 * tn + 2 by omega), upN_n (show 3 * tn ≠ 3 * tn + 1 by omega), upN_n (show 3 * tn + 1 ≠ 3 * tn + 2 by omega), upN_s, htd, show upN td (3 * tn + 0) (w 0 2) (3 * tn) = w 0 2 from upN_s]); (intro y hy; show w2 1 y = td y; rw [z4, upN_n (by omega), upN_n (by omega), htd, upN_n (by omega)])), rfl⟩) hP hD hS (ret_z dX6_isPart_97 (by first | exact bI_le | omega))
      ·
        have c_47 := bI_z c_47
        refine lv_aload_n hx hb dX6_isPart_50 rfl (lv_at hl 0 rfl) ?_
        refine KM.callV (As := []) (rest := []) C0 hN (k_X6_stops l D cI cS cL m0 m1 m2 m3 m4 m5 k n th ((w 0 1) + 1) (w 0 3) (w 0 2) tn hg bg  (by first | with_reducible assumption | omega) (by first | with_reducible assumption | omega)) (cwV 0 hts gX6_isPart_X6_stops rfl rfl rfl (by decide +kernel) ⟨Nat.le_of_ble_eq_true rfl, Nat.le_of_ble_eq_true rfl⟩) hK hP hD hS hA [0] rfl (by decide) (fun _ => rfl) 0 6 rfl rfl rfl rfl hl.1 rfl (Nat.le_of_ble_eq_true rfl) dX6_isPart_51 ⟨Nat.le_of_ble_eq_true rfl, Nat.le_of_ble_eq_true rfl⟩ (fun v9 u9 H locs hv hP hD hS => ?_)
        subst hv
        have hP : va_P D vwCl [(m0, .inr (6, [.ref m1, .ref m2, .ref m3, .int (nI k), .ref m4, .int (nI n), .int (nI th), .int (nI ((w 0 1) + 1)), .int (nI (bI (((w 0 1) + 1) < n))), .int (nI (w 0 2)), .ref m5, .int (nI tn), .int (nI hg), .int (nI bg)])), (m4, .inl (cI, 60, .inl (ro 60 cs))), (m5, .inl (cI, 48, .inl (ro 48 (w 1))))] H := hP
        have hD : va_D A9 [(m0, .inr (6, [.ref m1, .ref m2, .ref m3, .int (nI k), .ref m4, .int (nI n), .int (nI th), .int (nI ((w 0 1) + 1)), .int (nI (bI (((w 0 1) + 1) < n))), .int (nI (w 0 2)), .ref m5, .int (nI tn), .int (nI hg), .int (nI bg)])), (m4, .inl (cI, 60, .inl (ro 60 cs))), (m5, .inl (cI, 48, .inl (ro 48 (w 1))))] := hD
        refine W.eq (g2 := F0 m9 54 ls [.int (nI 0)]) rfl ?_
        exact hret _ _ _ _ (some (.int (nI 0))) (fun i9 => [(fun j9 => [0, ((w 0 1) + 1), (w 0 2), bI (((w 0 1) + 1) < n)].getD j9 0), w 1].getD i9 (fun _ => 0)) 54 ls (by decide) (by decide) (by exact ⟨Nat.zero_le 1, fun _ => by (show w 0 1 + 1 ≤ n ∧ bI (w 0 1 + 1 < n) = bI (w 0 1 + 1 < n) ∧ runS cs (w 0 1 + 1) ≠ 6 ∧ runS cs (w 0 1 + 1) ≠ 7 ∧ runS cs (w 0 1 + 1) ≠ 8 ∧ (w 0 1 + 1 < n → runS cs (w 0 1 + 1 + 1) = 8); rw [h4]; exact ⟨by omega, rfl, by decide, by decide, by decide, fun h9 => no_jet h4 (by omega)⟩), fun h9 => absurd (show (0 : Nat) = 1 from h9) (by decide), rfl⟩) hP hD hS (ret_z dX6_isPart_54 (by first | exact bI_le | omega))
    ·
      have c_21 := bI_z c_21
      refine lv_aload_n hx hb dX6_isPart_24 rfl (lv_at hl 0 rfl) ?_
      refine KM.callV (As := []) (rest := []) C0 hN (k_X6_stops l D cI cS cL m0 m1 m2 m3 m4 m5 k n th (w 0 1) (w 0 3) (w 0 2) tn hg bg  (by first | with_reducible assumption | omega) (by first | with_reducible assumption | omega)) (cwV 0 hts gX6_isPart_X6_stops rfl rfl rfl (by decide +kernel) ⟨Nat.le_of_ble_eq_true rfl, Nat.le_of_ble_eq_true rfl⟩) hK hP hD hS hA [0] rfl (by decide) (fun _ => rfl) 0 6 rfl rfl rfl rfl hl.1 rfl (Nat.le_of_ble_eq_true rfl) dX6_isPart_25 ⟨Nat.le_of_ble_eq_true rfl, Nat.le_of_ble_eq_true rfl⟩ (fun v9 u9 H locs hv hP hD hS => ?_)
      subst hv
      have hP : va_P D vwCl [(m0, .inr (6, [.ref m1, .ref m2, .ref m3, .int (nI k), .ref m4, .int (nI n), .int (nI th), .int (nI (w 0 1)), .int (nI (bI ((w 0 1) < n))), .int (nI (w 0 2)), .ref m5, .int (nI tn), .int (nI hg), .int (nI bg)])), (m4, .inl (cI, 60, .inl (ro 60 cs))), (m5, .inl (cI, 48, .inl (ro 48 (w 1))))] H := hP
      have hD : va_D A9 [(m0, .inr (6, [.ref m1, .ref m2, .ref m3, .int (nI k), .ref m4, .int (nI n), .int (nI th), .int (nI (w 0 1)), .int (nI (bI ((w 0 1) < n))), .int (nI (w 0 2)), .ref m5, .int (nI tn), .int (nI hg), .int (nI bg)])), (m4, .inl (cI, 60, .inl (ro 60 cs))), (m5, .inl (cI, 48, .inl (ro 48 (w 1))))] := hD
      refine W.eq (g2 := F0 m9 28 ls [.int (nI 0)]) rfl ?_
      exact hret _ _ _ _ (some (.int (nI 0))) (fun i9 => [(fun j9 => [0, (w 0 1), (w 0 2), bI ((w 0 1) < n)].getD j9 0), w 1].getD i9 (fun _ => 0)) 28 ls (by decide) (by decide) (by have hs9 : runS cs (w 0 1) ≠ 6 ∧ runS cs (w 0 1) ≠ 7 ∧ runS cs (w 0 1) ≠ 8 := (by have := hrd.2.1; omega); exact ⟨Nat.zero_le 1, fun _ => ⟨hp1, rfl, hs9.1, hs9.2.1, hs9.2.2, fun (h9 : w 0 1 < n) => hp2 h9 (by omega)⟩, fun h9 => absurd (show (0 : Nat) = 1 from h9) (by decide), rfl⟩) hP hD hS (ret_z dX6_isPart_28 (by first | exact bI_le | omega))
  ·
    refine lv_iconst (v := nI 0) hx hb dX6_isPart_11 (by decide +kernel) ?_
    exact hret _ _ _ _ (some (.int (nI 0))) (fun i9 => [(fun j9 => [0, w 0 1, w 0 2, w 0 3].getD j9 0), w 1].getD i9 (fun _ => 0)) 12 ls (by decide) (by decide) (by obtain ⟨z1, z2, z3, z4⟩ := hc_5_1 (by omega); exact ⟨Nat.zero_le 1, fun _ => by (show w 0 1 ≤ n ∧ w 0 3 = bI (w 0 1 < n) ∧ runS cs (w 0 1) ≠ 6 ∧ runS cs (w 0 1) ≠ 7 ∧ runS cs (w 0 1) ≠ 8 ∧ (w 0 1 < n → runS cs (w 0 1 + 1) = 8); rw [z1, hr]; exact ⟨hax, z2, by decide, by decide, by decide, z3⟩), fun h9 => absurd (show (0 : Nat) = 1 from h9) (by decide), rfl⟩) hP hD hS (ret_z dX6_isPart_12 (by first | exact bI_le | omega))

theorem in_X6_isText_X6 : ∀ w ∈ wsX60, w ∈ wsX6_isText := by decide +kernel
theorem fl_X6_isText_114 : Cond.fieldLink RX6 114 "FountainCuesModel" "at" "I" ∈ wsX6_isText := by decide +kernel
theorem fl_X6_isText_131 : Cond.fieldLink RX6 131 "FountainCuesModel" "tolds" "I" ∈ wsX6_isText := by decide +kernel
theorem fl_X6_isText_117 : Cond.fieldLink RX6 117 "FountainCuesModel" "isFault" "Z" ∈ wsX6_isText := by decide +kernel
theorem fl_X6_isText_111 : Cond.fieldLink RX6 111 "FountainCuesModel" "typed" "I" ∈ wsX6_isText := by decide +kernel
set_option maxHeartbeats 4000000 in
set_option maxRecDepth 100000 in
theorem k_X6_isText (l : Launch) (D : va_G) (cI cS cL : ClassId) (m0 : Nat) (m1 : Nat) (m2 : Nat) (m3 : Nat) (m4 : Nat) (m5 : Nat) (k : Nat) (n : Nat) (th : Nat) (ax : Nat) (fa : Nat) (vl : Nat) (tn : Nat) (hg : Nat) (bg : Nat) (cs : Nat → Nat) (td : Nat → Nat) (hn : n ≤ 60) (hcs : ∀ j, j < n → cs j < 2 ^ 30) : KM l D (TY cI cS cL) yX6_isText wsX6_isText ({ frames := 4, cells := 0, slots := 0, locals := 86 } : Room) [(m0, .inr (6, [.ref m1, .ref m2, .ref m3, .int (nI k), .ref m4, .int (nI n), .int (nI th), .int (nI ax), .int (nI fa), .int (nI vl), .ref m5, .int (nI tn), .int (nI hg), .int (nI bg)])), (m4, .inl (cI, 60, .inl (ro 60 cs))), (m5, .inl (cI, 48, .inl (ro 48 td)))] [.ref m0] (fun (v : Option Value) (u : Nat → Nat → Nat) => (u 0 0 ≤ 1) ∧ (u 0 0 = 0 → u 0 1 ≤ n ∧ u 0 3 = bI (u 0 1 < n) ∧ ¬ (runS cs n = 6 ∨ runS cs n = 7) ∧ runS cs (u 0 1) ≠ 8 ∧ (u 0 1 < n → runS cs (u 0 1 + 1) = 8)) ∧ (u 0 0 = 1 → (runS cs n = 6 ∨ runS cs n = 7) ∧ u 0 1 = n ∧ 5 * u 0 4 ≤ n + 1 ∧ (∀ s, foS (u 1) s (u 0 4) = allS cs s n ∧ foN (u 1) s (u 0 4) = allN cs s n) ∧ (∀ y, y < u 0 4 → u 1 (3 * y) ≤ 999 ∧ u 1 (3 * y + 1) < 8 ∧ u 1 (3 * y + 2) ≤ 10)) ∧ v = some (.int (nI (u 0 0)))) (fun (u : Nat → Nat → Nat) => [(m0, .inr (6, [.ref m1, .ref m2, .ref m3, .int (nI k), .ref m4, .int (nI n), .int (nI th), .int (nI (u 0 1)), .int (nI (u 0 3)), .int (nI (u 0 2)), .ref m5, .int (nI (u 0 4)), .int (nI hg), .int (nI bg)])), (m4, .inl (cI, 60, .inl (ro 60 cs))), (m5, .inl (cI, 48, .inl (ro 48 (u 1))))]) := by
  refine KM.of (cc := cX6_isText) (maxL := 2) (ret := (some .boolean)) (by decide) rfl (Nat.le_of_ble_eq_true rfl) ?_
  intro p9 e9 s9 m9 ar9 be9 me9 c9 Q9 A9 ls C0 hN hnm hlk hK hA hret hP hD hS hl
  obtain ⟨hx, hb, hml, hown, hts⟩ := id C0
  have hl : lv_has ls 2 [(0, .ref m0)] := hl
  obtain ⟨H, hH0⟩ : ∃ H, H = s9.heap := ⟨_, rfl⟩
  obtain ⟨locs, hlc0⟩ : ∃ z : List Loc, z = [] := ⟨_, rfl⟩
  have hP : va_P D vwCl [(m0, .inr (6, [.ref m1, .ref m2, .ref m3, .int (nI k), .ref m4, .int (nI n), .int (nI th), .int (nI ax), .int (nI fa), .int (nI vl), .ref m5, .int (nI tn), .int (nI hg), .int (nI bg)])), (m4, .inl (cI, 60, .inl (ro 60 cs))), (m5, .inl (cI, 48, .inl (ro 48 td)))] H := by rw [hH0]; exact hP
  have hD : va_D A9 [(m0, .inr (6, [.ref m1, .ref m2, .ref m3, .int (nI k), .ref m4, .int (nI n), .int (nI th), .int (nI ax), .int (nI fa), .int (nI vl), .ref m5, .int (nI tn), .int (nI hg), .int (nI bg)])), (m4, .inl (cI, 60, .inl (ro 60 cs))), (m5, .inl (cI, 48, .inl (ro 48 td)))] := hD
  have hS : va_S A9 s9.heap H locs := by rw [hH0, hlc0]; exact hS
  suffices hgo : W p9 l e9 ({ frames := 4, cells := 0, slots := 0, locals := 86 } : Room) s9 m9 ar9 be9 me9 c9 H locs 0 0 Q9 (F0 m9 0 ls []) by rw [hH0, hlc0] at hgo; exact hgo
  clear hH0 hlc0
  refine lv_aload_n hx hb dX6_isText_0 rfl (lv_at hl 0 rfl) ?_
  refine lv_iconst (v := nI 0) hx hb dX6_isText_1 (by decide +kernel) ?_
  refine va_put (D := D) (ci := 6) (v := .int (nI 0)) (ty := tyX6 7) (C := RX6) (T := TX6) (N := 14) hx hb hts in_X6_isText_X6 tyX6 tyX6_ok nmX6 hown hK hP hD hS 0 rfl rfl 7 (by decide) (hts _ fl_X6_isText_114) (fun _ h9 => h9) rfl (by decide +kernel) rfl rfl (Nat.le_of_ble_eq_true rfl) dX6_isText_2 (fun H locs hP hD hS => ?_)
  have hP : va_P D vwCl [(m0, .inr (6, [.ref m1, .ref m2, .ref m3, .int (nI k), .ref m4, .int (nI n), .int (nI th), .int (nI 0), .int (nI fa), .int (nI vl), .ref m5, .int (nI tn), .int (nI hg), .int (nI bg)])), (m4, .inl (cI, 60, .inl (ro 60 cs))), (m5, .inl (cI, 48, .inl (ro 48 td)))] H := hP
  have hD : va_D A9 [(m0, .inr (6, [.ref m1, .ref m2, .ref m3, .int (nI k), .ref m4, .int (nI n), .int (nI th), .int (nI 0), .int (nI fa), .int (nI vl), .ref m5, .int (nI tn), .int (nI hg), .int (nI bg)])), (m4, .inl (cI, 60, .inl (ro 60 cs))), (m5, .inl (cI, 48, .inl (ro 48 td)))] := hD
  refine lv_aload_n hx hb dX6_isText_5 rfl (lv_at hl 0 rfl) ?_
  refine lv_iconst (v := nI 0) hx hb dX6_isText_6 (by decide +kernel) ?_
  refine va_put (D := D) (ci := 6) (v := .int (nI 0)) (ty := tyX6 11) (C := RX6) (T := TX6) (N := 14) hx hb hts in_X6_isText_X6 tyX6 tyX6_ok nmX6 hown hK hP hD hS 0 rfl rfl 11 (by decide) (hts _ fl_X6_isText_131) (fun _ h9 => h9) rfl (by decide +kernel) rfl rfl (Nat.le_of_ble_eq_true rfl) dX6_isText_7 (fun H locs hP hD hS => ?_)
  have hP : va_P D vwCl [(m0, .inr (6, [.ref m1, .ref m2, .ref m3, .int (nI k), .ref m4, .int (nI n), .int (nI th), .int (nI 0), .int (nI fa), .int (nI vl), .ref m5, .int (nI 0), .int (nI hg), .int (nI bg)])), (m4, .inl (cI, 60, .inl (ro 60 cs))), (m5, .inl (cI, 48, .inl (ro 48 td)))] H := hP
  have hD : va_D A9 [(m0, .inr (6, [.ref m1, .ref m2, .ref m3, .int (nI k), .ref m4, .int (nI n), .int (nI th), .int (nI 0), .int (nI fa), .int (nI vl), .ref m5, .int (nI 0), .int (nI hg), .int (nI bg)])), (m4, .inl (cI, 60, .inl (ro 60 cs))), (m5, .inl (cI, 48, .inl (ro 48 td)))] := hD
  refine lv_aload_n hx hb dX6_isText_10 rfl (lv_at hl 0 rfl) ?_
  refine lv_iconst (v := nI 0) hx hb dX6_isText_11 (by decide +kernel) ?_
  refine va_put (D := D) (ci := 6) (v := .int (nI 0)) (ty := tyX6 8) (C := RX6) (T := TX6) (N := 14) hx hb hts in_X6_isText_X6 tyX6 tyX6_ok nmX6 hown hK hP hD hS 0 rfl rfl 8 (by decide) (hts _ fl_X6_isText_117) (fun _ h9 => h9) rfl (by decide +kernel) rfl rfl (Nat.le_of_ble_eq_true rfl) dX6_isText_12 (fun H locs hP hD hS => ?_)
  have hP : va_P D vwCl [(m0, .inr (6, [.ref m1, .ref m2, .ref m3, .int (nI k), .ref m4, .int (nI n), .int (nI th), .int (nI 0), .int (nI 0), .int (nI vl), .ref m5, .int (nI 0), .int (nI hg), .int (nI bg)])), (m4, .inl (cI, 60, .inl (ro 60 cs))), (m5, .inl (cI, 48, .inl (ro 48 td)))] H := hP
  have hD : va_D A9 [(m0, .inr (6, [.ref m1, .ref m2, .ref m3, .int (nI k), .ref m4, .int (nI n), .int (nI th), .int (nI 0), .int (nI 0), .int (nI vl), .ref m5, .int (nI 0), .int (nI hg), .int (nI bg)])), (m4, .inl (cI, 60, .inl (ro 60 cs))), (m5, .inl (cI, 48, .inl (ro 48 td)))] := hD
  refine lv_iconst (v := nI 1) hx hb dX6_isText_15 (by decide +kernel) ?_
  refine lv_istore_n (lv' := [(1, .int (nI 1)), (0, .ref m0)]) hx hb dX6_isText_16 rfl hl (by decide) rfl (fun ls hl => ?_)
  refine lv_iload_n hx hb dX6_isText_17 rfl (lv_at hl 0 rfl) ?_
  refine q_feq (tgt := 70) (by omega) hx hb dX6_isText_18 (by decide) (fun c_18 => ?_) (fun c_18 => ?_)
  · exact absurd True.intro (by omega)
  ·
    have L21 : ∀ (fuel : Nat) (p : Nat) (i : Nat) (v2 : Nat) (td2 : Nat → Nat) (H : Heap) (locs : List Loc) (ls : Array Slot), (p ≤ n) → (5 * i ≤ p) → (runS cs p = 0) → (∀ s, foS td2 s i = adS cs s p ∧ foN td2 s i = adN cs s p) → (∀ y, y < i → td2 (3 * y) ≤ 999 ∧ td2 (3 * y + 1) < 8 ∧ td2 (3 * y + 2) ≤ 10) → (n - p < fuel) → va_P D vwCl [(m0, .inr (6, [.ref m1, .ref m2, .ref m3, .int (nI k), .ref m4, .int (nI n), .int (nI th), .int (nI p), .int (nI 0), .int (nI v2), .ref m5, .int (nI i), .int (nI hg), .int (nI bg)])), (m4, .inl (cI, 60, .inl (ro 60 cs))), (m5, .inl (cI, 48, .inl (ro 48 td2)))] H → va_D A9 [(m0, .inr (6, [.ref m1, .ref m2, .ref m3, .int (nI k), .ref m4, .int (nI n), .int (nI th), .int (nI p), .int (nI 0), .int (nI v2), .ref m5, .int (nI i), .int (nI hg), .int (nI bg)])), (m4, .inl (cI, 60, .inl (ro 60 cs))), (m5, .inl (cI, 48, .inl (ro 48 td2)))] → va_S A9 s9.heap H locs → lv_has ls 2 [(0, .ref m0)] → W p9 l e9 ({ frames := 4, cells := 0, slots := 0, locals := 86 } : Room) s9 m9 ar9 be9 me9 c9 H locs 0 0 Q9 (F0 m9 21 ls []) := by
      intro fuel
      induction fuel with
      | zero => intro p i v2 td2 H locs ls hp hi hr hfo hin hfu; exact absurd hfu (Nat.not_lt_zero _)
      | succ fuel ih21 =>
        intro p i v2 td2 H locs ls hp hi hr hfo hin hfu hP hD hS hl
        refine lv_aload_n hx hb dX6_isText_21 rfl (lv_at hl 0 rfl) ?_
        refine KM.callV (As := []) (rest := []) C0 hN (k_X6_isPart l D cI cS cL m0 m1 m2 m3 m4 m5 k n th p 0 v2 i hg bg cs td2  (by first | with_reducible assumption | omega) (by first | with_reducible assumption | omega) (by first | with_reducible assumption | omega) (by first | with_reducible assumption | omega) (by first | with_reducible assumption | omega)) (cwV 0 hts gX6_isText_X6_isPart rfl rfl rfl (by decide +kernel) ⟨Nat.le_of_ble_eq_true rfl, Nat.le_of_ble_eq_true rfl⟩) hK hP hD hS hA [0, 1, 2] rfl (by decide) (fun _ => rfl) 0 6 rfl rfl rfl rfl hl.1 rfl (Nat.le_of_ble_eq_true rfl) dX6_isText_22 ⟨Nat.le_of_ble_eq_true rfl, Nat.le_of_ble_eq_true rfl⟩ (fun v9 u9 H locs hv hP hD hS => ?_)
        obtain ⟨w, rfl⟩ : ∃ z, z = u9 := ⟨_, rfl⟩
        obtain ⟨hc_22_0, hc_22_1, hc_22_2, hv⟩ := hv
        subst hv
        have hc_22_0 : w 0 0 ≤ 1 := hc_22_0
        have hc_22_1 : w 0 0 = 0 → w 0 1 ≤ n ∧ w 0 3 = bI (w 0 1 < n) ∧ runS cs (w 0 1) ≠ 6 ∧ runS cs (w 0 1) ≠ 7 ∧ runS cs (w 0 1) ≠ 8 ∧ (w 0 1 < n → runS cs (w 0 1 + 1) = 8) := hc_22_1
        have hc_22_2 : w 0 0 = 1 → part1 cs p (w 0 1) i td2 (w 1) ∧ w 0 1 ≤ n ∧ (w 0 1 < n → cs (w 0 1) ≠ 59 → runS cs (w 0 1 + 1) = 8) ∧ w 0 3 = 0 := hc_22_2
        have hP : va_P D vwCl [(m0, .inr (6, [.ref m1, .ref m2, .ref m3, .int (nI k), .ref m4, .int (nI n), .int (nI th), .int (nI (w 0 1)), .int (nI (w 0 3)), .int (nI (w 0 2)), .ref m5, .int (nI i), .int (nI hg), .int (nI bg)])), (m4, .inl (cI, 60, .inl (ro 60 cs))), (m5, .inl (cI, 48, .inl (ro 48 (w 1))))] H := hP
        have hD : va_D A9 [(m0, .inr (6, [.ref m1, .ref m2, .ref m3, .int (nI k), .ref m4, .int (nI n), .int (nI th), .int (nI (w 0 1)), .int (nI (w 0 3)), .int (nI (w 0 2)), .ref m5, .int (nI i), .int (nI hg), .int (nI bg)])), (m4, .inl (cI, 60, .inl (ro 60 cs))), (m5, .inl (cI, 48, .inl (ro 48 (w 1))))] := hD
        refine W.eq (g2 := F0 m9 25 ls [.int (nI (w 0 0))]) rfl ?_
        have hb0 := hc_22_0
        refine q_fne (tgt := 30) (by omega) hx hb dX6_isText_25 (by decide) (fun c_25 => ?_) (fun c_25 => ?_)
        ·
          obtain ⟨hq, hq1, hq2, hfa⟩ := hc_22_2 (by omega)
          have hq0 := hq.1
          rw [hfa] at hP hD
          have hP : va_P D vwCl [(m0, .inr (6, [.ref m1, .ref m2, .ref m3, .int (nI k), .ref m4, .int (nI n), .int (nI th), .int (nI (w 0 1)), .int (nI 0), .int (nI (w 0 2)), .ref m5, .int (nI i), .int (nI hg), .int (nI bg)])), (m4, .inl (cI, 60, .inl (ro 60 cs))), (m5, .inl (cI, 48, .inl (ro 48 (w 1))))] H := hP
          have hD : va_D A9 [(m0, .inr (6, [.ref m1, .ref m2, .ref m3, .int (nI k), .ref m4, .int (nI n), .int (nI th), .int (nI (w 0 1)), .int (nI 0), .int (nI (w 0 2)), .ref m5, .int (nI i), .int (nI hg), .int (nI bg)])), (m4, .inl (cI, 60, .inl (ro 60 cs))), (m5, .inl (cI, 48, .inl (ro 48 (w 1))))] := hD
          refine lv_aload_n hx hb dX6_isText_30 rfl (lv_at hl 0 rfl) ?_
          refine lv_dup hx hb dX6_isText_31 rfl ?_
          refine va_get (D := D) (ci := 6) (v := .int (nI i)) (C := RX6) (T := TX6) (N := 14) hx hb hts in_X6_isText_X6 hown hK hP 0 rfl rfl 11 (by decide) (hts _ fl_X6_isText_131) (fun _ h9 => h9) rfl dX6_isText_32 ?_
          refine lv_iconst (v := nI 1) hx hb dX6_isText_35 (by decide +kernel) ?_
          refine q_iadd hx hb dX6_isText_36 ?_
          refine va_put (D := D) (ci := 6) (v := .int (nI (i + 1))) (ty := tyX6 11) (C := RX6) (T := TX6) (N := 14) hx hb hts in_X6_isText_X6 tyX6 tyX6_ok nmX6 hown hK hP hD hS 0 rfl rfl 11 (by decide) (hts _ fl_X6_isText_131) (fun _ h9 => h9) rfl (by decide +kernel) rfl rfl (Nat.le_of_ble_eq_true rfl) dX6_isText_37 (fun H locs hP hD hS => ?_)
          have hP : va_P D vwCl [(m0, .inr (6, [.ref m1, .ref m2, .ref m3, .int (nI k), .ref m4, .int (nI n), .int (nI th), .int (nI (w 0 1)), .int (nI 0), .int (nI (w 0 2)), .ref m5, .int (nI (i + 1)), .int (nI hg), .int (nI bg)])), (m4, .inl (cI, 60, .inl (ro 60 cs))), (m5, .inl (cI, 48, .inl (ro 48 (w 1))))] H := hP
          have hD : va_D A9 [(m0, .inr (6, [.ref m1, .ref m2, .ref m3, .int (nI k), .ref m4, .int (nI n), .int (nI th), .int (nI (w 0 1)), .int (nI 0), .int (nI (w 0 2)), .ref m5, .int (nI (i + 1)), .int (nI hg), .int (nI bg)])), (m4, .inl (cI, 60, .inl (ro 60 cs))), (m5, .inl (cI, 48, .inl (ro 48 (w 1))))] := hD
          refine lv_aload_n hx hb dX6_isText_40 rfl (lv_at hl 0 rfl) ?_
          refine lv_bipush (v := nI 59) hx hb dX6_isText_41 (by decide +kernel) ?_
          refine lv_bipush (v := nI 59) hx hb dX6_isText_43 (by decide +kernel) ?_
          refine KM.callV (As := [.int (nI 59), .int (nI 59)]) (rest := []) C0 hN (k_X6_isAt l D cI cS cL m0 m1 m2 m3 m4 m5 k n th (w 0 1) 0 (w 0 2) (i + 1) hg bg cs 59 59  (by first | with_reducible assumption | omega) (by first | with_reducible assumption | omega) (by first | with_reducible assumption | omega) (by decide) (by decide)) (cwV 2 hts gX6_isText_X6_isAt rfl rfl rfl (by decide +kernel) ⟨Nat.le_of_ble_eq_true rfl, Nat.le_of_ble_eq_true rfl⟩) hK hP hD hS hA [0, 1] rfl (by decide) (fun _ => rfl) 0 6 rfl rfl rfl rfl hl.1 rfl (Nat.le_of_ble_eq_true rfl) dX6_isText_45 ⟨Nat.le_of_ble_eq_true rfl, Nat.le_of_ble_eq_true rfl⟩ (fun v9 u9 H locs hv hP hD hS => ?_)
          subst hv
          have hP : va_P D vwCl [(m0, .inr (6, [.ref m1, .ref m2, .ref m3, .int (nI k), .ref m4, .int (nI n), .int (nI th), .int (nI (w 0 1)), .int (nI 0), .int (nI (w 0 2)), .ref m5, .int (nI (i + 1)), .int (nI hg), .int (nI bg)])), (m4, .inl (cI, 60, .inl (ro 60 cs))), (m5, .inl (cI, 48, .inl (ro 48 (w 1))))] H := hP
          have hD : va_D A9 [(m0, .inr (6, [.ref m1, .ref m2, .ref m3, .int (nI k), .ref m4, .int (nI n), .int (nI th), .int (nI (w 0 1)), .int (nI 0), .int (nI (w 0 2)), .ref m5, .int (nI (i + 1)), .int (nI hg), .int (nI bg)])), (m4, .inl (cI, 60, .inl (ro 60 cs))), (m5, .inl (cI, 48, .inl (ro 48 (w 1))))] := hD
          refine W.eq (g2 := F0 m9 48 ls [.int (nI (bI ((w 0 1) < n ∧ 59 ≤ cs (w 0 1) ∧ cs (w 0 1) ≤ 59)))]) rfl ?_
          by_cases hmo : w 0 1 < n ∧ 59 ≤ cs (w 0 1) ∧ cs (w 0 1) ≤ 59
          ·
            refine q_topi (y := nI 1) (congrArg nI (bI_t hmo)) ?_
            refine lv_istore_n (lv' := [(1, .int (nI 1)), (0, .ref m0)]) hx hb dX6_isText_48 rfl hl (by decide) rfl (fun ls hl => ?_)
            refine lv_aload_n hx hb dX6_isText_49 rfl (lv_at hl 1 rfl) ?_
            refine lv_dup hx hb dX6_isText_50 rfl ?_
            refine va_get (D := D) (ci := 6) (v := .int (nI (w 0 1))) (C := RX6) (T := TX6) (N := 14) hx hb hts in_X6_isText_X6 hown hK hP 0 rfl rfl 7 (by decide) (hts _ fl_X6_isText_114) (fun _ h9 => h9) rfl dX6_isText_51 ?_
            refine lv_iload_n hx hb dX6_isText_54 rfl (lv_at hl 0 rfl) ?_
            refine q_feq (tgt := 62) (by omega) hx hb dX6_isText_55 (by decide) (fun c_55 => ?_) (fun c_55 => ?_)
            · exact absurd True.intro (by omega)
            ·
              refine lv_iconst (v := nI 1) hx hb dX6_isText_58 (by decide +kernel) ?_
              refine lv_goto (tgt := 63) hx hb dX6_isText_59 (by decide) ?_
              refine q_iadd hx hb dX6_isText_63 ?_
              refine va_put (D := D) (ci := 6) (v := .int (nI ((w 0 1) + 1))) (ty := tyX6 7) (C := RX6) (T := TX6) (N := 14) hx hb hts in_X6_isText_X6 tyX6 tyX6_ok nmX6 hown hK hP hD hS 0 rfl rfl 7 (by decide) (hts _ fl_X6_isText_114) (fun _ h9 => h9) rfl (by decide +kernel) rfl rfl (Nat.le_of_ble_eq_true rfl) dX6_isText_64 (fun H locs hP hD hS => ?_)
              have hP : va_P D vwCl [(m0, .inr (6, [.ref m1, .ref m2, .ref m3, .int (nI k), .ref m4, .int (nI n), .int (nI th), .int (nI ((w 0 1) + 1)), .int (nI 0), .int (nI (w 0 2)), .ref m5, .int (nI (i + 1)), .int (nI hg), .int (nI bg)])), (m4, .inl (cI, 60, .inl (ro 60 cs))), (m5, .inl (cI, 48, .inl (ro 48 (w 1))))] H := hP
              have hD : va_D A9 [(m0, .inr (6, [.ref m1, .ref m2, .ref m3, .int (nI k), .ref m4, .int (nI n), .int (nI th), .int (nI ((w 0 1) + 1)), .int (nI 0), .int (nI (w 0 2)), .ref m5, .int (nI (i + 1)), .int (nI hg), .int (nI bg)])), (m4, .inl (cI, 60, .inl (ro 60 cs))), (m5, .inl (cI, 48, .inl (ro 48 (w 1))))] := hD
              refine lv_goto (tgt := 17) hx hb dX6_isText_67 (by decide) ?_
              refine lv_iload_n hx hb dX6_isText_17 rfl (lv_at hl 0 rfl) ?_
              refine q_feq (tgt := 70) (by omega) hx hb dX6_isText_18 (by decide) (fun c_18 => ?_) (fun c_18 => ?_)
              · exact absurd True.intro (by omega)
              ·
                exact ih21  ((w 0 1) + 1) (i + 1) (w 0 2) (w 1) _ _ ls (by omega) (by have := hq.1; omega) (by exact semi_0 hq.2.1 (by omega)) (by exact fo_semi hq (by omega) hfo) (by exact part_in hq hin) (by omega) hP hD hS (lv_sub hl [1] rfl)
          ·
            refine q_topi (y := nI 0) (congrArg nI (bI_f hmo)) ?_
            refine lv_istore_n (lv' := [(1, .int (nI 0)), (0, .ref m0)]) hx hb dX6_isText_48 rfl hl (by decide) rfl (fun ls hl => ?_)
            refine lv_aload_n hx hb dX6_isText_49 rfl (lv_at hl 1 rfl) ?_
            refine lv_dup hx hb dX6_isText_50 rfl ?_
            refine va_get (D := D) (ci := 6) (v := .int (nI (w 0 1))) (C := RX6) (T := TX6) (N := 14) hx hb hts in_X6_isText_X6 hown hK hP 0 rfl rfl 7 (by decide) (hts _ fl_X6_isText_114) (fun _ h9 => h9) rfl dX6_isText_51 ?_
            refine lv_iload_n hx hb dX6_isText_54 rfl (lv_at hl 0 rfl) ?_
            refine q_feq (tgt := 62) (by omega) hx hb dX6_isText_55 (by decide) (fun c_55 => ?_) (fun c_55 => ?_)
            ·
              refine lv_iconst (v := nI 0) hx hb dX6_isText_62 (by decide +kernel) ?_
              refine q_iadd hx hb dX6_isText_63 ?_
              refine va_put (D := D) (ci := 6) (v := .int (nI ((w 0 1) + 0))) (ty := tyX6 7) (C := RX6) (T := TX6) (N := 14) hx hb hts in_X6_isText_X6 tyX6 tyX6_ok nmX6 hown hK hP hD hS 0 rfl rfl 7 (by decide) (hts _ fl_X6_isText_114) (fun _ h9 => h9) rfl (by decide +kernel) rfl rfl (Nat.le_of_ble_eq_true rfl) dX6_isText_64 (fun H locs hP hD hS => ?_)
              have hP : va_P D vwCl [(m0, .inr (6, [.ref m1, .ref m2, .ref m3, .int (nI k), .ref m4, .int (nI n), .int (nI th), .int (nI ((w 0 1) + 0)), .int (nI 0), .int (nI (w 0 2)), .ref m5, .int (nI (i + 1)), .int (nI hg), .int (nI bg)])), (m4, .inl (cI, 60, .inl (ro 60 cs))), (m5, .inl (cI, 48, .inl (ro 48 (w 1))))] H := hP
              have hD : va_D A9 [(m0, .inr (6, [.ref m1, .ref m2, .ref m3, .int (nI k), .ref m4, .int (nI n), .int (nI th), .int (nI ((w 0 1) + 0)), .int (nI 0), .int (nI (w 0 2)), .ref m5, .int (nI (i + 1)), .int (nI hg), .int (nI bg)])), (m4, .inl (cI, 60, .inl (ro 60 cs))), (m5, .inl (cI, 48, .inl (ro 48 (w 1))))] := hD
              refine lv_goto (tgt := 17) hx hb dX6_isText_67 (by decide) ?_
              refine lv_iload_n hx hb dX6_isText_17 rfl (lv_at hl 0 rfl) ?_
              refine q_feq (tgt := 70) (by omega) hx hb dX6_isText_18 (by decide) (fun c_18 => ?_) (fun c_18 => ?_)
              ·
                refine lv_aload_n hx hb dX6_isText_70 rfl (lv_at hl 1 rfl) ?_
                refine lv_aload_n hx hb dX6_isText_71 rfl (lv_at hl 1 rfl) ?_
                refine va_get (D := D) (ci := 6) (v := .int (nI ((w 0 1) + 0))) (C := RX6) (T := TX6) (N := 14) hx hb hts in_X6_isText_X6 hown hK hP 0 rfl rfl 7 (by decide) (hts _ fl_X6_isText_114) (fun _ h9 => h9) rfl dX6_isText_72 ?_
                refine lv_aload_n hx hb dX6_isText_75 rfl (lv_at hl 1 rfl) ?_
                refine va_get (D := D) (ci := 6) (v := .int (nI n)) (C := RX6) (T := TX6) (N := 14) hx hb hts in_X6_isText_X6 hown hK hP 0 rfl rfl 5 (by decide) (hts _ fl_X6_isText_111) (fun _ h9 => h9) rfl dX6_isText_76 ?_
                refine q_ige (tgt := 86) (by omega) (by omega) hx hb dX6_isText_79 (by decide) (fun c_79 => ?_) (fun c_79 => ?_)
                ·
                  refine lv_iconst (v := nI 0) hx hb dX6_isText_86 (by decide +kernel) ?_
                  refine va_put (D := D) (ci := 6) (v := .int (nI 0)) (ty := tyX6 8) (C := RX6) (T := TX6) (N := 14) hx hb hts in_X6_isText_X6 tyX6 tyX6_ok nmX6 hown hK hP hD hS 0 rfl rfl 8 (by decide) (hts _ fl_X6_isText_117) (fun _ h9 => h9) rfl (by decide +kernel) (by decide +kernel) rfl (Nat.le_of_ble_eq_true rfl) dX6_isText_87 (fun H locs hP hD hS => ?_)
                  have hP : va_P D vwCl [(m0, .inr (6, [.ref m1, .ref m2, .ref m3, .int (nI k), .ref m4, .int (nI n), .int (nI th), .int (nI ((w 0 1) + 0)), .int (nI 0), .int (nI (w 0 2)), .ref m5, .int (nI (i + 1)), .int (nI hg), .int (nI bg)])), (m4, .inl (cI, 60, .inl (ro 60 cs))), (m5, .inl (cI, 48, .inl (ro 48 (w 1))))] H := hP
                  have hD : va_D A9 [(m0, .inr (6, [.ref m1, .ref m2, .ref m3, .int (nI k), .ref m4, .int (nI n), .int (nI th), .int (nI ((w 0 1) + 0)), .int (nI 0), .int (nI (w 0 2)), .ref m5, .int (nI (i + 1)), .int (nI hg), .int (nI bg)])), (m4, .inl (cI, 60, .inl (ro 60 cs))), (m5, .inl (cI, 48, .inl (ro 48 (w 1))))] := hD
                  refine lv_aload_n hx hb dX6_isText_90 rfl (lv_at hl 1 rfl) ?_
                  refine va_get (D := D) (ci := 6) (v := .int (nI ((w 0 1) + 0))) (C := RX6) (T := TX6) (N := 14) hx hb hts in_X6_isText_X6 hown hK hP 0 rfl rfl 7 (by decide) (hts _ fl_X6_isText_114) (fun _ h9 => h9) rfl dX6_isText_91 ?_
                  refine lv_aload_n hx hb dX6_isText_94 rfl (lv_at hl 1 rfl) ?_
                  refine va_get (D := D) (ci := 6) (v := .int (nI n)) (C := RX6) (T := TX6) (N := 14) hx hb hts in_X6_isText_X6 hown hK hP 0 rfl rfl 5 (by decide) (hts _ fl_X6_isText_111) (fun _ h9 => h9) rfl dX6_isText_95 ?_
                  refine q_ine (tgt := 105) (by omega) (by omega) hx hb dX6_isText_98 (by decide) (fun c_98 => ?_) (fun c_98 => ?_)
                  ·
                    refine lv_iconst (v := nI 0) hx hb dX6_isText_105 (by decide +kernel) ?_
                    exact hret _ _ _ _ (some (.int (nI 0))) (fun i9 => [(fun j9 => [0, (w 0 1) + 0, w 0 2, 0, i + 1].getD j9 0), w 1].getD i9 (fun _ => 0)) 106 ls (by decide) (by decide) (by first | exact ⟨Nat.le_refl 1, fun h9 => absurd (show (1 : Nat) = 0 from h9) (by decide), fun _ => txt_all (p := w 0 1) hq hq1 (by omega) hi hfo hin, rfl⟩ | exact ⟨Nat.zero_le 1, fun _ => txt_err (p := w 0 1) hq hq1 hq2 (by omega) (by omega), fun h9 => absurd (show (0 : Nat) = 1 from h9) (by decide), rfl⟩ | (exfalso; omega)) hP hD hS (ret_z dX6_isText_106 (by first | exact bI_le | omega))
                  ·
                    refine lv_iconst (v := nI 1) hx hb dX6_isText_101 (by decide +kernel) ?_
                    refine lv_goto (tgt := 106) hx hb dX6_isText_102 (by decide) ?_
                    exact hret _ _ _ _ (some (.int (nI 1))) (fun i9 => [(fun j9 => [1, (w 0 1) + 0, w 0 2, 0, i + 1].getD j9 0), w 1].getD i9 (fun _ => 0)) 106 ls (by decide) (by decide) (by first | exact ⟨Nat.le_refl 1, fun h9 => absurd (show (1 : Nat) = 0 from h9) (by decide), fun _ => txt_all (p := w 0 1) hq hq1 (by omega) hi hfo hin, rfl⟩ | exact ⟨Nat.zero_le 1, fun _ => txt_err (p := w 0 1) hq hq1 hq2 (by omega) (by omega), fun h9 => absurd (show (0 : Nat) = 1 from h9) (by decide), rfl⟩ | (exfalso; omega)) hP hD hS (ret_z dX6_isText_106 (by first | exact bI_le | omega))
                ·
                  refine lv_iconst (v := nI 1) hx hb dX6_isText_82 (by decide +kernel) ?_
                  refine lv_goto (tgt := 87) hx hb dX6_isText_83 (by decide) ?_
                  refine va_put (D := D) (ci := 6) (v := .int (nI 1)) (ty := tyX6 8) (C := RX6) (T := TX6) (N := 14) hx hb hts in_X6_isText_X6 tyX6 tyX6_ok nmX6 hown hK hP hD hS 0 rfl rfl 8 (by decide) (hts _ fl_X6_isText_117) (fun _ h9 => h9) rfl (by decide +kernel) (by decide +kernel) rfl (Nat.le_of_ble_eq_true rfl) dX6_isText_87 (fun H locs hP hD hS => ?_)
                  have hP : va_P D vwCl [(m0, .inr (6, [.ref m1, .ref m2, .ref m3, .int (nI k), .ref m4, .int (nI n), .int (nI th), .int (nI ((w 0 1) + 0)), .int (nI 1), .int (nI (w 0 2)), .ref m5, .int (nI (i + 1)), .int (nI hg), .int (nI bg)])), (m4, .inl (cI, 60, .inl (ro 60 cs))), (m5, .inl (cI, 48, .inl (ro 48 (w 1))))] H := hP
                  have hD : va_D A9 [(m0, .inr (6, [.ref m1, .ref m2, .ref m3, .int (nI k), .ref m4, .int (nI n), .int (nI th), .int (nI ((w 0 1) + 0)), .int (nI 1), .int (nI (w 0 2)), .ref m5, .int (nI (i + 1)), .int (nI hg), .int (nI bg)])), (m4, .inl (cI, 60, .inl (ro 60 cs))), (m5, .inl (cI, 48, .inl (ro 48 (w 1))))] := hD
                  refine lv_aload_n hx hb dX6_isText_90 rfl (lv_at hl 1 rfl) ?_
                  refine va_get (D := D) (ci := 6) (v := .int (nI ((w 0 1) + 0))) (C := RX6) (T := TX6) (N := 14) hx hb hts in_X6_isText_X6 hown hK hP 0 rfl rfl 7 (by decide) (hts _ fl_X6_isText_114) (fun _ h9 => h9) rfl dX6_isText_91 ?_
                  refine lv_aload_n hx hb dX6_isText_94 rfl (lv_at hl 1 rfl) ?_
                  refine va_get (D := D) (ci := 6) (v := .int (nI n)) (C := RX6) (T := TX6) (N := 14) hx hb hts in_X6_isText_X6 hown hK hP 0 rfl rfl 5 (by decide) (hts _ fl_X6_isText_111) (fun _ h9 => h9) rfl dX6_isText_95 ?_
                  refine q_ine (tgt := 105) (by omega) (by omega) hx hb dX6_isText_98 (by decide) (fun c_98 => ?_) (fun c_98 => ?_)
                  ·
                    refine lv_iconst (v := nI 0) hx hb dX6_isText_105 (by decide +kernel) ?_
                    exact hret _ _ _ _ (some (.int (nI 0))) (fun i9 => [(fun j9 => [0, (w 0 1) + 0, w 0 2, 1, i + 1].getD j9 0), w 1].getD i9 (fun _ => 0)) 106 ls (by decide) (by decide) (by first | exact ⟨Nat.le_refl 1, fun h9 => absurd (show (1 : Nat) = 0 from h9) (by decide), fun _ => txt_all (p := w 0 1) hq hq1 (by omega) hi hfo hin, rfl⟩ | exact ⟨Nat.zero_le 1, fun _ => txt_err (p := w 0 1) hq hq1 hq2 (by omega) (by omega), fun h9 => absurd (show (0 : Nat) = 1 from h9) (by decide), rfl⟩ | (exfalso; omega)) hP hD hS (ret_z dX6_isText_106 (by first | exact bI_le | omega))
                  ·
                    refine lv_iconst (v := nI 1) hx hb dX6_isText_101 (by decide +kernel) ?_
                    refine lv_goto (tgt := 106) hx hb dX6_isText_102 (by decide) ?_
                    exact hret _ _ _ _ (some (.int (nI 1))) (fun i9 => [(fun j9 => [1, (w 0 1) + 0, w 0 2, 1, i + 1].getD j9 0), w 1].getD i9 (fun _ => 0)) 106 ls (by decide) (by decide) (by first | exact ⟨Nat.le_refl 1, fun h9 => absurd (show (1 : Nat) = 0 from h9) (by decide), fun _ => txt_all (p := w 0 1) hq hq1 (by omega) hi hfo hin, rfl⟩ | exact ⟨Nat.zero_le 1, fun _ => txt_err (p := w 0 1) hq hq1 hq2 (by omega) (by omega), fun h9 => absurd (show (0 : Nat) = 1 from h9) (by decide), rfl⟩ | (exfalso; omega)) hP hD hS (ret_z dX6_isText_106 (by first | exact bI_le | omega))
              · exact absurd True.intro (by omega)
            · exact absurd True.intro (by omega)
        ·
          refine lv_iconst (v := nI 0) hx hb dX6_isText_28 (by decide +kernel) ?_
          exact hret _ _ _ _ (some (.int (nI 0))) (fun i9 => [(fun j9 => [0, w 0 1, w 0 2, w 0 3, i].getD j9 0), w 1].getD i9 (fun _ => 0)) 29 ls (by decide) (by decide) (by obtain ⟨z1, z2, z3, z4, z5, z6⟩ := hc_22_1 (by omega); exact ⟨Nat.zero_le 1, fun _ => ⟨z1, z2, fun z9 => err_no z1 z3 z4 z6 z9, z5, z6⟩, fun h9 => absurd (show (0 : Nat) = 1 from h9) (by decide), rfl⟩) hP hD hS (ret_z dX6_isText_29 (by first | exact bI_le | omega))
    exact L21 (n - 0 + 1) 0 0 vl td _ _ ls (by first | with_reducible assumption | omega) (by first | with_reducible assumption | omega) (by rfl) (by exact fun _ => ⟨rfl, rfl⟩) (by intro y hy; omega) (by omega) hP hD hS (lv_sub hl [1] rfl)

theorem in_X6_firstError_ok_X6 : ∀ w ∈ wsX60, w ∈ wsX6_firstError := by decide +kernel
theorem fl_X6_firstError_ok_25 : Cond.fieldLink RX6 25 "FountainCuesModel" "thrown" "I" ∈ wsX6_firstError := by decide +kernel
theorem fl_X6_firstError_ok_111 : Cond.fieldLink RX6 111 "FountainCuesModel" "typed" "I" ∈ wsX6_firstError := by decide +kernel
theorem fl_X6_firstError_ok_117 : Cond.fieldLink RX6 117 "FountainCuesModel" "isFault" "Z" ∈ wsX6_firstError := by decide +kernel
theorem fl_X6_firstError_ok_114 : Cond.fieldLink RX6 114 "FountainCuesModel" "at" "I" ∈ wsX6_firstError := by decide +kernel
set_option maxHeartbeats 4000000 in
set_option maxRecDepth 100000 in
theorem k_X6_firstError_ok (l : Launch) (D : va_G) (cI cS cL : ClassId) (T : Nat) (m0 : Nat) (m1 : Nat) (m2 : Nat) (m3 : Nat) (m4 : Nat) (m5 : Nat) (k : Nat) (n : Nat) (th : Nat) (ax : Nat) (fa : Nat) (vl : Nat) (tn : Nat) (hg : Nat) (bg : Nat) (s : Nat → Nat) (h : Nat → Nat) (t : Nat → Nat → Nat) (cs : Nat → Nat) (td : Nat → Nat) (hI : sI T s) (hT : T ≤ 900000) (hk : k ≤ 6) (hn : n ≤ 60) (hcs : ∀ j, j < n → cs j < 2 ^ 30) : KM l D (TY cI cS cL) yX6_firstError wsX6_firstError ({ frames := 5, cells := 0, slots := 0, locals := 107 } : Room) [(m0, .inr (6, [.ref m1, .ref m2, .ref m3, .int (nI k), .ref m4, .int (nI n), .int (nI th), .int (nI ax), .int (nI fa), .int (nI vl), .ref m5, .int (nI tn), .int (nI hg), .int (nI bg)])), (m1, .inl (cI, 118, .inl (ro 118 s))), (m2, .inl (cI, 118, .inl (ro 118 h))), (m3, .inl (cI, 708, .inl (ro 708 (pkF t)))), (m4, .inl (cI, 60, .inl (ro 60 cs))), (m5, .inl (cI, 48, .inl (ro 48 td)))] [.ref m0] (fun (v : Option Value) (u : Nat → Nat → Nat) => (u 0 0 ≤ n) ∧ (∀ j, j ≤ u 0 0 → runS cs j ≠ 8) ∧ (u 0 0 < n → runS cs (u 0 0 + 1) = 8) ∧ v = some (.int (nI (u 0 0)))) (fun (u : Nat → Nat → Nat) => [(m0, .inr (6, [.ref m1, .ref m2, .ref m3, .int (nI k), .ref m4, .int (nI n), .int (nI 0), .int (nI (u 0 1)), .int (nI (u 0 3)), .int (nI (u 0 2)), .ref m5, .int (nI (u 0 4)), .int (nI hg), .int (nI bg)])), (m1, .inl (cI, 118, .inl (ro 118 s))), (m2, .inl (cI, 118, .inl (ro 118 h))), (m3, .inl (cI, 708, .inl (ro 708 (pkF t)))), (m4, .inl (cI, 60, .inl (ro 60 cs))), (m5, .inl (cI, 48, .inl (ro 48 (u 1))))]) := by
  refine KM.of (cc := cX6_firstError) (maxL := 2) (ret := (some .int)) (by decide) rfl (Nat.le_of_ble_eq_true rfl) ?_
  intro p9 e9 s9 m9 ar9 be9 me9 c9 Q9 A9 ls C0 hN hnm hlk hK hA hret hP hD hS hl
  obtain ⟨hx, hb, hml, hown, hts⟩ := id C0
  have hl : lv_has ls 2 [(0, .ref m0)] := hl
  obtain ⟨H, hH0⟩ : ∃ H, H = s9.heap := ⟨_, rfl⟩
  obtain ⟨locs, hlc0⟩ : ∃ z : List Loc, z = [] := ⟨_, rfl⟩
  have hP : va_P D vwCl [(m0, .inr (6, [.ref m1, .ref m2, .ref m3, .int (nI k), .ref m4, .int (nI n), .int (nI th), .int (nI ax), .int (nI fa), .int (nI vl), .ref m5, .int (nI tn), .int (nI hg), .int (nI bg)])), (m1, .inl (cI, 118, .inl (ro 118 s))), (m2, .inl (cI, 118, .inl (ro 118 h))), (m3, .inl (cI, 708, .inl (ro 708 (pkF t)))), (m4, .inl (cI, 60, .inl (ro 60 cs))), (m5, .inl (cI, 48, .inl (ro 48 td)))] H := by rw [hH0]; exact hP
  have hD : va_D A9 [(m0, .inr (6, [.ref m1, .ref m2, .ref m3, .int (nI k), .ref m4, .int (nI n), .int (nI th), .int (nI ax), .int (nI fa), .int (nI vl), .ref m5, .int (nI tn), .int (nI hg), .int (nI bg)])), (m1, .inl (cI, 118, .inl (ro 118 s))), (m2, .inl (cI, 118, .inl (ro 118 h))), (m3, .inl (cI, 708, .inl (ro 708 (pkF t)))), (m4, .inl (cI, 60, .inl (ro 60 cs))), (m5, .inl (cI, 48, .inl (ro 48 td)))] := hD
  have hS : va_S A9 s9.heap H locs := by rw [hH0, hlc0]; exact hS
  suffices hgo : W p9 l e9 ({ frames := 5, cells := 0, slots := 0, locals := 107 } : Room) s9 m9 ar9 be9 me9 c9 H locs 0 0 Q9 (F0 m9 0 ls []) by rw [hH0, hlc0] at hgo; exact hgo
  clear hH0 hlc0
  obtain ⟨hI1, hI2, hI3, hI4, hI5, hI6, hI7, hI8, hI9, hI10, hI11⟩ := id hI
  refine lv_aload_n hx hb dX6_firstError_0 rfl (lv_at hl 0 rfl) ?_
  refine lv_iconst (v := nI 0) hx hb dX6_firstError_1 (by decide +kernel) ?_
  refine va_put (D := D) (ci := 6) (v := .int (nI 0)) (ty := tyX6 6) (C := RX6) (T := TX6) (N := 14) hx hb hts in_X6_firstError_ok_X6 tyX6 tyX6_ok nmX6 hown hK hP hD hS 0 rfl rfl 6 (by decide) (hts _ fl_X6_firstError_ok_25) (fun _ h9 => h9) rfl (by decide +kernel) rfl rfl (Nat.le_of_ble_eq_true rfl) dX6_firstError_2 (fun H locs hP hD hS => ?_)
  have hP : va_P D vwCl [(m0, .inr (6, [.ref m1, .ref m2, .ref m3, .int (nI k), .ref m4, .int (nI n), .int (nI 0), .int (nI ax), .int (nI fa), .int (nI vl), .ref m5, .int (nI tn), .int (nI hg), .int (nI bg)])), (m1, .inl (cI, 118, .inl (ro 118 s))), (m2, .inl (cI, 118, .inl (ro 118 h))), (m3, .inl (cI, 708, .inl (ro 708 (pkF t)))), (m4, .inl (cI, 60, .inl (ro 60 cs))), (m5, .inl (cI, 48, .inl (ro 48 td)))] H := hP
  have hD : va_D A9 [(m0, .inr (6, [.ref m1, .ref m2, .ref m3, .int (nI k), .ref m4, .int (nI n), .int (nI 0), .int (nI ax), .int (nI fa), .int (nI vl), .ref m5, .int (nI tn), .int (nI hg), .int (nI bg)])), (m1, .inl (cI, 118, .inl (ro 118 s))), (m2, .inl (cI, 118, .inl (ro 118 h))), (m3, .inl (cI, 708, .inl (ro 708 (pkF t)))), (m4, .inl (cI, 60, .inl (ro 60 cs))), (m5, .inl (cI, 48, .inl (ro 48 td)))] := hD
  refine lv_aload_n hx hb dX6_firstError_5 rfl (lv_at hl 0 rfl) ?_
  refine KM.callV (As := []) (rest := []) C0 hN (k_X6_isText l D cI cS cL m0 m1 m2 m3 m4 m5 k n 0 ax fa vl tn hg bg cs td  (by first | with_reducible assumption | omega) (by first | with_reducible assumption | omega)) (cwV 0 hts gX6_firstError_X6_isText rfl rfl rfl (by decide +kernel) ⟨Nat.le_of_ble_eq_true rfl, Nat.le_of_ble_eq_true rfl⟩) hK hP hD hS hA [0, 4, 5] rfl (by decide) (fun _ => rfl) 0 6 rfl rfl rfl rfl hl.1 rfl (Nat.le_of_ble_eq_true rfl) dX6_firstError_6 ⟨Nat.le_of_ble_eq_true rfl, Nat.le_of_ble_eq_true rfl⟩ (fun v9 u9 H locs hv hP hD hS => ?_)
  obtain ⟨w, rfl⟩ : ∃ z, z = u9 := ⟨_, rfl⟩
  obtain ⟨hc_6_0, hc_6_1, hc_6_2, hv⟩ := hv
  subst hv
  have hc_6_0 : w 0 0 ≤ 1 := hc_6_0
  have hc_6_1 : w 0 0 = 0 → w 0 1 ≤ n ∧ w 0 3 = bI (w 0 1 < n) ∧ ¬ (runS cs n = 6 ∨ runS cs n = 7) ∧ runS cs (w 0 1) ≠ 8 ∧ (w 0 1 < n → runS cs (w 0 1 + 1) = 8) := hc_6_1
  have hc_6_2 : w 0 0 = 1 → (runS cs n = 6 ∨ runS cs n = 7) ∧ w 0 1 = n ∧ 5 * w 0 4 ≤ n + 1 ∧ (∀ s, foS (w 1) s (w 0 4) = allS cs s n ∧ foN (w 1) s (w 0 4) = allN cs s n) ∧ (∀ y, y < w 0 4 → w 1 (3 * y) ≤ 999 ∧ w 1 (3 * y + 1) < 8 ∧ w 1 (3 * y + 2) ≤ 10) := hc_6_2
  have hP : va_P D vwCl [(m0, .inr (6, [.ref m1, .ref m2, .ref m3, .int (nI k), .ref m4, .int (nI n), .int (nI 0), .int (nI (w 0 1)), .int (nI (w 0 3)), .int (nI (w 0 2)), .ref m5, .int (nI (w 0 4)), .int (nI hg), .int (nI bg)])), (m1, .inl (cI, 118, .inl (ro 118 s))), (m2, .inl (cI, 118, .inl (ro 118 h))), (m3, .inl (cI, 708, .inl (ro 708 (pkF t)))), (m4, .inl (cI, 60, .inl (ro 60 cs))), (m5, .inl (cI, 48, .inl (ro 48 (w 1))))] H := hP
  have hD : va_D A9 [(m0, .inr (6, [.ref m1, .ref m2, .ref m3, .int (nI k), .ref m4, .int (nI n), .int (nI 0), .int (nI (w 0 1)), .int (nI (w 0 3)), .int (nI (w 0 2)), .ref m5, .int (nI (w 0 4)), .int (nI hg), .int (nI bg)])), (m1, .inl (cI, 118, .inl (ro 118 s))), (m2, .inl (cI, 118, .inl (ro 118 h))), (m3, .inl (cI, 708, .inl (ro 708 (pkF t)))), (m4, .inl (cI, 60, .inl (ro 60 cs))), (m5, .inl (cI, 48, .inl (ro 48 (w 1))))] := hD
  refine W.eq (g2 := F0 m9 9 ls [.int (nI (w 0 0))]) rfl ?_
  refine lv_istore_n (lv' := [(1, .int (nI (w 0 0))), (0, .ref m0)]) hx hb dX6_firstError_9 rfl hl (by decide) rfl (fun ls hl => ?_)
  have hb0 := hc_6_0
  refine lv_iload_n hx hb dX6_firstError_10 rfl (lv_at hl 0 rfl) ?_
  refine q_fne (tgt := 28) (by omega) hx hb dX6_firstError_11 (by decide) (fun c_11 => ?_) (fun c_11 => ?_)
  ·
    refine lv_aload_n hx hb dX6_firstError_28 rfl (lv_at hl 1 rfl) ?_
    refine va_get (D := D) (ci := 6) (v := .int (nI n)) (C := RX6) (T := TX6) (N := 14) hx hb hts in_X6_firstError_ok_X6 hown hK hP 0 rfl rfl 5 (by decide) (hts _ fl_X6_firstError_ok_111) (fun _ h9 => h9) rfl dX6_firstError_29 ?_
    exact hret _ _ _ _ (some (.int (nI n))) (fun i9 => [(fun j9 => [n, w 0 1, w 0 2, w 0 3, w 0 4].getD j9 0), w 1].getD i9 (fun _ => 0)) 32 ls (by decide) (by decide) (by first | (rw [z2] at c_18; exact ⟨z1, fun j hj => runS_ok z4 hj, z5, rfl⟩) | (have e9 : w 0 1 = n := er_n (z2.symm.trans c_18) z1; exact ⟨Nat.le_refl n, fun j hj => runS_ok (n := n) (by rw [← e9]; exact z4) hj, fun h9 => absurd (show n < n from h9) (Nat.lt_irrefl n), rfl⟩) | (obtain ⟨z1, z2, z3, z4⟩ := hc_6_2 (by omega); exact ⟨Nat.le_refl n, fun j hj => runS_ok (n := n) (by omega) hj, fun h9 => absurd (show n < n from h9) (Nat.lt_irrefl n), rfl⟩)) hP hD hS (ret_i dX6_firstError_32)
  ·
    obtain ⟨z1, z2, z3, z4, z5⟩ := hc_6_1 (by omega)
    have hb3 : w 0 3 ≤ 1 := by rw [z2]; exact bI_le
    refine lv_aload_n hx hb dX6_firstError_14 rfl (lv_at hl 1 rfl) ?_
    refine va_get (D := D) (ci := 6) (v := .int (nI (w 0 3))) (C := RX6) (T := TX6) (N := 14) hx hb hts in_X6_firstError_ok_X6 hown hK hP 0 rfl rfl 8 (by decide) (hts _ fl_X6_firstError_ok_117) (fun _ h9 => h9) rfl dX6_firstError_15 ?_
    refine q_feq (tgt := 28) (by omega) hx hb dX6_firstError_18 (by decide) (fun c_18 => ?_) (fun c_18 => ?_)
    ·
      refine lv_aload_n hx hb dX6_firstError_28 rfl (lv_at hl 1 rfl) ?_
      refine va_get (D := D) (ci := 6) (v := .int (nI n)) (C := RX6) (T := TX6) (N := 14) hx hb hts in_X6_firstError_ok_X6 hown hK hP 0 rfl rfl 5 (by decide) (hts _ fl_X6_firstError_ok_111) (fun _ h9 => h9) rfl dX6_firstError_29 ?_
      exact hret _ _ _ _ (some (.int (nI n))) (fun i9 => [(fun j9 => [n, w 0 1, w 0 2, w 0 3, w 0 4].getD j9 0), w 1].getD i9 (fun _ => 0)) 32 ls (by decide) (by decide) (by first | (rw [z2] at c_18; exact ⟨z1, fun j hj => runS_ok z4 hj, z5, rfl⟩) | (have e9 : w 0 1 = n := er_n (z2.symm.trans c_18) z1; exact ⟨Nat.le_refl n, fun j hj => runS_ok (n := n) (by rw [← e9]; exact z4) hj, fun h9 => absurd (show n < n from h9) (Nat.lt_irrefl n), rfl⟩) | (obtain ⟨z1, z2, z3, z4⟩ := hc_6_2 (by omega); exact ⟨Nat.le_refl n, fun j hj => runS_ok (n := n) (by omega) hj, fun h9 => absurd (show n < n from h9) (Nat.lt_irrefl n), rfl⟩)) hP hD hS (ret_i dX6_firstError_32)
    ·
      refine lv_aload_n hx hb dX6_firstError_21 rfl (lv_at hl 1 rfl) ?_
      refine va_get (D := D) (ci := 6) (v := .int (nI (w 0 1))) (C := RX6) (T := TX6) (N := 14) hx hb hts in_X6_firstError_ok_X6 hown hK hP 0 rfl rfl 7 (by decide) (hts _ fl_X6_firstError_ok_114) (fun _ h9 => h9) rfl dX6_firstError_22 ?_
      refine lv_goto (tgt := 32) hx hb dX6_firstError_25 (by decide) ?_
      exact hret _ _ _ _ (some (.int (nI (w 0 1)))) (fun i9 => [(fun j9 => [w 0 1, w 0 1, w 0 2, w 0 3, w 0 4].getD j9 0), w 1].getD i9 (fun _ => 0)) 32 ls (by decide) (by decide) (by first | (rw [z2] at c_18; exact ⟨z1, fun j hj => runS_ok z4 hj, z5, rfl⟩) | (have e9 : w 0 1 = n := er_n (z2.symm.trans c_18) z1; exact ⟨Nat.le_refl n, fun j hj => runS_ok (n := n) (by rw [← e9]; exact z4) hj, fun h9 => absurd (show n < n from h9) (Nat.lt_irrefl n), rfl⟩) | (obtain ⟨z1, z2, z3, z4⟩ := hc_6_2 (by omega); exact ⟨Nat.le_refl n, fun j hj => runS_ok (n := n) (by omega) hj, fun h9 => absurd (show n < n from h9) (Nat.lt_irrefl n), rfl⟩)) hP hD hS (ret_i dX6_firstError_32)

theorem in_X6_cueAll_ok_X6 : ∀ w ∈ wsX60, w ∈ wsX6_cueAll := by decide +kernel
theorem fl_X6_cueAll_ok_25 : Cond.fieldLink RX6 25 "FountainCuesModel" "thrown" "I" ∈ wsX6_cueAll := by decide +kernel
theorem fl_X6_cueAll_ok_111 : Cond.fieldLink RX6 111 "FountainCuesModel" "typed" "I" ∈ wsX6_cueAll := by decide +kernel
theorem fl_X6_cueAll_ok_131 : Cond.fieldLink RX6 131 "FountainCuesModel" "tolds" "I" ∈ wsX6_cueAll := by decide +kernel
theorem fl_X6_cueAll_ok_22 : Cond.fieldLink RX6 22 "FountainCuesModel" "told" "[I" ∈ wsX6_cueAll := by decide +kernel
set_option maxHeartbeats 4000000 in
set_option maxRecDepth 100000 in
theorem k_X6_cueAll_ok (l : Launch) (D : va_G) (cI cS cL : ClassId) (T : Nat) (m0 : Nat) (m1 : Nat) (m2 : Nat) (m3 : Nat) (m4 : Nat) (m5 : Nat) (k : Nat) (n : Nat) (th : Nat) (ax : Nat) (fa : Nat) (vl : Nat) (tn : Nat) (hg : Nat) (bg : Nat) (s : Nat → Nat) (h : Nat → Nat) (t : Nat → Nat → Nat) (cs : Nat → Nat) (td : Nat → Nat) (hI : sI T s) (hT : T ≤ 900000) (hk : k ≤ 6) (hn : n ≤ 60) (hcs : ∀ j, j < n → cs j < 2 ^ 30) (hok : runS cs n = 6 ∨ runS cs n = 7) : KM l D (TY cI cS cL) yX6_cueAll wsX6_cueAll ({ frames := 5, cells := 0, slots := 0, locals := 107 } : Room) [(m0, .inr (6, [.ref m1, .ref m2, .ref m3, .int (nI k), .ref m4, .int (nI n), .int (nI th), .int (nI ax), .int (nI fa), .int (nI vl), .ref m5, .int (nI tn), .int (nI hg), .int (nI bg)])), (m1, .inl (cI, 118, .inl (ro 118 s))), (m2, .inl (cI, 118, .inl (ro 118 h))), (m3, .inl (cI, 708, .inl (ro 708 (pkF t)))), (m4, .inl (cI, 60, .inl (ro 60 cs))), (m5, .inl (cI, 48, .inl (ro 48 td)))] [.ref m0] (fun (v : Option Value) (u : Nat → Nat → Nat) => v = some (.int (nI (allN cs s n)))) (fun (u : Nat → Nat → Nat) => [(m0, .inr (6, [.ref m1, .ref m2, .ref m3, .int (nI (kpK k)), .ref m4, .int (nI 0), .int (nI 0), .int (nI (u 0 1)), .int (nI (u 0 3)), .int (nI (u 0 2)), .ref m5, .int (nI (u 0 4)), .int (nI hg), .int (nI bg)])), (m1, .inl (cI, 118, .inl (ro 118 (allS cs s n)))), (m2, .inl (cI, 118, .inl (ro 118 h))), (m3, .inl (cI, 708, .inl (ro 708 (pkF (kpT k t s))))), (m4, .inl (cI, 60, .inl (ro 60 cs))), (m5, .inl (cI, 48, .inl (ro 48 (u 1))))]) := by
  refine KM.of (cc := cX6_cueAll) (maxL := 6) (ret := (some .int)) (by decide) rfl (Nat.le_of_ble_eq_true rfl) ?_
  intro p9 e9 s9 m9 ar9 be9 me9 c9 Q9 A9 ls C0 hN hnm hlk hK hA hret hP hD hS hl
  obtain ⟨hx, hb, hml, hown, hts⟩ := id C0
  have hl : lv_has ls 6 [(0, .ref m0)] := hl
  obtain ⟨H, hH0⟩ : ∃ H, H = s9.heap := ⟨_, rfl⟩
  obtain ⟨locs, hlc0⟩ : ∃ z : List Loc, z = [] := ⟨_, rfl⟩
  have hP : va_P D vwCl [(m0, .inr (6, [.ref m1, .ref m2, .ref m3, .int (nI k), .ref m4, .int (nI n), .int (nI th), .int (nI ax), .int (nI fa), .int (nI vl), .ref m5, .int (nI tn), .int (nI hg), .int (nI bg)])), (m1, .inl (cI, 118, .inl (ro 118 s))), (m2, .inl (cI, 118, .inl (ro 118 h))), (m3, .inl (cI, 708, .inl (ro 708 (pkF t)))), (m4, .inl (cI, 60, .inl (ro 60 cs))), (m5, .inl (cI, 48, .inl (ro 48 td)))] H := by rw [hH0]; exact hP
  have hD : va_D A9 [(m0, .inr (6, [.ref m1, .ref m2, .ref m3, .int (nI k), .ref m4, .int (nI n), .int (nI th), .int (nI ax), .int (nI fa), .int (nI vl), .ref m5, .int (nI tn), .int (nI hg), .int (nI bg)])), (m1, .inl (cI, 118, .inl (ro 118 s))), (m2, .inl (cI, 118, .inl (ro 118 h))), (m3, .inl (cI, 708, .inl (ro 708 (pkF t)))), (m4, .inl (cI, 60, .inl (ro 60 cs))), (m5, .inl (cI, 48, .inl (ro 48 td)))] := hD
  have hS : va_S A9 s9.heap H locs := by rw [hH0, hlc0]; exact hS
  suffices hgo : W p9 l e9 ({ frames := 5, cells := 0, slots := 0, locals := 107 } : Room) s9 m9 ar9 be9 me9 c9 H locs 0 0 Q9 (F0 m9 0 ls []) by rw [hH0, hlc0] at hgo; exact hgo
  clear hH0 hlc0
  obtain ⟨hI1, hI2, hI3, hI4, hI5, hI6, hI7, hI8, hI9, hI10, hI11⟩ := id hI
  refine lv_aload_n hx hb dX6_cueAll_0 rfl (lv_at hl 0 rfl) ?_
  refine lv_iconst (v := nI 0) hx hb dX6_cueAll_1 (by decide +kernel) ?_
  refine va_put (D := D) (ci := 6) (v := .int (nI 0)) (ty := tyX6 6) (C := RX6) (T := TX6) (N := 14) hx hb hts in_X6_cueAll_ok_X6 tyX6 tyX6_ok nmX6 hown hK hP hD hS 0 rfl rfl 6 (by decide) (hts _ fl_X6_cueAll_ok_25) (fun _ h9 => h9) rfl (by decide +kernel) rfl rfl (Nat.le_of_ble_eq_true rfl) dX6_cueAll_2 (fun H locs hP hD hS => ?_)
  have hP : va_P D vwCl [(m0, .inr (6, [.ref m1, .ref m2, .ref m3, .int (nI k), .ref m4, .int (nI n), .int (nI 0), .int (nI ax), .int (nI fa), .int (nI vl), .ref m5, .int (nI tn), .int (nI hg), .int (nI bg)])), (m1, .inl (cI, 118, .inl (ro 118 s))), (m2, .inl (cI, 118, .inl (ro 118 h))), (m3, .inl (cI, 708, .inl (ro 708 (pkF t)))), (m4, .inl (cI, 60, .inl (ro 60 cs))), (m5, .inl (cI, 48, .inl (ro 48 td)))] H := hP
  have hD : va_D A9 [(m0, .inr (6, [.ref m1, .ref m2, .ref m3, .int (nI k), .ref m4, .int (nI n), .int (nI 0), .int (nI ax), .int (nI fa), .int (nI vl), .ref m5, .int (nI tn), .int (nI hg), .int (nI bg)])), (m1, .inl (cI, 118, .inl (ro 118 s))), (m2, .inl (cI, 118, .inl (ro 118 h))), (m3, .inl (cI, 708, .inl (ro 708 (pkF t)))), (m4, .inl (cI, 60, .inl (ro 60 cs))), (m5, .inl (cI, 48, .inl (ro 48 td)))] := hD
  refine lv_aload_n hx hb dX6_cueAll_5 rfl (lv_at hl 0 rfl) ?_
  refine KM.callV (As := []) (rest := []) C0 hN (k_X6_isText l D cI cS cL m0 m1 m2 m3 m4 m5 k n 0 ax fa vl tn hg bg cs td  (by first | with_reducible assumption | omega) (by first | with_reducible assumption | omega)) (cwV 0 hts gX6_cueAll_X6_isText rfl rfl rfl (by decide +kernel) ⟨Nat.le_of_ble_eq_true rfl, Nat.le_of_ble_eq_true rfl⟩) hK hP hD hS hA [0, 4, 5] rfl (by decide) (fun _ => rfl) 0 6 rfl rfl rfl rfl hl.1 rfl (Nat.le_of_ble_eq_true rfl) dX6_cueAll_6 ⟨Nat.le_of_ble_eq_true rfl, Nat.le_of_ble_eq_true rfl⟩ (fun v9 u9 H locs hv hP hD hS => ?_)
  obtain ⟨w, rfl⟩ : ∃ z, z = u9 := ⟨_, rfl⟩
  obtain ⟨hc_6_0, hc_6_1, hc_6_2, hv⟩ := hv
  subst hv
  have hc_6_0 : w 0 0 ≤ 1 := hc_6_0
  have hc_6_1 : w 0 0 = 0 → w 0 1 ≤ n ∧ w 0 3 = bI (w 0 1 < n) ∧ ¬ (runS cs n = 6 ∨ runS cs n = 7) ∧ runS cs (w 0 1) ≠ 8 ∧ (w 0 1 < n → runS cs (w 0 1 + 1) = 8) := hc_6_1
  have hc_6_2 : w 0 0 = 1 → (runS cs n = 6 ∨ runS cs n = 7) ∧ w 0 1 = n ∧ 5 * w 0 4 ≤ n + 1 ∧ (∀ s, foS (w 1) s (w 0 4) = allS cs s n ∧ foN (w 1) s (w 0 4) = allN cs s n) ∧ (∀ y, y < w 0 4 → w 1 (3 * y) ≤ 999 ∧ w 1 (3 * y + 1) < 8 ∧ w 1 (3 * y + 2) ≤ 10) := hc_6_2
  have hP : va_P D vwCl [(m0, .inr (6, [.ref m1, .ref m2, .ref m3, .int (nI k), .ref m4, .int (nI n), .int (nI 0), .int (nI (w 0 1)), .int (nI (w 0 3)), .int (nI (w 0 2)), .ref m5, .int (nI (w 0 4)), .int (nI hg), .int (nI bg)])), (m1, .inl (cI, 118, .inl (ro 118 s))), (m2, .inl (cI, 118, .inl (ro 118 h))), (m3, .inl (cI, 708, .inl (ro 708 (pkF t)))), (m4, .inl (cI, 60, .inl (ro 60 cs))), (m5, .inl (cI, 48, .inl (ro 48 (w 1))))] H := hP
  have hD : va_D A9 [(m0, .inr (6, [.ref m1, .ref m2, .ref m3, .int (nI k), .ref m4, .int (nI n), .int (nI 0), .int (nI (w 0 1)), .int (nI (w 0 3)), .int (nI (w 0 2)), .ref m5, .int (nI (w 0 4)), .int (nI hg), .int (nI bg)])), (m1, .inl (cI, 118, .inl (ro 118 s))), (m2, .inl (cI, 118, .inl (ro 118 h))), (m3, .inl (cI, 708, .inl (ro 708 (pkF t)))), (m4, .inl (cI, 60, .inl (ro 60 cs))), (m5, .inl (cI, 48, .inl (ro 48 (w 1))))] := hD
  refine W.eq (g2 := F0 m9 9 ls [.int (nI (w 0 0))]) rfl ?_
  have hb0 := hc_6_0
  have hb1 : ¬ w 0 0 = 0 := fun h9 => (hc_6_1 h9).2.2.1 hok
  refine q_fne (tgt := 18) (by omega) hx hb dX6_cueAll_9 (by decide) (fun c_9 => ?_) (fun c_9 => ?_)
  ·
    obtain ⟨hz1, hz2, hz3, hz4, hz5⟩ := hc_6_2 (by omega)
    refine lv_aload_n hx hb dX6_cueAll_18 rfl (lv_at hl 0 rfl) ?_
    refine KM.callV (As := []) (rest := []) C0 hN (k_X6_saves l D cI cS cL m0 m1 m2 m3 m4 m5 k n 0 (w 0 1) (w 0 3) (w 0 2) (w 0 4) hg bg s t  (by first | with_reducible assumption | omega)) (cwV 0 hts gX6_cueAll_X6_saves rfl rfl rfl (by decide +kernel) ⟨Nat.le_of_ble_eq_true rfl, Nat.le_of_ble_eq_true rfl⟩) hK hP hD hS hA [0, 1, 3] rfl (by decide) (fun _ => rfl) 0 6 rfl rfl rfl rfl hl.1 rfl (Nat.le_of_ble_eq_true rfl) dX6_cueAll_19 ⟨Nat.le_of_ble_eq_true rfl, Nat.le_of_ble_eq_true rfl⟩ (fun v9 u9 H locs hv hP hD hS => ?_)
    subst hv
    have hP : va_P D vwCl [(m0, .inr (6, [.ref m1, .ref m2, .ref m3, .int (nI (kpK k)), .ref m4, .int (nI n), .int (nI 0), .int (nI (w 0 1)), .int (nI (w 0 3)), .int (nI (w 0 2)), .ref m5, .int (nI (w 0 4)), .int (nI hg), .int (nI bg)])), (m1, .inl (cI, 118, .inl (ro 118 s))), (m2, .inl (cI, 118, .inl (ro 118 h))), (m3, .inl (cI, 708, .inl (ro 708 (pkF (kpT k t s))))), (m4, .inl (cI, 60, .inl (ro 60 cs))), (m5, .inl (cI, 48, .inl (ro 48 (w 1))))] H := hP
    have hD : va_D A9 [(m0, .inr (6, [.ref m1, .ref m2, .ref m3, .int (nI (kpK k)), .ref m4, .int (nI n), .int (nI 0), .int (nI (w 0 1)), .int (nI (w 0 3)), .int (nI (w 0 2)), .ref m5, .int (nI (w 0 4)), .int (nI hg), .int (nI bg)])), (m1, .inl (cI, 118, .inl (ro 118 s))), (m2, .inl (cI, 118, .inl (ro 118 h))), (m3, .inl (cI, 708, .inl (ro 708 (pkF (kpT k t s))))), (m4, .inl (cI, 60, .inl (ro 60 cs))), (m5, .inl (cI, 48, .inl (ro 48 (w 1))))] := hD
    refine W.eq (g2 := F0 m9 22 ls []) rfl ?_
    refine lv_aload_n hx hb dX6_cueAll_22 rfl (lv_at hl 0 rfl) ?_
    refine lv_iconst (v := nI 0) hx hb dX6_cueAll_23 (by decide +kernel) ?_
    refine va_put (D := D) (ci := 6) (v := .int (nI 0)) (ty := tyX6 5) (C := RX6) (T := TX6) (N := 14) hx hb hts in_X6_cueAll_ok_X6 tyX6 tyX6_ok nmX6 hown hK hP hD hS 0 rfl rfl 5 (by decide) (hts _ fl_X6_cueAll_ok_111) (fun _ h9 => h9) rfl (by decide +kernel) rfl rfl (Nat.le_of_ble_eq_true rfl) dX6_cueAll_24 (fun H locs hP hD hS => ?_)
    have hP : va_P D vwCl [(m0, .inr (6, [.ref m1, .ref m2, .ref m3, .int (nI (kpK k)), .ref m4, .int (nI 0), .int (nI 0), .int (nI (w 0 1)), .int (nI (w 0 3)), .int (nI (w 0 2)), .ref m5, .int (nI (w 0 4)), .int (nI hg), .int (nI bg)])), (m1, .inl (cI, 118, .inl (ro 118 s))), (m2, .inl (cI, 118, .inl (ro 118 h))), (m3, .inl (cI, 708, .inl (ro 708 (pkF (kpT k t s))))), (m4, .inl (cI, 60, .inl (ro 60 cs))), (m5, .inl (cI, 48, .inl (ro 48 (w 1))))] H := hP
    have hD : va_D A9 [(m0, .inr (6, [.ref m1, .ref m2, .ref m3, .int (nI (kpK k)), .ref m4, .int (nI 0), .int (nI 0), .int (nI (w 0 1)), .int (nI (w 0 3)), .int (nI (w 0 2)), .ref m5, .int (nI (w 0 4)), .int (nI hg), .int (nI bg)])), (m1, .inl (cI, 118, .inl (ro 118 s))), (m2, .inl (cI, 118, .inl (ro 118 h))), (m3, .inl (cI, 708, .inl (ro 708 (pkF (kpT k t s))))), (m4, .inl (cI, 60, .inl (ro 60 cs))), (m5, .inl (cI, 48, .inl (ro 48 (w 1))))] := hD
    refine lv_iconst (v := nI 0) hx hb dX6_cueAll_27 (by decide +kernel) ?_
    refine q_topi (y := (nI (foN (w 1) s 0))) (by rfl) ?_
    refine lv_istore_n (lv' := [(1, .int (nI (foN (w 1) s 0))), (0, .ref m0)]) hx hb dX6_cueAll_28 rfl hl (by decide) rfl (fun ls hl => ?_)
    have er_1 : ro 118 s = ro 118 (foS (w 1) s 0) := by rfl
    rw [er_1] at hP hD
    refine lv_iconst (v := nI 0) hx hb dX6_cueAll_29 (by decide +kernel) ?_
    refine lv_istore_n (lv' := [(2, .int (nI 0)), (1, .int (nI (foN (w 1) s 0))), (0, .ref m0)]) hx hb dX6_cueAll_30 rfl hl (by decide) rfl (fun ls hl => ?_)
    have L31 : ∀ (fuel : Nat) (i : Nat) (H : Heap) (locs : List Loc) (ls : Array Slot), (i ≤ w 0 4) → (w 0 4 - i < fuel) → va_P D vwCl [(m0, .inr (6, [.ref m1, .ref m2, .ref m3, .int (nI (kpK k)), .ref m4, .int (nI 0), .int (nI 0), .int (nI (w 0 1)), .int (nI (w 0 3)), .int (nI (w 0 2)), .ref m5, .int (nI (w 0 4)), .int (nI hg), .int (nI bg)])), (m1, .inl (cI, 118, .inl (ro 118 (foS (w 1) s i)))), (m2, .inl (cI, 118, .inl (ro 118 h))), (m3, .inl (cI, 708, .inl (ro 708 (pkF (kpT k t s))))), (m4, .inl (cI, 60, .inl (ro 60 cs))), (m5, .inl (cI, 48, .inl (ro 48 (w 1))))] H → va_D A9 [(m0, .inr (6, [.ref m1, .ref m2, .ref m3, .int (nI (kpK k)), .ref m4, .int (nI 0), .int (nI 0), .int (nI (w 0 1)), .int (nI (w 0 3)), .int (nI (w 0 2)), .ref m5, .int (nI (w 0 4)), .int (nI hg), .int (nI bg)])), (m1, .inl (cI, 118, .inl (ro 118 (foS (w 1) s i)))), (m2, .inl (cI, 118, .inl (ro 118 h))), (m3, .inl (cI, 708, .inl (ro 708 (pkF (kpT k t s))))), (m4, .inl (cI, 60, .inl (ro 60 cs))), (m5, .inl (cI, 48, .inl (ro 48 (w 1))))] → va_S A9 s9.heap H locs → lv_has ls 6 [(0, .ref m0), (1, .int (nI (foN (w 1) s i))), (2, .int (nI i))] → W p9 l e9 ({ frames := 5, cells := 0, slots := 0, locals := 107 } : Room) s9 m9 ar9 be9 me9 c9 H locs 0 0 Q9 (F0 m9 31 ls []) := by
      intro fuel
      induction fuel with
      | zero => intro i H locs ls hi hfu; exact absurd hfu (Nat.not_lt_zero _)
      | succ fuel ih31 =>
        intro i H locs ls hi hfu hP hD hS hl
        have hIi := sI_fo hI i (fun y hy => hz5 y (by omega))
        refine lv_iload_n hx hb dX6_cueAll_31 rfl (lv_at hl 2 rfl) ?_
        refine lv_aload_n hx hb dX6_cueAll_32 rfl (lv_at hl 0 rfl) ?_
        refine va_get (D := D) (ci := 6) (v := .int (nI (w 0 4))) (C := RX6) (T := TX6) (N := 14) hx hb hts in_X6_cueAll_ok_X6 hown hK hP 0 rfl rfl 11 (by decide) (hts _ fl_X6_cueAll_ok_131) (fun _ h9 => h9) rfl dX6_cueAll_33 ?_
        refine q_ige (tgt := 103) (by omega) (by omega) hx hb dX6_cueAll_36 (by decide) (fun c_36 => ?_) (fun c_36 => ?_)
        ·
          have hiw : i = w 0 4 := by omega
          have hf1 : foS (w 1) s i = allS cs s n := by rw [hiw]; exact (hz4 s).1
          have hf2 : foN (w 1) s i = allN cs s n := by rw [hiw]; exact (hz4 s).2
          rw [hf1] at hP hD
          refine lv_iload_n hx hb dX6_cueAll_103 rfl (lv_at hl 1 rfl) ?_
          have hP : va_P D vwCl [(m0, .inr (6, [.ref m1, .ref m2, .ref m3, .int (nI (kpK k)), .ref m4, .int (nI 0), .int (nI 0), .int (nI (w 0 1)), .int (nI (w 0 3)), .int (nI (w 0 2)), .ref m5, .int (nI (w 0 4)), .int (nI hg), .int (nI bg)])), (m1, .inl (cI, 118, .inl (ro 118 (allS cs s n)))), (m2, .inl (cI, 118, .inl (ro 118 h))), (m3, .inl (cI, 708, .inl (ro 708 (pkF (kpT k t s))))), (m4, .inl (cI, 60, .inl (ro 60 cs))), (m5, .inl (cI, 48, .inl (ro 48 (w 1))))] H := hP
          have hD : va_D A9 [(m0, .inr (6, [.ref m1, .ref m2, .ref m3, .int (nI (kpK k)), .ref m4, .int (nI 0), .int (nI 0), .int (nI (w 0 1)), .int (nI (w 0 3)), .int (nI (w 0 2)), .ref m5, .int (nI (w 0 4)), .int (nI hg), .int (nI bg)])), (m1, .inl (cI, 118, .inl (ro 118 (allS cs s n)))), (m2, .inl (cI, 118, .inl (ro 118 h))), (m3, .inl (cI, 708, .inl (ro 708 (pkF (kpT k t s))))), (m4, .inl (cI, 60, .inl (ro 60 cs))), (m5, .inl (cI, 48, .inl (ro 48 (w 1))))] := hD
          exact hret _ _ _ _ (some (.int (nI (foN (w 1) s i)))) (fun i9 => [(fun j9 => [0, w 0 1, w 0 2, w 0 3, w 0 4].getD j9 0), w 1].getD i9 (fun _ => 0)) 104 ls (by decide) (by decide) (by exact rv hf2) hP hD hS (ret_i dX6_cueAll_104)
        ·
          refine lv_aload_n hx hb dX6_cueAll_39 rfl (lv_at hl 0 rfl) ?_
          refine va_get (D := D) (ci := 6) (v := .ref m5) (C := RX6) (T := TX6) (N := 14) hx hb hts in_X6_cueAll_ok_X6 hown hK hP 0 rfl rfl 10 (by decide) (hts _ fl_X6_cueAll_ok_22) (fun _ h9 => h9) rfl dX6_cueAll_40 ?_
          refine lv_iconst (v := nI 3) hx hb dX6_cueAll_43 (by decide +kernel) ?_
          refine lv_iload_n hx hb dX6_cueAll_44 rfl (lv_at hl 2 rfl) ?_
          refine q_imul hx hb dX6_cueAll_45 ?_
          obtain ⟨hy1, hy2, hy3⟩ := hz5 i (by omega)
          refine q_iald 5 0 (by omega) (by omega) hx hb hK hP rfl rfl dX6_cueAll_46 ?_
          refine lv_istore_n (lv' := [(3, .int (nI ((w 1) (3 * i)))), (0, .ref m0), (1, .int (nI (foN (w 1) s i))), (2, .int (nI i))]) hx hb dX6_cueAll_47 rfl hl (by decide) rfl (fun ls hl => ?_)
          refine lv_aload_n hx hb dX6_cueAll_48 rfl (lv_at hl 1 rfl) ?_
          refine va_get (D := D) (ci := 6) (v := .ref m5) (C := RX6) (T := TX6) (N := 14) hx hb hts in_X6_cueAll_ok_X6 hown hK hP 0 rfl rfl 10 (by decide) (hts _ fl_X6_cueAll_ok_22) (fun _ h9 => h9) rfl dX6_cueAll_49 ?_
          refine lv_iconst (v := nI 3) hx hb dX6_cueAll_52 (by decide +kernel) ?_
          refine lv_iload_n hx hb dX6_cueAll_53 rfl (lv_at hl 3 rfl) ?_
          refine q_imul hx hb dX6_cueAll_54 ?_
          refine lv_iconst (v := nI 1) hx hb dX6_cueAll_55 (by decide +kernel) ?_
          refine q_iadd hx hb dX6_cueAll_56 ?_
          refine q_iald 5 0 (by omega) (by omega) hx hb hK hP rfl rfl dX6_cueAll_57 ?_
          refine lv_istore (lv' := [(4, .int (nI ((w 1) ((3 * i) + 1)))), (3, .int (nI ((w 1) (3 * i)))), (0, .ref m0), (1, .int (nI (foN (w 1) s i))), (2, .int (nI i))]) hx hb dX6_cueAll_58 hl (by decide) rfl (fun ls hl => ?_)
          refine lv_aload_n hx hb dX6_cueAll_60 rfl (lv_at hl 2 rfl) ?_
          refine va_get (D := D) (ci := 6) (v := .ref m5) (C := RX6) (T := TX6) (N := 14) hx hb hts in_X6_cueAll_ok_X6 hown hK hP 0 rfl rfl 10 (by decide) (hts _ fl_X6_cueAll_ok_22) (fun _ h9 => h9) rfl dX6_cueAll_61 ?_
          refine lv_iconst (v := nI 3) hx hb dX6_cueAll_64 (by decide +kernel) ?_
          refine lv_iload_n hx hb dX6_cueAll_65 rfl (lv_at hl 4 rfl) ?_
          refine q_imul hx hb dX6_cueAll_66 ?_
          refine lv_iconst (v := nI 2) hx hb dX6_cueAll_67 (by decide +kernel) ?_
          refine q_iadd hx hb dX6_cueAll_68 ?_
          refine q_iald 5 0 (by omega) (by omega) hx hb hK hP rfl rfl dX6_cueAll_69 ?_
          refine lv_istore (lv' := [(5, .int (nI ((w 1) ((3 * i) + 2)))), (4, .int (nI ((w 1) ((3 * i) + 1)))), (3, .int (nI ((w 1) (3 * i)))), (0, .ref m0), (1, .int (nI (foN (w 1) s i))), (2, .int (nI i))]) hx hb dX6_cueAll_70 hl (by decide) rfl (fun ls hl => ?_)
          refine lv_aload_n hx hb dX6_cueAll_72 rfl (lv_at hl 3 rfl) ?_
          refine lv_iload_n hx hb dX6_cueAll_73 rfl (lv_at hl 2 rfl) ?_
          refine lv_iload hx hb dX6_cueAll_74 (lv_at hl 1 rfl) ?_
          refine lv_iload hx hb dX6_cueAll_76 (lv_at hl 0 rfl) ?_
          refine KM.callV (As := [.int (nI ((w 1) (3 * i))), .int (nI ((w 1) ((3 * i) + 1))), .int (nI ((w 1) ((3 * i) + 2)))]) (rest := []) C0 hN (k_X6_reason l D cI cS cL (T + i) m0 m1 m2 m3 m4 m5 (kpK k) 0 0 (w 0 1) (w 0 3) (w 0 2) (w 0 4) hg bg (foS (w 1) s i) ((w 1) (3 * i)) ((w 1) ((3 * i) + 1)) ((w 1) ((3 * i) + 2))  (by exact hIi) (by omega) (by first | with_reducible assumption | omega) (by first | with_reducible assumption | omega) (by first | with_reducible assumption | omega)) (cwV 3 hts gX6_cueAll_X6_reason rfl rfl rfl (by decide +kernel) ⟨Nat.le_of_ble_eq_true rfl, Nat.le_of_ble_eq_true rfl⟩) hK hP hD hS hA [0, 1] rfl (by decide) (fun _ => rfl) 0 6 rfl rfl rfl rfl hl.1 rfl (Nat.le_of_ble_eq_true rfl) dX6_cueAll_78 ⟨Nat.le_of_ble_eq_true rfl, Nat.le_of_ble_eq_true rfl⟩ (fun v9 u9 H locs hv hP hD hS => ?_)
          subst hv
          have hP : va_P D vwCl [(m0, .inr (6, [.ref m1, .ref m2, .ref m3, .int (nI (kpK k)), .ref m4, .int (nI 0), .int (nI 0), .int (nI (w 0 1)), .int (nI (w 0 3)), .int (nI (w 0 2)), .ref m5, .int (nI (w 0 4)), .int (nI hg), .int (nI bg)])), (m1, .inl (cI, 118, .inl (ro 118 (foS (w 1) s i)))), (m2, .inl (cI, 118, .inl (ro 118 h))), (m3, .inl (cI, 708, .inl (ro 708 (pkF (kpT k t s))))), (m4, .inl (cI, 60, .inl (ro 60 cs))), (m5, .inl (cI, 48, .inl (ro 48 (w 1))))] H := hP
          have hD : va_D A9 [(m0, .inr (6, [.ref m1, .ref m2, .ref m3, .int (nI (kpK k)), .ref m4, .int (nI 0), .int (nI 0), .int (nI (w 0 1)), .int (nI (w 0 3)), .int (nI (w 0 2)), .ref m5, .int (nI (w 0 4)), .int (nI hg), .int (nI bg)])), (m1, .inl (cI, 118, .inl (ro 118 (foS (w 1) s i)))), (m2, .inl (cI, 118, .inl (ro 118 h))), (m3, .inl (cI, 708, .inl (ro 708 (pkF (kpT k t s))))), (m4, .inl (cI, 60, .inl (ro 60 cs))), (m5, .inl (cI, 48, .inl (ro 48 (w 1))))] := hD
          refine W.eq (g2 := F0 m9 81 ls [.int (nI (rS (foS (w 1) s i) ((w 1) (3 * i)) ((w 1) ((3 * i) + 1)) ((w 1) ((3 * i) + 2))))]) rfl ?_
          have hr8 : rS (foS (w 1) s i) (w 1 (3 * i)) (w 1 (3 * i + 1)) (w 1 (3 * i + 2)) < 2 ^ 31 := rS_lt
          refine q_fne (tgt := 97) (by omega) hx hb dX6_cueAll_81 (by decide) (fun c_81 => ?_) (fun c_81 => ?_)
          ·
            have e97 : foS (w 1) s i = foS (w 1) s (i + 1) := (if_neg c_81).symm
            rw [e97] at hP hD
            have hP : va_P D vwCl [(m0, .inr (6, [.ref m1, .ref m2, .ref m3, .int (nI (kpK k)), .ref m4, .int (nI 0), .int (nI 0), .int (nI (w 0 1)), .int (nI (w 0 3)), .int (nI (w 0 2)), .ref m5, .int (nI (w 0 4)), .int (nI hg), .int (nI bg)])), (m1, .inl (cI, 118, .inl (ro 118 (foS (w 1) s (i + 1))))), (m2, .inl (cI, 118, .inl (ro 118 h))), (m3, .inl (cI, 708, .inl (ro 708 (pkF (kpT k t s))))), (m4, .inl (cI, 60, .inl (ro 60 cs))), (m5, .inl (cI, 48, .inl (ro 48 (w 1))))] H := hP
            have hD : va_D A9 [(m0, .inr (6, [.ref m1, .ref m2, .ref m3, .int (nI (kpK k)), .ref m4, .int (nI 0), .int (nI 0), .int (nI (w 0 1)), .int (nI (w 0 3)), .int (nI (w 0 2)), .ref m5, .int (nI (w 0 4)), .int (nI hg), .int (nI bg)])), (m1, .inl (cI, 118, .inl (ro 118 (foS (w 1) s (i + 1))))), (m2, .inl (cI, 118, .inl (ro 118 h))), (m3, .inl (cI, 708, .inl (ro 708 (pkF (kpT k t s))))), (m4, .inl (cI, 60, .inl (ro 60 cs))), (m5, .inl (cI, 48, .inl (ro 48 (w 1))))] := hD
            have e98 : foN (w 1) s i = foN (w 1) s (i + 1) := by (show _ = foN (w 1) s i + bI (rS (foS (w 1) s i) (w 1 (3 * i)) (w 1 (3 * i + 1)) (w 1 (3 * i + 2)) = 0); rw [bI_f c_81]; rfl)
            rw [e98] at hl
            have hl : lv_has ls 6 [(5, .int (nI ((w 1) ((3 * i) + 2)))), (4, .int (nI ((w 1) ((3 * i) + 1)))), (3, .int (nI ((w 1) (3 * i)))), (0, .ref m0), (1, .int (nI (foN (w 1) s (i + 1)))), (2, .int (nI i))] := hl
            refine lv_iinc (v := (nI (i + 1))) (lv' := [(2, .int (nI (i + 1))), (5, .int (nI ((w 1) ((3 * i) + 2)))), (4, .int (nI ((w 1) ((3 * i) + 1)))), (3, .int (nI ((w 1) (3 * i)))), (0, .ref m0), (1, .int (nI (foN (w 1) s (i + 1))))]) hx hb dX6_cueAll_97 hl (k := 5) rfl (nI_add i 1) (by decide) rfl (fun ls hl => ?_)
            refine lv_goto (tgt := 31) hx hb dX6_cueAll_100 (by decide) ?_
            exact ih31  (i + 1) _ _ ls (by first | with_reducible assumption | omega) (by omega) hP hD hS (lv_sub hl [4, 5, 0] rfl)
          ·
            have hr9 := rS_ok c_81
            refine lv_aload_n hx hb dX6_cueAll_84 rfl (lv_at hl 3 rfl) ?_
            refine lv_iload_n hx hb dX6_cueAll_85 rfl (lv_at hl 2 rfl) ?_
            refine lv_iload hx hb dX6_cueAll_86 (lv_at hl 1 rfl) ?_
            refine lv_iload hx hb dX6_cueAll_88 (lv_at hl 0 rfl) ?_
            refine KM.callV (As := [.int (nI ((w 1) (3 * i))), .int (nI ((w 1) ((3 * i) + 1))), .int (nI ((w 1) ((3 * i) + 2)))]) (rest := []) C0 hN (k_X6_comes l D cI cS cL (T + i) m0 m1 m2 m3 m4 m5 (kpK k) 0 0 (w 0 1) (w 0 3) (w 0 2) (w 0 4) hg bg (foS (w 1) s i) ((w 1) (3 * i)) ((w 1) ((3 * i) + 1)) ((w 1) ((3 * i) + 2))  (by exact hIi) (by omega) (by first | with_reducible assumption | omega) (by omega)) (cwV 3 hts gX6_cueAll_X6_comes rfl rfl rfl (by decide +kernel) ⟨Nat.le_of_ble_eq_true rfl, Nat.le_of_ble_eq_true rfl⟩) hK hP hD hS hA [0, 1] rfl (by decide) (fun _ => rfl) 0 6 rfl rfl rfl rfl hl.1 rfl (Nat.le_of_ble_eq_true rfl) dX6_cueAll_90 ⟨Nat.le_of_ble_eq_true rfl, Nat.le_of_ble_eq_true rfl⟩ (fun v9 u9 H locs hv hP hD hS => ?_)
            subst hv
            have hP : va_P D vwCl [(m0, .inr (6, [.ref m1, .ref m2, .ref m3, .int (nI (kpK k)), .ref m4, .int (nI 0), .int (nI 0), .int (nI (w 0 1)), .int (nI (w 0 3)), .int (nI (w 0 2)), .ref m5, .int (nI (w 0 4)), .int (nI hg), .int (nI bg)])), (m1, .inl (cI, 118, .inl (ro 118 (mAdd (foS (w 1) s i) ((w 1) (3 * i)) ((w 1) ((3 * i) + 1)) ((w 1) ((3 * i) + 2)))))), (m2, .inl (cI, 118, .inl (ro 118 h))), (m3, .inl (cI, 708, .inl (ro 708 (pkF (kpT k t s))))), (m4, .inl (cI, 60, .inl (ro 60 cs))), (m5, .inl (cI, 48, .inl (ro 48 (w 1))))] H := hP
            have hD : va_D A9 [(m0, .inr (6, [.ref m1, .ref m2, .ref m3, .int (nI (kpK k)), .ref m4, .int (nI 0), .int (nI 0), .int (nI (w 0 1)), .int (nI (w 0 3)), .int (nI (w 0 2)), .ref m5, .int (nI (w 0 4)), .int (nI hg), .int (nI bg)])), (m1, .inl (cI, 118, .inl (ro 118 (mAdd (foS (w 1) s i) ((w 1) (3 * i)) ((w 1) ((3 * i) + 1)) ((w 1) ((3 * i) + 2)))))), (m2, .inl (cI, 118, .inl (ro 118 h))), (m3, .inl (cI, 708, .inl (ro 708 (pkF (kpT k t s))))), (m4, .inl (cI, 60, .inl (ro 60 cs))), (m5, .inl (cI, 48, .inl (ro 48 (w 1))))] := hD
            refine W.eq (g2 := F0 m9 93 ls [.int (nI ((foS (w 1) s i) 9))]) rfl ?_
            refine lv_pop hx hb dX6_cueAll_93 rfl ?_
            refine lv_iinc (v := (nI ((foN (w 1) s i) + 1))) (lv' := [(1, .int (nI ((foN (w 1) s i) + 1))), (5, .int (nI ((w 1) ((3 * i) + 2)))), (4, .int (nI ((w 1) ((3 * i) + 1)))), (3, .int (nI ((w 1) (3 * i)))), (0, .ref m0), (2, .int (nI i))]) hx hb dX6_cueAll_94 hl (k := 4) rfl (nI_add (foN (w 1) s i) 1) (by decide) rfl (fun ls hl => ?_)
            have e97 : mAdd (foS (w 1) s i) ((w 1) (3 * i)) ((w 1) ((3 * i) + 1)) ((w 1) ((3 * i) + 2)) = foS (w 1) s (i + 1) := (if_pos c_81).symm
            rw [e97] at hP hD
            have hP : va_P D vwCl [(m0, .inr (6, [.ref m1, .ref m2, .ref m3, .int (nI (kpK k)), .ref m4, .int (nI 0), .int (nI 0), .int (nI (w 0 1)), .int (nI (w 0 3)), .int (nI (w 0 2)), .ref m5, .int (nI (w 0 4)), .int (nI hg), .int (nI bg)])), (m1, .inl (cI, 118, .inl (ro 118 (foS (w 1) s (i + 1))))), (m2, .inl (cI, 118, .inl (ro 118 h))), (m3, .inl (cI, 708, .inl (ro 708 (pkF (kpT k t s))))), (m4, .inl (cI, 60, .inl (ro 60 cs))), (m5, .inl (cI, 48, .inl (ro 48 (w 1))))] H := hP
            have hD : va_D A9 [(m0, .inr (6, [.ref m1, .ref m2, .ref m3, .int (nI (kpK k)), .ref m4, .int (nI 0), .int (nI 0), .int (nI (w 0 1)), .int (nI (w 0 3)), .int (nI (w 0 2)), .ref m5, .int (nI (w 0 4)), .int (nI hg), .int (nI bg)])), (m1, .inl (cI, 118, .inl (ro 118 (foS (w 1) s (i + 1))))), (m2, .inl (cI, 118, .inl (ro 118 h))), (m3, .inl (cI, 708, .inl (ro 708 (pkF (kpT k t s))))), (m4, .inl (cI, 60, .inl (ro 60 cs))), (m5, .inl (cI, 48, .inl (ro 48 (w 1))))] := hD
            have e98 : (foN (w 1) s i) + 1 = foN (w 1) s (i + 1) := by (show _ = foN (w 1) s i + bI (rS (foS (w 1) s i) (w 1 (3 * i)) (w 1 (3 * i + 1)) (w 1 (3 * i + 2)) = 0); rw [bI_t c_81])
            rw [e98] at hl
            have hl : lv_has ls 6 [(1, .int (nI (foN (w 1) s (i + 1)))), (5, .int (nI ((w 1) ((3 * i) + 2)))), (4, .int (nI ((w 1) ((3 * i) + 1)))), (3, .int (nI ((w 1) (3 * i)))), (0, .ref m0), (2, .int (nI i))] := hl
            refine lv_iinc (v := (nI (i + 1))) (lv' := [(2, .int (nI (i + 1))), (1, .int (nI (foN (w 1) s (i + 1)))), (5, .int (nI ((w 1) ((3 * i) + 2)))), (4, .int (nI ((w 1) ((3 * i) + 1)))), (3, .int (nI ((w 1) (3 * i)))), (0, .ref m0)]) hx hb dX6_cueAll_97 hl (k := 5) rfl (nI_add i 1) (by decide) rfl (fun ls hl => ?_)
            refine lv_goto (tgt := 31) hx hb dX6_cueAll_100 (by decide) ?_
            exact ih31  (i + 1) _ _ ls (by first | with_reducible assumption | omega) (by omega) hP hD hS (lv_sub hl [5, 1, 0] rfl)
    exact L31 (w 0 4 - 0 + 1) 0 _ _ ls (by first | with_reducible assumption | omega) (by omega) hP hD hS (lv_sub hl [2, 1, 0] rfl)
  · exact absurd True.intro (by omega)

theorem in_X6_cueAll_bad_X6 : ∀ w ∈ wsX60, w ∈ wsX6_cueAll := by decide +kernel
theorem fl_X6_cueAll_bad_25 : Cond.fieldLink RX6 25 "FountainCuesModel" "thrown" "I" ∈ wsX6_cueAll := by decide +kernel
set_option maxHeartbeats 4000000 in
set_option maxRecDepth 100000 in
theorem k_X6_cueAll_bad (l : Launch) (D : va_G) (cI cS cL : ClassId) (T : Nat) (m0 : Nat) (m1 : Nat) (m2 : Nat) (m3 : Nat) (m4 : Nat) (m5 : Nat) (k : Nat) (n : Nat) (th : Nat) (ax : Nat) (fa : Nat) (vl : Nat) (tn : Nat) (hg : Nat) (bg : Nat) (s : Nat → Nat) (h : Nat → Nat) (t : Nat → Nat → Nat) (cs : Nat → Nat) (td : Nat → Nat) (hI : sI T s) (hT : T ≤ 900000) (hk : k ≤ 6) (hn : n ≤ 60) (hcs : ∀ j, j < n → cs j < 2 ^ 30) (hbad : ¬ (runS cs n = 6 ∨ runS cs n = 7)) : KM l D (TY cI cS cL) yX6_cueAll wsX6_cueAll ({ frames := 5, cells := 0, slots := 0, locals := 107 } : Room) [(m0, .inr (6, [.ref m1, .ref m2, .ref m3, .int (nI k), .ref m4, .int (nI n), .int (nI th), .int (nI ax), .int (nI fa), .int (nI vl), .ref m5, .int (nI tn), .int (nI hg), .int (nI bg)])), (m1, .inl (cI, 118, .inl (ro 118 s))), (m2, .inl (cI, 118, .inl (ro 118 h))), (m3, .inl (cI, 708, .inl (ro 708 (pkF t)))), (m4, .inl (cI, 60, .inl (ro 60 cs))), (m5, .inl (cI, 48, .inl (ro 48 td)))] [.ref m0] (fun (v : Option Value) (u : Nat → Nat → Nat) => v = some (.int (nI 0))) (fun (u : Nat → Nat → Nat) => [(m0, .inr (6, [.ref m1, .ref m2, .ref m3, .int (nI k), .ref m4, .int (nI n), .int (nI 1), .int (nI (u 0 1)), .int (nI (u 0 3)), .int (nI (u 0 2)), .ref m5, .int (nI (u 0 4)), .int (nI hg), .int (nI bg)])), (m1, .inl (cI, 118, .inl (ro 118 s))), (m2, .inl (cI, 118, .inl (ro 118 h))), (m3, .inl (cI, 708, .inl (ro 708 (pkF t)))), (m4, .inl (cI, 60, .inl (ro 60 cs))), (m5, .inl (cI, 48, .inl (ro 48 (u 1))))]) := by
  refine KM.of (cc := cX6_cueAll) (maxL := 6) (ret := (some .int)) (by decide) rfl (Nat.le_of_ble_eq_true rfl) ?_
  intro p9 e9 s9 m9 ar9 be9 me9 c9 Q9 A9 ls C0 hN hnm hlk hK hA hret hP hD hS hl
  obtain ⟨hx, hb, hml, hown, hts⟩ := id C0
  have hl : lv_has ls 6 [(0, .ref m0)] := hl
  obtain ⟨H, hH0⟩ : ∃ H, H = s9.heap := ⟨_, rfl⟩
  obtain ⟨locs, hlc0⟩ : ∃ z : List Loc, z = [] := ⟨_, rfl⟩
  have hP : va_P D vwCl [(m0, .inr (6, [.ref m1, .ref m2, .ref m3, .int (nI k), .ref m4, .int (nI n), .int (nI th), .int (nI ax), .int (nI fa), .int (nI vl), .ref m5, .int (nI tn), .int (nI hg), .int (nI bg)])), (m1, .inl (cI, 118, .inl (ro 118 s))), (m2, .inl (cI, 118, .inl (ro 118 h))), (m3, .inl (cI, 708, .inl (ro 708 (pkF t)))), (m4, .inl (cI, 60, .inl (ro 60 cs))), (m5, .inl (cI, 48, .inl (ro 48 td)))] H := by rw [hH0]; exact hP
  have hD : va_D A9 [(m0, .inr (6, [.ref m1, .ref m2, .ref m3, .int (nI k), .ref m4, .int (nI n), .int (nI th), .int (nI ax), .int (nI fa), .int (nI vl), .ref m5, .int (nI tn), .int (nI hg), .int (nI bg)])), (m1, .inl (cI, 118, .inl (ro 118 s))), (m2, .inl (cI, 118, .inl (ro 118 h))), (m3, .inl (cI, 708, .inl (ro 708 (pkF t)))), (m4, .inl (cI, 60, .inl (ro 60 cs))), (m5, .inl (cI, 48, .inl (ro 48 td)))] := hD
  have hS : va_S A9 s9.heap H locs := by rw [hH0, hlc0]; exact hS
  suffices hgo : W p9 l e9 ({ frames := 5, cells := 0, slots := 0, locals := 107 } : Room) s9 m9 ar9 be9 me9 c9 H locs 0 0 Q9 (F0 m9 0 ls []) by rw [hH0, hlc0] at hgo; exact hgo
  clear hH0 hlc0
  obtain ⟨hI1, hI2, hI3, hI4, hI5, hI6, hI7, hI8, hI9, hI10, hI11⟩ := id hI
  refine lv_aload_n hx hb dX6_cueAll_0 rfl (lv_at hl 0 rfl) ?_
  refine lv_iconst (v := nI 0) hx hb dX6_cueAll_1 (by decide +kernel) ?_
  refine va_put (D := D) (ci := 6) (v := .int (nI 0)) (ty := tyX6 6) (C := RX6) (T := TX6) (N := 14) hx hb hts in_X6_cueAll_bad_X6 tyX6 tyX6_ok nmX6 hown hK hP hD hS 0 rfl rfl 6 (by decide) (hts _ fl_X6_cueAll_bad_25) (fun _ h9 => h9) rfl (by decide +kernel) rfl rfl (Nat.le_of_ble_eq_true rfl) dX6_cueAll_2 (fun H locs hP hD hS => ?_)
  have hP : va_P D vwCl [(m0, .inr (6, [.ref m1, .ref m2, .ref m3, .int (nI k), .ref m4, .int (nI n), .int (nI 0), .int (nI ax), .int (nI fa), .int (nI vl), .ref m5, .int (nI tn), .int (nI hg), .int (nI bg)])), (m1, .inl (cI, 118, .inl (ro 118 s))), (m2, .inl (cI, 118, .inl (ro 118 h))), (m3, .inl (cI, 708, .inl (ro 708 (pkF t)))), (m4, .inl (cI, 60, .inl (ro 60 cs))), (m5, .inl (cI, 48, .inl (ro 48 td)))] H := hP
  have hD : va_D A9 [(m0, .inr (6, [.ref m1, .ref m2, .ref m3, .int (nI k), .ref m4, .int (nI n), .int (nI 0), .int (nI ax), .int (nI fa), .int (nI vl), .ref m5, .int (nI tn), .int (nI hg), .int (nI bg)])), (m1, .inl (cI, 118, .inl (ro 118 s))), (m2, .inl (cI, 118, .inl (ro 118 h))), (m3, .inl (cI, 708, .inl (ro 708 (pkF t)))), (m4, .inl (cI, 60, .inl (ro 60 cs))), (m5, .inl (cI, 48, .inl (ro 48 td)))] := hD
  refine lv_aload_n hx hb dX6_cueAll_5 rfl (lv_at hl 0 rfl) ?_
  refine KM.callV (As := []) (rest := []) C0 hN (k_X6_isText l D cI cS cL m0 m1 m2 m3 m4 m5 k n 0 ax fa vl tn hg bg cs td  (by first | with_reducible assumption | omega) (by first | with_reducible assumption | omega)) (cwV 0 hts gX6_cueAll_X6_isText rfl rfl rfl (by decide +kernel) ⟨Nat.le_of_ble_eq_true rfl, Nat.le_of_ble_eq_true rfl⟩) hK hP hD hS hA [0, 4, 5] rfl (by decide) (fun _ => rfl) 0 6 rfl rfl rfl rfl hl.1 rfl (Nat.le_of_ble_eq_true rfl) dX6_cueAll_6 ⟨Nat.le_of_ble_eq_true rfl, Nat.le_of_ble_eq_true rfl⟩ (fun v9 u9 H locs hv hP hD hS => ?_)
  obtain ⟨w, rfl⟩ : ∃ z, z = u9 := ⟨_, rfl⟩
  obtain ⟨hc_6_0, hc_6_1, hc_6_2, hv⟩ := hv
  subst hv
  have hc_6_0 : w 0 0 ≤ 1 := hc_6_0
  have hc_6_1 : w 0 0 = 0 → w 0 1 ≤ n ∧ w 0 3 = bI (w 0 1 < n) ∧ ¬ (runS cs n = 6 ∨ runS cs n = 7) ∧ runS cs (w 0 1) ≠ 8 ∧ (w 0 1 < n → runS cs (w 0 1 + 1) = 8) := hc_6_1
  have hc_6_2 : w 0 0 = 1 → (runS cs n = 6 ∨ runS cs n = 7) ∧ w 0 1 = n ∧ 5 * w 0 4 ≤ n + 1 ∧ (∀ s, foS (w 1) s (w 0 4) = allS cs s n ∧ foN (w 1) s (w 0 4) = allN cs s n) ∧ (∀ y, y < w 0 4 → w 1 (3 * y) ≤ 999 ∧ w 1 (3 * y + 1) < 8 ∧ w 1 (3 * y + 2) ≤ 10) := hc_6_2
  have hP : va_P D vwCl [(m0, .inr (6, [.ref m1, .ref m2, .ref m3, .int (nI k), .ref m4, .int (nI n), .int (nI 0), .int (nI (w 0 1)), .int (nI (w 0 3)), .int (nI (w 0 2)), .ref m5, .int (nI (w 0 4)), .int (nI hg), .int (nI bg)])), (m1, .inl (cI, 118, .inl (ro 118 s))), (m2, .inl (cI, 118, .inl (ro 118 h))), (m3, .inl (cI, 708, .inl (ro 708 (pkF t)))), (m4, .inl (cI, 60, .inl (ro 60 cs))), (m5, .inl (cI, 48, .inl (ro 48 (w 1))))] H := hP
  have hD : va_D A9 [(m0, .inr (6, [.ref m1, .ref m2, .ref m3, .int (nI k), .ref m4, .int (nI n), .int (nI 0), .int (nI (w 0 1)), .int (nI (w 0 3)), .int (nI (w 0 2)), .ref m5, .int (nI (w 0 4)), .int (nI hg), .int (nI bg)])), (m1, .inl (cI, 118, .inl (ro 118 s))), (m2, .inl (cI, 118, .inl (ro 118 h))), (m3, .inl (cI, 708, .inl (ro 708 (pkF t)))), (m4, .inl (cI, 60, .inl (ro 60 cs))), (m5, .inl (cI, 48, .inl (ro 48 (w 1))))] := hD
  refine W.eq (g2 := F0 m9 9 ls [.int (nI (w 0 0))]) rfl ?_
  have hb0 := hc_6_0
  refine q_fne (tgt := 18) (by omega) hx hb dX6_cueAll_9 (by decide) (fun c_9 => ?_) (fun c_9 => ?_)
  · exact absurd (hc_6_2 (by omega)).1 hbad
  ·
    refine lv_aload_n hx hb dX6_cueAll_12 rfl (lv_at hl 0 rfl) ?_
    refine lv_iconst (v := nI 1) hx hb dX6_cueAll_13 (by decide +kernel) ?_
    refine KM.callV (As := [.int (nI 1)]) (rest := []) C0 hN (k_X6_fails l D cI cS cL m0 m1 m2 m3 m4 m5 k n 0 (w 0 1) (w 0 3) (w 0 2) (w 0 4) hg bg 1  ) (cwV 1 hts gX6_cueAll_X6_fails rfl rfl rfl (by decide +kernel) ⟨Nat.le_of_ble_eq_true rfl, Nat.le_of_ble_eq_true rfl⟩) hK hP hD hS hA [0] rfl (by decide) (fun _ => rfl) 0 6 rfl rfl rfl rfl hl.1 rfl (Nat.le_of_ble_eq_true rfl) dX6_cueAll_14 ⟨Nat.le_of_ble_eq_true rfl, Nat.le_of_ble_eq_true rfl⟩ (fun v9 u9 H locs hv hP hD hS => ?_)
    subst hv
    have hP : va_P D vwCl [(m0, .inr (6, [.ref m1, .ref m2, .ref m3, .int (nI k), .ref m4, .int (nI n), .int (nI 1), .int (nI (w 0 1)), .int (nI (w 0 3)), .int (nI (w 0 2)), .ref m5, .int (nI (w 0 4)), .int (nI hg), .int (nI bg)])), (m1, .inl (cI, 118, .inl (ro 118 s))), (m2, .inl (cI, 118, .inl (ro 118 h))), (m3, .inl (cI, 708, .inl (ro 708 (pkF t)))), (m4, .inl (cI, 60, .inl (ro 60 cs))), (m5, .inl (cI, 48, .inl (ro 48 (w 1))))] H := hP
    have hD : va_D A9 [(m0, .inr (6, [.ref m1, .ref m2, .ref m3, .int (nI k), .ref m4, .int (nI n), .int (nI 1), .int (nI (w 0 1)), .int (nI (w 0 3)), .int (nI (w 0 2)), .ref m5, .int (nI (w 0 4)), .int (nI hg), .int (nI bg)])), (m1, .inl (cI, 118, .inl (ro 118 s))), (m2, .inl (cI, 118, .inl (ro 118 h))), (m3, .inl (cI, 708, .inl (ro 708 (pkF t)))), (m4, .inl (cI, 60, .inl (ro 60 cs))), (m5, .inl (cI, 48, .inl (ro 48 (w 1))))] := hD
    refine W.eq (g2 := F0 m9 17 ls [.int (nI 0)]) rfl ?_
    exact hret _ _ _ _ (some (.int (nI 0))) (fun i9 => [(fun j9 => [0, (w 0 1), (w 0 2), (w 0 3), (w 0 4), 0].getD j9 0), w 1].getD i9 (fun _ => 0)) 17 ls (by decide) (by decide) (by rfl) hP hD hS (ret_i dX6_cueAll_17)
