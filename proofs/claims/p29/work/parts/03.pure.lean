/-! the pure picture: numbers only -/
abbrev isD (c : Nat) : Prop := 48 ≤ c ∧ c ≤ 57
abbrev isJ (c : Nat) : Prop := 97 ≤ c ∧ c ≤ 104
/-- the reader of texts: states 0 to 7, 8 is wrong -/
def stI (k : Nat) : Int32 := if k = 8 then -1 else nI k
def sB (k c : Nat) : Nat := match k with
  | 0 => if c = 48 then 3 else if isD c then 1 else 8
  | 1 => if c = 64 then 4 else if isD c then 2 else 8
  | 2 => if c = 64 then 4 else if isD c then 3 else 8
  | 3 => if c = 64 then 4 else 8
  | 4 => if isJ c then 5 else 8
  | 5 => if c = 49 then 6 else if isD c then 7 else 8
  | 6 => if c = 48 then 7 else if c = 59 then 0 else 8
  | 7 => if c = 59 then 0 else 8
  | _ => 8
theorem sB_le (k c : Nat) : sB k c ≤ 8 := by
  unfold sB
  split <;> (repeat' split) <;> omega
def runS (cs : Nat → Nat) : Nat → Nat
  | 0 => 0
  | i + 1 => sB (runS cs i) (cs i)
theorem runS_le (cs : Nat → Nat) (i : Nat) : runS cs i ≤ 8 := by
  cases i with
  | zero => exact Nat.zero_le _
  | succ i => exact sB_le _ _
theorem stI_m1 {k : Nat} (h : k ≤ 8) : stI k = -1 ↔ k = 8 := by
  rcases (show k = 0 ∨ k = 1 ∨ k = 2 ∨ k = 3 ∨ k = 4 ∨ k = 5 ∨ k = 6 ∨ k = 7 ∨ k = 8 by omega) with rfl | rfl | rfl | rfl | rfl | rfl | rfl | rfl | rfl <;> decide +kernel
theorem stI_6 {k : Nat} (h : k ≤ 8) : stI k = nI 6 ↔ k = 6 := by
  rcases (show k = 0 ∨ k = 1 ∨ k = 2 ∨ k = 3 ∨ k = 4 ∨ k = 5 ∨ k = 6 ∨ k = 7 ∨ k = 8 by omega) with rfl | rfl | rfl | rfl | rfl | rfl | rfl | rfl | rfl <;> decide +kernel
theorem stI_7 {k : Nat} (h : k ≤ 8) : stI k = nI 7 ↔ k = 7 := by
  rcases (show k = 0 ∨ k = 1 ∨ k = 2 ∨ k = 3 ∨ k = 4 ∨ k = 5 ∨ k = 6 ∨ k = 7 ∨ k = 8 by omega) with rfl | rfl | rfl | rfl | rfl | rfl | rfl | rfl | rfl <;> decide +kernel
theorem rv {a b : Nat} (h : a = b) : some (Value.int (nI a)) = some (Value.int (nI b)) := by rw [h]
theorem rvi {a b : Int32} (h : a = b) : some (Value.int a) = some (Value.int b) := by rw [h]
theorem mn_n {a b : Nat} (ha : a < 2 ^ 31) (hb : b < 2 ^ 31) : (if nI b < nI a then nI b else nI a) = nI (min a b) := by
  by_cases h : b < a
  · rw [if_pos ((nI_ltI hb ha).mpr h), Nat.min_eq_right (by omega)]
  · rw [if_neg (fun z => h ((nI_ltI hb ha).mp z)), Nat.min_eq_left (by omega)]
theorem mx_n {a b : Nat} (ha : a < 2 ^ 31) (hb : b < 2 ^ 31) : (if nI a < nI b then nI b else nI a) = nI (max a b) := by
  by_cases h : a < b
  · rw [if_pos ((nI_ltI ha hb).mpr h), Nat.max_eq_right (by omega)]
  · rw [if_neg (fun z => h ((nI_ltI ha hb).mp z)), Nat.max_eq_left (by omega)]
theorem mx_s {a b : Nat} (ha : a < 2 ^ 30) (hb : b < 2 ^ 30) : (if nI 0 < nI a - nI b then nI a - nI b else nI 0) = nI (a - b) := by
  have h0 : (nI 0).toInt = 0 := by decide
  by_cases h : b < a
  · rw [if_pos (by rw [Int32.lt_iff_toInt_lt, h0, pk_sub_toInt ha hb]; omega), pk_sub (by omega)]
  · rw [if_neg (by rw [Int32.lt_iff_toInt_lt, h0, pk_sub_toInt ha hb]; omega), show a - b = 0 by omega]
/-- a valve's move -/
def mv (a v st : Nat) : Nat := if v ≤ a then v + min st (a - v) else v - min st (v - a)
theorem nI_neg {n : Nat} (h : n < 2 ^ 30) : (-nI n).toInt = -(n : Int) := sb_negT (by omega)
theorem mv_i {a v st : Nat} (ha : a < 2 ^ 29) (hv : v < 2 ^ 29) (hs : st < 2 ^ 29) :
    nI v + (if -nI st < (if nI a - nI v < nI st then nI a - nI v else nI st) then (if nI a - nI v < nI st then nI a - nI v else nI st) else -nI st) = nI (mv a v st) := by
  have e1 : (nI a - nI v).toInt = (a : Int) - v := pk_sub_toInt (by omega) (by omega)
  have e2 : (-nI st).toInt = -(st : Int) := nI_neg (by omega)
  have e3 : (nI st).toInt = (st : Int) := nI_toInt (by omega)
  have sub : ∀ k : Nat, k ≤ v → nI v + -nI k = nI (v - k) := fun k hk => by rw [← Int32.sub_eq_add_neg]; exact pk_sub hk
  have av : nI v + (nI a - nI v) = nI a := by rw [Int32.sub_eq_add_neg, Int32.add_comm, Int32.add_assoc, Int32.add_left_neg, Int32.add_zero]
  unfold mv
  by_cases h1 : nI a - nI v < nI st
  · rw [if_pos h1]
    rw [Int32.lt_iff_toInt_lt, e1, e3] at h1
    by_cases h2 : -nI st < nI a - nI v
    · rw [if_pos h2]
      rw [Int32.lt_iff_toInt_lt, e1, e2] at h2
      rw [av]
      congr 1
      split <;> omega
    · rw [if_neg h2]
      rw [Int32.lt_iff_toInt_lt, e1, e2] at h2
      rw [sub st (by omega)]
      congr 1
      split <;> omega
  · rw [if_neg h1]
    rw [Int32.lt_iff_toInt_lt, e1, e3] at h1
    by_cases h2 : -nI st < nI st
    · rw [if_pos h2, nI_add]
      congr 1
      split <;> omega
    · rw [if_neg h2]
      rw [Int32.lt_iff_toInt_lt, e2, e3] at h2
      rw [sub st (by omega)]
      congr 1
      split <;> omega
-- the fountain
def pA (sz va : Nat → Nat) (p : Nat) : Nat := sumTo (fun i => sz (p * 4 + i) * va (p * 4 + i)) 4
def fHi (se : Nat → Nat) (w : Nat) : Nat := if se 0 < w then 10 + se 0 - w else 10
def fPart (sz va li se : Nat → Nat) (w j q : Nat) : Nat := min (if li (j / 4) < q then sz j * va j * li (j / 4) / q else sz j * va j) (fHi se w * sz j)
def fGets (sz va li se : Nat → Nat) (w j : Nat) : Nat := fPart sz va li se w j (pA sz va (j / 4))
def fGives (sz va li se : Nat → Nat) (w p : Nat) : Nat := sumTo (fun i => fPart sz va li se w (p * 4 + i) (pA sz va p)) 4
def fLamps (sz va li se : Nat → Nat) (w : Nat) : Nat := sumTo (fun j => if 0 < fGets sz va li se w j / sz j then 1 else 0) 8
def fLoss (se : Nat → Nat) (w t : Nat) : Nat := t * se 1 / 100 + t * w / 100
/-- the bounds of a fountain -/
def fB (sz va am li se : Nat → Nat) (w : Nat) : Prop := (∀ j, j < 8 → 1 ≤ sz j ∧ sz j ≤ 20) ∧ (∀ j, j < 8 → va j ≤ 10) ∧ (∀ j, j < 8 → am j ≤ 10) ∧ (∀ p, p < 2 → li p ≤ 2000) ∧ se 0 ≤ 20 ∧ se 1 ≤ 50 ∧ (1 ≤ se 2 ∧ se 2 ≤ 10) ∧ w ≤ 20
theorem fHi_le {se : Nat → Nat} {w : Nat} : fHi se w ≤ 10 := by unfold fHi; split <;> omega
theorem asks_le {sz va am li se : Nat → Nat} {w j : Nat} (h : fB sz va am li se w) (hj : j < 8) : sz j * va j ≤ 200 := by
  have h1 := (h.1 j hj).2
  have h2 := h.2.1 j hj
  exact Nat.le_trans (Nat.mul_le_mul h1 h2) (by decide)
theorem sumTo_le {f : Nat → Nat} {b : Nat} : ∀ n, (∀ i, i < n → f i ≤ b) → sumTo f n ≤ n * b
  | 0, _ => Nat.zero_le _
  | n + 1, h => by
    have h1 := sumTo_le n (fun i hi => h i (by omega))
    have h2 := h n (by omega)
    show sumTo f n + f n ≤ (n + 1) * b
    rw [Nat.succ_mul]
    omega
theorem pA_le {sz va am li se : Nat → Nat} {w p : Nat} (h : fB sz va am li se w) (hp : p < 2) : pA sz va p ≤ 800 :=
  sumTo_le 4 (fun i hi => asks_le h (by omega))
theorem fPart_le {sz va am li se : Nat → Nat} {w j q : Nat} (h : fB sz va am li se w) (hj : j < 8) : fPart sz va li se w j q ≤ 200 := by
  have h1 := (h.1 j hj).2
  have h2 : fHi se w * sz j ≤ 10 * 20 := Nat.mul_le_mul fHi_le h1
  unfold fPart
  omega
theorem fGives_le {sz va am li se : Nat → Nat} {w p : Nat} (h : fB sz va am li se w) (hp : p < 2) : fGives sz va li se w p ≤ 800 :=
  sumTo_le 4 (fun i hi => fPart_le h (by omega))
-- cues
def hasB (ti je : Nat → Nat) (t j : Nat) : Nat → Bool
  | 0 => false
  | k + 1 => hasB ti je t j k || (ti k == t && je k == j)
theorem hasB_iff {ti je : Nat → Nat} {t j : Nat} : ∀ n, hasB ti je t j n = true ↔ ∃ c, c < n ∧ ti c = t ∧ je c = j
  | 0 => by simp [hasB]
  | n + 1 => by
    simp only [hasB, Bool.or_eq_true, Bool.and_eq_true, beq_iff_eq, hasB_iff n]
    constructor
    · rintro (⟨c, h1, h2⟩ | h)
      · exact ⟨c, by omega, h2⟩
      · exact ⟨n, by omega, h⟩
    · rintro ⟨c, h1, h2⟩
      by_cases h : c = n
      · subst h; exact Or.inr h2
      · exact Or.inl ⟨c, by omega, h2⟩
theorem hasB_no {ti je : Nat → Nat} {t j i : Nat} (h : hasB ti je t j i = false) (hn : ¬ (ti i = t ∧ je i = j)) : hasB ti je t j (i + 1) = false := by
  simp only [hasB, h, Bool.false_or, Bool.and_eq_false_iff, beq_eq_false_iff_ne]
  by_cases h1 : ti i = t
  · exact Or.inr (fun h2 => hn ⟨h1, h2⟩)
  · exact Or.inl h1
theorem hasB_yes {ti je : Nat → Nat} {t j i n : Nat} (hi : i < n) (h1 : ti i = t) (h2 : je i = j) : hasB ti je t j n = true := (hasB_iff n).mpr ⟨i, hi, h1, h2⟩
def aimBy (ti je ac : Nat → Nat) (t j a : Nat) : Nat → Nat
  | 0 => a
  | k + 1 => if ti k ≤ t ∧ je k = j then ac k else aimBy ti je ac t j a k
theorem aimBy_stop {ti je ac : Nat → Nat} {t j a i : Nat} : ∀ {n : Nat}, i ≤ n → (∀ c, i ≤ c → c < n → t < ti c) → aimBy ti je ac t j a n = aimBy ti je ac t j a i
  | 0, h, _ => by rw [show i = 0 by omega]
  | n + 1, h, hs => by
    by_cases he : i = n + 1
    · rw [he]
    · have h1 := hs n (by omega) (by omega)
      show (if _ then _ else _) = _
      rw [if_neg (by omega)]
      exact aimBy_stop (by omega) (fun c h2 h3 => hs c h2 (by omega))
def remF (f : Nat → Nat) (p i : Nat) : Nat → Nat := fun c => if p ≤ c ∧ c < i then f (c + 1) else f c
theorem remF_0 (f : Nat → Nat) (p : Nat) : ro 16 f = ro 16 (remF f p p) := ro_cg (fun c _ => by unfold remF; rw [if_neg (by omega)])
theorem remF_s {f : Nat → Nat} {p i : Nat} (h : p ≤ i) : ro 16 (upN (remF f p i) i (remF f p i (i + 1))) = ro 16 (remF f p (i + 1)) := ro_cg (fun c _ => by
  unfold upN remF
  by_cases h1 : c = i
  · subst h1; rw [if_pos rfl, if_neg (by omega), if_pos (by omega)]
  · rw [if_neg h1]
    by_cases h2 : p ≤ c ∧ c < i
    · rw [if_pos h2, if_pos (by omega)]
    · rw [if_neg h2, if_neg (by omega)])
def hol (f : Nat → Nat) (q n : Nat) : Nat → Nat := fun c => if c ≤ q then f c else if c ≤ n then f (c - 1) else f c
theorem hol_0 (f : Nat → Nat) (n : Nat) : ro 16 f = ro 16 (hol f n n) := ro_cg (fun c _ => by unfold hol; by_cases h : c ≤ n; (rw [if_pos h]); (rw [if_neg h, if_neg h]))
theorem hol_lo {f : Nat → Nat} {q n c : Nat} (h : c ≤ q) : hol f q n c = f c := if_pos h
theorem hol_s {f : Nat → Nat} {q n : Nat} (h : q ≠ 0) (hq : q ≤ n) : ro 16 (upN (hol f q n) q (hol f q n (q - 1))) = ro 16 (hol f (q - 1) n) := ro_cg (fun c _ => by
  rw [hol_lo (by omega)]
  unfold upN hol
  by_cases h1 : c = q
  · subst h1; rw [if_pos rfl, if_neg (by omega), if_pos (by omega)]
  · rw [if_neg h1]
    by_cases h2 : c ≤ q
    · rw [if_pos h2, if_pos (by omega)]
    · rw [if_neg h2, if_neg (show ¬ c ≤ q - 1 by omega)])
def insF (f : Nat → Nat) (p n v : Nat) : Nat → Nat := fun c => if c < p then f c else if c = p then v else if c ≤ n then f (c - 1) else f c
theorem insF_e {f : Nat → Nat} {q n v p : Nat} (hp : p = q) : ro 16 (upN (hol f q n) q v) = ro 16 (insF f p n v) := by
  subst hp
  exact ro_cg (fun c _ => by
    unfold upN hol insF
    by_cases h1 : c = p
    · subst h1; rw [if_pos rfl, if_neg (by omega), if_pos rfl]
    · rw [if_neg h1, if_neg h1]
      by_cases h2 : c ≤ p
      · rw [if_pos h2, if_pos (by omega)]
      · rw [if_neg h2, if_neg (show ¬ c < p by omega)])
def insP (ti : Nat → Nat) (t : Nat) : Nat → Nat
  | 0 => 0
  | k + 1 => if t < ti k then insP ti t k else k + 1
theorem insP_le {ti : Nat → Nat} {t : Nat} : ∀ n, insP ti t n ≤ n
  | 0 => Nat.le_refl 0
  | n + 1 => by
    unfold insP
    split
    · exact Nat.le_trans (insP_le n) (Nat.le_succ n)
    · exact Nat.le_refl _
theorem insP_d {ti : Nat → Nat} {t q : Nat} (h : q ≠ 0) (ht : t < ti (q - 1)) : insP ti t q = insP ti t (q - 1) := by
  obtain ⟨k, rfl⟩ : ∃ k, q = k + 1 := ⟨q - 1, by omega⟩
  exact if_pos ht
theorem insP_e {ti : Nat → Nat} {t q : Nat} (h : q = 0 ∨ ¬ t < ti (q - 1)) : insP ti t q = q := by
  cases q with
  | zero => rfl
  | succ k => exact if_neg (h.elim (fun z => by omega) id)
def numS (nu ti je ac : Nat → Nat) (w p : Nat) : Nat := if w = 0 then nu p else if w = 1 then ti p else if w = 2 then je p else ac p
