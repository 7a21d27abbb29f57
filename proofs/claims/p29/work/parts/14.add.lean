/-! adding a cue keeps what always holds -/
theorem insP_hi {ti : Nat → Nat} {t : Nat} : ∀ (n : Nat) {c : Nat}, insP ti t n ≤ c → c < n → t < ti c
  | 0, _, _, h => absurd h (Nat.not_lt_zero _)
  | n + 1, c, h1, h2 => by
    unfold insP at h1
    split at h1
    · next h =>
      by_cases hc : c = n
      · rw [hc]; exact h
      · exact insP_hi n h1 (by omega)
    · omega
theorem insP_lo {ti : Nat → Nat} {t : Nat} : ∀ (n : Nat), (∀ c d, c < d → d < n → ti c ≤ ti d) → ∀ {c : Nat}, c < insP ti t n → ti c ≤ t
  | 0, _, _, h => absurd h (Nat.not_lt_zero _)
  | n + 1, hs, c, h1 => by
    unfold insP at h1
    split at h1
    · exact insP_lo n (fun a b h3 h4 => hs a b h3 (by omega)) h1
    · next h =>
      by_cases hc : c = n
      · rw [hc]; omega
      · have := hs c n (by omega) (by omega)
        omega
theorem insF_lo {f : Nat → Nat} {p n v c : Nat} (h : c < p) : insF f p n v c = f c := if_pos h
theorem insF_at {f : Nat → Nat} {p n v : Nat} : insF f p n v p = v := by unfold insF; rw [if_neg (by omega), if_pos rfl]
theorem insF_hi {f : Nat → Nat} {p n v c : Nat} (h : p < c) (hc : c ≤ n) : insF f p n v c = f (c - 1) := by unfold insF; rw [if_neg (by omega), if_neg (by omega), if_pos hc]
theorem insF_all {P : Nat → Prop} {f : Nat → Nat} {p n v c : Nat} (hv : P v) (hf : ∀ c, c < n → P (f c)) (hp : p ≤ n) (hc : c < n + 1) : P (insF f p n v c) := by
  rcases Nat.lt_trichotomy c p with h | h | h
  · rw [insF_lo h]; exact hf c (by omega)
  · rw [h, insF_at]; exact hv
  · rw [insF_hi h (by omega)]; exact hf (c - 1) (by omega)
theorem sI_add {T : Nat} {s : Nat → Nat} {t j a : Nat} (h : sI T s) (hn : s 8 < 16) (ht : t ≤ 999) (hj : j < 8) (ha : a ≤ 10) : sI (T + 1) (mAdd s t j a) := by
  obtain ⟨⟨b1, b2, b3, b4, b5, b6, b7, b8⟩, h2, h3, h4, h5, h6, h7, h8, h9, h10, h11⟩ := h
  have hp : insP (tiF s) t (s 8) ≤ s 8 := insP_le _
  have lo : ∀ x, x < 54 → x ≠ 8 → x ≠ 9 → mAdd s t j a x = s x := fun x g1 g2 g3 => by unfold mAdd; rw [if_neg g2, if_neg g3, if_pos g1]
  have e8 : mAdd s t j a 8 = s 8 + 1 := rfl
  have e9 : mAdd s t j a 9 = s 9 + 1 := rfl
  have nu : ∀ c, c < 16 → nuF (mAdd s t j a) c = insF (nuF s) (insP (tiF s) t (s 8)) (s 8) (s 9) c := fun c hc => (cl_mAdd_nu t j a c hc).symm
  have ti : ∀ c, c < 16 → tiF (mAdd s t j a) c = insF (tiF s) (insP (tiF s) t (s 8)) (s 8) t c := fun c hc => (cl_mAdd_ti t j a c hc).symm
  have je : ∀ c, c < 16 → jeF (mAdd s t j a) c = insF (jeF s) (insP (tiF s) t (s 8)) (s 8) j c := fun c hc => (cl_mAdd_je t j a c hc).symm
  have ac : ∀ c, c < 16 → acF (mAdd s t j a) c = insF (acF s) (insP (tiF s) t (s 8)) (s 8) a c := fun c hc => (cl_mAdd_ac t j a c hc).symm
  refine ⟨⟨fun q hq => ?_, fun q hq => ?_, fun q hq => ?_, fun p hp => ?_, ?_, ?_, ?_, ?_⟩, fun q hq => ?_, ?_, ?_, ?_, ?_, ?_, ?_, fun c hc => ?_, fun c d hc hd => ?_, fun c d hc hd => ?_⟩
  · show 1 ≤ mAdd s t j a _ ∧ mAdd s t j a _ ≤ 20
    rw [lo _ (by omega) (by omega) (by omega)]; exact b1 q hq
  · show mAdd s t j a _ ≤ 10
    rw [lo _ (by omega) (by omega) (by omega)]; exact b2 q hq
  · show mAdd s t j a _ ≤ 10
    rw [lo _ (by omega) (by omega) (by omega)]; exact b3 q hq
  · show mAdd s t j a _ ≤ 2000
    rw [lo _ (by omega) (by omega) (by omega)]; exact b4 p hp
  · show mAdd s t j a 0 ≤ 20
    rw [lo _ (by omega) (by omega) (by omega)]; exact b5
  · show mAdd s t j a 1 ≤ 50
    rw [lo _ (by omega) (by omega) (by omega)]; exact b6
  · show 1 ≤ mAdd s t j a 2 ∧ mAdd s t j a 2 ≤ 10
    rw [lo _ (by omega) (by omega) (by omega)]; exact b7
  · rw [lo _ (by omega) (by omega) (by omega)]; exact b8
  · show mAdd s t j a _ ≤ 3
    rw [lo _ (by omega) (by omega) (by omega)]; exact h2 q hq
  · rw [lo _ (by omega) (by omega) (by omega)]; exact h3
  · rw [lo _ (by omega) (by omega) (by omega)]; omega
  · rw [e8]; omega
  · rw [e9]; omega
  · rw [lo _ (by omega) (by omega) (by omega)]; omega
  · rw [lo _ (by omega) (by omega) (by omega)]; exact h8
  · rw [e8] at hc
    rw [nu c (by omega), ti c (by omega), je c (by omega), ac c (by omega), e9]
    exact ⟨insF_all (P := fun z => z < s 9 + 1) (by omega) (fun c hc => by have := (h9 c hc).1; omega) hp hc, insF_all (P := fun z => z ≤ 999) ht (fun c hc => (h9 c hc).2.1) hp hc, insF_all (P := fun z => z < 8) hj (fun c hc => (h9 c hc).2.2.1) hp hc, insF_all (P := fun z => z ≤ 10) ha (fun c hc => (h9 c hc).2.2.2) hp hc⟩
  · rw [e8] at hd
    rw [ti c (by omega), ti d (by omega)]
    generalize hpp : insP (tiF s) t (s 8) = p at hp
    have lo1 : ∀ c, c < p → tiF s c ≤ t := fun c hc => insP_lo (s 8) h10 (by rw [hpp]; exact hc)
    have hi1 : ∀ c, p ≤ c → c < s 8 → t < tiF s c := fun c g1 g2 => insP_hi (s 8) (by rw [hpp]; exact g1) g2
    rcases Nat.lt_trichotomy c p with g | g | g
    · rw [insF_lo g]
      rcases Nat.lt_trichotomy d p with k | k | k
      · rw [insF_lo k]; exact h10 c d hc (by omega)
      · rw [k, insF_at]; exact lo1 c g
      · rw [insF_hi k (by omega)]
        have := lo1 c g
        have := hi1 (d - 1) (by omega) (by omega)
        omega
    · rw [g, insF_at, insF_hi (by omega) (by omega)]
      exact Nat.le_of_lt (hi1 (d - 1) (by omega) (by omega))
    · rw [insF_hi g (by omega), insF_hi (by omega) (by omega)]
      exact h10 (c - 1) (d - 1) (by omega) (by omega)
  · rw [e8] at hd
    rw [nu c (by omega), nu d (by omega)]
    generalize hpp : insP (tiF s) t (s 8) = p at hp
    have old : ∀ c, c < s 8 → nuF s c ≠ s 9 := fun c hc => by have := (h9 c hc).1; omega
    rcases Nat.lt_trichotomy c p with g | g | g
    · rw [insF_lo g]
      rcases Nat.lt_trichotomy d p with k | k | k
      · rw [insF_lo k]; exact h11 c d hc (by omega)
      · rw [k, insF_at]; exact old c (by omega)
      · rw [insF_hi k (by omega)]
        exact h11 c (d - 1) (by omega) (by omega)
    · rw [g, insF_at, insF_hi (by omega) (by omega)]
      exact (old (d - 1) (by omega)).symm
    · rw [insF_hi g (by omega), insF_hi (by omega) (by omega)]
      exact h11 (c - 1) (d - 1) (by omega) (by omega)
theorem sI_addIf {T : Nat} {s : Nat → Nat} {t j a : Nat} (h : sI T s) (ht : t ≤ 999) (hj : j < 8) (ha : a ≤ 10) : sI (T + 1) (mAddIf s t j a) := by
  unfold mAddIf
  split
  · next h2 => exact sI_add h (rS_ok h2) ht hj ha
  · exact sI_mono h (by omega)
theorem sI_adS {T : Nat} {cs s : Nat → Nat} {n : Nat} (h : sI T s) (hok : ∀ i, i ≤ n → runS cs i ≠ 8) : ∀ i, i ≤ n → sI (T + i) (adS cs s i)
  | 0, _ => h
  | i + 1, hi => by
    have ih := sI_adS h hok i (by omega)
    unfold adS
    split
    · next hc =>
      have := prT_in (semi_in (hok (i + 1) hi) hc)
      exact sI_addIf ih this.1 this.2.1 this.2.2
    · exact sI_mono ih (by omega)
theorem stI_lt {k : Nat} (h : k < 8) : stI k = nI k := if_neg (by omega)
theorem prT_at {cs : Nat → Nat} {i t j x : Nat} (h : prT cs i = (t, j, x)) (hd : isD (cs i)) (hj : j = 8) : prT cs (i + 1) = (t * 10 + (cs i - 48), j, x) := by unfold prT; rw [if_pos hd, h, if_pos hj, hj]
theorem prT_aim {cs : Nat → Nat} {i t j x : Nat} (h : prT cs i = (t, j, x)) (hd : isD (cs i)) (hj : ¬ j = 8) : prT cs (i + 1) = (t, j, x * 10 + (cs i - 48)) := by unfold prT; rw [if_pos hd, h, if_neg hj]
theorem prT_jet {cs : Nat → Nat} {i t j x : Nat} (h : prT cs i = (t, j, x)) (hd : isJ (cs i)) : prT cs (i + 1) = (t, cs i - 97, x) := by unfold prT; rw [if_neg (by omega), if_pos hd, h]
theorem prT_semi {cs : Nat → Nat} {i : Nat} (hd : cs i = 59) : prT cs (i + 1) = (0, 8, 0) := by unfold prT; rw [if_neg (by omega), if_neg (by omega), if_pos hd]
theorem prT_oth {cs : Nat → Nat} {i t j x : Nat} (h : prT cs i = (t, j, x)) (h1 : ¬ isD (cs i)) (h2 : ¬ isJ (cs i)) (h3 : ¬ cs i = 59) : prT cs (i + 1) = (t, j, x) := by unfold prT; rw [if_neg h1, if_neg h2, if_neg h3, h]
theorem adS_no {cs s : Nat → Nat} {i : Nat} {z : Nat → Nat} (h : z = adS cs s i) (h3 : ¬ cs i = 59) : z = adS cs s (i + 1) := by unfold adS; rw [if_neg h3]; exact h
theorem adN_no {cs s : Nat → Nat} {i u : Nat} (h : u = adN cs s i) (h3 : ¬ cs i = 59) : u = adN cs s (i + 1) := by unfold adN; rw [if_neg h3]; exact h
theorem adS_go {cs s : Nat → Nat} {i t j x : Nat} {z : Nat → Nat} (h : z = adS cs s i) (hq : prT cs i = (t, j, x)) (h3 : cs i = 59) : mAddIf z t j x = adS cs s (i + 1) := by
  have e : adS cs s (i + 1) = mAddIf (adS cs s i) (prT cs i).1 (prT cs i).2.1 (prT cs i).2.2 := if_pos h3
  rw [e, hq, h]
theorem adN_go {cs s : Nat → Nat} {i t j x u : Nat} {z : Nat → Nat} (hu : u = adN cs s i) (h : z = adS cs s i) (hq : prT cs i = (t, j, x)) (h3 : cs i = 59) : u + bI (rS z t j x = 0) = adN cs s (i + 1) := by
  have e : adN cs s (i + 1) = adN cs s i + bI (rS (adS cs s i) (prT cs i).1 (prT cs i).2.1 (prT cs i).2.2 = 0) := if_pos h3
  rw [e, hq, hu, h]
theorem prT_range {cs : Nat → Nat} {i n t j x : Nat} (h : prT cs i = (t, j, x)) (hok : runS cs n ≠ 8) (hi : i ≤ n) : t ≤ 999 ∧ j ≤ 8 ∧ x ≤ 10 := by
  have h1 := prOK_all (cs := cs) i
  have h2 := runS_ok hok hi
  have hle := runS_le cs i
  rw [h] at h1
  generalize runS cs i = k at h1 h2 hle
  rcases (show k = 0 ∨ k = 1 ∨ k = 2 ∨ k = 3 ∨ k = 4 ∨ k = 5 ∨ k = 6 ∨ k = 7 by omega) with rfl | rfl | rfl | rfl | rfl | rfl | rfl | rfl <;> simp only [prOK, Prod.mk.injEq] at h1 <;> omega
