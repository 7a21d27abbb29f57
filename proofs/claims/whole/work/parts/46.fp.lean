-- doubles by their bits
def bt (n : Nat) : UInt64 := UInt64.ofNat n
theorem bt_nat {n : Nat} (h : n < 2 ^ 63) : (bt n).toNat = n := by
  show (UInt64.ofNat n).toNat = n
  rw [UInt64.toNat_ofNat']
  exact Nat.mod_eq_of_lt (by omega)
theorem tb64 : FP.Core.b64.tails = 2 ^ 52 := by decide
theorem hb64 : FP.Core.half FP.Core.b64 = 2 ^ 63 := by decide +kernel
theorem bt_val {n : Nat} (h1 : 2 ^ 52 ≤ n) (h2 : n < 2047 * 2 ^ 52) : FP.Core.val64 (bt n) = .fin false (2 ^ 52 + n % 2 ^ 52) (((n / 2 ^ 52 : Nat) : Int) - 1075) := by
  unfold FP.Core.val64
  rw [bt_nat (by omega)]
  unfold FP.Core.decode
  have hm : FP.Core.mag FP.Core.b64 n = n := FP.Core.mag_of_lt (by rw [hb64]; omega)
  rw [FP.Core.fieldE_mag, FP.Core.fieldT_mag, hm, tb64, FP.Core.fieldS_mag _ (by rw [hb64]; omega), hb64]
  rw [if_neg (show ¬ n / 2 ^ 52 = FP.Core.b64.exps - 1 by (have e : FP.Core.b64.exps - 1 = 2047 := by decide); rw [e]; omega), if_neg (show ¬ n / 2 ^ 52 = 0 by omega)]
  have e1 : decide (2 ^ 63 ≤ n) = false := decide_eq_false (by omega)
  rw [e1]
  congr 1
  have e2 : FP.Core.b64.qmin = -1074 := by decide
  rw [e2]
  omega
theorem bt_0 : FP.Core.val64 (bt 0) = .fin false 0 FP.Core.b64.qmin := by decide +kernel
theorem bt_nn {n : Nat} (h : n = 0 ∨ (2 ^ 52 ≤ n ∧ n < 2047 * 2 ^ 52)) : FP.Core.val64 (bt n) ≠ .nan := by
  rcases h with rfl | ⟨h1, h2⟩
  · rw [bt_0]; exact fun z => by cases z
  · rw [bt_val h1 h2]; exact fun z => by cases z
theorem nn_ne {x : UInt64} (h : FP.Core.val64 x ≠ .nan) : vf_n64 x := by
  unfold vf_n64
  have h1 := (FP.Core.ne_nan x).mp h
  have h2 := FP.Core.mask_toNat x
  rw [UInt64.le_iff_toNat_le, h2]
  exact h1
theorem bt_fit {n : Nat} (h1 : 2 ^ 52 ≤ n) (h2 : n < 2047 * 2 ^ 52) : FP.Core.fits FP.Core.b64 (.fin false (2 ^ 52 + n % 2 ^ 52) (((n / 2 ^ 52 : Nat) : Int) - 1075)) := by
  rw [← bt_val h1 h2]; exact FP.Core.val64_fits _
theorem two_v : FP.Core.val64 (bt (1024 * 2 ^ 52)) = .fin false (2 ^ 52) (-51) := by decide +kernel
theorem one_v : FP.Core.val64 (bt (1023 * 2 ^ 52)) = .fin false (2 ^ 52) (-52) := by decide +kernel
theorem big_v : FP.Core.val64 (bt (1075 * 2 ^ 52)) = .fin false (2 ^ 52) 0 := by decide +kernel
theorem bt_dbl {n : Nat} (h1 : 2 ^ 52 ≤ n) (h2 : n < 2046 * 2 ^ 52) : FP.dmul (bt n) (bt (1024 * 2 ^ 52)) = bt (n + 2 ^ 52) := by
  refine FP.Core.val64_inj ?_ ?_
  · rw [FP.Core.val64_dmul, bt_val h1 (by omega), two_v]
    exact FP.Core.roundRatio_ne_nan _ _ _ _ _
  · rw [FP.Core.val64_dmul, bt_val h1 (by omega), two_v, bt_val (show 2 ^ 52 ≤ n + 2 ^ 52 by omega) (by omega)]
    have e1 : (n + 2 ^ 52) % 2 ^ 52 = n % 2 ^ 52 := by omega
    have e2 : (((n + 2 ^ 52) / 2 ^ 52 : Nat) : Int) - 1075 = (((n / 2 ^ 52 : Nat) : Int) - 1075) + 1 := by omega
    have hf := bt_fit (n := n + 2 ^ 52) (by omega) (by omega)
    rw [e1, e2] at hf ⊢
    show FP.Core.roundRatio FP.Core.b64 (false != false) ((2 ^ 52 + n % 2 ^ 52) * 2 ^ 52) 1 ((((n / 2 ^ 52 : Nat) : Int) - 1075) + -51) = _
    refine FP.Core.roundRatio_exact FP.Core.good_b64 (by decide) hf ?_
    rw [show ((((n / 2 ^ 52 : Nat) : Int) - 1075) + -51 - ((((n / 2 ^ 52 : Nat) : Int) - 1075) + 1)).toNat = 0 by omega, show ((((n / 2 ^ 52 : Nat) : Int) - 1075) + 1 - ((((n / 2 ^ 52 : Nat) : Int) - 1075) + -51)).toNat = 52 by omega]
    omega
theorem bt_key {n : Nat} (h : n < 2 ^ 63) : FP.Core.dkey (bt n) = (n : Int) := by
  unfold FP.Core.dkey
  rw [bt_nat h, if_neg (by omega)]
theorem bt_cmp {n m : Nat} (hn : n = 0 ∨ (2 ^ 52 ≤ n ∧ n < 2047 * 2 ^ 52)) (hm : m = 0 ∨ (2 ^ 52 ≤ m ∧ m < 2047 * 2 ^ 52)) : FP.dcmp (bt n) (bt m) = some (compare (n : Int) (m : Int)) := by
  refine (FP.Core.dcmp_key (bt_nn hn) (bt_nn hm)).trans ?_
  rw [bt_key (by omega), bt_key (by omega)]
theorem cv_lt {a b : Int} (h : a < b) : Op.cmpValue (some (compare a b)) .g = -1 := by
  rw [(FP.Core.compare_lt_iff a b).mpr h]; rfl
theorem cv_eq {a b : Int} (h : a = b) : Op.cmpValue (some (compare a b)) .g = 0 := by
  rw [(FP.Core.compare_eq_iff a b).mpr h]; rfl
theorem cv_gt {a b : Int} (h : b < a) : Op.cmpValue (some (compare a b)) .g = 1 := by
  rw [(FP.Core.compare_gt_iff a b).mpr h]; rfl
theorem ar_q {c F K L : Nat} {q : Int} (hF : F < 2 ^ L) (hq : -((K + L : Nat) : Int) ≤ q) (h : c * 2 ^ (q + ((K + L : Nat) : Int)).toNat = F * 2 ^ K) : c * 2 ^ L * 2 ^ q.toNat = F * 2 ^ (-q).toNat := by
  by_cases h0 : 0 < q
  · have hc0 : c = 0 := by
      rcases Nat.eq_zero_or_pos c with z | z
      · exact z
      · exfalso
        have e3 : (q + ((K + L : Nat) : Int)).toNat = q.toNat + (L + K) := by omega
        rw [e3, Nat.pow_add, Nat.pow_add] at h
        have e4 : 1 * (1 * (2 ^ L * 2 ^ K)) ≤ c * (2 ^ q.toNat * (2 ^ L * 2 ^ K)) := Nat.mul_le_mul z (Nat.mul_le_mul (Nat.two_pow_pos _) (Nat.le_refl _))
        rw [h, Nat.one_mul, Nat.one_mul] at e4
        exact absurd (Nat.lt_of_lt_of_le (Nat.mul_lt_mul_of_pos_right hF (Nat.two_pow_pos K)) e4) (Nat.lt_irrefl _)
    have hF0 : F = 0 := by
      rw [hc0, Nat.zero_mul] at h
      rcases Nat.mul_eq_zero.mp h.symm with z | z
      · exact z
      · exact absurd z (Nat.pos_iff_ne_zero.mp (Nat.two_pow_pos K))
    rw [hc0, hF0]; simp
  · rw [show q.toNat = 0 by omega, Nat.pow_zero, Nat.mul_one]
    refine Nat.eq_of_mul_eq_mul_right (Nat.two_pow_pos K) ?_
    calc c * 2 ^ L * 2 ^ K = c * (2 ^ (q + ((K + L : Nat) : Int)).toNat * 2 ^ (-q).toNat) := by
          rw [← Nat.pow_add, show (q + ((K + L : Nat) : Int)).toNat + (-q).toNat = L + K by omega, Nat.pow_add, Nat.mul_assoc]
      _ = F * 2 ^ K * 2 ^ (-q).toNat := by rw [← Nat.mul_assoc, h]
      _ = F * 2 ^ (-q).toNat * 2 ^ K := by rw [Nat.mul_right_comm]
theorem bt_sum {F : Nat} : FP.Core.exactSum (.fin false (2 ^ 52 + F) (-52)) (FP.Core.negate (.fin false (2 ^ 52) (-52))) = .fin false F (-52) := by
  have hu : FP.Core.sumUnits false (2 ^ 52 + F) (-52) true (2 ^ 52) (-52) (min (-52) (-52)) = (F : Int) := by
    simp [FP.Core.sumUnits, FP.Core.signed, FP.Core.inUnits]
    omega
  show FP.Core.Datum.fin (FP.Core.sumSign false true (FP.Core.sumUnits false (2 ^ 52 + F) (-52) true (2 ^ 52) (-52) (min (-52) (-52)))) (FP.Core.sumUnits false (2 ^ 52 + F) (-52) true (2 ^ 52) (-52) (min (-52) (-52))).natAbs (min (-52) (-52)) = _
  rw [hu]
  have h3 : FP.Core.sumSign false true (F : Int) = false := by
    unfold FP.Core.sumSign
    (repeat' split) <;> first | rfl | omega | simp_all
  rw [h3]
  rfl
theorem bt_m1 {m : Nat} (h1 : 1023 * 2 ^ 52 ≤ m) (h2 : m < 1024 * 2 ^ 52) : ∃ c q, FP.Core.val64 (FP.dsub (bt m) (bt (1023 * 2 ^ 52))) = .fin false c q ∧ -((1022 + 52 : Nat) : Int) ≤ q ∧ c * 2 ^ (q + ((1022 + 52 : Nat) : Int)).toNat = (m - 1023 * 2 ^ 52) * 2 ^ 1022 := by
  have hv : FP.Core.val64 (bt m) = .fin false (2 ^ 52 + (m - 1023 * 2 ^ 52)) (-52) := by
    rw [bt_val (by omega) (by omega), show m % 2 ^ 52 = m - 1023 * 2 ^ 52 by omega, show ((m / 2 ^ 52 : Nat) : Int) - 1075 = -52 by omega]
  have hF2 : m - 1023 * 2 ^ 52 < 2 ^ 52 := by omega
  generalize m - 1023 * 2 ^ 52 = F at hv hF2 ⊢
  obtain ⟨c', q', hr, hin⟩ := FP.Core.round_exact FP.Core.good_b64 false (c := F) (q := -52) (by show F < 2 ^ 53; omega) (by decide) (by decide)
  have hd : FP.Core.val64 (FP.dsub (bt m) (bt (1023 * 2 ^ 52))) = .fin false c' q' := by
    rw [FP.Core.val64_dsub, hv, one_v, bt_sum, hr]
  have hfit : FP.Core.fits FP.Core.b64 (.fin false c' q') := by rw [← hd]; exact FP.Core.val64_fits _
  have e : FP.Core.b64.qmin = -1074 := by decide
  have hq : FP.Core.b64.qmin ≤ q' := hfit.2.1
  rw [e] at hq
  refine ⟨c', q', hd, by omega, ?_⟩
  unfold FP.Core.inUnits at hin
  rw [e, show (q' - -1074).toNat = (q' + ((1022 + 52 : Nat) : Int)).toNat by omega, show ((-52 : Int) - -1074).toNat = 1022 by decide] at hin
  exact hin
/-- the fraction of a number from 1 to 2, as a whole number -/
theorem bt_frac {m : Nat} (h1 : 1023 * 2 ^ 52 ≤ m) (h2 : m < 1024 * 2 ^ 52) : FP.Core.val64 (FP.dsub (bt m) (bt (1023 * 2 ^ 52))) ≠ .nan ∧ FP.Core.val64 (FP.dmul (FP.dsub (bt m) (bt (1023 * 2 ^ 52))) (bt (1075 * 2 ^ 52))) ≠ .nan ∧ FP.d2l (FP.dmul (FP.dsub (bt m) (bt (1023 * 2 ^ 52))) (bt (1075 * 2 ^ 52))) = Int64.ofInt ((m - 1023 * 2 ^ 52 : Nat) : Int) := by
  obtain ⟨c', q', hd, hq, hin⟩ := bt_m1 h1 h2
  have hF2 : m - 1023 * 2 ^ 52 < 2 ^ 52 := by omega
  generalize m - 1023 * 2 ^ 52 = F at hF2 hin ⊢
  have hw : FP.Core.Whole ((F : Nat) : Int) (FP.Core.exactProduct (.fin false c' q') (.fin false (2 ^ 52) 0)) := by
    show ((c' * 2 ^ 52 * 2 ^ (q' + 0).toNat : Nat) : Int) = ((F : Nat) : Int) * ((2 ^ (-(q' + 0)).toNat : Nat) : Int)
    rw [Int.add_zero, ar_q hF2 hq hin]
    exact Int.natCast_mul _ _
  have hm : FP.Core.DInt ((F : Nat) : Int) (FP.dmul (FP.dsub (bt m) (bt (1023 * 2 ^ 52))) (bt (1075 * 2 ^ 52))) := by
    unfold FP.Core.DInt
    rw [FP.Core.val64_dmul, hd, big_v]
    exact FP.Core.whole_round FP.Core.good_b64 FP.Core.wide_b64 (by show _ ≤ 2 ^ 53; omega) hw
  refine ⟨(by rw [hd]; exact fun z => (by cases z)), fun z => (by unfold FP.Core.DInt at hm; rw [z] at hm; exact hm), ?_⟩
  refine FP.Core.d2l_int ?_
  rw [Int64.toInt_ofInt_of_le (by omega) (by omega)]
  exact hm
theorem bt_bits {E F : Nat} (hE : E < 2048) (hF : F < 2 ^ 52) : (Int64.ofInt (E : Int) <<< ((nI 52).toInt64 &&& 63)) ||| Int64.ofInt (F : Int) = (bt (E * 2 ^ 52 + F)).toInt64 := by
  have e0 : (nI 52).toInt64 &&& 63 = (52 : Int64) := by decide +kernel
  rw [e0]
  apply Int64.toBitVec_inj.mp
  apply BitVec.eq_of_toNat_eq
  have h1 : (Int64.ofInt (E : Int)).toBitVec.toNat = E := by
    show (BitVec.ofInt 64 (E : Int)).toNat = E
    rw [BitVec.ofInt_natCast, BitVec.toNat_ofNat]; omega
  have h2 : (Int64.ofInt (F : Int)).toBitVec.toNat = F := by
    show (BitVec.ofInt 64 (F : Int)).toNat = F
    rw [BitVec.ofInt_natCast, BitVec.toNat_ofNat]; omega
  have h3 : ((bt (E * 2 ^ 52 + F)).toInt64).toBitVec.toNat = E * 2 ^ 52 + F := by
    show (UInt64.ofNat (E * 2 ^ 52 + F)).toBitVec.toNat = _
    show (BitVec.ofNat 64 (E * 2 ^ 52 + F)).toNat = _
    rw [BitVec.toNat_ofNat]; omega
  rw [h3]
  show ((Int64.ofInt (E : Int)).toBitVec <<< (BitVec.ofNat 64 52 % 64#64) ||| (Int64.ofInt (F : Int)).toBitVec).toNat = _
  rw [show (BitVec.ofNat 64 52 % 64#64) = 52#64 by decide, BitVec.toNat_or, h2]
  rw [show (Int64.ofInt (E : Int)).toBitVec <<< 52#64 = (Int64.ofInt (E : Int)).toBitVec <<< 52 from rfl, BitVec.toNat_shiftLeft, h1, Nat.mod_eq_of_lt (by rw [Nat.shiftLeft_eq]; omega), ← Nat.shiftLeft_add_eq_or_of_lt hF, Nat.shiftLeft_eq]
theorem w_nat {G : Nat} {x : UInt64} (h : FP.Core.DInt (G : Int) x) (hG : 0 < G) : ∃ c q, FP.Core.val64 x = .fin false c q ∧ c * 2 ^ q.toNat = G * 2 ^ (-q).toNat ∧ 0 < c := by
  unfold FP.Core.DInt at h
  cases hx : FP.Core.val64 x with
  | nan => rw [hx] at h; exact h.elim
  | inf => rw [hx] at h; exact h.elim
  | fin s c q =>
    rw [hx] at h
    have h2 : FP.Core.signed s (c * 2 ^ q.toNat) = (G : Int) * ((2 ^ (-q).toNat : Nat) : Int) := h
    have h3 : 0 < G * 2 ^ (-q).toNat := Nat.mul_pos hG (Nat.two_pow_pos _)
    rw [← Int.natCast_mul] at h2
    cases s with
    | true =>
      exfalso
      have h4 : -((c * 2 ^ q.toNat : Nat) : Int) = ((G * 2 ^ (-q).toNat : Nat) : Int) := h2
      omega
    | false =>
      have h4 : ((c * 2 ^ q.toNat : Nat) : Int) = ((G * 2 ^ (-q).toNat : Nat) : Int) := h2
      refine ⟨c, q, rfl, by omega, ?_⟩
      rcases Nat.eq_zero_or_pos c with z | z
      · rw [z, Nat.zero_mul] at h4; omega
      · exact z
theorem pw_both {c d G A : Nat} {q r : Int} {K : Nat} (hc : c * 2 ^ q.toNat = G * 2 ^ (-q).toNat) (hd : d * 2 ^ r.toNat = A * 2 ^ (-r).toNat) (hK : 0 ≤ q - r + (K : Int)) : c * 2 ^ (q - r + (K : Int)).toNat * 2 ^ ((-q).toNat + r.toNat) = G * 2 ^ ((-q).toNat + (-r).toNat + K) ∧ d * 2 ^ K * 2 ^ ((-q).toNat + r.toNat) = A * 2 ^ ((-q).toNat + (-r).toNat + K) := by
  refine ⟨?_, ?_⟩
  · calc c * 2 ^ (q - r + (K : Int)).toNat * 2 ^ ((-q).toNat + r.toNat) = c * 2 ^ ((q - r + (K : Int)).toNat + ((-q).toNat + r.toNat)) := by rw [Nat.mul_assoc, ← Nat.pow_add]
      _ = c * 2 ^ (q.toNat + ((-r).toNat + K)) := by rw [show (q - r + (K : Int)).toNat + ((-q).toNat + r.toNat) = q.toNat + ((-r).toNat + K) by omega]
      _ = (c * 2 ^ q.toNat) * 2 ^ ((-r).toNat + K) := by rw [Nat.pow_add, Nat.mul_assoc]
      _ = _ := by rw [hc, Nat.mul_assoc, ← Nat.pow_add, Nat.add_assoc]
  · calc d * 2 ^ K * 2 ^ ((-q).toNat + r.toNat) = d * 2 ^ (r.toNat + (K + (-q).toNat)) := by rw [Nat.mul_assoc, ← Nat.pow_add, show K + ((-q).toNat + r.toNat) = r.toNat + (K + (-q).toNat) by omega]
      _ = (d * 2 ^ r.toNat) * 2 ^ (K + (-q).toNat) := by rw [Nat.pow_add, Nat.mul_assoc]
      _ = _ := by rw [hd, Nat.mul_assoc, ← Nat.pow_add, show (-r).toNat + (K + (-q).toNat) = (-q).toNat + (-r).toNat + K by omega]
theorem mul_sw (P D Y Z : Nat) : P * D * Y * Z = D * (P * Z) * Y := by ac_rfl
theorem un_1 : FP.Core.unitsOf FP.Core.b64 (1023 * 2 ^ 52) = 2 ^ 1074 := by decide +kernel
theorem un_2 : FP.Core.unitsOf FP.Core.b64 (1000 * 2 ^ 52) = 2 ^ 1051 := by decide +kernel
theorem sh_bt {G A : Nat} (hG : 0 < G) (hGA : G ≤ A) (hA : A ≤ 2000) : ∃ n, FP.ddiv (FP.i2d (nI G)) (FP.i2d (nI A)) = bt n ∧ 2 ^ 52 ≤ n ∧ n ≤ 1023 * 2 ^ 52 := by
  have hx : FP.Core.DInt (G : Int) (FP.i2d (nI G)) := by have := FP.Core.i2d_int (nI G); rw [nI_toInt (by omega)] at this; exact this
  have hy : FP.Core.DInt (A : Int) (FP.i2d (nI A)) := by have := FP.Core.i2d_int (nI A); rw [nI_toInt (by omega)] at this; exact this
  obtain ⟨c, q, vx, ec, c0⟩ := w_nat hx hG
  obtain ⟨d, r, vy, ed, d0⟩ := w_nat hy (by omega)
  have hv : FP.Core.val64 (FP.ddiv (FP.i2d (nI G)) (FP.i2d (nI A))) = FP.Core.roundRatio FP.Core.b64 false c d (q - r) := by
    rw [FP.Core.val64_ddiv, vx, vy]
    show (if d = 0 then _ else FP.Core.roundRatio FP.Core.b64 (false != false) c d (q - r)) = _
    rw [if_neg (by omega)]; rfl
  generalize FP.ddiv (FP.i2d (nI G)) (FP.i2d (nI A)) = R at hv
  have hnn : FP.Core.val64 R ≠ .nan := by rw [hv]; exact FP.Core.roundRatio_ne_nan _ _ _ _ _
  have hsg := FP.Core.sgn_bits hnn
  rw [hv, FP.Core.sgn_roundRatio] at hsg
  have hlt : R.toNat < 2 ^ 63 := by
    have := of_decide_eq_false hsg.symm
    omega
  have hdec : FP.Core.decode FP.Core.b64 R.toNat = FP.Core.roundRatio FP.Core.b64 false c d (q - r) := hv
  have hmag : FP.Core.mag FP.Core.b64 R.toNat = R.toNat := FP.Core.mag_of_lt (by rw [hb64]; omega)
  have eq : FP.Core.b64.qmin = -1074 := by decide
  obtain ⟨K, hK1, hK2⟩ : ∃ K : Nat, 1074 ≤ K ∧ 0 ≤ q - r + (K : Int) := ⟨1074 + (r - q).toNat, by omega, by omega⟩
  obtain ⟨p1, p2⟩ := pw_both ec ed hK2
  have hX : 0 < 2 ^ ((-q).toNat + r.toNat) := Nat.two_pow_pos _
  have hiu : FP.Core.inUnits c (q - r) (-(K : Int)) = c * 2 ^ (q - r + (K : Int)).toNat := by unfold FP.Core.inUnits; rw [show q - r - -(K : Int) = q - r + (K : Int) by omega]
  have hqe : (FP.Core.b64.qmin - -(K : Int)).toNat = K - 1074 := by rw [eq]; omega
  have h1 : FP.Core.mag FP.Core.b64 R.toNat ≤ 1023 * 2 ^ 52 := by
    refine FP.Core.mag_le FP.Core.good_b64 (e0 := -(K : Int)) hdec d0 (by rw [eq]; omega) (by omega) ?_
    rw [hiu, hqe, un_1, ← Nat.pow_add, show 1074 + (K - 1074) = K by omega, Nat.mul_comm (2 ^ K) d]
    refine Nat.le_of_mul_le_mul_right (c := 2 ^ ((-q).toNat + r.toNat)) ?_ hX
    rw [p1, p2]
    exact Nat.mul_le_mul_right _ hGA
  have h2 : 1000 * 2 ^ 52 ≤ FP.Core.mag FP.Core.b64 R.toNat := by
    refine FP.Core.mag_ge FP.Core.good_b64 (e0 := -(K : Int)) hdec d0 (by rw [eq]; omega) (by omega) (by decide +kernel) ?_
    rw [hiu, hqe, un_2, ← Nat.pow_add]
    refine Nat.le_of_mul_le_mul_right (c := 2 ^ ((-q).toNat + r.toNat)) ?_ hX
    refine Nat.le_of_mul_le_mul_right (c := 2 ^ 23) ?_ (Nat.two_pow_pos _)
    rw [p1]
    calc 2 ^ (1051 + (K - 1074)) * d * 2 ^ ((-q).toNat + r.toNat) * 2 ^ 23 = d * (2 ^ (1051 + (K - 1074)) * 2 ^ 23) * 2 ^ ((-q).toNat + r.toNat) := mul_sw _ _ _ _
      _ = d * 2 ^ K * 2 ^ ((-q).toNat + r.toNat) := by rw [← Nat.pow_add, show 1051 + (K - 1074) + 23 = K by omega]
      _ = A * 2 ^ ((-q).toNat + (-r).toNat + K) := p2
      _ ≤ G * 2 ^ ((-q).toNat + (-r).toNat + K) * 2 ^ 23 := by
        rw [Nat.mul_right_comm]
        refine Nat.mul_le_mul_right _ ?_
        have : 1 * 2 ^ 23 ≤ G * 2 ^ 23 := Nat.mul_le_mul_right _ hG
        omega
  rw [hmag] at h1 h2
  refine ⟨R.toNat, ?_, by omega, h1⟩
  exact (UInt64.ofNat_toNat).symm
theorem sh_0 {A : Nat} (h0 : 0 < A) (hA : A ≤ 2000) : FP.ddiv (FP.i2d (nI 0)) (FP.i2d (nI A)) = bt 0 := by
  have hy : FP.Core.DInt (A : Int) (FP.i2d (nI A)) := by have := FP.Core.i2d_int (nI A); rw [nI_toInt (by omega)] at this; exact this
  obtain ⟨d, r, vy, ed, d0⟩ := w_nat hy h0
  have vx : FP.Core.val64 (FP.i2d (nI 0)) = .fin false 0 FP.Core.b64.qmin := by decide +kernel
  have hv : FP.Core.val64 (FP.ddiv (FP.i2d (nI 0)) (FP.i2d (nI A))) = .fin false 0 FP.Core.b64.qmin := by
    rw [FP.Core.val64_ddiv, vx, vy]
    show (if d = 0 then _ else FP.Core.roundRatio FP.Core.b64 (false != false) 0 d _) = _
    rw [if_neg (by omega)]
    exact if_pos rfl
  refine FP.Core.val64_inj (by rw [hv]; exact fun z => (by cases z)) ?_
  rw [hv, bt_0]
/-- the share that the jets get -/
def aS (s : Nat → Nat) : Nat := sumTo (pA (szF s) (vaF s)) 2
def shS (s : Nat → Nat) : UInt64 := if aS s = 0 then FP.dconst1 else FP.ddiv (FP.i2d (nI (tS s))) (FP.i2d (nI (aS s)))
theorem tS_aS (s : Nat → Nat) : tS s ≤ aS s := by
  have h : ∀ j, gS s j ≤ szF s j * vaF s j := fun j => by
    unfold gS fGets fPart
    refine Nat.le_trans (Nat.min_le_left _ _) ?_
    split
    · refine Nat.div_le_of_le_mul ?_
      rw [Nat.mul_comm]
      exact Nat.mul_le_mul_right _ (by omega)
    · exact Nat.le_refl _
  have h0 := h 0
  have h1 := h 1
  have h2 := h 2
  have h3 := h 3
  have h4 := h 4
  have h5 := h 5
  have h6 := h 6
  have h7 := h 7
  show 0 + gS s 0 + gS s 1 + gS s 2 + gS s 3 + gS s 4 + gS s 5 + gS s 6 + gS s 7 ≤ 0 + (0 + szF s 0 * vaF s 0 + szF s 1 * vaF s 1 + szF s 2 * vaF s 2 + szF s 3 * vaF s 3) + (0 + szF s 4 * vaF s 4 + szF s 5 * vaF s 5 + szF s 6 * vaF s 6 + szF s 7 * vaF s 7)
  omega
theorem aS_le {T : Nat} {s : Nat → Nat} (h : sI T s) : aS s ≤ 1600 := by
  have h0 := pA_le h.1 (show 0 < 2 by decide)
  have h1 := pA_le h.1 (show 1 < 2 by decide)
  show 0 + pA (szF s) (vaF s) 0 + pA (szF s) (vaF s) 1 ≤ 1600
  omega
theorem shS_bt {T : Nat} {s : Nat → Nat} (h : sI T s) : ∃ n, shS s = bt n ∧ (n = 0 ∨ (2 ^ 52 ≤ n ∧ n ≤ 1023 * 2 ^ 52)) := by
  have ha := aS_le h
  have ht := tS_aS s
  unfold shS
  split
  · exact ⟨1023 * 2 ^ 52, by decide +kernel, Or.inr ⟨by decide, Nat.le_refl _⟩⟩
  · rename_i h0
    rcases Nat.eq_zero_or_pos (tS s) with hz | hz
    · rw [hz]; exact ⟨0, sh_0 (by omega) (by omega), Or.inl rfl⟩
    · obtain ⟨n, e, h1, h2⟩ := sh_bt hz ht (by omega)
      exact ⟨n, e, Or.inr ⟨h1, h2⟩⟩
theorem shS_ne {T : Nat} {s : Nat → Nat} (h : sI T s) (h0 : ¬ aS s = 0) : vf_n64 (FP.ddiv (FP.i2d (nI (tS s))) (FP.i2d (nI (aS s)))) := by
  obtain ⟨n, e, hn⟩ := shS_bt h
  unfold shS at e
  rw [if_neg h0] at e
  rw [e]
  exact nn_ne (bt_nn (by omega))
section KTOPX
variable {p : Program} {l : Launch} {e : Env} {R : Room} {s : State} {m : MethodId} {args : Array Value} {below : List Frame} {meth : Method} {c : Code} {H : Heap} {locs : List Loc} {cells slots : Nat} {Q : State → Prop}
variable {pc : Nat} {ls : Array Slot} {rest : List Value}
theorem q_topx {x y : Value} (h : x = y) (k : W p l e R s m args below meth c H locs cells slots Q (F0 m pc ls (y :: rest))) : W p l e R s m args below meth c H locs cells slots Q (F0 m pc ls (x :: rest)) := by rw [h]; exact k
end KTOPX
theorem nan_no {x : UInt64} (h : FP.Core.val64 x ≠ .nan) : Op.cmpValue (FP.dcmp x x) .l = 0 := by
  have e : FP.dcmp x x = some .eq := FP.Core.dcmp_self h
  rw [e]; rfl
theorem dc1 : FP.dconst1 = bt (1023 * 2 ^ 52) := by decide +kernel
theorem dc0 : FP.dconst0 = bt 0 := by decide +kernel
theorem l_dec {a : Nat} (h : 0 < a) (h2 : a < 2000) : Int64.ofInt (a : Int) - 1 = Int64.ofInt ((a - 1 : Nat) : Int) := by
  apply Int64.toBitVec_inj.mp
  apply BitVec.eq_of_toNat_eq
  show (BitVec.ofInt 64 (a : Int) - 1#64).toNat = (BitVec.ofInt 64 ((a - 1 : Nat) : Int)).toNat
  rw [BitVec.ofInt_natCast, BitVec.ofInt_natCast, BitVec.toNat_sub, BitVec.toNat_ofNat, BitVec.toNat_ofNat, BitVec.toNat_ofNat]
  omega
def mixL (f : Nat → Int64) : Nat → Int64 → Int64
  | 0, h => h
  | i + 1, h => 31 * mixL f i h + f i
def mixJ (f g : Nat → Int64) : Nat → Int64 → Int64
  | 0, h => h
  | i + 1, h => 31 * (31 * mixJ f g i h + f i) + g i
def dg1 (s : Nat → Nat) (k : Nat) : Nat → Int64 := fun w => (nI (cntS s k w)).toInt64
def dg2 (s : Nat → Nat) : Nat → Int64 := fun j => (nI (seF s j)).toInt64
def dg3 (s : Nat → Nat) : Nat → Int64 := fun i => (nI (jetS s (i / 8) (i % 8))).toInt64
def dg4 (s : Nat → Nat) : Nat → Int64 := fun i => (nI (pmpS s (i / 3) (i % 3))).toInt64
def dg5 (s : Nat → Nat) : Nat → Int64 := fun i => (nI (s (54 + i))).toInt64
def dg6 (s : Nat → Nat) : Nat → Int64 := fun w => (nI (ifpS s 9 w)).toInt64
def dg7 (s : Nat → Nat) : Nat → Int64 := fun j => (mostD s 20 j 11).toInt64
def dg8 (s : Nat → Nat) : Nat → Int64 := fun j => (fitD s j 10 (1000 - 20) 20).toInt64
def dg9 (cs : Nat → Nat) : Nat → Int64 := fun i => (nI (cs i)).toInt64
def hh2 (s : Nat → Nat) (k : Nat) : Int64 := mixL (dg2 s) 3 (mixL (dg1 s k) 10 3121)
def hh4 (s : Nat → Nat) (h : Int64) : Int64 := mixL (dg4 s) 6 (mixL (dg3 s) 64 h)
def hh5 (s : Nat → Nat) (k : Nat) : Int64 := mixL (dg5 s) (4 * s 8) (hh4 s (hh2 s k))
def hh6 (s : Nat → Nat) (k : Nat) : Int64 := mixL (dg6 s) 4 (hh5 s k)
def hh7 (s : Nat → Nat) (k : Nat) : Int64 := mixJ (dg7 s) (dg8 s) 8 (hh6 s k)
def hh9 (s : Nat → Nat) (k : Nat) : Int64 := 31 * (31 * hh7 s k + (dryD 500 1 (mZero s)).toInt64) + (shS s).toInt64
def hh10 (s : Nat → Nat) (k n : Nat) : Int64 := 31 * hh9 s k + (nI n).toInt64
def digS (s : Nat → Nat) (k n : Nat) (cs : Nat → Nat) : Int64 := mixL (dg9 cs) n (hh10 s k n)
theorem mix3 (s : Nat → Nat) (h : Int64) {j w : Nat} (hw : w < 8) : 31 * mixL (dg3 s) (8 * j + w) h + (nI (jetS s j w)).toInt64 = mixL (dg3 s) (8 * j + (w + 1)) h := by
  show _ = 31 * mixL (dg3 s) (8 * j + w) h + (nI (jetS s ((8 * j + w) / 8) ((8 * j + w) % 8))).toInt64
  rw [show (8 * j + w) / 8 = j by omega, show (8 * j + w) % 8 = w by omega]
theorem mix4 (s : Nat → Nat) (h : Int64) {j w : Nat} (hw : w < 3) : 31 * mixL (dg4 s) (3 * j + w) h + (nI (pmpS s j w)).toInt64 = mixL (dg4 s) (3 * j + (w + 1)) h := by
  show _ = 31 * mixL (dg4 s) (3 * j + w) h + (nI (pmpS s ((3 * j + w) / 3) ((3 * j + w) % 3))).toInt64
  rw [show (3 * j + w) / 3 = j by omega, show (3 * j + w) % 3 = w by omega]
theorem num5 (s : Nat → Nat) {p w : Nat} (hp : p < s 8) (hw : w ≤ 3) : (if p < s 8 then nI (numS (nuF s) (tiF s) (jeF s) (acF s) w p) else -1) = nI (s (54 + (4 * p + w))) := by
  rw [if_pos hp]
  congr 1
  unfold numS nuF tiF jeF acF
  (repeat' split) <;> (congr 1; omega)
theorem mixL_0 (f : Nat → Int64) (h : Int64) : h = mixL f 0 h := rfl
theorem mixJ_0 (f g : Nat → Int64) (h : Int64) : h = mixJ f g 0 h := rfl
theorem mixL_s (f : Nat → Int64) (i : Nat) (h : Int64) : 31 * mixL f i h + f i = mixL f (i + 1) h := rfl
theorem mixJ_s (f g : Nat → Int64) (i : Nat) (h : Int64) : 31 * (31 * mixJ f g i h + f i) + g i = mixJ f g (i + 1) h := rfl
theorem mx1 (s : Nat → Nat) (k i : Nat) (h : Int64) : 31 * mixL (dg1 s k) i h + (nI (cntS s k i)).toInt64 = mixL (dg1 s k) (i + 1) h := mixL_s (dg1 s k) i h
theorem mx2 (s : Nat → Nat) (i : Nat) (h : Int64) : 31 * mixL (dg2 s) i h + (nI (seF s i)).toInt64 = mixL (dg2 s) (i + 1) h := mixL_s (dg2 s) i h
theorem mx3 (s : Nat → Nat) (i : Nat) (h : Int64) : 31 * mixL (dg3 s) i h + (nI (jetS s (i / 8) (i % 8))).toInt64 = mixL (dg3 s) (i + 1) h := mixL_s (dg3 s) i h
theorem mx4 (s : Nat → Nat) (i : Nat) (h : Int64) : 31 * mixL (dg4 s) i h + (nI (pmpS s (i / 3) (i % 3))).toInt64 = mixL (dg4 s) (i + 1) h := mixL_s (dg4 s) i h
theorem mx5 (s : Nat → Nat) (i : Nat) (h : Int64) : 31 * mixL (dg5 s) i h + (nI (s (54 + i))).toInt64 = mixL (dg5 s) (i + 1) h := mixL_s (dg5 s) i h
theorem mx6 (s : Nat → Nat) (i : Nat) (h : Int64) : 31 * mixL (dg6 s) i h + (nI (ifpS s 9 i)).toInt64 = mixL (dg6 s) (i + 1) h := mixL_s (dg6 s) i h
theorem mx7 (s : Nat → Nat) (i : Nat) (h : Int64) : 31 * (31 * mixJ (dg7 s) (dg8 s) i h + (mostD s 20 i 11).toInt64) + (fitD s i 10 (1000 - 20) 20).toInt64 = mixJ (dg7 s) (dg8 s) (i + 1) h := mixJ_s (dg7 s) (dg8 s) i h
theorem mx9 (cs : Nat → Nat) (i : Nat) (h : Int64) : 31 * mixL (dg9 cs) i h + (nI (cs i)).toInt64 = mixL (dg9 cs) (i + 1) h := mixL_s (dg9 cs) i h
theorem eh2 (s : Nat → Nat) (k : Nat) : mixL (dg2 s) 3 (mixL (dg1 s k) 10 3121) = hh2 s k := rfl
theorem eh4 (s : Nat → Nat) (h : Int64) : mixL (dg4 s) 6 (mixL (dg3 s) 64 h) = hh4 s h := rfl
theorem eh5 (s : Nat → Nat) (k : Nat) : mixL (dg5 s) (4 * s 8) (hh4 s (hh2 s k)) = hh5 s k := rfl
theorem eh6 (s : Nat → Nat) (k : Nat) : mixL (dg6 s) 4 (hh5 s k) = hh6 s k := rfl
theorem eh7 (s : Nat → Nat) (k : Nat) : mixJ (dg7 s) (dg8 s) 8 (hh6 s k) = hh7 s k := rfl
theorem eh9 (s : Nat → Nat) (k : Nat) : 31 * (31 * hh7 s k + (dryD 500 1 (mZero s)).toInt64) + (shS s).toInt64 = hh9 s k := rfl
theorem eh10 (s : Nat → Nat) (k n : Nat) : 31 * hh9 s k + (nI n).toInt64 = hh10 s k n := rfl
theorem ehd (s : Nat → Nat) (k n : Nat) (cs : Nat → Nat) : mixL (dg9 cs) n (hh10 s k n) = digS s k n cs := rfl
set_option maxHeartbeats 4000000 in
set_option maxRecDepth 100000 in
theorem k_Jxe99ae_isNaN_b9ae7 (l : Launch) (D : va_G) (cI cS cL : ClassId) (x : UInt64) (hnn : FP.Core.val64 x ≠ .nan) : KM l D (TY cI cS cL) yJxe99ae_isNaN_b9ae7 wsJxe99ae_isNaN_b9ae7 ({ frames := 0, cells := 0, slots := 0, locals := 0 } : Room) [] [.double x] (fun (v : Option Value) (_ : Unit) => v = some (.int (nI 0))) (fun _ : Unit => []) := by
  refine KM.of (cc := cJxe99ae_isNaN_b9ae7) (maxL := 2) (ret := (some .boolean)) (by decide) rfl (Nat.le_of_ble_eq_true rfl) ?_
  intro p9 e9 s9 m9 ar9 be9 me9 c9 Q9 A9 ls C0 hN hnm hlk hK hA hret hP hD hS hl
  obtain ⟨hx, hb, hml, hown, hts⟩ := id C0
  have hl : lv_has ls 2 [(0, .double x)] := hl
  obtain ⟨H, hH0⟩ : ∃ H, H = s9.heap := ⟨_, rfl⟩
  obtain ⟨locs, hlc0⟩ : ∃ z : List Loc, z = [] := ⟨_, rfl⟩
  have hP : va_P D vwCl [] H := by rw [hH0]; exact hP
  have hD : va_D A9 [] := hD
  have hS : va_S A9 s9.heap H locs := by rw [hH0, hlc0]; exact hS
  suffices hgo : W p9 l e9 ({ frames := 0, cells := 0, slots := 0, locals := 0 } : Room) s9 m9 ar9 be9 me9 c9 H locs 0 0 Q9 (F0 m9 0 ls []) by rw [hH0, hlc0] at hgo; exact hgo
  clear hH0 hlc0
  refine lv_dload_n hx hb dJxe99ae_isNaN_b9ae7_0 rfl (lv_at hl 0 rfl) ?_
  refine lv_dload_n hx hb dJxe99ae_isNaN_b9ae7_1 rfl (lv_at hl 0 rfl) ?_
  refine lv_dcmp hx hb dJxe99ae_isNaN_b9ae7_2 ?_
  refine lv_if_eq (tgt := 10) hx hb dJxe99ae_isNaN_b9ae7_3 (by decide) (fun c_3 => ?_) (fun c_3 => ?_)
  ·
    refine lv_iconst (v := nI 0) hx hb dJxe99ae_isNaN_b9ae7_10 (by decide +kernel) ?_
    exact hret _ _ _ _ (some (.int (nI 0))) () 11 ls (by decide) (by decide) (by rfl) hP hD hS (ret_z dJxe99ae_isNaN_b9ae7_11 (by first | exact bI_le | omega))
  · exact absurd (nan_no hnn) c_3

set_option maxHeartbeats 4000000 in
set_option maxRecDepth 100000 in
theorem k_Jxe99ae_doubleToLongBits_ccdee (l : Launch) (D : va_G) (cI cS cL : ClassId) (x : UInt64) (hnn : FP.Core.val64 x ≠ .nan) : KM l D (TY cI cS cL) yJxe99ae_doubleToLongBits_ccdee wsJxe99ae_doubleToLongBits_ccdee ({ frames := 1, cells := 0, slots := 0, locals := 24 } : Room) [] [.double x] (fun (v : Option Value) (_ : Unit) => v = some (.long x.toInt64)) (fun _ : Unit => []) := by
  refine KM.of (cc := cJxe99ae_doubleToLongBits_ccdee) (maxL := 2) (ret := (some .long)) (by decide) rfl (Nat.le_of_ble_eq_true rfl) ?_
  intro p9 e9 s9 m9 ar9 be9 me9 c9 Q9 A9 ls C0 hN hnm hlk hK hA hret hP hD hS hl
  obtain ⟨hx, hb, hml, hown, hts⟩ := id C0
  have hl : lv_has ls 2 [(0, .double x)] := hl
  obtain ⟨H, hH0⟩ : ∃ H, H = s9.heap := ⟨_, rfl⟩
  obtain ⟨locs, hlc0⟩ : ∃ z : List Loc, z = [] := ⟨_, rfl⟩
  have hP : va_P D vwCl [] H := by rw [hH0]; exact hP
  have hD : va_D A9 [] := hD
  have hS : va_S A9 s9.heap H locs := by rw [hH0, hlc0]; exact hS
  suffices hgo : W p9 l e9 ({ frames := 1, cells := 0, slots := 0, locals := 24 } : Room) s9 m9 ar9 be9 me9 c9 H locs 0 0 Q9 (F0 m9 0 ls []) by rw [hH0, hlc0] at hgo; exact hgo
  clear hH0 hlc0
  refine lv_dload_n hx hb dJxe99ae_doubleToLongBits_ccdee_0 rfl (lv_at hl 0 rfl) ?_
  refine KM.callS (As := [.double x]) (rest := []) C0 hN (k_Jxe99ae_isNaN_b9ae7 l D cI cS cL x  (by first | with_reducible assumption | omega)) (va_cwS 1 hts gJxe99ae_doubleToLongBits_ccdee_Jxe99ae_isNaN_b9ae7 rfl rfl rfl (by decide +kernel) ⟨Nat.le_of_ble_eq_true rfl, Nat.le_of_ble_eq_true rfl⟩) hK hP hD hS hA [] rfl (by decide) (fun _ => rfl) rfl hl.1 rfl (Nat.le_of_ble_eq_true rfl) dJxe99ae_doubleToLongBits_ccdee_1 ⟨Nat.le_of_ble_eq_true rfl, Nat.le_of_ble_eq_true rfl⟩ (fun v9 u9 H locs hv hP hD hS => ?_)
  subst hv
  have hP : va_P D vwCl [] H := hP
  have hD : va_D A9 [] := hD
  refine W.eq (g2 := F0 m9 4 ls [.int (nI 0)]) rfl ?_
  refine q_fne (tgt := 12) (by omega) hx hb dJxe99ae_doubleToLongBits_ccdee_4 (by decide) (fun c_4 => ?_) (fun c_4 => ?_)
  · exact absurd True.intro (by omega)
  ·
    refine lv_dload_n hx hb dJxe99ae_doubleToLongBits_ccdee_7 rfl (lv_at hl 0 rfl) ?_
    refine vn_d2l hx hb (hml.trans hl.1.symm) hown (hts (.methodLink RJxe99ae 134 ⟨"java/lang/Double", "doubleToRawLongBits", "(D)J"⟩) (by decide +kernel)) (hts (.native ⟨"java/lang/Double", "doubleToRawLongBits", "(D)J"⟩) (by decide +kernel)) (hts (.static ⟨"java/lang/Double", "doubleToRawLongBits", "(D)J"⟩) (by decide +kernel)) (hts (.initialized "java/lang/Double") (by decide +kernel)) (Nat.le_of_ble_eq_true rfl) (Nat.le_of_ble_eq_true rfl) dJxe99ae_doubleToLongBits_ccdee_8 ?_
    exact hret _ _ _ _ (some (.long x.toInt64)) () 11 ls (by decide) (by decide) (by rfl) hP hD hS (ret_l dJxe99ae_doubleToLongBits_ccdee_11)

set_option maxHeartbeats 4000000 in
set_option maxRecDepth 100000 in
theorem k_X5_bitsOf (l : Launch) (D : va_G) (cI cS cL : ClassId) (q : Nat) (hq : q = 0 ∨ (2 ^ 52 ≤ q ∧ q ≤ 1023 * 2 ^ 52)) : KM l D (TY cI cS cL) yX5_bitsOf wsX5_bitsOf ({ frames := 0, cells := 0, slots := 0, locals := 0 } : Room) [] [.double (bt q)] (fun (v : Option Value) (_ : Unit) => v = some (.long ((bt q).toInt64))) (fun _ : Unit => []) := by
  refine KM.of (cc := cX5_bitsOf) (maxL := 8) (ret := (some .long)) (by decide) rfl (Nat.le_of_ble_eq_true rfl) ?_
  intro p9 e9 s9 m9 ar9 be9 me9 c9 Q9 A9 ls C0 hN hnm hlk hK hA hret hP hD hS hl
  obtain ⟨hx, hb, hml, hown, hts⟩ := id C0
  have hl : lv_has ls 8 [(0, .double (bt q))] := hl
  obtain ⟨H, hH0⟩ : ∃ H, H = s9.heap := ⟨_, rfl⟩
  obtain ⟨locs, hlc0⟩ : ∃ z : List Loc, z = [] := ⟨_, rfl⟩
  have hP : va_P D vwCl [] H := by rw [hH0]; exact hP
  have hD : va_D A9 [] := hD
  have hS : va_S A9 s9.heap H locs := by rw [hH0, hlc0]; exact hS
  suffices hgo : W p9 l e9 ({ frames := 0, cells := 0, slots := 0, locals := 0 } : Room) s9 m9 ar9 be9 me9 c9 H locs 0 0 Q9 (F0 m9 0 ls []) by rw [hH0, hlc0] at hgo; exact hgo
  clear hH0 hlc0
  refine lv_dload_n hx hb dX5_bitsOf_0 rfl (lv_at hl 0 rfl) ?_
  refine lv_dconst0 hx hb dX5_bitsOf_1 ?_
  refine q_topx (y := .double (bt 0)) (by rw [dc0]) ?_
  refine lv_dcmp hx hb dX5_bitsOf_2 ?_
  refine lv_if_gt (tgt := 8) hx hb dX5_bitsOf_3 (by decide) (fun c_3 => ?_) (fun c_3 => ?_)
  ·
    have hq1 : 2 ^ 52 ≤ q := by
      rcases hq with h9 | h9
      · rw [h9, bt_cmp (Or.inl rfl) (Or.inl rfl), cv_eq rfl] at c_3
        exact absurd c_3 (by decide)
      · exact h9.1
    refine lv_ldc2 (v := 1023) hx hb hown (hts (.constantLong RX5 261 1023) (by decide +kernel)) dX5_bitsOf_8 ?_
    refine q_topx (y := .long (Int64.ofInt ((1023 - 0 : Nat) : Int))) (by rfl) ?_
    refine lv_lstore_n (lv' := [(2, .long (Int64.ofInt ((1023 - 0 : Nat) : Int))), (0, .double (bt q))]) hx hb dX5_bitsOf_11 rfl hl (by decide) rfl (fun ls hl => ?_)
    refine lv_dload_n hx hb dX5_bitsOf_12 rfl (lv_at hl 1 rfl) ?_
    refine lv_dstore (lv' := [(4, .double (bt q)), (2, .long (Int64.ofInt ((1023 - 0 : Nat) : Int))), (0, .double (bt q))]) hx hb dX5_bitsOf_13 hl (by decide) rfl (fun ls hl => ?_)
    refine lv_iconst (v := nI 0) hx hb dX5_bitsOf_15 (by decide +kernel) ?_
    refine lv_istore (lv' := [(6, .int (nI 0)), (4, .double (bt q)), (2, .long (Int64.ofInt ((1023 - 0 : Nat) : Int))), (0, .double (bt q))]) hx hb dX5_bitsOf_16 hl (by decide) rfl (fun ls hl => ?_)
    have L18 : ∀ (fuel : Nat) (i : Nat) (m : Nat) (H : Heap) (locs : List Loc) (ls : Array Slot), (i ≤ 1022) → (m = q + i * 2 ^ 52) → (m < 1024 * 2 ^ 52) → (2 ^ 52 ≤ q) → (1022 - i < fuel) → va_P D vwCl [] H → va_D A9 [] → va_S A9 s9.heap H locs → lv_has ls 8 [(0, .double (bt q)), (6, .int (nI i)), (2, .long (Int64.ofInt ((1023 - i : Nat) : Int))), (4, .double (bt m))] → W p9 l e9 ({ frames := 0, cells := 0, slots := 0, locals := 0 } : Room) s9 m9 ar9 be9 me9 c9 H locs 0 0 Q9 (F0 m9 18 ls []) := by
      intro fuel
      induction fuel with
      | zero => intro i m H locs ls hi hm hm2 hq1 hfu; exact absurd hfu (Nat.not_lt_zero _)
      | succ fuel ih18 =>
        intro i m H locs ls hi hm hm2 hq1 hfu hP hD hS hl
        refine lv_iload hx hb dX5_bitsOf_18 (lv_at hl 1 rfl) ?_
        refine lv_sipush (v := nI 1022) hx hb dX5_bitsOf_20 (by decide +kernel) ?_
        refine q_ige (tgt := 51) (by omega) (by omega) hx hb dX5_bitsOf_23 (by decide) (fun c_23 => ?_) (fun c_23 => ?_)
        ·
          have hm3 : 1023 * 2 ^ 52 ≤ m := by first | omega | exact Nat.le_of_not_lt (fun w => by rw [bt_cmp (Or.inr ⟨by omega, by omega⟩) (Or.inr ⟨by decide, by decide⟩), cv_lt (by omega)] at c_30; exact absurd c_30 (by decide))
          have hfr := bt_frac hm3 hm2
          refine lv_dload hx hb dX5_bitsOf_51 (lv_at hl 3 rfl) ?_
          refine lv_dconst1 hx hb dX5_bitsOf_53 ?_
          refine q_topx (y := .double (bt (1023 * 2 ^ 52))) (by rw [dc1]) ?_
          refine lv_dsub hx hb dX5_bitsOf_54 (by exact nn_ne hfr.1) ?_
          refine lv_ldc2d (v := bt (1075 * 2 ^ 52)) hx hb hown (hts (.constantDouble RX5 265 (bt (1075 * 2 ^ 52))) (by decide +kernel)) dX5_bitsOf_55 ?_
          refine lv_dmul hx hb dX5_bitsOf_58 (by exact nn_ne hfr.2.1) ?_
          refine lv_d2l hx hb dX5_bitsOf_59 ?_
          refine q_topx (y := .long (Int64.ofInt ((m - 1023 * 2 ^ 52 : Nat) : Int))) (by rw [hfr.2.2]) ?_
          refine lv_lstore (lv' := [(6, .long (Int64.ofInt ((m - 1023 * 2 ^ 52 : Nat) : Int))), (0, .double (bt q)), (2, .long (Int64.ofInt ((1023 - i : Nat) : Int))), (4, .double (bt m))]) hx hb dX5_bitsOf_60 hl (by decide) rfl (fun ls hl => ?_)
          refine lv_lload_n hx hb dX5_bitsOf_62 rfl (lv_at hl 2 rfl) ?_
          refine lv_bipush (v := nI 52) hx hb dX5_bitsOf_63 (by decide +kernel) ?_
          refine lv_lshl (v := (Int64.ofInt ((1023 - i : Nat) : Int)) <<< ((nI 52).toInt64 &&& 63)) hx hb dX5_bitsOf_65 rfl ?_
          refine lv_lload hx hb dX5_bitsOf_66 (lv_at hl 0 rfl) ?_
          refine lv_lor hx hb dX5_bitsOf_68 ?_
          exact hret _ _ _ _ (some (.long (((Int64.ofInt ((1023 - i : Nat) : Int)) <<< ((nI 52).toInt64 &&& 63)) ||| (Int64.ofInt ((m - 1023 * 2 ^ 52 : Nat) : Int))))) () 69 ls (by decide) (by decide) (by exact congrArg (fun z => some (Value.long z)) ((bt_bits (by omega) (by omega)).trans (by rw [show (1023 - i) * 2 ^ 52 + (m - 1023 * 2 ^ 52) = q by omega]))) hP hD hS (ret_l dX5_bitsOf_69)
        ·
          refine lv_dload hx hb dX5_bitsOf_26 (lv_at hl 3 rfl) ?_
          refine lv_dconst1 hx hb dX5_bitsOf_28 ?_
          refine q_topx (y := .double (bt (1023 * 2 ^ 52))) (by rw [dc1]) ?_
          refine lv_dcmp hx hb dX5_bitsOf_29 ?_
          refine lv_if_ge (tgt := 51) hx hb dX5_bitsOf_30 (by decide) (fun c_30 => ?_) (fun c_30 => ?_)
          ·
            have hm3 : 1023 * 2 ^ 52 ≤ m := by first | omega | exact Nat.le_of_not_lt (fun w => by rw [bt_cmp (Or.inr ⟨by omega, by omega⟩) (Or.inr ⟨by decide, by decide⟩), cv_lt (by omega)] at c_30; exact absurd c_30 (by decide))
            have hfr := bt_frac hm3 hm2
            refine lv_dload hx hb dX5_bitsOf_51 (lv_at hl 3 rfl) ?_
            refine lv_dconst1 hx hb dX5_bitsOf_53 ?_
            refine q_topx (y := .double (bt (1023 * 2 ^ 52))) (by rw [dc1]) ?_
            refine lv_dsub hx hb dX5_bitsOf_54 (by exact nn_ne hfr.1) ?_
            refine lv_ldc2d (v := bt (1075 * 2 ^ 52)) hx hb hown (hts (.constantDouble RX5 265 (bt (1075 * 2 ^ 52))) (by decide +kernel)) dX5_bitsOf_55 ?_
            refine lv_dmul hx hb dX5_bitsOf_58 (by exact nn_ne hfr.2.1) ?_
            refine lv_d2l hx hb dX5_bitsOf_59 ?_
            refine q_topx (y := .long (Int64.ofInt ((m - 1023 * 2 ^ 52 : Nat) : Int))) (by rw [hfr.2.2]) ?_
            refine lv_lstore (lv' := [(6, .long (Int64.ofInt ((m - 1023 * 2 ^ 52 : Nat) : Int))), (0, .double (bt q)), (2, .long (Int64.ofInt ((1023 - i : Nat) : Int))), (4, .double (bt m))]) hx hb dX5_bitsOf_60 hl (by decide) rfl (fun ls hl => ?_)
            refine lv_lload_n hx hb dX5_bitsOf_62 rfl (lv_at hl 2 rfl) ?_
            refine lv_bipush (v := nI 52) hx hb dX5_bitsOf_63 (by decide +kernel) ?_
            refine lv_lshl (v := (Int64.ofInt ((1023 - i : Nat) : Int)) <<< ((nI 52).toInt64 &&& 63)) hx hb dX5_bitsOf_65 rfl ?_
            refine lv_lload hx hb dX5_bitsOf_66 (lv_at hl 0 rfl) ?_
            refine lv_lor hx hb dX5_bitsOf_68 ?_
            exact hret _ _ _ _ (some (.long (((Int64.ofInt ((1023 - i : Nat) : Int)) <<< ((nI 52).toInt64 &&& 63)) ||| (Int64.ofInt ((m - 1023 * 2 ^ 52 : Nat) : Int))))) () 69 ls (by decide) (by decide) (by exact congrArg (fun z => some (Value.long z)) ((bt_bits (by omega) (by omega)).trans (by rw [show (1023 - i) * 2 ^ 52 + (m - 1023 * 2 ^ 52) = q by omega]))) hP hD hS (ret_l dX5_bitsOf_69)
          ·
            have hm4 : m < 1023 * 2 ^ 52 := by
              refine Nat.lt_of_not_le (fun w => ?_)
              rcases Nat.eq_or_lt_of_le w with h9 | h9
              · rw [bt_cmp (Or.inr ⟨by omega, by omega⟩) (Or.inr ⟨by decide, by decide⟩), cv_eq (by omega)] at c_30; exact absurd (show (0 : Int32) ≤ 0 by decide) c_30
              · rw [bt_cmp (Or.inr ⟨by omega, by omega⟩) (Or.inr ⟨by decide, by decide⟩), cv_gt (by omega)] at c_30; exact absurd (show (0 : Int32) ≤ 1 by decide) c_30
            refine lv_dload hx hb dX5_bitsOf_33 (lv_at hl 3 rfl) ?_
            refine lv_ldc2d (v := bt (1024 * 2 ^ 52)) hx hb hown (hts (.constantDouble RX5 263 (bt (1024 * 2 ^ 52))) (by decide +kernel)) dX5_bitsOf_35 ?_
            refine lv_dmul hx hb dX5_bitsOf_38 (by rw [bt_dbl (by omega) (by omega)]; exact nn_ne (bt_nn (by omega))) ?_
            refine q_topx (y := .double (bt (m + 2 ^ 52))) (by rw [bt_dbl (by omega) (by omega)]) ?_
            refine lv_dstore (lv' := [(4, .double (bt (m + 2 ^ 52))), (0, .double (bt q)), (6, .int (nI i)), (2, .long (Int64.ofInt ((1023 - i : Nat) : Int)))]) hx hb dX5_bitsOf_39 hl (by decide) rfl (fun ls hl => ?_)
            refine lv_lload_n hx hb dX5_bitsOf_41 rfl (lv_at hl 3 rfl) ?_
            refine lv_lconst (v := 1) hx hb dX5_bitsOf_42 (by decide +kernel) ?_
            refine lv_lsub hx hb dX5_bitsOf_43 ?_
            refine q_topx (y := .long (Int64.ofInt ((1023 - (i + 1) : Nat) : Int))) (by exact congrArg Value.long (l_dec (by omega) (by omega))) ?_
            refine lv_lstore_n (lv' := [(2, .long (Int64.ofInt ((1023 - (i + 1) : Nat) : Int))), (4, .double (bt (m + 2 ^ 52))), (0, .double (bt q)), (6, .int (nI i))]) hx hb dX5_bitsOf_44 rfl hl (by decide) rfl (fun ls hl => ?_)
            refine lv_iinc (v := (nI (i + 1))) (lv' := [(6, .int (nI (i + 1))), (2, .long (Int64.ofInt ((1023 - (i + 1) : Nat) : Int))), (4, .double (bt (m + 2 ^ 52))), (0, .double (bt q))]) hx hb dX5_bitsOf_45 hl (k := 3) rfl (nI_add i 1) (by decide) rfl (fun ls hl => ?_)
            refine lv_goto (tgt := 18) hx hb dX5_bitsOf_48 (by decide) ?_
            exact ih18  (i + 1) (m + 2 ^ 52) _ _ ls (by first | with_reducible assumption | omega) (by first | with_reducible assumption | omega) (by first | with_reducible assumption | omega) (by first | with_reducible assumption | omega) (by omega) hP hD hS (lv_sub hl [3, 0, 1, 2] rfl)
    exact L18 (1022 - 0 + 1) 0 q _ _ ls (by first | with_reducible assumption | omega) (by first | with_reducible assumption | omega) (by first | with_reducible assumption | omega) (by first | with_reducible assumption | omega) (by omega) hP hD hS (lv_sub hl [3, 0, 2, 1] rfl)
  ·
    refine lv_lconst (v := 0) hx hb dX5_bitsOf_6 (by decide +kernel) ?_
    have hq0 : q = 0 := by
      rcases hq with h9 | h9
      · exact h9
      · rw [bt_cmp (Or.inr ⟨h9.1, by omega⟩) (Or.inl rfl), cv_gt (by omega)] at c_3; exact absurd (show (0 : Int32) < 1 by decide) c_3
    exact hret _ _ _ _ (some (.long 0)) () 7 ls (by decide) (by decide) (by rw [hq0]; rfl) hP hD hS (ret_l dX5_bitsOf_7)

theorem in_X5_share_ok_X5 : ∀ w ∈ wsX50, w ∈ wsX5_share := by decide +kernel
theorem fl_X5_share_ok_10 : Cond.fieldLink RX5 10 "FountainCues" "show" "LFountainCues$Show;" ∈ wsX5_share := by decide +kernel
theorem in_X5_share_ok_X4 : ∀ w ∈ wsX40, w ∈ wsX5_share := by decide +kernel
theorem fl_X5_share_ok_45 : Cond.fieldLink RX5 45 "FountainCues$Show" "fountain" "LFountainCues$Fountain;" ∈ wsX5_share := by decide +kernel
set_option maxHeartbeats 4000000 in
set_option maxRecDepth 100000 in
theorem k_X5_share_ok (l : Launch) (D : va_G) (cI cS cL : ClassId) (T : Nat) (f0 : Nat) (a : Nat → Nat) (s : Nat → Nat) (fl : Nat → Nat) (c0 : Nat) (c1 : Nat) (n : Nat) (cs : Nat → Nat) (b : Nat → Nat) (r : Nat → Nat) (gl : Nat → Nat) (sv : Nat) (ad : Nat → Nat → Nat) (t : Nat → Nat → Nat) (f6 : Nat → Nat → Nat) (k : Nat) (hI : sI T s) (hT : T ≤ 900000) (hk : k ≤ 6) (hn : n ≤ 60) (hcs : ∀ j, j < n → cs j < 2 ^ 31) : KM l D (TY cI cS cL) yX5_share wsX5_share ({ frames := 4, cells := 0, slots := 0, locals := 90 } : Room) (fcW cI cS f0 a s fl c0 c1 n cs b r gl sv ad t f6 k) [.ref f0] (fun (v : Option Value) (_ : Unit) => v = some (.double (shS s))) (fun _ : Unit => (fcW cI cS f0 a s fl c0 c1 n cs b r gl sv ad t f6 k)) := by
  refine KM.of (cc := cX5_share) (maxL := 4) (ret := (some .double)) (by decide) rfl (Nat.le_of_ble_eq_true rfl) ?_
  intro p9 e9 s9 m9 ar9 be9 me9 c9 Q9 A9 ls C0 hN hnm hlk hK hA hret hP hD hS hl
  obtain ⟨hx, hb, hml, hown, hts⟩ := id C0
  have hl : lv_has ls 4 [(0, .ref f0)] := hl
  obtain ⟨H, hH0⟩ : ∃ H, H = s9.heap := ⟨_, rfl⟩
  obtain ⟨locs, hlc0⟩ : ∃ z : List Loc, z = [] := ⟨_, rfl⟩
  have hP : va_P D vwCl ([(f0, .inr (5, [.ref (a 0), .ref (b 0), .ref sv, .ref c0])), (a 0, .inr (4, [.ref (a 1), .ref (a 8), .ref (a 13), .ref (a 14), .int (nI (s 6)), .int (nI (s 7)), .int (nI (s 10)), .int (nI (s 11)), .int (nI (s 12)), .int (nI (s 13))])), (a 1, .inr (2, [.ref (a 2), .ref (a 3), .ref (a 4), .ref (a 5), .ref (a 6), .ref (a 7), .int (nI (s 5))])), (a 2, .inl (cI, 8, .inl (ro 8 (szF s)))), (a 3, .inl (cI, 8, .inl (ro 8 (coF s)))), (a 4, .inl (cI, 8, .inl (ro 8 (vaF s)))), (a 5, .inl (cI, 8, .inl (ro 8 (amF s)))), (a 6, .inl (cI, 2, .inl (ro 2 (liF s)))), (a 7, .inl (cI, 3, .inl (ro 3 (seF s)))), (a 8, .inr (1, [.ref (a 9), .ref (a 10), .ref (a 11), .ref (a 12), .int (nI (s 8)), .int (nI (s 9))])), (a 9, .inl (cI, 16, .inl (ro 16 (nuF s)))), (a 10, .inl (cI, 16, .inl (ro 16 (tiF s)))), (a 11, .inl (cI, 16, .inl (ro 16 (jeF s)))), (a 12, .inl (cI, 16, .inl (ro 16 (acF s)))), (a 13, .inl (cI, 8, .inl (ro 8 (buF s)))), (a 14, .inl (cI, 8, .inl (ro 8 fl))), (c0, .inr (0, [.ref c1, .int (nI n)])), (c1, .inl (cI, 60, .inl (ro 60 cs)))] ++ (shw cI b r gl ++ (svW cI cS sv ad t f6 k))) H := by rw [hH0]; exact hP
  have hD : va_D A9 ([(f0, .inr (5, [.ref (a 0), .ref (b 0), .ref sv, .ref c0])), (a 0, .inr (4, [.ref (a 1), .ref (a 8), .ref (a 13), .ref (a 14), .int (nI (s 6)), .int (nI (s 7)), .int (nI (s 10)), .int (nI (s 11)), .int (nI (s 12)), .int (nI (s 13))])), (a 1, .inr (2, [.ref (a 2), .ref (a 3), .ref (a 4), .ref (a 5), .ref (a 6), .ref (a 7), .int (nI (s 5))])), (a 2, .inl (cI, 8, .inl (ro 8 (szF s)))), (a 3, .inl (cI, 8, .inl (ro 8 (coF s)))), (a 4, .inl (cI, 8, .inl (ro 8 (vaF s)))), (a 5, .inl (cI, 8, .inl (ro 8 (amF s)))), (a 6, .inl (cI, 2, .inl (ro 2 (liF s)))), (a 7, .inl (cI, 3, .inl (ro 3 (seF s)))), (a 8, .inr (1, [.ref (a 9), .ref (a 10), .ref (a 11), .ref (a 12), .int (nI (s 8)), .int (nI (s 9))])), (a 9, .inl (cI, 16, .inl (ro 16 (nuF s)))), (a 10, .inl (cI, 16, .inl (ro 16 (tiF s)))), (a 11, .inl (cI, 16, .inl (ro 16 (jeF s)))), (a 12, .inl (cI, 16, .inl (ro 16 (acF s)))), (a 13, .inl (cI, 8, .inl (ro 8 (buF s)))), (a 14, .inl (cI, 8, .inl (ro 8 fl))), (c0, .inr (0, [.ref c1, .int (nI n)])), (c1, .inl (cI, 60, .inl (ro 60 cs)))] ++ (shw cI b r gl ++ (svW cI cS sv ad t f6 k))) := hD
  have hS : va_S A9 s9.heap H locs := by rw [hH0, hlc0]; exact hS
  suffices hgo : W p9 l e9 ({ frames := 4, cells := 0, slots := 0, locals := 90 } : Room) s9 m9 ar9 be9 me9 c9 H locs 0 0 Q9 (F0 m9 0 ls []) by rw [hH0, hlc0] at hgo; exact hgo
  clear hH0 hlc0
  obtain ⟨hI1, hI2, hI3, hI4, hI5, hI6, hI7, hI8, hI9, hI10, hI11⟩ := id hI
  have ha9 := aS_le hI
  have ht9 := tS_aS s
  refine lv_iconst (v := nI 0) hx hb dX5_share_0 (by decide +kernel) ?_
  refine q_topi (y := (nI (sumTo (pA (szF s) (vaF s)) 0))) (by rfl) ?_
  refine lv_istore_n (lv' := [(1, .int (nI (sumTo (pA (szF s) (vaF s)) 0))), (0, .ref f0)]) hx hb dX5_share_1 rfl hl (by decide) rfl (fun ls hl => ?_)
  refine lv_iconst (v := nI 0) hx hb dX5_share_2 (by decide +kernel) ?_
  refine q_topi (y := (nI (sumTo (fGives (szF s) (vaF s) (liF s) (seF s) (s 5)) 0))) (by rfl) ?_
  refine lv_istore_n (lv' := [(2, .int (nI (sumTo (fGives (szF s) (vaF s) (liF s) (seF s) (s 5)) 0))), (1, .int (nI (sumTo (pA (szF s) (vaF s)) 0))), (0, .ref f0)]) hx hb dX5_share_3 rfl hl (by decide) rfl (fun ls hl => ?_)
  refine lv_iconst (v := nI 0) hx hb dX5_share_4 (by decide +kernel) ?_
  refine lv_istore_n (lv' := [(3, .int (nI 0)), (2, .int (nI (sumTo (fGives (szF s) (vaF s) (liF s) (seF s) (s 5)) 0))), (1, .int (nI (sumTo (pA (szF s) (vaF s)) 0))), (0, .ref f0)]) hx hb dX5_share_5 rfl hl (by decide) rfl (fun ls hl => ?_)
  have L6 : ∀ (fuel : Nat) (i : Nat) (H : Heap) (locs : List Loc) (ls : Array Slot), (i ≤ 2) → (2 - i < fuel) → va_P D vwCl ([(f0, .inr (5, [.ref (a 0), .ref (b 0), .ref sv, .ref c0])), (a 0, .inr (4, [.ref (a 1), .ref (a 8), .ref (a 13), .ref (a 14), .int (nI (s 6)), .int (nI (s 7)), .int (nI (s 10)), .int (nI (s 11)), .int (nI (s 12)), .int (nI (s 13))])), (a 1, .inr (2, [.ref (a 2), .ref (a 3), .ref (a 4), .ref (a 5), .ref (a 6), .ref (a 7), .int (nI (s 5))])), (a 2, .inl (cI, 8, .inl (ro 8 (szF s)))), (a 3, .inl (cI, 8, .inl (ro 8 (coF s)))), (a 4, .inl (cI, 8, .inl (ro 8 (vaF s)))), (a 5, .inl (cI, 8, .inl (ro 8 (amF s)))), (a 6, .inl (cI, 2, .inl (ro 2 (liF s)))), (a 7, .inl (cI, 3, .inl (ro 3 (seF s)))), (a 8, .inr (1, [.ref (a 9), .ref (a 10), .ref (a 11), .ref (a 12), .int (nI (s 8)), .int (nI (s 9))])), (a 9, .inl (cI, 16, .inl (ro 16 (nuF s)))), (a 10, .inl (cI, 16, .inl (ro 16 (tiF s)))), (a 11, .inl (cI, 16, .inl (ro 16 (jeF s)))), (a 12, .inl (cI, 16, .inl (ro 16 (acF s)))), (a 13, .inl (cI, 8, .inl (ro 8 (buF s)))), (a 14, .inl (cI, 8, .inl (ro 8 fl))), (c0, .inr (0, [.ref c1, .int (nI n)])), (c1, .inl (cI, 60, .inl (ro 60 cs)))] ++ (shw cI b r gl ++ (svW cI cS sv ad t f6 k))) H → va_D A9 ([(f0, .inr (5, [.ref (a 0), .ref (b 0), .ref sv, .ref c0])), (a 0, .inr (4, [.ref (a 1), .ref (a 8), .ref (a 13), .ref (a 14), .int (nI (s 6)), .int (nI (s 7)), .int (nI (s 10)), .int (nI (s 11)), .int (nI (s 12)), .int (nI (s 13))])), (a 1, .inr (2, [.ref (a 2), .ref (a 3), .ref (a 4), .ref (a 5), .ref (a 6), .ref (a 7), .int (nI (s 5))])), (a 2, .inl (cI, 8, .inl (ro 8 (szF s)))), (a 3, .inl (cI, 8, .inl (ro 8 (coF s)))), (a 4, .inl (cI, 8, .inl (ro 8 (vaF s)))), (a 5, .inl (cI, 8, .inl (ro 8 (amF s)))), (a 6, .inl (cI, 2, .inl (ro 2 (liF s)))), (a 7, .inl (cI, 3, .inl (ro 3 (seF s)))), (a 8, .inr (1, [.ref (a 9), .ref (a 10), .ref (a 11), .ref (a 12), .int (nI (s 8)), .int (nI (s 9))])), (a 9, .inl (cI, 16, .inl (ro 16 (nuF s)))), (a 10, .inl (cI, 16, .inl (ro 16 (tiF s)))), (a 11, .inl (cI, 16, .inl (ro 16 (jeF s)))), (a 12, .inl (cI, 16, .inl (ro 16 (acF s)))), (a 13, .inl (cI, 8, .inl (ro 8 (buF s)))), (a 14, .inl (cI, 8, .inl (ro 8 fl))), (c0, .inr (0, [.ref c1, .int (nI n)])), (c1, .inl (cI, 60, .inl (ro 60 cs)))] ++ (shw cI b r gl ++ (svW cI cS sv ad t f6 k))) → va_S A9 s9.heap H locs → lv_has ls 4 [(0, .ref f0), (3, .int (nI i)), (1, .int (nI (sumTo (pA (szF s) (vaF s)) i))), (2, .int (nI (sumTo (fGives (szF s) (vaF s) (liF s) (seF s) (s 5)) i)))] → W p9 l e9 ({ frames := 4, cells := 0, slots := 0, locals := 90 } : Room) s9 m9 ar9 be9 me9 c9 H locs 0 0 Q9 (F0 m9 6 ls []) := by
    intro fuel
    induction fuel with
    | zero => intro i H locs ls hi hfu; exact absurd hfu (Nat.not_lt_zero _)
    | succ fuel ih6 =>
      intro i H locs ls hi hfu hP hD hS hl
      refine lv_iload_n hx hb dX5_share_6 rfl (lv_at hl 1 rfl) ?_
      refine lv_iconst (v := nI 2) hx hb dX5_share_7 (by decide +kernel) ?_
      refine q_ige (tgt := 45) (by omega) (by omega) hx hb dX5_share_8 (by decide) (fun c_8 => ?_) (fun c_8 => ?_)
      ·
        refine lv_iload_n hx hb dX5_share_45 rfl (lv_at hl 2 rfl) ?_
        refine q_topi (y := (nI (aS s))) (by rw [show i = 2 by omega]; rfl) ?_
        refine q_fle (tgt := 57) (by omega) hx hb dX5_share_46 (by decide) (fun c_46 => ?_) (fun c_46 => ?_)
        ·
          refine lv_dconst1 hx hb dX5_share_57 ?_
          exact hret _ _ _ _ (some (.double FP.dconst1)) () 58 ls (by decide) (by decide) (by exact congrArg (fun z => some (Value.double z)) (by unfold shS; first | exact (if_pos (by omega)).symm | exact (if_neg (by omega)).symm)) hP hD hS (ret_d dX5_share_58)
        ·
          refine lv_iload_n hx hb dX5_share_49 rfl (lv_at hl 3 rfl) ?_
          refine q_topi (y := (nI (tS s))) (by rw [show i = 2 by omega]; exact congrArg nI ((show 0 + _ + _ = _ from by rw [Nat.zero_add]; exact giv_all s))) ?_
          refine lv_i2d hx hb dX5_share_50 ?_
          refine lv_iload_n hx hb dX5_share_51 rfl (lv_at hl 2 rfl) ?_
          refine q_topi (y := (nI (aS s))) (by rw [show i = 2 by omega]; rfl) ?_
          refine lv_i2d hx hb dX5_share_52 ?_
          refine lv_ddiv hx hb dX5_share_53 (by exact shS_ne hI c_46) ?_
          refine lv_goto (tgt := 58) hx hb dX5_share_54 (by decide) ?_
          exact hret _ _ _ _ (some (.double (FP.ddiv (FP.i2d (nI (tS s))) (FP.i2d (nI (aS s)))))) () 58 ls (by decide) (by decide) (by exact congrArg (fun z => some (Value.double z)) (by unfold shS; first | exact (if_pos (by omega)).symm | exact (if_neg (by omega)).symm)) hP hD hS (ret_d dX5_share_58)
      ·
        refine lv_iload_n hx hb dX5_share_11 rfl (lv_at hl 2 rfl) ?_
        refine lv_aload_n hx hb dX5_share_12 rfl (lv_at hl 0 rfl) ?_
        refine va_get (D := D) (ci := 5) (v := .ref (a 0)) (C := RX5) (T := TX5) (N := 4) hx hb hts in_X5_share_ok_X5 hown hK hP 0 rfl rfl 0 (by decide) (hts _ fl_X5_share_ok_10) (fun _ h9 => h9) rfl dX5_share_13 ?_
        refine va_get (D := D) (ci := 4) (v := .ref (a 1)) (C := RX4) (T := TX4) (N := 10) hx hb hts in_X5_share_ok_X4 hown hK hP 1 rfl rfl 0 (by decide) (hts _ fl_X5_share_ok_45) (fun _ h9 => h9) rfl dX5_share_16 ?_
        refine lv_iload_n hx hb dX5_share_19 rfl (lv_at hl 1 rfl) ?_
        refine KM.callV (As := [.int (nI i)]) (rest := [.int (nI (sumTo (pA (szF s) (vaF s)) i))]) C0 hN (k_X2_pumpAsks l D cI cS cL (a 1) (a 2) (a 3) (a 4) (a 5) (a 6) (a 7) (szF s) (coF s) (vaF s) (amF s) (liF s) (seF s) (s 5) i  (by first | with_reducible assumption | omega)) (cwV 1 hts gX5_share_X2_pumpAsks rfl rfl rfl (by decide +kernel) ⟨Nat.le_of_ble_eq_true rfl, Nat.le_of_ble_eq_true rfl⟩) hK hP hD hS hA [2, 3, 4, 5, 6, 7, 8] rfl (by decide) (fun _ => rfl) 2 2 rfl rfl rfl rfl hl.1 rfl (Nat.le_of_ble_eq_true rfl) dX5_share_20 ⟨Nat.le_of_ble_eq_true rfl, Nat.le_of_ble_eq_true rfl⟩ (fun v9 u9 H locs hv hP hD hS => ?_)
        subst hv
        have hP : va_P D vwCl ([(f0, .inr (5, [.ref (a 0), .ref (b 0), .ref sv, .ref c0])), (a 0, .inr (4, [.ref (a 1), .ref (a 8), .ref (a 13), .ref (a 14), .int (nI (s 6)), .int (nI (s 7)), .int (nI (s 10)), .int (nI (s 11)), .int (nI (s 12)), .int (nI (s 13))])), (a 1, .inr (2, [.ref (a 2), .ref (a 3), .ref (a 4), .ref (a 5), .ref (a 6), .ref (a 7), .int (nI (s 5))])), (a 2, .inl (cI, 8, .inl (ro 8 (szF s)))), (a 3, .inl (cI, 8, .inl (ro 8 (coF s)))), (a 4, .inl (cI, 8, .inl (ro 8 (vaF s)))), (a 5, .inl (cI, 8, .inl (ro 8 (amF s)))), (a 6, .inl (cI, 2, .inl (ro 2 (liF s)))), (a 7, .inl (cI, 3, .inl (ro 3 (seF s)))), (a 8, .inr (1, [.ref (a 9), .ref (a 10), .ref (a 11), .ref (a 12), .int (nI (s 8)), .int (nI (s 9))])), (a 9, .inl (cI, 16, .inl (ro 16 (nuF s)))), (a 10, .inl (cI, 16, .inl (ro 16 (tiF s)))), (a 11, .inl (cI, 16, .inl (ro 16 (jeF s)))), (a 12, .inl (cI, 16, .inl (ro 16 (acF s)))), (a 13, .inl (cI, 8, .inl (ro 8 (buF s)))), (a 14, .inl (cI, 8, .inl (ro 8 fl))), (c0, .inr (0, [.ref c1, .int (nI n)])), (c1, .inl (cI, 60, .inl (ro 60 cs)))] ++ (shw cI b r gl ++ (svW cI cS sv ad t f6 k))) H := hP
        have hD : va_D A9 ([(f0, .inr (5, [.ref (a 0), .ref (b 0), .ref sv, .ref c0])), (a 0, .inr (4, [.ref (a 1), .ref (a 8), .ref (a 13), .ref (a 14), .int (nI (s 6)), .int (nI (s 7)), .int (nI (s 10)), .int (nI (s 11)), .int (nI (s 12)), .int (nI (s 13))])), (a 1, .inr (2, [.ref (a 2), .ref (a 3), .ref (a 4), .ref (a 5), .ref (a 6), .ref (a 7), .int (nI (s 5))])), (a 2, .inl (cI, 8, .inl (ro 8 (szF s)))), (a 3, .inl (cI, 8, .inl (ro 8 (coF s)))), (a 4, .inl (cI, 8, .inl (ro 8 (vaF s)))), (a 5, .inl (cI, 8, .inl (ro 8 (amF s)))), (a 6, .inl (cI, 2, .inl (ro 2 (liF s)))), (a 7, .inl (cI, 3, .inl (ro 3 (seF s)))), (a 8, .inr (1, [.ref (a 9), .ref (a 10), .ref (a 11), .ref (a 12), .int (nI (s 8)), .int (nI (s 9))])), (a 9, .inl (cI, 16, .inl (ro 16 (nuF s)))), (a 10, .inl (cI, 16, .inl (ro 16 (tiF s)))), (a 11, .inl (cI, 16, .inl (ro 16 (jeF s)))), (a 12, .inl (cI, 16, .inl (ro 16 (acF s)))), (a 13, .inl (cI, 8, .inl (ro 8 (buF s)))), (a 14, .inl (cI, 8, .inl (ro 8 fl))), (c0, .inr (0, [.ref c1, .int (nI n)])), (c1, .inl (cI, 60, .inl (ro 60 cs)))] ++ (shw cI b r gl ++ (svW cI cS sv ad t f6 k))) := hD
        refine W.eq (g2 := F0 m9 23 ls [.int (nI (pA (szF s) (vaF s) i)), .int (nI (sumTo (pA (szF s) (vaF s)) i))]) rfl ?_
        refine q_iadd hx hb dX5_share_23 ?_
        refine q_topi (y := (nI (sumTo (pA (szF s) (vaF s)) (i + 1)))) (by rfl) ?_
        refine lv_istore_n (lv' := [(1, .int (nI (sumTo (pA (szF s) (vaF s)) (i + 1)))), (0, .ref f0), (3, .int (nI i)), (2, .int (nI (sumTo (fGives (szF s) (vaF s) (liF s) (seF s) (s 5)) i)))]) hx hb dX5_share_24 rfl hl (by decide) rfl (fun ls hl => ?_)
        refine lv_iload_n hx hb dX5_share_25 rfl (lv_at hl 3 rfl) ?_
        refine lv_aload_n hx hb dX5_share_26 rfl (lv_at hl 1 rfl) ?_
        refine va_get (D := D) (ci := 5) (v := .ref (a 0)) (C := RX5) (T := TX5) (N := 4) hx hb hts in_X5_share_ok_X5 hown hK hP 0 rfl rfl 0 (by decide) (hts _ fl_X5_share_ok_10) (fun _ h9 => h9) rfl dX5_share_27 ?_
        refine va_get (D := D) (ci := 4) (v := .ref (a 1)) (C := RX4) (T := TX4) (N := 10) hx hb hts in_X5_share_ok_X4 hown hK hP 1 rfl rfl 0 (by decide) (hts _ fl_X5_share_ok_45) (fun _ h9 => h9) rfl dX5_share_30 ?_
        refine lv_iload_n hx hb dX5_share_33 rfl (lv_at hl 2 rfl) ?_
        refine KM.callV (As := [.int (nI i)]) (rest := [.int (nI (sumTo (fGives (szF s) (vaF s) (liF s) (seF s) (s 5)) i))]) C0 hN (k_X2_pumpGives l D cI cS cL (a 1) (a 2) (a 3) (a 4) (a 5) (a 6) (a 7) (szF s) (coF s) (vaF s) (amF s) (liF s) (seF s) (s 5) i  (by exact hI1) (by first | with_reducible assumption | omega)) (cwV 1 hts gX5_share_X2_pumpGives rfl rfl rfl (by decide +kernel) ⟨Nat.le_of_ble_eq_true rfl, Nat.le_of_ble_eq_true rfl⟩) hK hP hD hS hA [2, 3, 4, 5, 6, 7, 8] rfl (by decide) (fun _ => rfl) 2 2 rfl rfl rfl rfl hl.1 rfl (Nat.le_of_ble_eq_true rfl) dX5_share_34 ⟨Nat.le_of_ble_eq_true rfl, Nat.le_of_ble_eq_true rfl⟩ (fun v9 u9 H locs hv hP hD hS => ?_)
        subst hv
        have hP : va_P D vwCl ([(f0, .inr (5, [.ref (a 0), .ref (b 0), .ref sv, .ref c0])), (a 0, .inr (4, [.ref (a 1), .ref (a 8), .ref (a 13), .ref (a 14), .int (nI (s 6)), .int (nI (s 7)), .int (nI (s 10)), .int (nI (s 11)), .int (nI (s 12)), .int (nI (s 13))])), (a 1, .inr (2, [.ref (a 2), .ref (a 3), .ref (a 4), .ref (a 5), .ref (a 6), .ref (a 7), .int (nI (s 5))])), (a 2, .inl (cI, 8, .inl (ro 8 (szF s)))), (a 3, .inl (cI, 8, .inl (ro 8 (coF s)))), (a 4, .inl (cI, 8, .inl (ro 8 (vaF s)))), (a 5, .inl (cI, 8, .inl (ro 8 (amF s)))), (a 6, .inl (cI, 2, .inl (ro 2 (liF s)))), (a 7, .inl (cI, 3, .inl (ro 3 (seF s)))), (a 8, .inr (1, [.ref (a 9), .ref (a 10), .ref (a 11), .ref (a 12), .int (nI (s 8)), .int (nI (s 9))])), (a 9, .inl (cI, 16, .inl (ro 16 (nuF s)))), (a 10, .inl (cI, 16, .inl (ro 16 (tiF s)))), (a 11, .inl (cI, 16, .inl (ro 16 (jeF s)))), (a 12, .inl (cI, 16, .inl (ro 16 (acF s)))), (a 13, .inl (cI, 8, .inl (ro 8 (buF s)))), (a 14, .inl (cI, 8, .inl (ro 8 fl))), (c0, .inr (0, [.ref c1, .int (nI n)])), (c1, .inl (cI, 60, .inl (ro 60 cs)))] ++ (shw cI b r gl ++ (svW cI cS sv ad t f6 k))) H := hP
        have hD : va_D A9 ([(f0, .inr (5, [.ref (a 0), .ref (b 0), .ref sv, .ref c0])), (a 0, .inr (4, [.ref (a 1), .ref (a 8), .ref (a 13), .ref (a 14), .int (nI (s 6)), .int (nI (s 7)), .int (nI (s 10)), .int (nI (s 11)), .int (nI (s 12)), .int (nI (s 13))])), (a 1, .inr (2, [.ref (a 2), .ref (a 3), .ref (a 4), .ref (a 5), .ref (a 6), .ref (a 7), .int (nI (s 5))])), (a 2, .inl (cI, 8, .inl (ro 8 (szF s)))), (a 3, .inl (cI, 8, .inl (ro 8 (coF s)))), (a 4, .inl (cI, 8, .inl (ro 8 (vaF s)))), (a 5, .inl (cI, 8, .inl (ro 8 (amF s)))), (a 6, .inl (cI, 2, .inl (ro 2 (liF s)))), (a 7, .inl (cI, 3, .inl (ro 3 (seF s)))), (a 8, .inr (1, [.ref (a 9), .ref (a 10), .ref (a 11), .ref (a 12), .int (nI (s 8)), .int (nI (s 9))])), (a 9, .inl (cI, 16, .inl (ro 16 (nuF s)))), (a 10, .inl (cI, 16, .inl (ro 16 (tiF s)))), (a 11, .inl (cI, 16, .inl (ro 16 (jeF s)))), (a 12, .inl (cI, 16, .inl (ro 16 (acF s)))), (a 13, .inl (cI, 8, .inl (ro 8 (buF s)))), (a 14, .inl (cI, 8, .inl (ro 8 fl))), (c0, .inr (0, [.ref c1, .int (nI n)])), (c1, .inl (cI, 60, .inl (ro 60 cs)))] ++ (shw cI b r gl ++ (svW cI cS sv ad t f6 k))) := hD
        refine W.eq (g2 := F0 m9 37 ls [.int (nI (fGives (szF s) (vaF s) (liF s) (seF s) (s 5) i)), .int (nI (sumTo (fGives (szF s) (vaF s) (liF s) (seF s) (s 5)) i))]) rfl ?_
        refine q_iadd hx hb dX5_share_37 ?_
        refine q_topi (y := (nI (sumTo (fGives (szF s) (vaF s) (liF s) (seF s) (s 5)) (i + 1)))) (by rfl) ?_
        refine lv_istore_n (lv' := [(2, .int (nI (sumTo (fGives (szF s) (vaF s) (liF s) (seF s) (s 5)) (i + 1)))), (1, .int (nI (sumTo (pA (szF s) (vaF s)) (i + 1)))), (0, .ref f0), (3, .int (nI i))]) hx hb dX5_share_38 rfl hl (by decide) rfl (fun ls hl => ?_)
        refine lv_iinc (v := (nI (i + 1))) (lv' := [(3, .int (nI (i + 1))), (2, .int (nI (sumTo (fGives (szF s) (vaF s) (liF s) (seF s) (s 5)) (i + 1)))), (1, .int (nI (sumTo (pA (szF s) (vaF s)) (i + 1)))), (0, .ref f0)]) hx hb dX5_share_39 hl (k := 3) rfl (nI_add i 1) (by decide) rfl (fun ls hl => ?_)
        refine lv_goto (tgt := 6) hx hb dX5_share_42 (by decide) ?_
        exact ih6  (i + 1) _ _ ls (by first | with_reducible assumption | omega) (by omega) hP hD hS (lv_sub hl [3, 0, 2, 1] rfl)
  exact L6 (2 - 0 + 1) 0 _ _ ls (by first | with_reducible assumption | omega) (by omega) hP hD hS (lv_sub hl [3, 0, 2, 1] rfl)

set_option maxHeartbeats 4000000 in
set_option maxRecDepth 100000 in
theorem k_X5_mixedWithJetsAndPumps_ok (l : Launch) (D : va_G) (cI cS cL : ClassId) (T : Nat) (f0 : Nat) (a : Nat → Nat) (s : Nat → Nat) (fl : Nat → Nat) (c0 : Nat) (c1 : Nat) (n : Nat) (cs : Nat → Nat) (b : Nat → Nat) (r : Nat → Nat) (gl : Nat → Nat) (sv : Nat) (ad : Nat → Nat → Nat) (t : Nat → Nat → Nat) (f6 : Nat → Nat → Nat) (k : Nat) (h0 : Int64) (hI : sI T s) (hT : T ≤ 900000) (hk : k ≤ 6) (hn : n ≤ 60) (hcs : ∀ j, j < n → cs j < 2 ^ 31) : KM l D (TY cI cS cL) yX5_mixedWithJetsAndPumps wsX5_mixedWithJetsAndPumps ({ frames := 6, cells := 0, slots := 0, locals := 131 } : Room) (fcW cI cS f0 a s fl c0 c1 n cs b r gl sv ad t f6 k) [.ref f0, .long h0] (fun (v : Option Value) (_ : Unit) => v = some (.long (hh4 s h0))) (fun _ : Unit => (fcW cI cS f0 a s fl c0 c1 n cs b r gl sv ad t f6 k)) := by
  refine KM.of (cc := cX5_mixedWithJetsAndPumps) (maxL := 7) (ret := (some .long)) (by decide) rfl (Nat.le_of_ble_eq_true rfl) ?_
  intro p9 e9 s9 m9 ar9 be9 me9 c9 Q9 A9 ls C0 hN hnm hlk hK hA hret hP hD hS hl
  obtain ⟨hx, hb, hml, hown, hts⟩ := id C0
  have hl : lv_has ls 7 [(0, .ref f0), (1, .long h0)] := hl
  obtain ⟨H, hH0⟩ : ∃ H, H = s9.heap := ⟨_, rfl⟩
  obtain ⟨locs, hlc0⟩ : ∃ z : List Loc, z = [] := ⟨_, rfl⟩
  have hP : va_P D vwCl ([(f0, .inr (5, [.ref (a 0), .ref (b 0), .ref sv, .ref c0])), (a 0, .inr (4, [.ref (a 1), .ref (a 8), .ref (a 13), .ref (a 14), .int (nI (s 6)), .int (nI (s 7)), .int (nI (s 10)), .int (nI (s 11)), .int (nI (s 12)), .int (nI (s 13))])), (a 1, .inr (2, [.ref (a 2), .ref (a 3), .ref (a 4), .ref (a 5), .ref (a 6), .ref (a 7), .int (nI (s 5))])), (a 2, .inl (cI, 8, .inl (ro 8 (szF s)))), (a 3, .inl (cI, 8, .inl (ro 8 (coF s)))), (a 4, .inl (cI, 8, .inl (ro 8 (vaF s)))), (a 5, .inl (cI, 8, .inl (ro 8 (amF s)))), (a 6, .inl (cI, 2, .inl (ro 2 (liF s)))), (a 7, .inl (cI, 3, .inl (ro 3 (seF s)))), (a 8, .inr (1, [.ref (a 9), .ref (a 10), .ref (a 11), .ref (a 12), .int (nI (s 8)), .int (nI (s 9))])), (a 9, .inl (cI, 16, .inl (ro 16 (nuF s)))), (a 10, .inl (cI, 16, .inl (ro 16 (tiF s)))), (a 11, .inl (cI, 16, .inl (ro 16 (jeF s)))), (a 12, .inl (cI, 16, .inl (ro 16 (acF s)))), (a 13, .inl (cI, 8, .inl (ro 8 (buF s)))), (a 14, .inl (cI, 8, .inl (ro 8 fl))), (c0, .inr (0, [.ref c1, .int (nI n)])), (c1, .inl (cI, 60, .inl (ro 60 cs)))] ++ (shw cI b r gl ++ (svW cI cS sv ad t f6 k))) H := by rw [hH0]; exact hP
  have hD : va_D A9 ([(f0, .inr (5, [.ref (a 0), .ref (b 0), .ref sv, .ref c0])), (a 0, .inr (4, [.ref (a 1), .ref (a 8), .ref (a 13), .ref (a 14), .int (nI (s 6)), .int (nI (s 7)), .int (nI (s 10)), .int (nI (s 11)), .int (nI (s 12)), .int (nI (s 13))])), (a 1, .inr (2, [.ref (a 2), .ref (a 3), .ref (a 4), .ref (a 5), .ref (a 6), .ref (a 7), .int (nI (s 5))])), (a 2, .inl (cI, 8, .inl (ro 8 (szF s)))), (a 3, .inl (cI, 8, .inl (ro 8 (coF s)))), (a 4, .inl (cI, 8, .inl (ro 8 (vaF s)))), (a 5, .inl (cI, 8, .inl (ro 8 (amF s)))), (a 6, .inl (cI, 2, .inl (ro 2 (liF s)))), (a 7, .inl (cI, 3, .inl (ro 3 (seF s)))), (a 8, .inr (1, [.ref (a 9), .ref (a 10), .ref (a 11), .ref (a 12), .int (nI (s 8)), .int (nI (s 9))])), (a 9, .inl (cI, 16, .inl (ro 16 (nuF s)))), (a 10, .inl (cI, 16, .inl (ro 16 (tiF s)))), (a 11, .inl (cI, 16, .inl (ro 16 (jeF s)))), (a 12, .inl (cI, 16, .inl (ro 16 (acF s)))), (a 13, .inl (cI, 8, .inl (ro 8 (buF s)))), (a 14, .inl (cI, 8, .inl (ro 8 fl))), (c0, .inr (0, [.ref c1, .int (nI n)])), (c1, .inl (cI, 60, .inl (ro 60 cs)))] ++ (shw cI b r gl ++ (svW cI cS sv ad t f6 k))) := hD
  have hS : va_S A9 s9.heap H locs := by rw [hH0, hlc0]; exact hS
  suffices hgo : W p9 l e9 ({ frames := 6, cells := 0, slots := 0, locals := 131 } : Room) s9 m9 ar9 be9 me9 c9 H locs 0 0 Q9 (F0 m9 0 ls []) by rw [hH0, hlc0] at hgo; exact hgo
  clear hH0 hlc0
  obtain ⟨hI1, hI2, hI3, hI4, hI5, hI6, hI7, hI8, hI9, hI10, hI11⟩ := id hI
  refine lv_lload_n hx hb dX5_mixedWithJetsAndPumps_0 rfl (lv_at hl 1 rfl) ?_
  refine q_topx (y := .long (mixL (dg3 s) (8 * 0 + 0) h0)) (by rfl) ?_
  refine lv_lstore_n (lv' := [(3, .long (mixL (dg3 s) (8 * 0 + 0) h0)), (0, .ref f0), (1, .long h0)]) hx hb dX5_mixedWithJetsAndPumps_1 rfl hl (by decide) rfl (fun ls hl => ?_)
  refine lv_iconst (v := nI 0) hx hb dX5_mixedWithJetsAndPumps_2 (by decide +kernel) ?_
  refine lv_istore (lv' := [(5, .int (nI 0)), (3, .long (mixL (dg3 s) (8 * 0 + 0) h0)), (0, .ref f0), (1, .long h0)]) hx hb dX5_mixedWithJetsAndPumps_3 hl (by decide) rfl (fun ls hl => ?_)
  have L5 : ∀ (fuel : Nat) (j : Nat) (H : Heap) (locs : List Loc) (ls : Array Slot), (j ≤ 8) → (8 - j < fuel) → va_P D vwCl ([(f0, .inr (5, [.ref (a 0), .ref (b 0), .ref sv, .ref c0])), (a 0, .inr (4, [.ref (a 1), .ref (a 8), .ref (a 13), .ref (a 14), .int (nI (s 6)), .int (nI (s 7)), .int (nI (s 10)), .int (nI (s 11)), .int (nI (s 12)), .int (nI (s 13))])), (a 1, .inr (2, [.ref (a 2), .ref (a 3), .ref (a 4), .ref (a 5), .ref (a 6), .ref (a 7), .int (nI (s 5))])), (a 2, .inl (cI, 8, .inl (ro 8 (szF s)))), (a 3, .inl (cI, 8, .inl (ro 8 (coF s)))), (a 4, .inl (cI, 8, .inl (ro 8 (vaF s)))), (a 5, .inl (cI, 8, .inl (ro 8 (amF s)))), (a 6, .inl (cI, 2, .inl (ro 2 (liF s)))), (a 7, .inl (cI, 3, .inl (ro 3 (seF s)))), (a 8, .inr (1, [.ref (a 9), .ref (a 10), .ref (a 11), .ref (a 12), .int (nI (s 8)), .int (nI (s 9))])), (a 9, .inl (cI, 16, .inl (ro 16 (nuF s)))), (a 10, .inl (cI, 16, .inl (ro 16 (tiF s)))), (a 11, .inl (cI, 16, .inl (ro 16 (jeF s)))), (a 12, .inl (cI, 16, .inl (ro 16 (acF s)))), (a 13, .inl (cI, 8, .inl (ro 8 (buF s)))), (a 14, .inl (cI, 8, .inl (ro 8 fl))), (c0, .inr (0, [.ref c1, .int (nI n)])), (c1, .inl (cI, 60, .inl (ro 60 cs)))] ++ (shw cI b r gl ++ (svW cI cS sv ad t f6 k))) H → va_D A9 ([(f0, .inr (5, [.ref (a 0), .ref (b 0), .ref sv, .ref c0])), (a 0, .inr (4, [.ref (a 1), .ref (a 8), .ref (a 13), .ref (a 14), .int (nI (s 6)), .int (nI (s 7)), .int (nI (s 10)), .int (nI (s 11)), .int (nI (s 12)), .int (nI (s 13))])), (a 1, .inr (2, [.ref (a 2), .ref (a 3), .ref (a 4), .ref (a 5), .ref (a 6), .ref (a 7), .int (nI (s 5))])), (a 2, .inl (cI, 8, .inl (ro 8 (szF s)))), (a 3, .inl (cI, 8, .inl (ro 8 (coF s)))), (a 4, .inl (cI, 8, .inl (ro 8 (vaF s)))), (a 5, .inl (cI, 8, .inl (ro 8 (amF s)))), (a 6, .inl (cI, 2, .inl (ro 2 (liF s)))), (a 7, .inl (cI, 3, .inl (ro 3 (seF s)))), (a 8, .inr (1, [.ref (a 9), .ref (a 10), .ref (a 11), .ref (a 12), .int (nI (s 8)), .int (nI (s 9))])), (a 9, .inl (cI, 16, .inl (ro 16 (nuF s)))), (a 10, .inl (cI, 16, .inl (ro 16 (tiF s)))), (a 11, .inl (cI, 16, .inl (ro 16 (jeF s)))), (a 12, .inl (cI, 16, .inl (ro 16 (acF s)))), (a 13, .inl (cI, 8, .inl (ro 8 (buF s)))), (a 14, .inl (cI, 8, .inl (ro 8 fl))), (c0, .inr (0, [.ref c1, .int (nI n)])), (c1, .inl (cI, 60, .inl (ro 60 cs)))] ++ (shw cI b r gl ++ (svW cI cS sv ad t f6 k))) → va_S A9 s9.heap H locs → lv_has ls 7 [(0, .ref f0), (5, .int (nI j)), (3, .long (mixL (dg3 s) (8 * j + 0) h0))] → W p9 l e9 ({ frames := 6, cells := 0, slots := 0, locals := 131 } : Room) s9 m9 ar9 be9 me9 c9 H locs 0 0 Q9 (F0 m9 5 ls []) := by
    intro fuel
    induction fuel with
    | zero => intro j H locs ls hj hfu; exact absurd hfu (Nat.not_lt_zero _)
    | succ fuel ih5 =>
      intro j H locs ls hj hfu hP hD hS hl
      refine lv_iload hx hb dX5_mixedWithJetsAndPumps_5 (lv_at hl 1 rfl) ?_
      refine lv_bipush (v := nI 8) hx hb dX5_mixedWithJetsAndPumps_7 (by decide +kernel) ?_
      refine q_ige (tgt := 48) (by omega) (by omega) hx hb dX5_mixedWithJetsAndPumps_9 (by decide) (fun c_9 => ?_) (fun c_9 => ?_)
      ·
        have el48 : mixL (dg3 s) (8 * j + 0) h0 = mixL (dg4 s) (3 * 0 + 0) (mixL (dg3 s) 64 h0) := by rw [show j = 8 by omega]; rfl
        rw [el48] at hl
        have hl : lv_has ls 7 [(0, .ref f0), (5, .int (nI j)), (3, .long (mixL (dg4 s) (3 * 0 + 0) (mixL (dg3 s) 64 h0)))] := hl
        refine lv_iconst (v := nI 0) hx hb dX5_mixedWithJetsAndPumps_48 (by decide +kernel) ?_
        refine lv_istore (lv' := [(5, .int (nI 0)), (0, .ref f0), (3, .long (mixL (dg4 s) (3 * 0 + 0) (mixL (dg3 s) 64 h0)))]) hx hb dX5_mixedWithJetsAndPumps_49 hl (by decide) rfl (fun ls hl => ?_)
        have L51 : ∀ (fuel : Nat) (j : Nat) (H : Heap) (locs : List Loc) (ls : Array Slot), (j ≤ 2) → (2 - j < fuel) → va_P D vwCl ([(f0, .inr (5, [.ref (a 0), .ref (b 0), .ref sv, .ref c0])), (a 0, .inr (4, [.ref (a 1), .ref (a 8), .ref (a 13), .ref (a 14), .int (nI (s 6)), .int (nI (s 7)), .int (nI (s 10)), .int (nI (s 11)), .int (nI (s 12)), .int (nI (s 13))])), (a 1, .inr (2, [.ref (a 2), .ref (a 3), .ref (a 4), .ref (a 5), .ref (a 6), .ref (a 7), .int (nI (s 5))])), (a 2, .inl (cI, 8, .inl (ro 8 (szF s)))), (a 3, .inl (cI, 8, .inl (ro 8 (coF s)))), (a 4, .inl (cI, 8, .inl (ro 8 (vaF s)))), (a 5, .inl (cI, 8, .inl (ro 8 (amF s)))), (a 6, .inl (cI, 2, .inl (ro 2 (liF s)))), (a 7, .inl (cI, 3, .inl (ro 3 (seF s)))), (a 8, .inr (1, [.ref (a 9), .ref (a 10), .ref (a 11), .ref (a 12), .int (nI (s 8)), .int (nI (s 9))])), (a 9, .inl (cI, 16, .inl (ro 16 (nuF s)))), (a 10, .inl (cI, 16, .inl (ro 16 (tiF s)))), (a 11, .inl (cI, 16, .inl (ro 16 (jeF s)))), (a 12, .inl (cI, 16, .inl (ro 16 (acF s)))), (a 13, .inl (cI, 8, .inl (ro 8 (buF s)))), (a 14, .inl (cI, 8, .inl (ro 8 fl))), (c0, .inr (0, [.ref c1, .int (nI n)])), (c1, .inl (cI, 60, .inl (ro 60 cs)))] ++ (shw cI b r gl ++ (svW cI cS sv ad t f6 k))) H → va_D A9 ([(f0, .inr (5, [.ref (a 0), .ref (b 0), .ref sv, .ref c0])), (a 0, .inr (4, [.ref (a 1), .ref (a 8), .ref (a 13), .ref (a 14), .int (nI (s 6)), .int (nI (s 7)), .int (nI (s 10)), .int (nI (s 11)), .int (nI (s 12)), .int (nI (s 13))])), (a 1, .inr (2, [.ref (a 2), .ref (a 3), .ref (a 4), .ref (a 5), .ref (a 6), .ref (a 7), .int (nI (s 5))])), (a 2, .inl (cI, 8, .inl (ro 8 (szF s)))), (a 3, .inl (cI, 8, .inl (ro 8 (coF s)))), (a 4, .inl (cI, 8, .inl (ro 8 (vaF s)))), (a 5, .inl (cI, 8, .inl (ro 8 (amF s)))), (a 6, .inl (cI, 2, .inl (ro 2 (liF s)))), (a 7, .inl (cI, 3, .inl (ro 3 (seF s)))), (a 8, .inr (1, [.ref (a 9), .ref (a 10), .ref (a 11), .ref (a 12), .int (nI (s 8)), .int (nI (s 9))])), (a 9, .inl (cI, 16, .inl (ro 16 (nuF s)))), (a 10, .inl (cI, 16, .inl (ro 16 (tiF s)))), (a 11, .inl (cI, 16, .inl (ro 16 (jeF s)))), (a 12, .inl (cI, 16, .inl (ro 16 (acF s)))), (a 13, .inl (cI, 8, .inl (ro 8 (buF s)))), (a 14, .inl (cI, 8, .inl (ro 8 fl))), (c0, .inr (0, [.ref c1, .int (nI n)])), (c1, .inl (cI, 60, .inl (ro 60 cs)))] ++ (shw cI b r gl ++ (svW cI cS sv ad t f6 k))) → va_S A9 s9.heap H locs → lv_has ls 7 [(0, .ref f0), (5, .int (nI j)), (3, .long (mixL (dg4 s) (3 * j + 0) (mixL (dg3 s) 64 h0)))] → W p9 l e9 ({ frames := 6, cells := 0, slots := 0, locals := 131 } : Room) s9 m9 ar9 be9 me9 c9 H locs 0 0 Q9 (F0 m9 51 ls []) := by
          intro fuel
          induction fuel with
          | zero => intro j H locs ls hj2 hfu; exact absurd hfu (Nat.not_lt_zero _)
          | succ fuel ih51 =>
            intro j H locs ls hj2 hfu hP hD hS hl
            refine lv_iload hx hb dX5_mixedWithJetsAndPumps_51 (lv_at hl 1 rfl) ?_
            refine lv_iconst (v := nI 2) hx hb dX5_mixedWithJetsAndPumps_53 (by decide +kernel) ?_
            refine q_ige (tgt := 92) (by omega) (by omega) hx hb dX5_mixedWithJetsAndPumps_54 (by decide) (fun c_54 => ?_) (fun c_54 => ?_)
            ·
              refine lv_lload_n hx hb dX5_mixedWithJetsAndPumps_92 rfl (lv_at hl 2 rfl) ?_
              refine q_topx (y := .long (hh4 s h0)) (by rw [show j = 2 by omega]; rfl) ?_
              exact hret _ _ _ _ (some (.long (hh4 s h0))) () 93 ls (by decide) (by decide) (by rfl) hP hD hS (ret_l dX5_mixedWithJetsAndPumps_93)
            ·
              refine lv_iconst (v := nI 0) hx hb dX5_mixedWithJetsAndPumps_57 (by decide +kernel) ?_
              refine lv_istore (lv' := [(6, .int (nI 0)), (0, .ref f0), (5, .int (nI j)), (3, .long (mixL (dg4 s) (3 * j + 0) (mixL (dg3 s) 64 h0)))]) hx hb dX5_mixedWithJetsAndPumps_58 hl (by decide) rfl (fun ls hl => ?_)
              have L60 : ∀ (fuel : Nat) (w : Nat) (H : Heap) (locs : List Loc) (ls : Array Slot), (w ≤ 3) → (3 - w < fuel) → va_P D vwCl ([(f0, .inr (5, [.ref (a 0), .ref (b 0), .ref sv, .ref c0])), (a 0, .inr (4, [.ref (a 1), .ref (a 8), .ref (a 13), .ref (a 14), .int (nI (s 6)), .int (nI (s 7)), .int (nI (s 10)), .int (nI (s 11)), .int (nI (s 12)), .int (nI (s 13))])), (a 1, .inr (2, [.ref (a 2), .ref (a 3), .ref (a 4), .ref (a 5), .ref (a 6), .ref (a 7), .int (nI (s 5))])), (a 2, .inl (cI, 8, .inl (ro 8 (szF s)))), (a 3, .inl (cI, 8, .inl (ro 8 (coF s)))), (a 4, .inl (cI, 8, .inl (ro 8 (vaF s)))), (a 5, .inl (cI, 8, .inl (ro 8 (amF s)))), (a 6, .inl (cI, 2, .inl (ro 2 (liF s)))), (a 7, .inl (cI, 3, .inl (ro 3 (seF s)))), (a 8, .inr (1, [.ref (a 9), .ref (a 10), .ref (a 11), .ref (a 12), .int (nI (s 8)), .int (nI (s 9))])), (a 9, .inl (cI, 16, .inl (ro 16 (nuF s)))), (a 10, .inl (cI, 16, .inl (ro 16 (tiF s)))), (a 11, .inl (cI, 16, .inl (ro 16 (jeF s)))), (a 12, .inl (cI, 16, .inl (ro 16 (acF s)))), (a 13, .inl (cI, 8, .inl (ro 8 (buF s)))), (a 14, .inl (cI, 8, .inl (ro 8 fl))), (c0, .inr (0, [.ref c1, .int (nI n)])), (c1, .inl (cI, 60, .inl (ro 60 cs)))] ++ (shw cI b r gl ++ (svW cI cS sv ad t f6 k))) H → va_D A9 ([(f0, .inr (5, [.ref (a 0), .ref (b 0), .ref sv, .ref c0])), (a 0, .inr (4, [.ref (a 1), .ref (a 8), .ref (a 13), .ref (a 14), .int (nI (s 6)), .int (nI (s 7)), .int (nI (s 10)), .int (nI (s 11)), .int (nI (s 12)), .int (nI (s 13))])), (a 1, .inr (2, [.ref (a 2), .ref (a 3), .ref (a 4), .ref (a 5), .ref (a 6), .ref (a 7), .int (nI (s 5))])), (a 2, .inl (cI, 8, .inl (ro 8 (szF s)))), (a 3, .inl (cI, 8, .inl (ro 8 (coF s)))), (a 4, .inl (cI, 8, .inl (ro 8 (vaF s)))), (a 5, .inl (cI, 8, .inl (ro 8 (amF s)))), (a 6, .inl (cI, 2, .inl (ro 2 (liF s)))), (a 7, .inl (cI, 3, .inl (ro 3 (seF s)))), (a 8, .inr (1, [.ref (a 9), .ref (a 10), .ref (a 11), .ref (a 12), .int (nI (s 8)), .int (nI (s 9))])), (a 9, .inl (cI, 16, .inl (ro 16 (nuF s)))), (a 10, .inl (cI, 16, .inl (ro 16 (tiF s)))), (a 11, .inl (cI, 16, .inl (ro 16 (jeF s)))), (a 12, .inl (cI, 16, .inl (ro 16 (acF s)))), (a 13, .inl (cI, 8, .inl (ro 8 (buF s)))), (a 14, .inl (cI, 8, .inl (ro 8 fl))), (c0, .inr (0, [.ref c1, .int (nI n)])), (c1, .inl (cI, 60, .inl (ro 60 cs)))] ++ (shw cI b r gl ++ (svW cI cS sv ad t f6 k))) → va_S A9 s9.heap H locs → lv_has ls 7 [(0, .ref f0), (5, .int (nI j)), (6, .int (nI w)), (3, .long (mixL (dg4 s) (3 * j + w) (mixL (dg3 s) 64 h0)))] → W p9 l e9 ({ frames := 6, cells := 0, slots := 0, locals := 131 } : Room) s9 m9 ar9 be9 me9 c9 H locs 0 0 Q9 (F0 m9 60 ls []) := by
                intro fuel
                induction fuel with
                | zero => intro w H locs ls hw2 hfu; exact absurd hfu (Nat.not_lt_zero _)
                | succ fuel ih60 =>
                  intro w H locs ls hw2 hfu hP hD hS hl
                  refine lv_iload hx hb dX5_mixedWithJetsAndPumps_60 (lv_at hl 2 rfl) ?_
                  refine lv_iconst (v := nI 2) hx hb dX5_mixedWithJetsAndPumps_62 (by decide +kernel) ?_
                  refine q_igt (tgt := 86) (by omega) (by omega) hx hb dX5_mixedWithJetsAndPumps_63 (by decide) (fun c_63 => ?_) (fun c_63 => ?_)
                  ·
                    have el86 : mixL (dg4 s) (3 * j + w) (mixL (dg3 s) 64 h0) = mixL (dg4 s) (3 * (j + 1) + 0) (mixL (dg3 s) 64 h0) := by rw [show 3 * j + w = 3 * (j + 1) + 0 by omega]
                    rw [el86] at hl
                    have hl : lv_has ls 7 [(0, .ref f0), (5, .int (nI j)), (6, .int (nI w)), (3, .long (mixL (dg4 s) (3 * (j + 1) + 0) (mixL (dg3 s) 64 h0)))] := hl
                    refine lv_iinc (v := (nI (j + 1))) (lv' := [(5, .int (nI (j + 1))), (0, .ref f0), (6, .int (nI w)), (3, .long (mixL (dg4 s) (3 * (j + 1) + 0) (mixL (dg3 s) 64 h0)))]) hx hb dX5_mixedWithJetsAndPumps_86 hl (k := 1) rfl (nI_add j 1) (by decide) rfl (fun ls hl => ?_)
                    refine lv_goto (tgt := 51) hx hb dX5_mixedWithJetsAndPumps_89 (by decide) ?_
                    exact ih51  (j + 1) _ _ ls (by first | with_reducible assumption | omega) (by omega) hP hD hS (lv_sub hl [1, 0, 3] rfl)
                  ·
                    refine lv_lload_n hx hb dX5_mixedWithJetsAndPumps_66 rfl (lv_at hl 3 rfl) ?_
                    refine lv_aload_n hx hb dX5_mixedWithJetsAndPumps_67 rfl (lv_at hl 0 rfl) ?_
                    refine lv_iload hx hb dX5_mixedWithJetsAndPumps_68 (lv_at hl 1 rfl) ?_
                    refine lv_iload hx hb dX5_mixedWithJetsAndPumps_70 (lv_at hl 2 rfl) ?_
                    refine KM.callW (As := [.int (nI j), .int (nI w)]) (rest := [.long (mixL (dg4 s) (3 * j + w) (mixL (dg3 s) 64 h0))]) (W0 := (fcW cI cS f0 a s fl c0 c1 n cs b r gl sv ad t f6 k)) C0 hN (k_X5_pumpOf_ok l D cI cS cL T f0 a s fl c0 c1 n cs b r gl sv ad t f6 k j w hI hT hk hn hcs (by omega) (by omega)) (cwV 2 hts gX5_mixedWithJetsAndPumps_X5_pumpOf rfl rfl rfl (by decide +kernel) ⟨Nat.le_of_ble_eq_true rfl, Nat.le_of_ble_eq_true rfl⟩) hK hP hD hS hA (fun _ => rfl) 0 5 rfl rfl rfl rfl hl.1 rfl (Nat.le_of_ble_eq_true rfl) dX5_mixedWithJetsAndPumps_72 ⟨Nat.le_of_ble_eq_true rfl, Nat.le_of_ble_eq_true rfl⟩ (fun v9 u9 H locs hv hP hD hS => ?_)
                    subst hv
                    have hP : va_P D vwCl ([(f0, .inr (5, [.ref (a 0), .ref (b 0), .ref sv, .ref c0])), (a 0, .inr (4, [.ref (a 1), .ref (a 8), .ref (a 13), .ref (a 14), .int (nI (s 6)), .int (nI (s 7)), .int (nI (s 10)), .int (nI (s 11)), .int (nI (s 12)), .int (nI (s 13))])), (a 1, .inr (2, [.ref (a 2), .ref (a 3), .ref (a 4), .ref (a 5), .ref (a 6), .ref (a 7), .int (nI (s 5))])), (a 2, .inl (cI, 8, .inl (ro 8 (szF s)))), (a 3, .inl (cI, 8, .inl (ro 8 (coF s)))), (a 4, .inl (cI, 8, .inl (ro 8 (vaF s)))), (a 5, .inl (cI, 8, .inl (ro 8 (amF s)))), (a 6, .inl (cI, 2, .inl (ro 2 (liF s)))), (a 7, .inl (cI, 3, .inl (ro 3 (seF s)))), (a 8, .inr (1, [.ref (a 9), .ref (a 10), .ref (a 11), .ref (a 12), .int (nI (s 8)), .int (nI (s 9))])), (a 9, .inl (cI, 16, .inl (ro 16 (nuF s)))), (a 10, .inl (cI, 16, .inl (ro 16 (tiF s)))), (a 11, .inl (cI, 16, .inl (ro 16 (jeF s)))), (a 12, .inl (cI, 16, .inl (ro 16 (acF s)))), (a 13, .inl (cI, 8, .inl (ro 8 (buF s)))), (a 14, .inl (cI, 8, .inl (ro 8 fl))), (c0, .inr (0, [.ref c1, .int (nI n)])), (c1, .inl (cI, 60, .inl (ro 60 cs)))] ++ ((shw cI b r gl) ++ (svW cI cS sv ad t f6 k))) H := hP
                    have hD : va_D A9 ([(f0, .inr (5, [.ref (a 0), .ref (b 0), .ref sv, .ref c0])), (a 0, .inr (4, [.ref (a 1), .ref (a 8), .ref (a 13), .ref (a 14), .int (nI (s 6)), .int (nI (s 7)), .int (nI (s 10)), .int (nI (s 11)), .int (nI (s 12)), .int (nI (s 13))])), (a 1, .inr (2, [.ref (a 2), .ref (a 3), .ref (a 4), .ref (a 5), .ref (a 6), .ref (a 7), .int (nI (s 5))])), (a 2, .inl (cI, 8, .inl (ro 8 (szF s)))), (a 3, .inl (cI, 8, .inl (ro 8 (coF s)))), (a 4, .inl (cI, 8, .inl (ro 8 (vaF s)))), (a 5, .inl (cI, 8, .inl (ro 8 (amF s)))), (a 6, .inl (cI, 2, .inl (ro 2 (liF s)))), (a 7, .inl (cI, 3, .inl (ro 3 (seF s)))), (a 8, .inr (1, [.ref (a 9), .ref (a 10), .ref (a 11), .ref (a 12), .int (nI (s 8)), .int (nI (s 9))])), (a 9, .inl (cI, 16, .inl (ro 16 (nuF s)))), (a 10, .inl (cI, 16, .inl (ro 16 (tiF s)))), (a 11, .inl (cI, 16, .inl (ro 16 (jeF s)))), (a 12, .inl (cI, 16, .inl (ro 16 (acF s)))), (a 13, .inl (cI, 8, .inl (ro 8 (buF s)))), (a 14, .inl (cI, 8, .inl (ro 8 fl))), (c0, .inr (0, [.ref c1, .int (nI n)])), (c1, .inl (cI, 60, .inl (ro 60 cs)))] ++ ((shw cI b r gl) ++ (svW cI cS sv ad t f6 k))) := hD
                    refine W.eq (g2 := F0 m9 75 ls [.int (nI (pmpS s j w)), .long (mixL (dg4 s) (3 * j + w) (mixL (dg3 s) 64 h0))]) rfl ?_
                    refine lv_i2l (v := (nI (pmpS s j w)).toInt64) hx hb dX5_mixedWithJetsAndPumps_75 rfl ?_
                    refine KM.callS (As := [.long (mixL (dg4 s) (3 * j + w) (mixL (dg3 s) 64 h0)), .long ((nI (pmpS s j w)).toInt64)]) (rest := []) C0 hN (k_X5_mixed l D cI cS cL (mixL (dg4 s) (3 * j + w) (mixL (dg3 s) 64 h0)) ((nI (pmpS s j w)).toInt64)  ) (va_cwS 2 hts gX5_mixedWithJetsAndPumps_X5_mixed rfl rfl rfl (by decide +kernel) ⟨Nat.le_of_ble_eq_true rfl, Nat.le_of_ble_eq_true rfl⟩) hK hP hD hS hA [] rfl (by decide) (fun _ => rfl) rfl hl.1 rfl (Nat.le_of_ble_eq_true rfl) dX5_mixedWithJetsAndPumps_76 ⟨Nat.le_of_ble_eq_true rfl, Nat.le_of_ble_eq_true rfl⟩ (fun v9 u9 H locs hv hP hD hS => ?_)
                    subst hv
                    have hP : va_P D vwCl ([(f0, .inr (5, [.ref (a 0), .ref (b 0), .ref sv, .ref c0])), (a 0, .inr (4, [.ref (a 1), .ref (a 8), .ref (a 13), .ref (a 14), .int (nI (s 6)), .int (nI (s 7)), .int (nI (s 10)), .int (nI (s 11)), .int (nI (s 12)), .int (nI (s 13))])), (a 1, .inr (2, [.ref (a 2), .ref (a 3), .ref (a 4), .ref (a 5), .ref (a 6), .ref (a 7), .int (nI (s 5))])), (a 2, .inl (cI, 8, .inl (ro 8 (szF s)))), (a 3, .inl (cI, 8, .inl (ro 8 (coF s)))), (a 4, .inl (cI, 8, .inl (ro 8 (vaF s)))), (a 5, .inl (cI, 8, .inl (ro 8 (amF s)))), (a 6, .inl (cI, 2, .inl (ro 2 (liF s)))), (a 7, .inl (cI, 3, .inl (ro 3 (seF s)))), (a 8, .inr (1, [.ref (a 9), .ref (a 10), .ref (a 11), .ref (a 12), .int (nI (s 8)), .int (nI (s 9))])), (a 9, .inl (cI, 16, .inl (ro 16 (nuF s)))), (a 10, .inl (cI, 16, .inl (ro 16 (tiF s)))), (a 11, .inl (cI, 16, .inl (ro 16 (jeF s)))), (a 12, .inl (cI, 16, .inl (ro 16 (acF s)))), (a 13, .inl (cI, 8, .inl (ro 8 (buF s)))), (a 14, .inl (cI, 8, .inl (ro 8 fl))), (c0, .inr (0, [.ref c1, .int (nI n)])), (c1, .inl (cI, 60, .inl (ro 60 cs)))] ++ ((shw cI b r gl) ++ (svW cI cS sv ad t f6 k))) H := hP
                    have hD : va_D A9 ([(f0, .inr (5, [.ref (a 0), .ref (b 0), .ref sv, .ref c0])), (a 0, .inr (4, [.ref (a 1), .ref (a 8), .ref (a 13), .ref (a 14), .int (nI (s 6)), .int (nI (s 7)), .int (nI (s 10)), .int (nI (s 11)), .int (nI (s 12)), .int (nI (s 13))])), (a 1, .inr (2, [.ref (a 2), .ref (a 3), .ref (a 4), .ref (a 5), .ref (a 6), .ref (a 7), .int (nI (s 5))])), (a 2, .inl (cI, 8, .inl (ro 8 (szF s)))), (a 3, .inl (cI, 8, .inl (ro 8 (coF s)))), (a 4, .inl (cI, 8, .inl (ro 8 (vaF s)))), (a 5, .inl (cI, 8, .inl (ro 8 (amF s)))), (a 6, .inl (cI, 2, .inl (ro 2 (liF s)))), (a 7, .inl (cI, 3, .inl (ro 3 (seF s)))), (a 8, .inr (1, [.ref (a 9), .ref (a 10), .ref (a 11), .ref (a 12), .int (nI (s 8)), .int (nI (s 9))])), (a 9, .inl (cI, 16, .inl (ro 16 (nuF s)))), (a 10, .inl (cI, 16, .inl (ro 16 (tiF s)))), (a 11, .inl (cI, 16, .inl (ro 16 (jeF s)))), (a 12, .inl (cI, 16, .inl (ro 16 (acF s)))), (a 13, .inl (cI, 8, .inl (ro 8 (buF s)))), (a 14, .inl (cI, 8, .inl (ro 8 fl))), (c0, .inr (0, [.ref c1, .int (nI n)])), (c1, .inl (cI, 60, .inl (ro 60 cs)))] ++ ((shw cI b r gl) ++ (svW cI cS sv ad t f6 k))) := hD
                    refine W.eq (g2 := F0 m9 79 ls [.long (31 * (mixL (dg4 s) (3 * j + w) (mixL (dg3 s) 64 h0)) + ((nI (pmpS s j w)).toInt64))]) rfl ?_
                    refine q_topx (y := .long (mixL (dg4 s) (3 * j + (w + 1)) (mixL (dg3 s) 64 h0))) (by exact congrArg Value.long (mix4 s _ (by omega))) ?_
                    refine lv_lstore_n (lv' := [(3, .long (mixL (dg4 s) (3 * j + (w + 1)) (mixL (dg3 s) 64 h0))), (0, .ref f0), (5, .int (nI j)), (6, .int (nI w))]) hx hb dX5_mixedWithJetsAndPumps_79 rfl hl (by decide) rfl (fun ls hl => ?_)
                    refine lv_iinc (v := (nI (w + 1))) (lv' := [(6, .int (nI (w + 1))), (3, .long (mixL (dg4 s) (3 * j + (w + 1)) (mixL (dg3 s) 64 h0))), (0, .ref f0), (5, .int (nI j))]) hx hb dX5_mixedWithJetsAndPumps_80 hl (k := 3) rfl (nI_add w 1) (by decide) rfl (fun ls hl => ?_)
                    refine lv_goto (tgt := 60) hx hb dX5_mixedWithJetsAndPumps_83 (by decide) ?_
                    exact ih60  (w + 1) _ _ ls (by first | with_reducible assumption | omega) (by omega) hP hD hS (lv_sub hl [2, 3, 0, 1] rfl)
              exact L60 (3 - 0 + 1) 0 _ _ ls (by first | with_reducible assumption | omega) (by omega) hP hD hS (lv_sub hl [1, 2, 0, 3] rfl)
        exact L51 (2 - 0 + 1) 0 _ _ ls (by first | with_reducible assumption | omega) (by omega) hP hD hS (lv_sub hl [1, 0, 2] rfl)
      ·
        refine lv_iconst (v := nI 0) hx hb dX5_mixedWithJetsAndPumps_12 (by decide +kernel) ?_
        refine lv_istore (lv' := [(6, .int (nI 0)), (0, .ref f0), (5, .int (nI j)), (3, .long (mixL (dg3 s) (8 * j + 0) h0))]) hx hb dX5_mixedWithJetsAndPumps_13 hl (by decide) rfl (fun ls hl => ?_)
        have L15 : ∀ (fuel : Nat) (w : Nat) (H : Heap) (locs : List Loc) (ls : Array Slot), (w ≤ 8) → (8 - w < fuel) → va_P D vwCl ([(f0, .inr (5, [.ref (a 0), .ref (b 0), .ref sv, .ref c0])), (a 0, .inr (4, [.ref (a 1), .ref (a 8), .ref (a 13), .ref (a 14), .int (nI (s 6)), .int (nI (s 7)), .int (nI (s 10)), .int (nI (s 11)), .int (nI (s 12)), .int (nI (s 13))])), (a 1, .inr (2, [.ref (a 2), .ref (a 3), .ref (a 4), .ref (a 5), .ref (a 6), .ref (a 7), .int (nI (s 5))])), (a 2, .inl (cI, 8, .inl (ro 8 (szF s)))), (a 3, .inl (cI, 8, .inl (ro 8 (coF s)))), (a 4, .inl (cI, 8, .inl (ro 8 (vaF s)))), (a 5, .inl (cI, 8, .inl (ro 8 (amF s)))), (a 6, .inl (cI, 2, .inl (ro 2 (liF s)))), (a 7, .inl (cI, 3, .inl (ro 3 (seF s)))), (a 8, .inr (1, [.ref (a 9), .ref (a 10), .ref (a 11), .ref (a 12), .int (nI (s 8)), .int (nI (s 9))])), (a 9, .inl (cI, 16, .inl (ro 16 (nuF s)))), (a 10, .inl (cI, 16, .inl (ro 16 (tiF s)))), (a 11, .inl (cI, 16, .inl (ro 16 (jeF s)))), (a 12, .inl (cI, 16, .inl (ro 16 (acF s)))), (a 13, .inl (cI, 8, .inl (ro 8 (buF s)))), (a 14, .inl (cI, 8, .inl (ro 8 fl))), (c0, .inr (0, [.ref c1, .int (nI n)])), (c1, .inl (cI, 60, .inl (ro 60 cs)))] ++ (shw cI b r gl ++ (svW cI cS sv ad t f6 k))) H → va_D A9 ([(f0, .inr (5, [.ref (a 0), .ref (b 0), .ref sv, .ref c0])), (a 0, .inr (4, [.ref (a 1), .ref (a 8), .ref (a 13), .ref (a 14), .int (nI (s 6)), .int (nI (s 7)), .int (nI (s 10)), .int (nI (s 11)), .int (nI (s 12)), .int (nI (s 13))])), (a 1, .inr (2, [.ref (a 2), .ref (a 3), .ref (a 4), .ref (a 5), .ref (a 6), .ref (a 7), .int (nI (s 5))])), (a 2, .inl (cI, 8, .inl (ro 8 (szF s)))), (a 3, .inl (cI, 8, .inl (ro 8 (coF s)))), (a 4, .inl (cI, 8, .inl (ro 8 (vaF s)))), (a 5, .inl (cI, 8, .inl (ro 8 (amF s)))), (a 6, .inl (cI, 2, .inl (ro 2 (liF s)))), (a 7, .inl (cI, 3, .inl (ro 3 (seF s)))), (a 8, .inr (1, [.ref (a 9), .ref (a 10), .ref (a 11), .ref (a 12), .int (nI (s 8)), .int (nI (s 9))])), (a 9, .inl (cI, 16, .inl (ro 16 (nuF s)))), (a 10, .inl (cI, 16, .inl (ro 16 (tiF s)))), (a 11, .inl (cI, 16, .inl (ro 16 (jeF s)))), (a 12, .inl (cI, 16, .inl (ro 16 (acF s)))), (a 13, .inl (cI, 8, .inl (ro 8 (buF s)))), (a 14, .inl (cI, 8, .inl (ro 8 fl))), (c0, .inr (0, [.ref c1, .int (nI n)])), (c1, .inl (cI, 60, .inl (ro 60 cs)))] ++ (shw cI b r gl ++ (svW cI cS sv ad t f6 k))) → va_S A9 s9.heap H locs → lv_has ls 7 [(0, .ref f0), (5, .int (nI j)), (6, .int (nI w)), (3, .long (mixL (dg3 s) (8 * j + w) h0))] → W p9 l e9 ({ frames := 6, cells := 0, slots := 0, locals := 131 } : Room) s9 m9 ar9 be9 me9 c9 H locs 0 0 Q9 (F0 m9 15 ls []) := by
          intro fuel
          induction fuel with
          | zero => intro w H locs ls hw hfu; exact absurd hfu (Nat.not_lt_zero _)
          | succ fuel ih15 =>
            intro w H locs ls hw hfu hP hD hS hl
            refine lv_iload hx hb dX5_mixedWithJetsAndPumps_15 (lv_at hl 2 rfl) ?_
            refine lv_bipush (v := nI 7) hx hb dX5_mixedWithJetsAndPumps_17 (by decide +kernel) ?_
            refine q_igt (tgt := 42) (by omega) (by omega) hx hb dX5_mixedWithJetsAndPumps_19 (by decide) (fun c_19 => ?_) (fun c_19 => ?_)
            ·
              have el42 : mixL (dg3 s) (8 * j + w) h0 = mixL (dg3 s) (8 * (j + 1) + 0) h0 := by rw [show 8 * j + w = 8 * (j + 1) + 0 by omega]
              rw [el42] at hl
              have hl : lv_has ls 7 [(0, .ref f0), (5, .int (nI j)), (6, .int (nI w)), (3, .long (mixL (dg3 s) (8 * (j + 1) + 0) h0))] := hl
              refine lv_iinc (v := (nI (j + 1))) (lv' := [(5, .int (nI (j + 1))), (0, .ref f0), (6, .int (nI w)), (3, .long (mixL (dg3 s) (8 * (j + 1) + 0) h0))]) hx hb dX5_mixedWithJetsAndPumps_42 hl (k := 1) rfl (nI_add j 1) (by decide) rfl (fun ls hl => ?_)
              refine lv_goto (tgt := 5) hx hb dX5_mixedWithJetsAndPumps_45 (by decide) ?_
              exact ih5  (j + 1) _ _ ls (by first | with_reducible assumption | omega) (by omega) hP hD hS (lv_sub hl [1, 0, 3] rfl)
            ·
              refine lv_lload_n hx hb dX5_mixedWithJetsAndPumps_22 rfl (lv_at hl 3 rfl) ?_
              refine lv_aload_n hx hb dX5_mixedWithJetsAndPumps_23 rfl (lv_at hl 0 rfl) ?_
              refine lv_iload hx hb dX5_mixedWithJetsAndPumps_24 (lv_at hl 1 rfl) ?_
              refine lv_iload hx hb dX5_mixedWithJetsAndPumps_26 (lv_at hl 2 rfl) ?_
              refine KM.callW (As := [.int (nI j), .int (nI w)]) (rest := [.long (mixL (dg3 s) (8 * j + w) h0)]) (W0 := (fcW cI cS f0 a s fl c0 c1 n cs b r gl sv ad t f6 k)) C0 hN (k_X5_jetOf_ok l D cI cS cL T f0 a s fl c0 c1 n cs b r gl sv ad t f6 k j w hI hT hk hn hcs (by omega) (by omega)) (cwV 2 hts gX5_mixedWithJetsAndPumps_X5_jetOf rfl rfl rfl (by decide +kernel) ⟨Nat.le_of_ble_eq_true rfl, Nat.le_of_ble_eq_true rfl⟩) hK hP hD hS hA (fun _ => rfl) 0 5 rfl rfl rfl rfl hl.1 rfl (Nat.le_of_ble_eq_true rfl) dX5_mixedWithJetsAndPumps_28 ⟨Nat.le_of_ble_eq_true rfl, Nat.le_of_ble_eq_true rfl⟩ (fun v9 u9 H locs hv hP hD hS => ?_)
              subst hv
              have hP : va_P D vwCl ([(f0, .inr (5, [.ref (a 0), .ref (b 0), .ref sv, .ref c0])), (a 0, .inr (4, [.ref (a 1), .ref (a 8), .ref (a 13), .ref (a 14), .int (nI (s 6)), .int (nI (s 7)), .int (nI (s 10)), .int (nI (s 11)), .int (nI (s 12)), .int (nI (s 13))])), (a 1, .inr (2, [.ref (a 2), .ref (a 3), .ref (a 4), .ref (a 5), .ref (a 6), .ref (a 7), .int (nI (s 5))])), (a 2, .inl (cI, 8, .inl (ro 8 (szF s)))), (a 3, .inl (cI, 8, .inl (ro 8 (coF s)))), (a 4, .inl (cI, 8, .inl (ro 8 (vaF s)))), (a 5, .inl (cI, 8, .inl (ro 8 (amF s)))), (a 6, .inl (cI, 2, .inl (ro 2 (liF s)))), (a 7, .inl (cI, 3, .inl (ro 3 (seF s)))), (a 8, .inr (1, [.ref (a 9), .ref (a 10), .ref (a 11), .ref (a 12), .int (nI (s 8)), .int (nI (s 9))])), (a 9, .inl (cI, 16, .inl (ro 16 (nuF s)))), (a 10, .inl (cI, 16, .inl (ro 16 (tiF s)))), (a 11, .inl (cI, 16, .inl (ro 16 (jeF s)))), (a 12, .inl (cI, 16, .inl (ro 16 (acF s)))), (a 13, .inl (cI, 8, .inl (ro 8 (buF s)))), (a 14, .inl (cI, 8, .inl (ro 8 fl))), (c0, .inr (0, [.ref c1, .int (nI n)])), (c1, .inl (cI, 60, .inl (ro 60 cs)))] ++ ((shw cI b r gl) ++ (svW cI cS sv ad t f6 k))) H := hP
              have hD : va_D A9 ([(f0, .inr (5, [.ref (a 0), .ref (b 0), .ref sv, .ref c0])), (a 0, .inr (4, [.ref (a 1), .ref (a 8), .ref (a 13), .ref (a 14), .int (nI (s 6)), .int (nI (s 7)), .int (nI (s 10)), .int (nI (s 11)), .int (nI (s 12)), .int (nI (s 13))])), (a 1, .inr (2, [.ref (a 2), .ref (a 3), .ref (a 4), .ref (a 5), .ref (a 6), .ref (a 7), .int (nI (s 5))])), (a 2, .inl (cI, 8, .inl (ro 8 (szF s)))), (a 3, .inl (cI, 8, .inl (ro 8 (coF s)))), (a 4, .inl (cI, 8, .inl (ro 8 (vaF s)))), (a 5, .inl (cI, 8, .inl (ro 8 (amF s)))), (a 6, .inl (cI, 2, .inl (ro 2 (liF s)))), (a 7, .inl (cI, 3, .inl (ro 3 (seF s)))), (a 8, .inr (1, [.ref (a 9), .ref (a 10), .ref (a 11), .ref (a 12), .int (nI (s 8)), .int (nI (s 9))])), (a 9, .inl (cI, 16, .inl (ro 16 (nuF s)))), (a 10, .inl (cI, 16, .inl (ro 16 (tiF s)))), (a 11, .inl (cI, 16, .inl (ro 16 (jeF s)))), (a 12, .inl (cI, 16, .inl (ro 16 (acF s)))), (a 13, .inl (cI, 8, .inl (ro 8 (buF s)))), (a 14, .inl (cI, 8, .inl (ro 8 fl))), (c0, .inr (0, [.ref c1, .int (nI n)])), (c1, .inl (cI, 60, .inl (ro 60 cs)))] ++ ((shw cI b r gl) ++ (svW cI cS sv ad t f6 k))) := hD
              refine W.eq (g2 := F0 m9 31 ls [.int (nI (jetS s j w)), .long (mixL (dg3 s) (8 * j + w) h0)]) rfl ?_
              refine lv_i2l (v := (nI (jetS s j w)).toInt64) hx hb dX5_mixedWithJetsAndPumps_31 rfl ?_
              refine KM.callS (As := [.long (mixL (dg3 s) (8 * j + w) h0), .long ((nI (jetS s j w)).toInt64)]) (rest := []) C0 hN (k_X5_mixed l D cI cS cL (mixL (dg3 s) (8 * j + w) h0) ((nI (jetS s j w)).toInt64)  ) (va_cwS 2 hts gX5_mixedWithJetsAndPumps_X5_mixed rfl rfl rfl (by decide +kernel) ⟨Nat.le_of_ble_eq_true rfl, Nat.le_of_ble_eq_true rfl⟩) hK hP hD hS hA [] rfl (by decide) (fun _ => rfl) rfl hl.1 rfl (Nat.le_of_ble_eq_true rfl) dX5_mixedWithJetsAndPumps_32 ⟨Nat.le_of_ble_eq_true rfl, Nat.le_of_ble_eq_true rfl⟩ (fun v9 u9 H locs hv hP hD hS => ?_)
              subst hv
              have hP : va_P D vwCl ([(f0, .inr (5, [.ref (a 0), .ref (b 0), .ref sv, .ref c0])), (a 0, .inr (4, [.ref (a 1), .ref (a 8), .ref (a 13), .ref (a 14), .int (nI (s 6)), .int (nI (s 7)), .int (nI (s 10)), .int (nI (s 11)), .int (nI (s 12)), .int (nI (s 13))])), (a 1, .inr (2, [.ref (a 2), .ref (a 3), .ref (a 4), .ref (a 5), .ref (a 6), .ref (a 7), .int (nI (s 5))])), (a 2, .inl (cI, 8, .inl (ro 8 (szF s)))), (a 3, .inl (cI, 8, .inl (ro 8 (coF s)))), (a 4, .inl (cI, 8, .inl (ro 8 (vaF s)))), (a 5, .inl (cI, 8, .inl (ro 8 (amF s)))), (a 6, .inl (cI, 2, .inl (ro 2 (liF s)))), (a 7, .inl (cI, 3, .inl (ro 3 (seF s)))), (a 8, .inr (1, [.ref (a 9), .ref (a 10), .ref (a 11), .ref (a 12), .int (nI (s 8)), .int (nI (s 9))])), (a 9, .inl (cI, 16, .inl (ro 16 (nuF s)))), (a 10, .inl (cI, 16, .inl (ro 16 (tiF s)))), (a 11, .inl (cI, 16, .inl (ro 16 (jeF s)))), (a 12, .inl (cI, 16, .inl (ro 16 (acF s)))), (a 13, .inl (cI, 8, .inl (ro 8 (buF s)))), (a 14, .inl (cI, 8, .inl (ro 8 fl))), (c0, .inr (0, [.ref c1, .int (nI n)])), (c1, .inl (cI, 60, .inl (ro 60 cs)))] ++ ((shw cI b r gl) ++ (svW cI cS sv ad t f6 k))) H := hP
              have hD : va_D A9 ([(f0, .inr (5, [.ref (a 0), .ref (b 0), .ref sv, .ref c0])), (a 0, .inr (4, [.ref (a 1), .ref (a 8), .ref (a 13), .ref (a 14), .int (nI (s 6)), .int (nI (s 7)), .int (nI (s 10)), .int (nI (s 11)), .int (nI (s 12)), .int (nI (s 13))])), (a 1, .inr (2, [.ref (a 2), .ref (a 3), .ref (a 4), .ref (a 5), .ref (a 6), .ref (a 7), .int (nI (s 5))])), (a 2, .inl (cI, 8, .inl (ro 8 (szF s)))), (a 3, .inl (cI, 8, .inl (ro 8 (coF s)))), (a 4, .inl (cI, 8, .inl (ro 8 (vaF s)))), (a 5, .inl (cI, 8, .inl (ro 8 (amF s)))), (a 6, .inl (cI, 2, .inl (ro 2 (liF s)))), (a 7, .inl (cI, 3, .inl (ro 3 (seF s)))), (a 8, .inr (1, [.ref (a 9), .ref (a 10), .ref (a 11), .ref (a 12), .int (nI (s 8)), .int (nI (s 9))])), (a 9, .inl (cI, 16, .inl (ro 16 (nuF s)))), (a 10, .inl (cI, 16, .inl (ro 16 (tiF s)))), (a 11, .inl (cI, 16, .inl (ro 16 (jeF s)))), (a 12, .inl (cI, 16, .inl (ro 16 (acF s)))), (a 13, .inl (cI, 8, .inl (ro 8 (buF s)))), (a 14, .inl (cI, 8, .inl (ro 8 fl))), (c0, .inr (0, [.ref c1, .int (nI n)])), (c1, .inl (cI, 60, .inl (ro 60 cs)))] ++ ((shw cI b r gl) ++ (svW cI cS sv ad t f6 k))) := hD
              refine W.eq (g2 := F0 m9 35 ls [.long (31 * (mixL (dg3 s) (8 * j + w) h0) + ((nI (jetS s j w)).toInt64))]) rfl ?_
              refine q_topx (y := .long (mixL (dg3 s) (8 * j + (w + 1)) h0)) (by exact congrArg Value.long (mix3 s h0 (by omega))) ?_
              refine lv_lstore_n (lv' := [(3, .long (mixL (dg3 s) (8 * j + (w + 1)) h0)), (0, .ref f0), (5, .int (nI j)), (6, .int (nI w))]) hx hb dX5_mixedWithJetsAndPumps_35 rfl hl (by decide) rfl (fun ls hl => ?_)
              refine lv_iinc (v := (nI (w + 1))) (lv' := [(6, .int (nI (w + 1))), (3, .long (mixL (dg3 s) (8 * j + (w + 1)) h0)), (0, .ref f0), (5, .int (nI j))]) hx hb dX5_mixedWithJetsAndPumps_36 hl (k := 3) rfl (nI_add w 1) (by decide) rfl (fun ls hl => ?_)
              refine lv_goto (tgt := 15) hx hb dX5_mixedWithJetsAndPumps_39 (by decide) ?_
              exact ih15  (w + 1) _ _ ls (by first | with_reducible assumption | omega) (by omega) hP hD hS (lv_sub hl [2, 3, 0, 1] rfl)
        exact L15 (8 - 0 + 1) 0 _ _ ls (by first | with_reducible assumption | omega) (by omega) hP hD hS (lv_sub hl [1, 2, 0, 3] rfl)
  exact L5 (8 - 0 + 1) 0 _ _ ls (by first | with_reducible assumption | omega) (by omega) hP hD hS (lv_sub hl [2, 0, 1] rfl)

theorem in_X5_mixedWithCues_ok_X5 : ∀ w ∈ wsX50, w ∈ wsX5_mixedWithCues := by decide +kernel
theorem fl_X5_mixedWithCues_ok_10 : Cond.fieldLink RX5 10 "FountainCues" "show" "LFountainCues$Show;" ∈ wsX5_mixedWithCues := by decide +kernel
theorem in_X5_mixedWithCues_ok_X4 : ∀ w ∈ wsX40, w ∈ wsX5_mixedWithCues := by decide +kernel
theorem fl_X5_mixedWithCues_ok_103 : Cond.fieldLink RX5 103 "FountainCues$Show" "cues" "LFountainCues$Cues;" ∈ wsX5_mixedWithCues := by decide +kernel
theorem in_X5_mixedWithCues_ok_X1 : ∀ w ∈ wsX10, w ∈ wsX5_mixedWithCues := by decide +kernel
theorem fl_X5_mixedWithCues_ok_124 : Cond.fieldLink RX5 124 "FountainCues$Cues" "size" "I" ∈ wsX5_mixedWithCues := by decide +kernel
set_option maxHeartbeats 4000000 in
set_option maxRecDepth 100000 in
theorem k_X5_mixedWithCues_ok (l : Launch) (D : va_G) (cI cS cL : ClassId) (T : Nat) (f0 : Nat) (a : Nat → Nat) (s : Nat → Nat) (fl : Nat → Nat) (c0 : Nat) (c1 : Nat) (n : Nat) (cs : Nat → Nat) (b : Nat → Nat) (r : Nat → Nat) (gl : Nat → Nat) (sv : Nat) (ad : Nat → Nat → Nat) (t : Nat → Nat → Nat) (f6 : Nat → Nat → Nat) (k : Nat) (h0 : Int64) (hI : sI T s) (hT : T ≤ 900000) (hk : k ≤ 6) (hn : n ≤ 60) (hcs : ∀ j, j < n → cs j < 2 ^ 31) : KM l D (TY cI cS cL) yX5_mixedWithCues wsX5_mixedWithCues ({ frames := 2, cells := 0, slots := 0, locals := 44 } : Room) (fcW cI cS f0 a s fl c0 c1 n cs b r gl sv ad t f6 k) [.ref f0, .long h0] (fun (v : Option Value) (_ : Unit) => v = some (.long (mixL (dg5 s) (4 * s 8) h0))) (fun _ : Unit => (fcW cI cS f0 a s fl c0 c1 n cs b r gl sv ad t f6 k)) := by
  refine KM.of (cc := cX5_mixedWithCues) (maxL := 7) (ret := (some .long)) (by decide) rfl (Nat.le_of_ble_eq_true rfl) ?_
  intro p9 e9 s9 m9 ar9 be9 me9 c9 Q9 A9 ls C0 hN hnm hlk hK hA hret hP hD hS hl
  obtain ⟨hx, hb, hml, hown, hts⟩ := id C0
  have hl : lv_has ls 7 [(0, .ref f0), (1, .long h0)] := hl
  obtain ⟨H, hH0⟩ : ∃ H, H = s9.heap := ⟨_, rfl⟩
  obtain ⟨locs, hlc0⟩ : ∃ z : List Loc, z = [] := ⟨_, rfl⟩
  have hP : va_P D vwCl ([(f0, .inr (5, [.ref (a 0), .ref (b 0), .ref sv, .ref c0])), (a 0, .inr (4, [.ref (a 1), .ref (a 8), .ref (a 13), .ref (a 14), .int (nI (s 6)), .int (nI (s 7)), .int (nI (s 10)), .int (nI (s 11)), .int (nI (s 12)), .int (nI (s 13))])), (a 1, .inr (2, [.ref (a 2), .ref (a 3), .ref (a 4), .ref (a 5), .ref (a 6), .ref (a 7), .int (nI (s 5))])), (a 2, .inl (cI, 8, .inl (ro 8 (szF s)))), (a 3, .inl (cI, 8, .inl (ro 8 (coF s)))), (a 4, .inl (cI, 8, .inl (ro 8 (vaF s)))), (a 5, .inl (cI, 8, .inl (ro 8 (amF s)))), (a 6, .inl (cI, 2, .inl (ro 2 (liF s)))), (a 7, .inl (cI, 3, .inl (ro 3 (seF s)))), (a 8, .inr (1, [.ref (a 9), .ref (a 10), .ref (a 11), .ref (a 12), .int (nI (s 8)), .int (nI (s 9))])), (a 9, .inl (cI, 16, .inl (ro 16 (nuF s)))), (a 10, .inl (cI, 16, .inl (ro 16 (tiF s)))), (a 11, .inl (cI, 16, .inl (ro 16 (jeF s)))), (a 12, .inl (cI, 16, .inl (ro 16 (acF s)))), (a 13, .inl (cI, 8, .inl (ro 8 (buF s)))), (a 14, .inl (cI, 8, .inl (ro 8 fl))), (c0, .inr (0, [.ref c1, .int (nI n)])), (c1, .inl (cI, 60, .inl (ro 60 cs)))] ++ (shw cI b r gl ++ (svW cI cS sv ad t f6 k))) H := by rw [hH0]; exact hP
  have hD : va_D A9 ([(f0, .inr (5, [.ref (a 0), .ref (b 0), .ref sv, .ref c0])), (a 0, .inr (4, [.ref (a 1), .ref (a 8), .ref (a 13), .ref (a 14), .int (nI (s 6)), .int (nI (s 7)), .int (nI (s 10)), .int (nI (s 11)), .int (nI (s 12)), .int (nI (s 13))])), (a 1, .inr (2, [.ref (a 2), .ref (a 3), .ref (a 4), .ref (a 5), .ref (a 6), .ref (a 7), .int (nI (s 5))])), (a 2, .inl (cI, 8, .inl (ro 8 (szF s)))), (a 3, .inl (cI, 8, .inl (ro 8 (coF s)))), (a 4, .inl (cI, 8, .inl (ro 8 (vaF s)))), (a 5, .inl (cI, 8, .inl (ro 8 (amF s)))), (a 6, .inl (cI, 2, .inl (ro 2 (liF s)))), (a 7, .inl (cI, 3, .inl (ro 3 (seF s)))), (a 8, .inr (1, [.ref (a 9), .ref (a 10), .ref (a 11), .ref (a 12), .int (nI (s 8)), .int (nI (s 9))])), (a 9, .inl (cI, 16, .inl (ro 16 (nuF s)))), (a 10, .inl (cI, 16, .inl (ro 16 (tiF s)))), (a 11, .inl (cI, 16, .inl (ro 16 (jeF s)))), (a 12, .inl (cI, 16, .inl (ro 16 (acF s)))), (a 13, .inl (cI, 8, .inl (ro 8 (buF s)))), (a 14, .inl (cI, 8, .inl (ro 8 fl))), (c0, .inr (0, [.ref c1, .int (nI n)])), (c1, .inl (cI, 60, .inl (ro 60 cs)))] ++ (shw cI b r gl ++ (svW cI cS sv ad t f6 k))) := hD
  have hS : va_S A9 s9.heap H locs := by rw [hH0, hlc0]; exact hS
  suffices hgo : W p9 l e9 ({ frames := 2, cells := 0, slots := 0, locals := 44 } : Room) s9 m9 ar9 be9 me9 c9 H locs 0 0 Q9 (F0 m9 0 ls []) by rw [hH0, hlc0] at hgo; exact hgo
  clear hH0 hlc0
  obtain ⟨hI1, hI2, hI3, hI4, hI5, hI6, hI7, hI8, hI9, hI10, hI11⟩ := id hI
  refine lv_lload_n hx hb dX5_mixedWithCues_0 rfl (lv_at hl 1 rfl) ?_
  refine q_topx (y := .long (mixL (dg5 s) (4 * 0 + 0) h0)) (by rfl) ?_
  refine lv_lstore_n (lv' := [(3, .long (mixL (dg5 s) (4 * 0 + 0) h0)), (0, .ref f0), (1, .long h0)]) hx hb dX5_mixedWithCues_1 rfl hl (by decide) rfl (fun ls hl => ?_)
  refine lv_iconst (v := nI 0) hx hb dX5_mixedWithCues_2 (by decide +kernel) ?_
  refine lv_istore (lv' := [(5, .int (nI 0)), (3, .long (mixL (dg5 s) (4 * 0 + 0) h0)), (0, .ref f0), (1, .long h0)]) hx hb dX5_mixedWithCues_3 hl (by decide) rfl (fun ls hl => ?_)
  have L5 : ∀ (fuel : Nat) (j : Nat) (H : Heap) (locs : List Loc) (ls : Array Slot), (j ≤ s 8) → (s 8 - j < fuel) → va_P D vwCl ([(f0, .inr (5, [.ref (a 0), .ref (b 0), .ref sv, .ref c0])), (a 0, .inr (4, [.ref (a 1), .ref (a 8), .ref (a 13), .ref (a 14), .int (nI (s 6)), .int (nI (s 7)), .int (nI (s 10)), .int (nI (s 11)), .int (nI (s 12)), .int (nI (s 13))])), (a 1, .inr (2, [.ref (a 2), .ref (a 3), .ref (a 4), .ref (a 5), .ref (a 6), .ref (a 7), .int (nI (s 5))])), (a 2, .inl (cI, 8, .inl (ro 8 (szF s)))), (a 3, .inl (cI, 8, .inl (ro 8 (coF s)))), (a 4, .inl (cI, 8, .inl (ro 8 (vaF s)))), (a 5, .inl (cI, 8, .inl (ro 8 (amF s)))), (a 6, .inl (cI, 2, .inl (ro 2 (liF s)))), (a 7, .inl (cI, 3, .inl (ro 3 (seF s)))), (a 8, .inr (1, [.ref (a 9), .ref (a 10), .ref (a 11), .ref (a 12), .int (nI (s 8)), .int (nI (s 9))])), (a 9, .inl (cI, 16, .inl (ro 16 (nuF s)))), (a 10, .inl (cI, 16, .inl (ro 16 (tiF s)))), (a 11, .inl (cI, 16, .inl (ro 16 (jeF s)))), (a 12, .inl (cI, 16, .inl (ro 16 (acF s)))), (a 13, .inl (cI, 8, .inl (ro 8 (buF s)))), (a 14, .inl (cI, 8, .inl (ro 8 fl))), (c0, .inr (0, [.ref c1, .int (nI n)])), (c1, .inl (cI, 60, .inl (ro 60 cs)))] ++ (shw cI b r gl ++ (svW cI cS sv ad t f6 k))) H → va_D A9 ([(f0, .inr (5, [.ref (a 0), .ref (b 0), .ref sv, .ref c0])), (a 0, .inr (4, [.ref (a 1), .ref (a 8), .ref (a 13), .ref (a 14), .int (nI (s 6)), .int (nI (s 7)), .int (nI (s 10)), .int (nI (s 11)), .int (nI (s 12)), .int (nI (s 13))])), (a 1, .inr (2, [.ref (a 2), .ref (a 3), .ref (a 4), .ref (a 5), .ref (a 6), .ref (a 7), .int (nI (s 5))])), (a 2, .inl (cI, 8, .inl (ro 8 (szF s)))), (a 3, .inl (cI, 8, .inl (ro 8 (coF s)))), (a 4, .inl (cI, 8, .inl (ro 8 (vaF s)))), (a 5, .inl (cI, 8, .inl (ro 8 (amF s)))), (a 6, .inl (cI, 2, .inl (ro 2 (liF s)))), (a 7, .inl (cI, 3, .inl (ro 3 (seF s)))), (a 8, .inr (1, [.ref (a 9), .ref (a 10), .ref (a 11), .ref (a 12), .int (nI (s 8)), .int (nI (s 9))])), (a 9, .inl (cI, 16, .inl (ro 16 (nuF s)))), (a 10, .inl (cI, 16, .inl (ro 16 (tiF s)))), (a 11, .inl (cI, 16, .inl (ro 16 (jeF s)))), (a 12, .inl (cI, 16, .inl (ro 16 (acF s)))), (a 13, .inl (cI, 8, .inl (ro 8 (buF s)))), (a 14, .inl (cI, 8, .inl (ro 8 fl))), (c0, .inr (0, [.ref c1, .int (nI n)])), (c1, .inl (cI, 60, .inl (ro 60 cs)))] ++ (shw cI b r gl ++ (svW cI cS sv ad t f6 k))) → va_S A9 s9.heap H locs → lv_has ls 7 [(0, .ref f0), (5, .int (nI j)), (3, .long (mixL (dg5 s) (4 * j + 0) h0))] → W p9 l e9 ({ frames := 2, cells := 0, slots := 0, locals := 44 } : Room) s9 m9 ar9 be9 me9 c9 H locs 0 0 Q9 (F0 m9 5 ls []) := by
    intro fuel
    induction fuel with
    | zero => intro j H locs ls hj hfu; exact absurd hfu (Nat.not_lt_zero _)
    | succ fuel ih5 =>
      intro j H locs ls hj hfu hP hD hS hl
      refine lv_iload hx hb dX5_mixedWithCues_5 (lv_at hl 1 rfl) ?_
      refine lv_aload_n hx hb dX5_mixedWithCues_7 rfl (lv_at hl 0 rfl) ?_
      refine va_get (D := D) (ci := 5) (v := .ref (a 0)) (C := RX5) (T := TX5) (N := 4) hx hb hts in_X5_mixedWithCues_ok_X5 hown hK hP 0 rfl rfl 0 (by decide) (hts _ fl_X5_mixedWithCues_ok_10) (fun _ h9 => h9) rfl dX5_mixedWithCues_8 ?_
      refine va_get (D := D) (ci := 4) (v := .ref (a 8)) (C := RX4) (T := TX4) (N := 10) hx hb hts in_X5_mixedWithCues_ok_X4 hown hK hP 1 rfl rfl 1 (by decide) (hts _ fl_X5_mixedWithCues_ok_103) (fun _ h9 => h9) rfl dX5_mixedWithCues_11 ?_
      refine va_get (D := D) (ci := 1) (v := .int (nI (s 8))) (C := RX1) (T := TX1) (N := 6) hx hb hts in_X5_mixedWithCues_ok_X1 hown hK hP 9 rfl rfl 4 (by decide) (hts _ fl_X5_mixedWithCues_ok_124) (fun _ h9 => h9) rfl dX5_mixedWithCues_14 ?_
      refine q_ige (tgt := 55) (by omega) (by omega) hx hb dX5_mixedWithCues_17 (by decide) (fun c_17 => ?_) (fun c_17 => ?_)
      ·
        refine lv_lload_n hx hb dX5_mixedWithCues_55 rfl (lv_at hl 2 rfl) ?_
        refine q_topx (y := .long (mixL (dg5 s) (4 * s 8) h0)) (by rw [show j = s 8 by omega]; rfl) ?_
        exact hret _ _ _ _ (some (.long (mixL (dg5 s) (4 * s 8) h0))) () 56 ls (by decide) (by decide) (by rfl) hP hD hS (ret_l dX5_mixedWithCues_56)
      ·
        refine lv_iconst (v := nI 0) hx hb dX5_mixedWithCues_20 (by decide +kernel) ?_
        refine lv_istore (lv' := [(6, .int (nI 0)), (0, .ref f0), (5, .int (nI j)), (3, .long (mixL (dg5 s) (4 * j + 0) h0))]) hx hb dX5_mixedWithCues_21 hl (by decide) rfl (fun ls hl => ?_)
        have L23 : ∀ (fuel : Nat) (w : Nat) (H : Heap) (locs : List Loc) (ls : Array Slot), (w ≤ 4) → (4 - w < fuel) → va_P D vwCl ([(f0, .inr (5, [.ref (a 0), .ref (b 0), .ref sv, .ref c0])), (a 0, .inr (4, [.ref (a 1), .ref (a 8), .ref (a 13), .ref (a 14), .int (nI (s 6)), .int (nI (s 7)), .int (nI (s 10)), .int (nI (s 11)), .int (nI (s 12)), .int (nI (s 13))])), (a 1, .inr (2, [.ref (a 2), .ref (a 3), .ref (a 4), .ref (a 5), .ref (a 6), .ref (a 7), .int (nI (s 5))])), (a 2, .inl (cI, 8, .inl (ro 8 (szF s)))), (a 3, .inl (cI, 8, .inl (ro 8 (coF s)))), (a 4, .inl (cI, 8, .inl (ro 8 (vaF s)))), (a 5, .inl (cI, 8, .inl (ro 8 (amF s)))), (a 6, .inl (cI, 2, .inl (ro 2 (liF s)))), (a 7, .inl (cI, 3, .inl (ro 3 (seF s)))), (a 8, .inr (1, [.ref (a 9), .ref (a 10), .ref (a 11), .ref (a 12), .int (nI (s 8)), .int (nI (s 9))])), (a 9, .inl (cI, 16, .inl (ro 16 (nuF s)))), (a 10, .inl (cI, 16, .inl (ro 16 (tiF s)))), (a 11, .inl (cI, 16, .inl (ro 16 (jeF s)))), (a 12, .inl (cI, 16, .inl (ro 16 (acF s)))), (a 13, .inl (cI, 8, .inl (ro 8 (buF s)))), (a 14, .inl (cI, 8, .inl (ro 8 fl))), (c0, .inr (0, [.ref c1, .int (nI n)])), (c1, .inl (cI, 60, .inl (ro 60 cs)))] ++ (shw cI b r gl ++ (svW cI cS sv ad t f6 k))) H → va_D A9 ([(f0, .inr (5, [.ref (a 0), .ref (b 0), .ref sv, .ref c0])), (a 0, .inr (4, [.ref (a 1), .ref (a 8), .ref (a 13), .ref (a 14), .int (nI (s 6)), .int (nI (s 7)), .int (nI (s 10)), .int (nI (s 11)), .int (nI (s 12)), .int (nI (s 13))])), (a 1, .inr (2, [.ref (a 2), .ref (a 3), .ref (a 4), .ref (a 5), .ref (a 6), .ref (a 7), .int (nI (s 5))])), (a 2, .inl (cI, 8, .inl (ro 8 (szF s)))), (a 3, .inl (cI, 8, .inl (ro 8 (coF s)))), (a 4, .inl (cI, 8, .inl (ro 8 (vaF s)))), (a 5, .inl (cI, 8, .inl (ro 8 (amF s)))), (a 6, .inl (cI, 2, .inl (ro 2 (liF s)))), (a 7, .inl (cI, 3, .inl (ro 3 (seF s)))), (a 8, .inr (1, [.ref (a 9), .ref (a 10), .ref (a 11), .ref (a 12), .int (nI (s 8)), .int (nI (s 9))])), (a 9, .inl (cI, 16, .inl (ro 16 (nuF s)))), (a 10, .inl (cI, 16, .inl (ro 16 (tiF s)))), (a 11, .inl (cI, 16, .inl (ro 16 (jeF s)))), (a 12, .inl (cI, 16, .inl (ro 16 (acF s)))), (a 13, .inl (cI, 8, .inl (ro 8 (buF s)))), (a 14, .inl (cI, 8, .inl (ro 8 fl))), (c0, .inr (0, [.ref c1, .int (nI n)])), (c1, .inl (cI, 60, .inl (ro 60 cs)))] ++ (shw cI b r gl ++ (svW cI cS sv ad t f6 k))) → va_S A9 s9.heap H locs → lv_has ls 7 [(0, .ref f0), (5, .int (nI j)), (6, .int (nI w)), (3, .long (mixL (dg5 s) (4 * j + w) h0))] → W p9 l e9 ({ frames := 2, cells := 0, slots := 0, locals := 44 } : Room) s9 m9 ar9 be9 me9 c9 H locs 0 0 Q9 (F0 m9 23 ls []) := by
          intro fuel
          induction fuel with
          | zero => intro w H locs ls hw hfu; exact absurd hfu (Nat.not_lt_zero _)
          | succ fuel ih23 =>
            intro w H locs ls hw hfu hP hD hS hl
            refine lv_iload hx hb dX5_mixedWithCues_23 (lv_at hl 2 rfl) ?_
            refine lv_iconst (v := nI 3) hx hb dX5_mixedWithCues_25 (by decide +kernel) ?_
            refine q_igt (tgt := 49) (by omega) (by omega) hx hb dX5_mixedWithCues_26 (by decide) (fun c_26 => ?_) (fun c_26 => ?_)
            ·
              have el49 : mixL (dg5 s) (4 * j + w) h0 = mixL (dg5 s) (4 * (j + 1) + 0) h0 := by rw [show 4 * j + w = 4 * (j + 1) + 0 by omega]
              rw [el49] at hl
              have hl : lv_has ls 7 [(0, .ref f0), (5, .int (nI j)), (6, .int (nI w)), (3, .long (mixL (dg5 s) (4 * (j + 1) + 0) h0))] := hl
              refine lv_iinc (v := (nI (j + 1))) (lv' := [(5, .int (nI (j + 1))), (0, .ref f0), (6, .int (nI w)), (3, .long (mixL (dg5 s) (4 * (j + 1) + 0) h0))]) hx hb dX5_mixedWithCues_49 hl (k := 1) rfl (nI_add j 1) (by decide) rfl (fun ls hl => ?_)
              refine lv_goto (tgt := 5) hx hb dX5_mixedWithCues_52 (by decide) ?_
              exact ih5  (j + 1) _ _ ls (by first | with_reducible assumption | omega) (by omega) hP hD hS (lv_sub hl [1, 0, 3] rfl)
            ·
              refine lv_lload_n hx hb dX5_mixedWithCues_29 rfl (lv_at hl 3 rfl) ?_
              refine lv_aload_n hx hb dX5_mixedWithCues_30 rfl (lv_at hl 0 rfl) ?_
              refine lv_iload hx hb dX5_mixedWithCues_31 (lv_at hl 1 rfl) ?_
              refine lv_iload hx hb dX5_mixedWithCues_33 (lv_at hl 2 rfl) ?_
              refine KM.callW (As := [.int (nI j), .int (nI w)]) (rest := [.long (mixL (dg5 s) (4 * j + w) h0)]) (W0 := (fcW cI cS f0 a s fl c0 c1 n cs b r gl sv ad t f6 k)) C0 hN (k_X5_cueOf_ok l D cI cS cL T f0 a s fl c0 c1 n cs b r gl sv ad t f6 k j w hI hT hk hn hcs (by omega) (by omega)) (cwV 2 hts gX5_mixedWithCues_X5_cueOf rfl rfl rfl (by decide +kernel) ⟨Nat.le_of_ble_eq_true rfl, Nat.le_of_ble_eq_true rfl⟩) hK hP hD hS hA (fun _ => rfl) 0 5 rfl rfl rfl rfl hl.1 rfl (Nat.le_of_ble_eq_true rfl) dX5_mixedWithCues_35 ⟨Nat.le_of_ble_eq_true rfl, Nat.le_of_ble_eq_true rfl⟩ (fun v9 u9 H locs hv hP hD hS => ?_)
              subst hv
              have hP : va_P D vwCl ([(f0, .inr (5, [.ref (a 0), .ref (b 0), .ref sv, .ref c0])), (a 0, .inr (4, [.ref (a 1), .ref (a 8), .ref (a 13), .ref (a 14), .int (nI (s 6)), .int (nI (s 7)), .int (nI (s 10)), .int (nI (s 11)), .int (nI (s 12)), .int (nI (s 13))])), (a 1, .inr (2, [.ref (a 2), .ref (a 3), .ref (a 4), .ref (a 5), .ref (a 6), .ref (a 7), .int (nI (s 5))])), (a 2, .inl (cI, 8, .inl (ro 8 (szF s)))), (a 3, .inl (cI, 8, .inl (ro 8 (coF s)))), (a 4, .inl (cI, 8, .inl (ro 8 (vaF s)))), (a 5, .inl (cI, 8, .inl (ro 8 (amF s)))), (a 6, .inl (cI, 2, .inl (ro 2 (liF s)))), (a 7, .inl (cI, 3, .inl (ro 3 (seF s)))), (a 8, .inr (1, [.ref (a 9), .ref (a 10), .ref (a 11), .ref (a 12), .int (nI (s 8)), .int (nI (s 9))])), (a 9, .inl (cI, 16, .inl (ro 16 (nuF s)))), (a 10, .inl (cI, 16, .inl (ro 16 (tiF s)))), (a 11, .inl (cI, 16, .inl (ro 16 (jeF s)))), (a 12, .inl (cI, 16, .inl (ro 16 (acF s)))), (a 13, .inl (cI, 8, .inl (ro 8 (buF s)))), (a 14, .inl (cI, 8, .inl (ro 8 fl))), (c0, .inr (0, [.ref c1, .int (nI n)])), (c1, .inl (cI, 60, .inl (ro 60 cs)))] ++ ((shw cI b r gl) ++ (svW cI cS sv ad t f6 k))) H := hP
              have hD : va_D A9 ([(f0, .inr (5, [.ref (a 0), .ref (b 0), .ref sv, .ref c0])), (a 0, .inr (4, [.ref (a 1), .ref (a 8), .ref (a 13), .ref (a 14), .int (nI (s 6)), .int (nI (s 7)), .int (nI (s 10)), .int (nI (s 11)), .int (nI (s 12)), .int (nI (s 13))])), (a 1, .inr (2, [.ref (a 2), .ref (a 3), .ref (a 4), .ref (a 5), .ref (a 6), .ref (a 7), .int (nI (s 5))])), (a 2, .inl (cI, 8, .inl (ro 8 (szF s)))), (a 3, .inl (cI, 8, .inl (ro 8 (coF s)))), (a 4, .inl (cI, 8, .inl (ro 8 (vaF s)))), (a 5, .inl (cI, 8, .inl (ro 8 (amF s)))), (a 6, .inl (cI, 2, .inl (ro 2 (liF s)))), (a 7, .inl (cI, 3, .inl (ro 3 (seF s)))), (a 8, .inr (1, [.ref (a 9), .ref (a 10), .ref (a 11), .ref (a 12), .int (nI (s 8)), .int (nI (s 9))])), (a 9, .inl (cI, 16, .inl (ro 16 (nuF s)))), (a 10, .inl (cI, 16, .inl (ro 16 (tiF s)))), (a 11, .inl (cI, 16, .inl (ro 16 (jeF s)))), (a 12, .inl (cI, 16, .inl (ro 16 (acF s)))), (a 13, .inl (cI, 8, .inl (ro 8 (buF s)))), (a 14, .inl (cI, 8, .inl (ro 8 fl))), (c0, .inr (0, [.ref c1, .int (nI n)])), (c1, .inl (cI, 60, .inl (ro 60 cs)))] ++ ((shw cI b r gl) ++ (svW cI cS sv ad t f6 k))) := hD
              refine W.eq (g2 := F0 m9 38 ls [.int (if j < s 8 then nI (numS (nuF s) (tiF s) (jeF s) (acF s) w j) else -1), .long (mixL (dg5 s) (4 * j + w) h0)]) rfl ?_
              refine lv_i2l (v := (if j < s 8 then nI (numS (nuF s) (tiF s) (jeF s) (acF s) w j) else -1).toInt64) hx hb dX5_mixedWithCues_38 rfl ?_
              refine KM.callS (As := [.long (mixL (dg5 s) (4 * j + w) h0), .long ((if j < s 8 then nI (numS (nuF s) (tiF s) (jeF s) (acF s) w j) else -1).toInt64)]) (rest := []) C0 hN (k_X5_mixed l D cI cS cL (mixL (dg5 s) (4 * j + w) h0) ((if j < s 8 then nI (numS (nuF s) (tiF s) (jeF s) (acF s) w j) else -1).toInt64)  ) (va_cwS 2 hts gX5_mixedWithCues_X5_mixed rfl rfl rfl (by decide +kernel) ⟨Nat.le_of_ble_eq_true rfl, Nat.le_of_ble_eq_true rfl⟩) hK hP hD hS hA [] rfl (by decide) (fun _ => rfl) rfl hl.1 rfl (Nat.le_of_ble_eq_true rfl) dX5_mixedWithCues_39 ⟨Nat.le_of_ble_eq_true rfl, Nat.le_of_ble_eq_true rfl⟩ (fun v9 u9 H locs hv hP hD hS => ?_)
              subst hv
              have hP : va_P D vwCl ([(f0, .inr (5, [.ref (a 0), .ref (b 0), .ref sv, .ref c0])), (a 0, .inr (4, [.ref (a 1), .ref (a 8), .ref (a 13), .ref (a 14), .int (nI (s 6)), .int (nI (s 7)), .int (nI (s 10)), .int (nI (s 11)), .int (nI (s 12)), .int (nI (s 13))])), (a 1, .inr (2, [.ref (a 2), .ref (a 3), .ref (a 4), .ref (a 5), .ref (a 6), .ref (a 7), .int (nI (s 5))])), (a 2, .inl (cI, 8, .inl (ro 8 (szF s)))), (a 3, .inl (cI, 8, .inl (ro 8 (coF s)))), (a 4, .inl (cI, 8, .inl (ro 8 (vaF s)))), (a 5, .inl (cI, 8, .inl (ro 8 (amF s)))), (a 6, .inl (cI, 2, .inl (ro 2 (liF s)))), (a 7, .inl (cI, 3, .inl (ro 3 (seF s)))), (a 8, .inr (1, [.ref (a 9), .ref (a 10), .ref (a 11), .ref (a 12), .int (nI (s 8)), .int (nI (s 9))])), (a 9, .inl (cI, 16, .inl (ro 16 (nuF s)))), (a 10, .inl (cI, 16, .inl (ro 16 (tiF s)))), (a 11, .inl (cI, 16, .inl (ro 16 (jeF s)))), (a 12, .inl (cI, 16, .inl (ro 16 (acF s)))), (a 13, .inl (cI, 8, .inl (ro 8 (buF s)))), (a 14, .inl (cI, 8, .inl (ro 8 fl))), (c0, .inr (0, [.ref c1, .int (nI n)])), (c1, .inl (cI, 60, .inl (ro 60 cs)))] ++ ((shw cI b r gl) ++ (svW cI cS sv ad t f6 k))) H := hP
              have hD : va_D A9 ([(f0, .inr (5, [.ref (a 0), .ref (b 0), .ref sv, .ref c0])), (a 0, .inr (4, [.ref (a 1), .ref (a 8), .ref (a 13), .ref (a 14), .int (nI (s 6)), .int (nI (s 7)), .int (nI (s 10)), .int (nI (s 11)), .int (nI (s 12)), .int (nI (s 13))])), (a 1, .inr (2, [.ref (a 2), .ref (a 3), .ref (a 4), .ref (a 5), .ref (a 6), .ref (a 7), .int (nI (s 5))])), (a 2, .inl (cI, 8, .inl (ro 8 (szF s)))), (a 3, .inl (cI, 8, .inl (ro 8 (coF s)))), (a 4, .inl (cI, 8, .inl (ro 8 (vaF s)))), (a 5, .inl (cI, 8, .inl (ro 8 (amF s)))), (a 6, .inl (cI, 2, .inl (ro 2 (liF s)))), (a 7, .inl (cI, 3, .inl (ro 3 (seF s)))), (a 8, .inr (1, [.ref (a 9), .ref (a 10), .ref (a 11), .ref (a 12), .int (nI (s 8)), .int (nI (s 9))])), (a 9, .inl (cI, 16, .inl (ro 16 (nuF s)))), (a 10, .inl (cI, 16, .inl (ro 16 (tiF s)))), (a 11, .inl (cI, 16, .inl (ro 16 (jeF s)))), (a 12, .inl (cI, 16, .inl (ro 16 (acF s)))), (a 13, .inl (cI, 8, .inl (ro 8 (buF s)))), (a 14, .inl (cI, 8, .inl (ro 8 fl))), (c0, .inr (0, [.ref c1, .int (nI n)])), (c1, .inl (cI, 60, .inl (ro 60 cs)))] ++ ((shw cI b r gl) ++ (svW cI cS sv ad t f6 k))) := hD
              refine W.eq (g2 := F0 m9 42 ls [.long (31 * (mixL (dg5 s) (4 * j + w) h0) + ((if j < s 8 then nI (numS (nuF s) (tiF s) (jeF s) (acF s) w j) else -1).toInt64))]) rfl ?_
              refine q_topx (y := .long (mixL (dg5 s) (4 * j + (w + 1)) h0)) (by rw [num5 s (by omega) (by omega)]; rfl) ?_
              refine lv_lstore_n (lv' := [(3, .long (mixL (dg5 s) (4 * j + (w + 1)) h0)), (0, .ref f0), (5, .int (nI j)), (6, .int (nI w))]) hx hb dX5_mixedWithCues_42 rfl hl (by decide) rfl (fun ls hl => ?_)
              refine lv_iinc (v := (nI (w + 1))) (lv' := [(6, .int (nI (w + 1))), (3, .long (mixL (dg5 s) (4 * j + (w + 1)) h0)), (0, .ref f0), (5, .int (nI j))]) hx hb dX5_mixedWithCues_43 hl (k := 3) rfl (nI_add w 1) (by decide) rfl (fun ls hl => ?_)
              refine lv_goto (tgt := 23) hx hb dX5_mixedWithCues_46 (by decide) ?_
              exact ih23  (w + 1) _ _ ls (by first | with_reducible assumption | omega) (by omega) hP hD hS (lv_sub hl [2, 3, 0, 1] rfl)
        exact L23 (4 - 0 + 1) 0 _ _ ls (by first | with_reducible assumption | omega) (by omega) hP hD hS (lv_sub hl [1, 2, 0, 3] rfl)
  exact L5 (s 8 - 0 + 1) 0 _ _ ls (by first | with_reducible assumption | omega) (by omega) hP hD hS (lv_sub hl [2, 0, 1] rfl)

theorem in_X6_part_X6 : ∀ w ∈ wsX60, w ∈ wsX6_part := by decide +kernel
theorem fl_X6_part_7 : Cond.fieldLink RX6 7 "FountainCuesModel" "now" "[I" ∈ wsX6_part := by decide +kernel
set_option maxHeartbeats 4000000 in
set_option maxRecDepth 100000 in
theorem k_X6_part (l : Launch) (D : va_G) (cI cS cL : ClassId) (T : Nat) (m0 : Nat) (m1 : Nat) (m2 : Nat) (m3 : Nat) (m4 : Nat) (m5 : Nat) (k : Nat) (n : Nat) (th : Nat) (ax : Nat) (fa : Nat) (vl : Nat) (tn : Nat) (hg : Nat) (bg : Nat) (s : Nat → Nat) (hI : sI T s) (hT : T ≤ 1001000) : KM l D (TY cI cS cL) yX6_part wsX6_part ({ frames := 5, cells := 0, slots := 0, locals := 113 } : Room) [(m0, .inr (6, [.ref m1, .ref m2, .ref m3, .int (nI k), .ref m4, .int (nI n), .int (nI th), .int (nI ax), .int (nI fa), .int (nI vl), .ref m5, .int (nI tn), .int (nI hg), .int (nI bg)])), (m1, .inl (cI, 118, .inl (ro 118 s)))] [.ref m0] (fun (v : Option Value) (_ : Unit) => v = some (.double (shS s))) (fun _ : Unit => [(m0, .inr (6, [.ref m1, .ref m2, .ref m3, .int (nI k), .ref m4, .int (nI n), .int (nI th), .int (nI ax), .int (nI fa), .int (nI vl), .ref m5, .int (nI tn), .int (nI hg), .int (nI bg)])), (m1, .inl (cI, 118, .inl (ro 118 s)))]) := by
  refine KM.of (cc := cX6_part) (maxL := 2) (ret := (some .double)) (by decide) rfl (Nat.le_of_ble_eq_true rfl) ?_
  intro p9 e9 s9 m9 ar9 be9 me9 c9 Q9 A9 ls C0 hN hnm hlk hK hA hret hP hD hS hl
  obtain ⟨hx, hb, hml, hown, hts⟩ := id C0
  have hl : lv_has ls 2 [(0, .ref m0)] := hl
  obtain ⟨H, hH0⟩ : ∃ H, H = s9.heap := ⟨_, rfl⟩
  obtain ⟨locs, hlc0⟩ : ∃ z : List Loc, z = [] := ⟨_, rfl⟩
  have hP : va_P D vwCl [(m0, .inr (6, [.ref m1, .ref m2, .ref m3, .int (nI k), .ref m4, .int (nI n), .int (nI th), .int (nI ax), .int (nI fa), .int (nI vl), .ref m5, .int (nI tn), .int (nI hg), .int (nI bg)])), (m1, .inl (cI, 118, .inl (ro 118 s)))] H := by rw [hH0]; exact hP
  have hD : va_D A9 [(m0, .inr (6, [.ref m1, .ref m2, .ref m3, .int (nI k), .ref m4, .int (nI n), .int (nI th), .int (nI ax), .int (nI fa), .int (nI vl), .ref m5, .int (nI tn), .int (nI hg), .int (nI bg)])), (m1, .inl (cI, 118, .inl (ro 118 s)))] := hD
  have hS : va_S A9 s9.heap H locs := by rw [hH0, hlc0]; exact hS
  suffices hgo : W p9 l e9 ({ frames := 5, cells := 0, slots := 0, locals := 113 } : Room) s9 m9 ar9 be9 me9 c9 H locs 0 0 Q9 (F0 m9 0 ls []) by rw [hH0, hlc0] at hgo; exact hgo
  clear hH0 hlc0
  obtain ⟨hI1, hI2, hI3, hI4, hI5, hI6, hI7, hI8, hI9, hI10, hI11⟩ := id hI
  have ha9 := aS_le hI
  have ht9 := tS_aS s
  refine lv_aload_n hx hb dX6_part_0 rfl (lv_at hl 0 rfl) ?_
  refine va_get (D := D) (ci := 6) (v := .ref m1) (C := RX6) (T := TX6) (N := 14) hx hb hts in_X6_part_X6 hown hK hP 0 rfl rfl 0 (by decide) (hts _ fl_X6_part_7) (fun _ h9 => h9) rfl dX6_part_1 ?_
  refine lv_iconst (v := nI 0) hx hb dX6_part_4 (by decide +kernel) ?_
  refine KM.callS (As := [.ref m1, .int (nI 0)]) (rest := []) C0 hN (k_X6_pumpAsks l D cI cS cL m1 s 0  (by first | with_reducible assumption | omega)) (va_cwS 2 hts gX6_part_X6_pumpAsks rfl rfl rfl (by decide +kernel) ⟨Nat.le_of_ble_eq_true rfl, Nat.le_of_ble_eq_true rfl⟩) hK hP hD hS hA [1] rfl (by decide) (fun _ => rfl) rfl hl.1 rfl (Nat.le_of_ble_eq_true rfl) dX6_part_5 ⟨Nat.le_of_ble_eq_true rfl, Nat.le_of_ble_eq_true rfl⟩ (fun v9 u9 H locs hv hP hD hS => ?_)
  subst hv
  have hP : va_P D vwCl [(m0, .inr (6, [.ref m1, .ref m2, .ref m3, .int (nI k), .ref m4, .int (nI n), .int (nI th), .int (nI ax), .int (nI fa), .int (nI vl), .ref m5, .int (nI tn), .int (nI hg), .int (nI bg)])), (m1, .inl (cI, 118, .inl (ro 118 s)))] H := hP
  have hD : va_D A9 [(m0, .inr (6, [.ref m1, .ref m2, .ref m3, .int (nI k), .ref m4, .int (nI n), .int (nI th), .int (nI ax), .int (nI fa), .int (nI vl), .ref m5, .int (nI tn), .int (nI hg), .int (nI bg)])), (m1, .inl (cI, 118, .inl (ro 118 s)))] := hD
  refine W.eq (g2 := F0 m9 8 ls [.int (nI (pA (szF s) (vaF s) 0))]) rfl ?_
  refine lv_aload_n hx hb dX6_part_8 rfl (lv_at hl 0 rfl) ?_
  refine va_get (D := D) (ci := 6) (v := .ref m1) (C := RX6) (T := TX6) (N := 14) hx hb hts in_X6_part_X6 hown hK hP 0 rfl rfl 0 (by decide) (hts _ fl_X6_part_7) (fun _ h9 => h9) rfl dX6_part_9 ?_
  refine lv_iconst (v := nI 1) hx hb dX6_part_12 (by decide +kernel) ?_
  refine KM.callS (As := [.ref m1, .int (nI 1)]) (rest := [.int (nI (pA (szF s) (vaF s) 0))]) C0 hN (k_X6_pumpAsks l D cI cS cL m1 s 1  (by first | with_reducible assumption | omega)) (va_cwS 2 hts gX6_part_X6_pumpAsks rfl rfl rfl (by decide +kernel) ⟨Nat.le_of_ble_eq_true rfl, Nat.le_of_ble_eq_true rfl⟩) hK hP hD hS hA [1] rfl (by decide) (fun _ => rfl) rfl hl.1 rfl (Nat.le_of_ble_eq_true rfl) dX6_part_13 ⟨Nat.le_of_ble_eq_true rfl, Nat.le_of_ble_eq_true rfl⟩ (fun v9 u9 H locs hv hP hD hS => ?_)
  subst hv
  have hP : va_P D vwCl [(m0, .inr (6, [.ref m1, .ref m2, .ref m3, .int (nI k), .ref m4, .int (nI n), .int (nI th), .int (nI ax), .int (nI fa), .int (nI vl), .ref m5, .int (nI tn), .int (nI hg), .int (nI bg)])), (m1, .inl (cI, 118, .inl (ro 118 s)))] H := hP
  have hD : va_D A9 [(m0, .inr (6, [.ref m1, .ref m2, .ref m3, .int (nI k), .ref m4, .int (nI n), .int (nI th), .int (nI ax), .int (nI fa), .int (nI vl), .ref m5, .int (nI tn), .int (nI hg), .int (nI bg)])), (m1, .inl (cI, 118, .inl (ro 118 s)))] := hD
  refine W.eq (g2 := F0 m9 16 ls [.int (nI (pA (szF s) (vaF s) 1)), .int (nI (pA (szF s) (vaF s) 0))]) rfl ?_
  refine q_iadd hx hb dX6_part_16 ?_
  refine q_topi (y := (nI (aS s))) (by exact congrArg nI (by show _ = 0 + pA (szF s) (vaF s) 0 + pA (szF s) (vaF s) 1; omega)) ?_
  refine lv_istore_n (lv' := [(1, .int (nI (aS s))), (0, .ref m0)]) hx hb dX6_part_17 rfl hl (by decide) rfl (fun ls hl => ?_)
  refine lv_iload_n hx hb dX6_part_18 rfl (lv_at hl 0 rfl) ?_
  refine q_fne (tgt := 26) (by omega) hx hb dX6_part_19 (by decide) (fun c_19 => ?_) (fun c_19 => ?_)
  ·
    refine lv_aload_n hx hb dX6_part_26 rfl (lv_at hl 1 rfl) ?_
    refine va_get (D := D) (ci := 6) (v := .ref m1) (C := RX6) (T := TX6) (N := 14) hx hb hts in_X6_part_X6 hown hK hP 0 rfl rfl 0 (by decide) (hts _ fl_X6_part_7) (fun _ h9 => h9) rfl dX6_part_27 ?_
    refine KM.callS (As := [.ref m1]) (rest := []) C0 hN (k_X6_allGet l D cI cS cL m1 s  (by exact hI1)) (va_cwS 1 hts gX6_part_X6_allGet rfl rfl rfl (by decide +kernel) ⟨Nat.le_of_ble_eq_true rfl, Nat.le_of_ble_eq_true rfl⟩) hK hP hD hS hA [1] rfl (by decide) (fun _ => rfl) rfl hl.1 rfl (Nat.le_of_ble_eq_true rfl) dX6_part_30 ⟨Nat.le_of_ble_eq_true rfl, Nat.le_of_ble_eq_true rfl⟩ (fun v9 u9 H locs hv hP hD hS => ?_)
    subst hv
    have hP : va_P D vwCl [(m0, .inr (6, [.ref m1, .ref m2, .ref m3, .int (nI k), .ref m4, .int (nI n), .int (nI th), .int (nI ax), .int (nI fa), .int (nI vl), .ref m5, .int (nI tn), .int (nI hg), .int (nI bg)])), (m1, .inl (cI, 118, .inl (ro 118 s)))] H := hP
    have hD : va_D A9 [(m0, .inr (6, [.ref m1, .ref m2, .ref m3, .int (nI k), .ref m4, .int (nI n), .int (nI th), .int (nI ax), .int (nI fa), .int (nI vl), .ref m5, .int (nI tn), .int (nI hg), .int (nI bg)])), (m1, .inl (cI, 118, .inl (ro 118 s)))] := hD
    refine W.eq (g2 := F0 m9 33 ls [.int (nI (tS s))]) rfl ?_
    refine lv_i2d hx hb dX6_part_33 ?_
    refine lv_iload_n hx hb dX6_part_34 rfl (lv_at hl 0 rfl) ?_
    refine lv_i2d hx hb dX6_part_35 ?_
    refine lv_ddiv hx hb dX6_part_36 (by exact shS_ne hI c_19) ?_
    exact hret _ _ _ _ (some (.double (FP.ddiv (FP.i2d (nI (tS s))) (FP.i2d (nI (aS s)))))) () 37 ls (by decide) (by decide) (by exact congrArg (fun z => some (Value.double z)) (by unfold shS; first | exact (if_pos (by omega)).symm | exact (if_neg (by omega)).symm)) hP hD hS (ret_d dX6_part_37)
  ·
    refine lv_dconst1 hx hb dX6_part_22 ?_
    refine lv_goto (tgt := 37) hx hb dX6_part_23 (by decide) ?_
    exact hret _ _ _ _ (some (.double FP.dconst1)) () 37 ls (by decide) (by decide) (by exact congrArg (fun z => some (Value.double z)) (by unfold shS; first | exact (if_pos (by omega)).symm | exact (if_neg (by omega)).symm)) hP hD hS (ret_d dX6_part_37)

theorem in_X6_share_ok_X6 : ∀ w ∈ wsX60, w ∈ wsX6_share := by decide +kernel
theorem fl_X6_share_ok_25 : Cond.fieldLink RX6 25 "FountainCuesModel" "thrown" "I" ∈ wsX6_share := by decide +kernel
set_option maxHeartbeats 4000000 in
set_option maxRecDepth 100000 in
theorem k_X6_share_ok (l : Launch) (D : va_G) (cI cS cL : ClassId) (T : Nat) (m0 : Nat) (m1 : Nat) (m2 : Nat) (m3 : Nat) (m4 : Nat) (m5 : Nat) (k : Nat) (n : Nat) (th : Nat) (ax : Nat) (fa : Nat) (vl : Nat) (tn : Nat) (hg : Nat) (bg : Nat) (s : Nat → Nat) (h : Nat → Nat) (t : Nat → Nat → Nat) (cs : Nat → Nat) (td : Nat → Nat) (hI : sI T s) (hT : T ≤ 900000) (hk : k ≤ 6) (hn : n ≤ 60) (hcs : ∀ j, j < n → cs j < 2 ^ 31) : KM l D (TY cI cS cL) yX6_share wsX6_share ({ frames := 6, cells := 0, slots := 0, locals := 134 } : Room) [(m0, .inr (6, [.ref m1, .ref m2, .ref m3, .int (nI k), .ref m4, .int (nI n), .int (nI th), .int (nI ax), .int (nI fa), .int (nI vl), .ref m5, .int (nI tn), .int (nI hg), .int (nI bg)])), (m1, .inl (cI, 118, .inl (ro 118 s))), (m2, .inl (cI, 118, .inl (ro 118 h))), (m3, .inl (cI, 708, .inl (ro 708 (pkF t)))), (m4, .inl (cI, 60, .inl (ro 60 cs))), (m5, .inl (cI, 48, .inl (ro 48 td)))] [.ref m0] (fun (v : Option Value) (_ : Unit) => v = some (.double (shS s))) (fun _ : Unit => [(m0, .inr (6, [.ref m1, .ref m2, .ref m3, .int (nI k), .ref m4, .int (nI n), .int (nI 0), .int (nI ax), .int (nI fa), .int (nI vl), .ref m5, .int (nI tn), .int (nI hg), .int (nI bg)])), (m1, .inl (cI, 118, .inl (ro 118 s))), (m2, .inl (cI, 118, .inl (ro 118 h))), (m3, .inl (cI, 708, .inl (ro 708 (pkF t)))), (m4, .inl (cI, 60, .inl (ro 60 cs))), (m5, .inl (cI, 48, .inl (ro 48 td)))]) := by
  refine KM.of (cc := cX6_share) (maxL := 1) (ret := (some .double)) (by decide) rfl (Nat.le_of_ble_eq_true rfl) ?_
  intro p9 e9 s9 m9 ar9 be9 me9 c9 Q9 A9 ls C0 hN hnm hlk hK hA hret hP hD hS hl
  obtain ⟨hx, hb, hml, hown, hts⟩ := id C0
  have hl : lv_has ls 1 [(0, .ref m0)] := hl
  obtain ⟨H, hH0⟩ : ∃ H, H = s9.heap := ⟨_, rfl⟩
  obtain ⟨locs, hlc0⟩ : ∃ z : List Loc, z = [] := ⟨_, rfl⟩
  have hP : va_P D vwCl [(m0, .inr (6, [.ref m1, .ref m2, .ref m3, .int (nI k), .ref m4, .int (nI n), .int (nI th), .int (nI ax), .int (nI fa), .int (nI vl), .ref m5, .int (nI tn), .int (nI hg), .int (nI bg)])), (m1, .inl (cI, 118, .inl (ro 118 s))), (m2, .inl (cI, 118, .inl (ro 118 h))), (m3, .inl (cI, 708, .inl (ro 708 (pkF t)))), (m4, .inl (cI, 60, .inl (ro 60 cs))), (m5, .inl (cI, 48, .inl (ro 48 td)))] H := by rw [hH0]; exact hP
  have hD : va_D A9 [(m0, .inr (6, [.ref m1, .ref m2, .ref m3, .int (nI k), .ref m4, .int (nI n), .int (nI th), .int (nI ax), .int (nI fa), .int (nI vl), .ref m5, .int (nI tn), .int (nI hg), .int (nI bg)])), (m1, .inl (cI, 118, .inl (ro 118 s))), (m2, .inl (cI, 118, .inl (ro 118 h))), (m3, .inl (cI, 708, .inl (ro 708 (pkF t)))), (m4, .inl (cI, 60, .inl (ro 60 cs))), (m5, .inl (cI, 48, .inl (ro 48 td)))] := hD
  have hS : va_S A9 s9.heap H locs := by rw [hH0, hlc0]; exact hS
  suffices hgo : W p9 l e9 ({ frames := 6, cells := 0, slots := 0, locals := 134 } : Room) s9 m9 ar9 be9 me9 c9 H locs 0 0 Q9 (F0 m9 0 ls []) by rw [hH0, hlc0] at hgo; exact hgo
  clear hH0 hlc0
  obtain ⟨hI1, hI2, hI3, hI4, hI5, hI6, hI7, hI8, hI9, hI10, hI11⟩ := id hI
  refine lv_aload_n hx hb dX6_share_0 rfl (lv_at hl 0 rfl) ?_
  refine lv_iconst (v := nI 0) hx hb dX6_share_1 (by decide +kernel) ?_
  refine va_put (D := D) (ci := 6) (v := .int (nI 0)) (ty := tyX6 6) (C := RX6) (T := TX6) (N := 14) hx hb hts in_X6_share_ok_X6 tyX6 tyX6_ok nmX6 hown hK hP hD hS 0 rfl rfl 6 (by decide) (hts _ fl_X6_share_ok_25) (fun _ h9 => h9) rfl (by decide +kernel) rfl rfl (Nat.le_of_ble_eq_true rfl) dX6_share_2 (fun H locs hP hD hS => ?_)
  have hP : va_P D vwCl [(m0, .inr (6, [.ref m1, .ref m2, .ref m3, .int (nI k), .ref m4, .int (nI n), .int (nI 0), .int (nI ax), .int (nI fa), .int (nI vl), .ref m5, .int (nI tn), .int (nI hg), .int (nI bg)])), (m1, .inl (cI, 118, .inl (ro 118 s))), (m2, .inl (cI, 118, .inl (ro 118 h))), (m3, .inl (cI, 708, .inl (ro 708 (pkF t)))), (m4, .inl (cI, 60, .inl (ro 60 cs))), (m5, .inl (cI, 48, .inl (ro 48 td)))] H := hP
  have hD : va_D A9 [(m0, .inr (6, [.ref m1, .ref m2, .ref m3, .int (nI k), .ref m4, .int (nI n), .int (nI 0), .int (nI ax), .int (nI fa), .int (nI vl), .ref m5, .int (nI tn), .int (nI hg), .int (nI bg)])), (m1, .inl (cI, 118, .inl (ro 118 s))), (m2, .inl (cI, 118, .inl (ro 118 h))), (m3, .inl (cI, 708, .inl (ro 708 (pkF t)))), (m4, .inl (cI, 60, .inl (ro 60 cs))), (m5, .inl (cI, 48, .inl (ro 48 td)))] := hD
  refine lv_aload_n hx hb dX6_share_5 rfl (lv_at hl 0 rfl) ?_
  refine KM.callV (As := []) (rest := []) C0 hN (k_X6_part l D cI cS cL T m0 m1 m2 m3 m4 m5 k n 0 ax fa vl tn hg bg s  (by first | with_reducible assumption | omega) (by omega)) (cwV 0 hts gX6_share_X6_part rfl rfl rfl (by decide +kernel) ⟨Nat.le_of_ble_eq_true rfl, Nat.le_of_ble_eq_true rfl⟩) hK hP hD hS hA [0, 1] rfl (by decide) (fun _ => rfl) 0 6 rfl rfl rfl rfl hl.1 rfl (Nat.le_of_ble_eq_true rfl) dX6_share_6 ⟨Nat.le_of_ble_eq_true rfl, Nat.le_of_ble_eq_true rfl⟩ (fun v9 u9 H locs hv hP hD hS => ?_)
  subst hv
  have hP : va_P D vwCl [(m0, .inr (6, [.ref m1, .ref m2, .ref m3, .int (nI k), .ref m4, .int (nI n), .int (nI 0), .int (nI ax), .int (nI fa), .int (nI vl), .ref m5, .int (nI tn), .int (nI hg), .int (nI bg)])), (m1, .inl (cI, 118, .inl (ro 118 s))), (m2, .inl (cI, 118, .inl (ro 118 h))), (m3, .inl (cI, 708, .inl (ro 708 (pkF t)))), (m4, .inl (cI, 60, .inl (ro 60 cs))), (m5, .inl (cI, 48, .inl (ro 48 td)))] H := hP
  have hD : va_D A9 [(m0, .inr (6, [.ref m1, .ref m2, .ref m3, .int (nI k), .ref m4, .int (nI n), .int (nI 0), .int (nI ax), .int (nI fa), .int (nI vl), .ref m5, .int (nI tn), .int (nI hg), .int (nI bg)])), (m1, .inl (cI, 118, .inl (ro 118 s))), (m2, .inl (cI, 118, .inl (ro 118 h))), (m3, .inl (cI, 708, .inl (ro 708 (pkF t)))), (m4, .inl (cI, 60, .inl (ro 60 cs))), (m5, .inl (cI, 48, .inl (ro 48 td)))] := hD
  refine W.eq (g2 := F0 m9 9 ls [.double (shS s)]) rfl ?_
  exact hret _ _ _ _ (some (.double (shS s))) () 9 ls (by decide) (by decide) (by rfl) hP hD hS (ret_d dX6_share_9)
