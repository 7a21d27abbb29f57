theorem jet_row (s : Nat → Nat) (j z c : Nat) : ro 118 (upN (upN s (14 + 5 * j + 1) c) (14 + 5 * j) z) = ro 118 (sJet s j z c) := ro_cg fun y _ => by
  unfold upN sJet
  by_cases h : y = 14 + 5 * j
  · rw [if_pos h, if_pos h]
  · rw [if_neg h, if_neg h, show 14 + 5 * j + 1 = 15 + 5 * j by omega]
theorem pl_inj {T p i : Nat} {s : Nat → Nat} (hI : sI T s) (hT : T ≤ 900000) (hp : p < s 8) (hi : i < s 8) (h : nI (nuF s i) = nI (nuF s p)) : i = p := pl_eq hI hT hp rfl (by omega) (fun q hq e => by
    obtain ⟨hI1, hI2, hI3, hI4, hI5, hI6, hI7, hI8, hI9, hI10, hI11⟩ := id hI
    have e2 : (nI (nuF s q)).toInt = (nI (nuF s i)).toInt := by rw [e, h]
    rw [nI_toInt (by have := (hI9 q (by omega)).1; omega), nI_toInt (by have := (hI9 i hi).1; omega)] at e2
    exact hI11 q i hq hi (by omega)) (fun _ => h)
theorem pl_hit {T p i : Nat} {x : Int32} {s : Nat → Nat} (hI : sI T s) (hT : T ≤ 900000) (hp : p < s 8) (hpx : nI (nuF s p) = x) (hi : i < s 8) (h : nI (nuF s i) = x) : nI i = (if p < (i + 1) then nI p else -1) := by
  have e := pl_inj hI hT hp hi (h.trans hpx.symm)
  rw [e, if_pos (by omega)]
theorem pl_miss {p i : Nat} {x : Int32} {s : Nat → Nat} (hp : p < s 8) (hpx : nI (nuF s p) = x) (h : ¬ nI (nuF s i) = x) : (if p < i then nI p else -1) = (if p < (i + 1) then nI p else (-1 : Int32)) := by
  by_cases h1 : p < i
  · rw [if_pos h1, if_pos (by omega)]
  · rw [if_neg h1, if_neg (fun w => h (by rw [← hpx, show p = i by omega]))]
theorem in_X6_jet_ok_X6 : ∀ w ∈ wsX60, w ∈ wsX6_jet := by decide +kernel
theorem fl_X6_jet_ok_25 : Cond.fieldLink RX6 25 "FountainCuesModel" "thrown" "I" ∈ wsX6_jet := by decide +kernel
set_option maxHeartbeats 4000000 in
set_option maxRecDepth 100000 in
theorem k_X6_jet_ok (l : Launch) (D : va_G) (cI cS cL : ClassId) (T : Nat) (m0 : Nat) (m1 : Nat) (m2 : Nat) (m3 : Nat) (m4 : Nat) (m5 : Nat) (k : Nat) (n : Nat) (th : Nat) (ax : Nat) (fa : Nat) (vl : Nat) (tn : Nat) (hg : Nat) (bg : Nat) (s : Nat → Nat) (h : Nat → Nat) (t : Nat → Nat → Nat) (cs : Nat → Nat) (td : Nat → Nat) (j : Nat) (z : Nat) (c : Nat) (hI : sI T s) (hT : T ≤ 900000) (hk : k ≤ 6) (hn : n ≤ 60) (hcs : ∀ j, j < n → cs j < 2 ^ 31) (hj : j < 8) (hz1 : 1 ≤ z) (hz2 : z ≤ 20) (hc : c ≤ 3) : KM l D (TY cI cS cL) yX6_jet wsX6_jet ({ frames := 2, cells := 0, slots := 0, locals := 45 } : Room) [(m0, .inr (6, [.ref m1, .ref m2, .ref m3, .int (nI k), .ref m4, .int (nI n), .int (nI th), .int (nI ax), .int (nI fa), .int (nI vl), .ref m5, .int (nI tn), .int (nI hg), .int (nI bg)])), (m1, .inl (cI, 118, .inl (ro 118 s))), (m2, .inl (cI, 118, .inl (ro 118 h))), (m3, .inl (cI, 708, .inl (ro 708 (pkF t)))), (m4, .inl (cI, 60, .inl (ro 60 cs))), (m5, .inl (cI, 48, .inl (ro 48 td)))] [.ref m0, .int (nI j), .int (nI z), .int (nI c)] (fun (v : Option Value) (_ : Unit) => v = some (.int (nI (szF s j)))) (fun _ : Unit => [(m0, .inr (6, [.ref m1, .ref m2, .ref m3, .int (nI (kpK k)), .ref m4, .int (nI n), .int (nI 0), .int (nI ax), .int (nI fa), .int (nI vl), .ref m5, .int (nI tn), .int (nI hg), .int (nI bg)])), (m1, .inl (cI, 118, .inl (ro 118 (sJet s j z c)))), (m2, .inl (cI, 118, .inl (ro 118 h))), (m3, .inl (cI, 708, .inl (ro 708 (pkF (kpT k t s))))), (m4, .inl (cI, 60, .inl (ro 60 cs))), (m5, .inl (cI, 48, .inl (ro 48 td)))]) := by
  refine KM.of (cc := cX6_jet) (maxL := 4) (ret := (some .int)) (by decide) rfl (Nat.le_of_ble_eq_true rfl) ?_
  intro p9 e9 s9 m9 ar9 be9 me9 c9 Q9 A9 ls C0 hN hnm hlk hK hA hret hP hD hS hl
  obtain ⟨hx, hb, hml, hown, hts⟩ := id C0
  have hl : lv_has ls 4 [(0, .ref m0), (1, .int (nI j)), (2, .int (nI z)), (3, .int (nI c))] := hl
  obtain ⟨H, hH0⟩ : ∃ H, H = s9.heap := ⟨_, rfl⟩
  obtain ⟨locs, hlc0⟩ : ∃ z : List Loc, z = [] := ⟨_, rfl⟩
  have hP : va_P D vwCl [(m0, .inr (6, [.ref m1, .ref m2, .ref m3, .int (nI k), .ref m4, .int (nI n), .int (nI th), .int (nI ax), .int (nI fa), .int (nI vl), .ref m5, .int (nI tn), .int (nI hg), .int (nI bg)])), (m1, .inl (cI, 118, .inl (ro 118 s))), (m2, .inl (cI, 118, .inl (ro 118 h))), (m3, .inl (cI, 708, .inl (ro 708 (pkF t)))), (m4, .inl (cI, 60, .inl (ro 60 cs))), (m5, .inl (cI, 48, .inl (ro 48 td)))] H := by rw [hH0]; exact hP
  have hD : va_D A9 [(m0, .inr (6, [.ref m1, .ref m2, .ref m3, .int (nI k), .ref m4, .int (nI n), .int (nI th), .int (nI ax), .int (nI fa), .int (nI vl), .ref m5, .int (nI tn), .int (nI hg), .int (nI bg)])), (m1, .inl (cI, 118, .inl (ro 118 s))), (m2, .inl (cI, 118, .inl (ro 118 h))), (m3, .inl (cI, 708, .inl (ro 708 (pkF t)))), (m4, .inl (cI, 60, .inl (ro 60 cs))), (m5, .inl (cI, 48, .inl (ro 48 td)))] := hD
  have hS : va_S A9 s9.heap H locs := by rw [hH0, hlc0]; exact hS
  suffices hgo : W p9 l e9 ({ frames := 2, cells := 0, slots := 0, locals := 45 } : Room) s9 m9 ar9 be9 me9 c9 H locs 0 0 Q9 (F0 m9 0 ls []) by rw [hH0, hlc0] at hgo; exact hgo
  clear hH0 hlc0
  obtain ⟨hI1, hI2, hI3, hI4, hI5, hI6, hI7, hI8, hI9, hI10, hI11⟩ := id hI
  refine lv_aload_n hx hb dX6_jet_0 rfl (lv_at hl 0 rfl) ?_
  refine lv_iconst (v := nI 0) hx hb dX6_jet_1 (by decide +kernel) ?_
  refine va_put (D := D) (ci := 6) (v := .int (nI 0)) (ty := tyX6 6) (C := RX6) (T := TX6) (N := 14) hx hb hts in_X6_jet_ok_X6 tyX6 tyX6_ok nmX6 hown hK hP hD hS 0 rfl rfl 6 (by decide) (hts _ fl_X6_jet_ok_25) (fun _ h9 => h9) rfl (by decide +kernel) rfl rfl (Nat.le_of_ble_eq_true rfl) dX6_jet_2 (fun H locs hP hD hS => ?_)
  have hP : va_P D vwCl [(m0, .inr (6, [.ref m1, .ref m2, .ref m3, .int (nI k), .ref m4, .int (nI n), .int (nI 0), .int (nI ax), .int (nI fa), .int (nI vl), .ref m5, .int (nI tn), .int (nI hg), .int (nI bg)])), (m1, .inl (cI, 118, .inl (ro 118 s))), (m2, .inl (cI, 118, .inl (ro 118 h))), (m3, .inl (cI, 708, .inl (ro 708 (pkF t)))), (m4, .inl (cI, 60, .inl (ro 60 cs))), (m5, .inl (cI, 48, .inl (ro 48 td)))] H := hP
  have hD : va_D A9 [(m0, .inr (6, [.ref m1, .ref m2, .ref m3, .int (nI k), .ref m4, .int (nI n), .int (nI 0), .int (nI ax), .int (nI fa), .int (nI vl), .ref m5, .int (nI tn), .int (nI hg), .int (nI bg)])), (m1, .inl (cI, 118, .inl (ro 118 s))), (m2, .inl (cI, 118, .inl (ro 118 h))), (m3, .inl (cI, 708, .inl (ro 708 (pkF t)))), (m4, .inl (cI, 60, .inl (ro 60 cs))), (m5, .inl (cI, 48, .inl (ro 48 td)))] := hD
  refine lv_iload_n hx hb dX6_jet_5 rfl (lv_at hl 1 rfl) ?_
  refine KM.callS (As := [.int (nI j)]) (rest := []) C0 hN (k_X6_isJet_ok l D cI cS cL j  (by first | with_reducible assumption | omega)) (va_cwS 1 hts gX6_jet_X6_isJet rfl rfl rfl (by decide +kernel) ⟨Nat.le_of_ble_eq_true rfl, Nat.le_of_ble_eq_true rfl⟩) hK hP hD hS hA [] rfl (by decide) (fun _ => rfl) rfl hl.1 rfl (Nat.le_of_ble_eq_true rfl) dX6_jet_6 ⟨Nat.le_of_ble_eq_true rfl, Nat.le_of_ble_eq_true rfl⟩ (fun v9 u9 H locs hv hP hD hS => ?_)
  subst hv
  have hP : va_P D vwCl [(m0, .inr (6, [.ref m1, .ref m2, .ref m3, .int (nI k), .ref m4, .int (nI n), .int (nI 0), .int (nI ax), .int (nI fa), .int (nI vl), .ref m5, .int (nI tn), .int (nI hg), .int (nI bg)])), (m1, .inl (cI, 118, .inl (ro 118 s))), (m2, .inl (cI, 118, .inl (ro 118 h))), (m3, .inl (cI, 708, .inl (ro 708 (pkF t)))), (m4, .inl (cI, 60, .inl (ro 60 cs))), (m5, .inl (cI, 48, .inl (ro 48 td)))] H := hP
  have hD : va_D A9 [(m0, .inr (6, [.ref m1, .ref m2, .ref m3, .int (nI k), .ref m4, .int (nI n), .int (nI 0), .int (nI ax), .int (nI fa), .int (nI vl), .ref m5, .int (nI tn), .int (nI hg), .int (nI bg)])), (m1, .inl (cI, 118, .inl (ro 118 s))), (m2, .inl (cI, 118, .inl (ro 118 h))), (m3, .inl (cI, 708, .inl (ro 708 (pkF t)))), (m4, .inl (cI, 60, .inl (ro 60 cs))), (m5, .inl (cI, 48, .inl (ro 48 td)))] := hD
  refine W.eq (g2 := F0 m9 9 ls [.int (nI 1)]) rfl ?_
  refine q_fne (tgt := 18) (by omega) hx hb dX6_jet_9 (by decide) (fun c_9 => ?_) (fun c_9 => ?_)
  ·
    refine lv_iload_n hx hb dX6_jet_18 rfl (lv_at hl 2 rfl) ?_
    refine lv_iconst (v := nI 1) hx hb dX6_jet_19 (by decide +kernel) ?_
    refine lv_bipush (v := nI 20) hx hb dX6_jet_20 (by decide +kernel) ?_
    refine KM.callS (As := [.int (nI z), .int (nI 1), .int (nI 20)]) (rest := []) C0 hN (k_X6_in_ok l D cI cS cL z 1 20  (by first | with_reducible assumption | omega) (by first | with_reducible assumption | omega) (by first | with_reducible assumption | omega)) (va_cwS 3 hts gX6_jet_X6_in rfl rfl rfl (by decide +kernel) ⟨Nat.le_of_ble_eq_true rfl, Nat.le_of_ble_eq_true rfl⟩) hK hP hD hS hA [] rfl (by decide) (fun _ => rfl) rfl hl.1 rfl (Nat.le_of_ble_eq_true rfl) dX6_jet_22 ⟨Nat.le_of_ble_eq_true rfl, Nat.le_of_ble_eq_true rfl⟩ (fun v9 u9 H locs hv hP hD hS => ?_)
    subst hv
    have hP : va_P D vwCl [(m0, .inr (6, [.ref m1, .ref m2, .ref m3, .int (nI k), .ref m4, .int (nI n), .int (nI 0), .int (nI ax), .int (nI fa), .int (nI vl), .ref m5, .int (nI tn), .int (nI hg), .int (nI bg)])), (m1, .inl (cI, 118, .inl (ro 118 s))), (m2, .inl (cI, 118, .inl (ro 118 h))), (m3, .inl (cI, 708, .inl (ro 708 (pkF t)))), (m4, .inl (cI, 60, .inl (ro 60 cs))), (m5, .inl (cI, 48, .inl (ro 48 td)))] H := hP
    have hD : va_D A9 [(m0, .inr (6, [.ref m1, .ref m2, .ref m3, .int (nI k), .ref m4, .int (nI n), .int (nI 0), .int (nI ax), .int (nI fa), .int (nI vl), .ref m5, .int (nI tn), .int (nI hg), .int (nI bg)])), (m1, .inl (cI, 118, .inl (ro 118 s))), (m2, .inl (cI, 118, .inl (ro 118 h))), (m3, .inl (cI, 708, .inl (ro 708 (pkF t)))), (m4, .inl (cI, 60, .inl (ro 60 cs))), (m5, .inl (cI, 48, .inl (ro 48 td)))] := hD
    refine W.eq (g2 := F0 m9 25 ls [.int (nI 1)]) rfl ?_
    refine q_feq (tgt := 37) (by omega) hx hb dX6_jet_25 (by decide) (fun c_25 => ?_) (fun c_25 => ?_)
    · exact absurd True.intro (by omega)
    ·
      refine lv_iload_n hx hb dX6_jet_28 rfl (lv_at hl 3 rfl) ?_
      refine lv_iconst (v := nI 0) hx hb dX6_jet_29 (by decide +kernel) ?_
      refine lv_iconst (v := nI 3) hx hb dX6_jet_30 (by decide +kernel) ?_
      refine KM.callS (As := [.int (nI c), .int (nI 0), .int (nI 3)]) (rest := []) C0 hN (k_X6_in_ok l D cI cS cL c 0 3  (by first | with_reducible assumption | omega) (by first | with_reducible assumption | omega) (by first | with_reducible assumption | omega)) (va_cwS 3 hts gX6_jet_X6_in rfl rfl rfl (by decide +kernel) ⟨Nat.le_of_ble_eq_true rfl, Nat.le_of_ble_eq_true rfl⟩) hK hP hD hS hA [] rfl (by decide) (fun _ => rfl) rfl hl.1 rfl (Nat.le_of_ble_eq_true rfl) dX6_jet_31 ⟨Nat.le_of_ble_eq_true rfl, Nat.le_of_ble_eq_true rfl⟩ (fun v9 u9 H locs hv hP hD hS => ?_)
      subst hv
      have hP : va_P D vwCl [(m0, .inr (6, [.ref m1, .ref m2, .ref m3, .int (nI k), .ref m4, .int (nI n), .int (nI 0), .int (nI ax), .int (nI fa), .int (nI vl), .ref m5, .int (nI tn), .int (nI hg), .int (nI bg)])), (m1, .inl (cI, 118, .inl (ro 118 s))), (m2, .inl (cI, 118, .inl (ro 118 h))), (m3, .inl (cI, 708, .inl (ro 708 (pkF t)))), (m4, .inl (cI, 60, .inl (ro 60 cs))), (m5, .inl (cI, 48, .inl (ro 48 td)))] H := hP
      have hD : va_D A9 [(m0, .inr (6, [.ref m1, .ref m2, .ref m3, .int (nI k), .ref m4, .int (nI n), .int (nI 0), .int (nI ax), .int (nI fa), .int (nI vl), .ref m5, .int (nI tn), .int (nI hg), .int (nI bg)])), (m1, .inl (cI, 118, .inl (ro 118 s))), (m2, .inl (cI, 118, .inl (ro 118 h))), (m3, .inl (cI, 708, .inl (ro 708 (pkF t)))), (m4, .inl (cI, 60, .inl (ro 60 cs))), (m5, .inl (cI, 48, .inl (ro 48 td)))] := hD
      refine W.eq (g2 := F0 m9 34 ls [.int (nI 1)]) rfl ?_
      refine q_fne (tgt := 43) (by omega) hx hb dX6_jet_34 (by decide) (fun c_34 => ?_) (fun c_34 => ?_)
      ·
        refine lv_aload_n hx hb dX6_jet_43 rfl (lv_at hl 0 rfl) ?_
        refine KM.callV (As := []) (rest := []) C0 hN (k_X6_saves l D cI cS cL m0 m1 m2 m3 m4 m5 k n 0 ax fa vl tn hg bg s t  (by first | with_reducible assumption | omega)) (cwV 0 hts gX6_jet_X6_saves rfl rfl rfl (by decide +kernel) ⟨Nat.le_of_ble_eq_true rfl, Nat.le_of_ble_eq_true rfl⟩) hK hP hD hS hA [0, 1, 3] rfl (by decide) (fun _ => rfl) 0 6 rfl rfl rfl rfl hl.1 rfl (Nat.le_of_ble_eq_true rfl) dX6_jet_44 ⟨Nat.le_of_ble_eq_true rfl, Nat.le_of_ble_eq_true rfl⟩ (fun v9 u9 H locs hv hP hD hS => ?_)
        subst hv
        have hP : va_P D vwCl [(m0, .inr (6, [.ref m1, .ref m2, .ref m3, .int (nI (kpK k)), .ref m4, .int (nI n), .int (nI 0), .int (nI ax), .int (nI fa), .int (nI vl), .ref m5, .int (nI tn), .int (nI hg), .int (nI bg)])), (m1, .inl (cI, 118, .inl (ro 118 s))), (m2, .inl (cI, 118, .inl (ro 118 h))), (m3, .inl (cI, 708, .inl (ro 708 (pkF (kpT k t s))))), (m4, .inl (cI, 60, .inl (ro 60 cs))), (m5, .inl (cI, 48, .inl (ro 48 td)))] H := hP
        have hD : va_D A9 [(m0, .inr (6, [.ref m1, .ref m2, .ref m3, .int (nI (kpK k)), .ref m4, .int (nI n), .int (nI 0), .int (nI ax), .int (nI fa), .int (nI vl), .ref m5, .int (nI tn), .int (nI hg), .int (nI bg)])), (m1, .inl (cI, 118, .inl (ro 118 s))), (m2, .inl (cI, 118, .inl (ro 118 h))), (m3, .inl (cI, 708, .inl (ro 708 (pkF (kpT k t s))))), (m4, .inl (cI, 60, .inl (ro 60 cs))), (m5, .inl (cI, 48, .inl (ro 48 td)))] := hD
        refine W.eq (g2 := F0 m9 47 ls []) rfl ?_
        refine lv_aload_n hx hb dX6_jet_47 rfl (lv_at hl 0 rfl) ?_
        refine lv_bipush (v := nI 14) hx hb dX6_jet_48 (by decide +kernel) ?_
        refine lv_iconst (v := nI 5) hx hb dX6_jet_50 (by decide +kernel) ?_
        refine lv_iload_n hx hb dX6_jet_51 rfl (lv_at hl 1 rfl) ?_
        refine q_imul hx hb dX6_jet_52 ?_
        refine q_iadd hx hb dX6_jet_53 ?_
        refine lv_iconst (v := nI 1) hx hb dX6_jet_54 (by decide +kernel) ?_
        refine q_iadd hx hb dX6_jet_55 ?_
        refine lv_iload_n hx hb dX6_jet_56 rfl (lv_at hl 3 rfl) ?_
        refine KM.callV (As := [.int (nI ((14 + (5 * j)) + 1)), .int (nI c)]) (rest := []) C0 hN (k_X6_changes l D cI cS cL m0 m1 m2 m3 m4 m5 (kpK k) n 0 ax fa vl tn hg bg s ((14 + (5 * j)) + 1) c  (by first | with_reducible assumption | omega)) (cwV 2 hts gX6_jet_X6_changes rfl rfl rfl (by decide +kernel) ⟨Nat.le_of_ble_eq_true rfl, Nat.le_of_ble_eq_true rfl⟩) hK hP hD hS hA [0, 1] rfl (by decide) (fun _ => rfl) 0 6 rfl rfl rfl rfl hl.1 rfl (Nat.le_of_ble_eq_true rfl) dX6_jet_57 ⟨Nat.le_of_ble_eq_true rfl, Nat.le_of_ble_eq_true rfl⟩ (fun v9 u9 H locs hv hP hD hS => ?_)
        subst hv
        have hP : va_P D vwCl [(m0, .inr (6, [.ref m1, .ref m2, .ref m3, .int (nI (kpK k)), .ref m4, .int (nI n), .int (nI 0), .int (nI ax), .int (nI fa), .int (nI vl), .ref m5, .int (nI tn), .int (nI hg), .int (nI bg)])), (m1, .inl (cI, 118, .inl (ro 118 (upN s ((14 + (5 * j)) + 1) c)))), (m2, .inl (cI, 118, .inl (ro 118 h))), (m3, .inl (cI, 708, .inl (ro 708 (pkF (kpT k t s))))), (m4, .inl (cI, 60, .inl (ro 60 cs))), (m5, .inl (cI, 48, .inl (ro 48 td)))] H := hP
        have hD : va_D A9 [(m0, .inr (6, [.ref m1, .ref m2, .ref m3, .int (nI (kpK k)), .ref m4, .int (nI n), .int (nI 0), .int (nI ax), .int (nI fa), .int (nI vl), .ref m5, .int (nI tn), .int (nI hg), .int (nI bg)])), (m1, .inl (cI, 118, .inl (ro 118 (upN s ((14 + (5 * j)) + 1) c)))), (m2, .inl (cI, 118, .inl (ro 118 h))), (m3, .inl (cI, 708, .inl (ro 708 (pkF (kpT k t s))))), (m4, .inl (cI, 60, .inl (ro 60 cs))), (m5, .inl (cI, 48, .inl (ro 48 td)))] := hD
        refine W.eq (g2 := F0 m9 60 ls [.int (nI (s ((14 + (5 * j)) + 1)))]) rfl ?_
        refine lv_pop hx hb dX6_jet_60 rfl ?_
        refine lv_aload_n hx hb dX6_jet_61 rfl (lv_at hl 0 rfl) ?_
        refine lv_bipush (v := nI 14) hx hb dX6_jet_62 (by decide +kernel) ?_
        refine lv_iconst (v := nI 5) hx hb dX6_jet_64 (by decide +kernel) ?_
        refine lv_iload_n hx hb dX6_jet_65 rfl (lv_at hl 1 rfl) ?_
        refine q_imul hx hb dX6_jet_66 ?_
        refine q_iadd hx hb dX6_jet_67 ?_
        refine lv_iload_n hx hb dX6_jet_68 rfl (lv_at hl 2 rfl) ?_
        refine KM.callV (As := [.int (nI (14 + (5 * j))), .int (nI z)]) (rest := []) C0 hN (k_X6_changes l D cI cS cL m0 m1 m2 m3 m4 m5 (kpK k) n 0 ax fa vl tn hg bg (upN s ((14 + (5 * j)) + 1) c) (14 + (5 * j)) z  (by first | with_reducible assumption | omega)) (cwV 2 hts gX6_jet_X6_changes rfl rfl rfl (by decide +kernel) ⟨Nat.le_of_ble_eq_true rfl, Nat.le_of_ble_eq_true rfl⟩) hK hP hD hS hA [0, 1] rfl (by decide) (fun _ => rfl) 0 6 rfl rfl rfl rfl hl.1 rfl (Nat.le_of_ble_eq_true rfl) dX6_jet_69 ⟨Nat.le_of_ble_eq_true rfl, Nat.le_of_ble_eq_true rfl⟩ (fun v9 u9 H locs hv hP hD hS => ?_)
        subst hv
        have hP : va_P D vwCl [(m0, .inr (6, [.ref m1, .ref m2, .ref m3, .int (nI (kpK k)), .ref m4, .int (nI n), .int (nI 0), .int (nI ax), .int (nI fa), .int (nI vl), .ref m5, .int (nI tn), .int (nI hg), .int (nI bg)])), (m1, .inl (cI, 118, .inl (ro 118 (upN (upN s ((14 + (5 * j)) + 1) c) (14 + (5 * j)) z)))), (m2, .inl (cI, 118, .inl (ro 118 h))), (m3, .inl (cI, 708, .inl (ro 708 (pkF (kpT k t s))))), (m4, .inl (cI, 60, .inl (ro 60 cs))), (m5, .inl (cI, 48, .inl (ro 48 td)))] H := hP
        have hD : va_D A9 [(m0, .inr (6, [.ref m1, .ref m2, .ref m3, .int (nI (kpK k)), .ref m4, .int (nI n), .int (nI 0), .int (nI ax), .int (nI fa), .int (nI vl), .ref m5, .int (nI tn), .int (nI hg), .int (nI bg)])), (m1, .inl (cI, 118, .inl (ro 118 (upN (upN s ((14 + (5 * j)) + 1) c) (14 + (5 * j)) z)))), (m2, .inl (cI, 118, .inl (ro 118 h))), (m3, .inl (cI, 708, .inl (ro 708 (pkF (kpT k t s))))), (m4, .inl (cI, 60, .inl (ro 60 cs))), (m5, .inl (cI, 48, .inl (ro 48 td)))] := hD
        refine W.eq (g2 := F0 m9 72 ls [.int (nI ((upN s ((14 + (5 * j)) + 1) c) (14 + (5 * j))))]) rfl ?_
        refine q_topi (y := (nI (szF s j))) (by exact congrArg nI (upN_n (by omega))) ?_
        have er_1 : ro 118 (upN (upN s ((14 + (5 * j)) + 1) c) (14 + (5 * j)) z) = ro 118 (sJet s j z c) := by exact jet_row s j z c
        rw [er_1] at hP hD
        exact hret _ _ _ _ (some (.int (nI (szF s j)))) () 72 ls (by decide) (by decide) (by rfl) hP hD hS (ret_i dX6_jet_72)
      · exact absurd True.intro (by omega)
  · exact absurd True.intro (by omega)

theorem in_X6_aim_ok_X6 : ∀ w ∈ wsX60, w ∈ wsX6_aim := by decide +kernel
theorem fl_X6_aim_ok_25 : Cond.fieldLink RX6 25 "FountainCuesModel" "thrown" "I" ∈ wsX6_aim := by decide +kernel
set_option maxHeartbeats 4000000 in
set_option maxRecDepth 100000 in
theorem k_X6_aim_ok (l : Launch) (D : va_G) (cI cS cL : ClassId) (T : Nat) (m0 : Nat) (m1 : Nat) (m2 : Nat) (m3 : Nat) (m4 : Nat) (m5 : Nat) (k : Nat) (n : Nat) (th : Nat) (ax : Nat) (fa : Nat) (vl : Nat) (tn : Nat) (hg : Nat) (bg : Nat) (s : Nat → Nat) (h : Nat → Nat) (t : Nat → Nat → Nat) (cs : Nat → Nat) (td : Nat → Nat) (j : Nat) (z : Nat) (hI : sI T s) (hT : T ≤ 900000) (hk : k ≤ 6) (hn : n ≤ 60) (hcs : ∀ j, j < n → cs j < 2 ^ 31) (hj : j < 8) (hz2 : z ≤ 10) : KM l D (TY cI cS cL) yX6_aim wsX6_aim ({ frames := 2, cells := 0, slots := 0, locals := 45 } : Room) [(m0, .inr (6, [.ref m1, .ref m2, .ref m3, .int (nI k), .ref m4, .int (nI n), .int (nI th), .int (nI ax), .int (nI fa), .int (nI vl), .ref m5, .int (nI tn), .int (nI hg), .int (nI bg)])), (m1, .inl (cI, 118, .inl (ro 118 s))), (m2, .inl (cI, 118, .inl (ro 118 h))), (m3, .inl (cI, 708, .inl (ro 708 (pkF t)))), (m4, .inl (cI, 60, .inl (ro 60 cs))), (m5, .inl (cI, 48, .inl (ro 48 td)))] [.ref m0, .int (nI j), .int (nI z)] (fun (v : Option Value) (_ : Unit) => v = some (.int (nI (amF s j)))) (fun _ : Unit => [(m0, .inr (6, [.ref m1, .ref m2, .ref m3, .int (nI (kpK k)), .ref m4, .int (nI n), .int (nI 0), .int (nI ax), .int (nI fa), .int (nI vl), .ref m5, .int (nI tn), .int (nI hg), .int (nI bg)])), (m1, .inl (cI, 118, .inl (ro 118 (upN s (17 + 5 * j) z)))), (m2, .inl (cI, 118, .inl (ro 118 h))), (m3, .inl (cI, 708, .inl (ro 708 (pkF (kpT k t s))))), (m4, .inl (cI, 60, .inl (ro 60 cs))), (m5, .inl (cI, 48, .inl (ro 48 td)))]) := by
  refine KM.of (cc := cX6_aim) (maxL := 3) (ret := (some .int)) (by decide) rfl (Nat.le_of_ble_eq_true rfl) ?_
  intro p9 e9 s9 m9 ar9 be9 me9 c9 Q9 A9 ls C0 hN hnm hlk hK hA hret hP hD hS hl
  obtain ⟨hx, hb, hml, hown, hts⟩ := id C0
  have hl : lv_has ls 3 [(0, .ref m0), (1, .int (nI j)), (2, .int (nI z))] := hl
  obtain ⟨H, hH0⟩ : ∃ H, H = s9.heap := ⟨_, rfl⟩
  obtain ⟨locs, hlc0⟩ : ∃ z : List Loc, z = [] := ⟨_, rfl⟩
  have hP : va_P D vwCl [(m0, .inr (6, [.ref m1, .ref m2, .ref m3, .int (nI k), .ref m4, .int (nI n), .int (nI th), .int (nI ax), .int (nI fa), .int (nI vl), .ref m5, .int (nI tn), .int (nI hg), .int (nI bg)])), (m1, .inl (cI, 118, .inl (ro 118 s))), (m2, .inl (cI, 118, .inl (ro 118 h))), (m3, .inl (cI, 708, .inl (ro 708 (pkF t)))), (m4, .inl (cI, 60, .inl (ro 60 cs))), (m5, .inl (cI, 48, .inl (ro 48 td)))] H := by rw [hH0]; exact hP
  have hD : va_D A9 [(m0, .inr (6, [.ref m1, .ref m2, .ref m3, .int (nI k), .ref m4, .int (nI n), .int (nI th), .int (nI ax), .int (nI fa), .int (nI vl), .ref m5, .int (nI tn), .int (nI hg), .int (nI bg)])), (m1, .inl (cI, 118, .inl (ro 118 s))), (m2, .inl (cI, 118, .inl (ro 118 h))), (m3, .inl (cI, 708, .inl (ro 708 (pkF t)))), (m4, .inl (cI, 60, .inl (ro 60 cs))), (m5, .inl (cI, 48, .inl (ro 48 td)))] := hD
  have hS : va_S A9 s9.heap H locs := by rw [hH0, hlc0]; exact hS
  suffices hgo : W p9 l e9 ({ frames := 2, cells := 0, slots := 0, locals := 45 } : Room) s9 m9 ar9 be9 me9 c9 H locs 0 0 Q9 (F0 m9 0 ls []) by rw [hH0, hlc0] at hgo; exact hgo
  clear hH0 hlc0
  obtain ⟨hI1, hI2, hI3, hI4, hI5, hI6, hI7, hI8, hI9, hI10, hI11⟩ := id hI
  refine lv_aload_n hx hb dX6_aim_0 rfl (lv_at hl 0 rfl) ?_
  refine lv_iconst (v := nI 0) hx hb dX6_aim_1 (by decide +kernel) ?_
  refine va_put (D := D) (ci := 6) (v := .int (nI 0)) (ty := tyX6 6) (C := RX6) (T := TX6) (N := 14) hx hb hts in_X6_aim_ok_X6 tyX6 tyX6_ok nmX6 hown hK hP hD hS 0 rfl rfl 6 (by decide) (hts _ fl_X6_aim_ok_25) (fun _ h9 => h9) rfl (by decide +kernel) rfl rfl (Nat.le_of_ble_eq_true rfl) dX6_aim_2 (fun H locs hP hD hS => ?_)
  have hP : va_P D vwCl [(m0, .inr (6, [.ref m1, .ref m2, .ref m3, .int (nI k), .ref m4, .int (nI n), .int (nI 0), .int (nI ax), .int (nI fa), .int (nI vl), .ref m5, .int (nI tn), .int (nI hg), .int (nI bg)])), (m1, .inl (cI, 118, .inl (ro 118 s))), (m2, .inl (cI, 118, .inl (ro 118 h))), (m3, .inl (cI, 708, .inl (ro 708 (pkF t)))), (m4, .inl (cI, 60, .inl (ro 60 cs))), (m5, .inl (cI, 48, .inl (ro 48 td)))] H := hP
  have hD : va_D A9 [(m0, .inr (6, [.ref m1, .ref m2, .ref m3, .int (nI k), .ref m4, .int (nI n), .int (nI 0), .int (nI ax), .int (nI fa), .int (nI vl), .ref m5, .int (nI tn), .int (nI hg), .int (nI bg)])), (m1, .inl (cI, 118, .inl (ro 118 s))), (m2, .inl (cI, 118, .inl (ro 118 h))), (m3, .inl (cI, 708, .inl (ro 708 (pkF t)))), (m4, .inl (cI, 60, .inl (ro 60 cs))), (m5, .inl (cI, 48, .inl (ro 48 td)))] := hD
  refine lv_iload_n hx hb dX6_aim_5 rfl (lv_at hl 1 rfl) ?_
  refine KM.callS (As := [.int (nI j)]) (rest := []) C0 hN (k_X6_isJet_ok l D cI cS cL j  (by first | with_reducible assumption | omega)) (va_cwS 1 hts gX6_aim_X6_isJet rfl rfl rfl (by decide +kernel) ⟨Nat.le_of_ble_eq_true rfl, Nat.le_of_ble_eq_true rfl⟩) hK hP hD hS hA [] rfl (by decide) (fun _ => rfl) rfl hl.1 rfl (Nat.le_of_ble_eq_true rfl) dX6_aim_6 ⟨Nat.le_of_ble_eq_true rfl, Nat.le_of_ble_eq_true rfl⟩ (fun v9 u9 H locs hv hP hD hS => ?_)
  subst hv
  have hP : va_P D vwCl [(m0, .inr (6, [.ref m1, .ref m2, .ref m3, .int (nI k), .ref m4, .int (nI n), .int (nI 0), .int (nI ax), .int (nI fa), .int (nI vl), .ref m5, .int (nI tn), .int (nI hg), .int (nI bg)])), (m1, .inl (cI, 118, .inl (ro 118 s))), (m2, .inl (cI, 118, .inl (ro 118 h))), (m3, .inl (cI, 708, .inl (ro 708 (pkF t)))), (m4, .inl (cI, 60, .inl (ro 60 cs))), (m5, .inl (cI, 48, .inl (ro 48 td)))] H := hP
  have hD : va_D A9 [(m0, .inr (6, [.ref m1, .ref m2, .ref m3, .int (nI k), .ref m4, .int (nI n), .int (nI 0), .int (nI ax), .int (nI fa), .int (nI vl), .ref m5, .int (nI tn), .int (nI hg), .int (nI bg)])), (m1, .inl (cI, 118, .inl (ro 118 s))), (m2, .inl (cI, 118, .inl (ro 118 h))), (m3, .inl (cI, 708, .inl (ro 708 (pkF t)))), (m4, .inl (cI, 60, .inl (ro 60 cs))), (m5, .inl (cI, 48, .inl (ro 48 td)))] := hD
  refine W.eq (g2 := F0 m9 9 ls [.int (nI 1)]) rfl ?_
  refine q_fne (tgt := 18) (by omega) hx hb dX6_aim_9 (by decide) (fun c_9 => ?_) (fun c_9 => ?_)
  ·
    refine lv_iload_n hx hb dX6_aim_18 rfl (lv_at hl 2 rfl) ?_
    refine lv_iconst (v := nI 0) hx hb dX6_aim_19 (by decide +kernel) ?_
    refine lv_bipush (v := nI 10) hx hb dX6_aim_20 (by decide +kernel) ?_
    refine KM.callS (As := [.int (nI z), .int (nI 0), .int (nI 10)]) (rest := []) C0 hN (k_X6_in_ok l D cI cS cL z 0 10  (by first | with_reducible assumption | omega) (by first | with_reducible assumption | omega) (by first | with_reducible assumption | omega)) (va_cwS 3 hts gX6_aim_X6_in rfl rfl rfl (by decide +kernel) ⟨Nat.le_of_ble_eq_true rfl, Nat.le_of_ble_eq_true rfl⟩) hK hP hD hS hA [] rfl (by decide) (fun _ => rfl) rfl hl.1 rfl (Nat.le_of_ble_eq_true rfl) dX6_aim_22 ⟨Nat.le_of_ble_eq_true rfl, Nat.le_of_ble_eq_true rfl⟩ (fun v9 u9 H locs hv hP hD hS => ?_)
    subst hv
    have hP : va_P D vwCl [(m0, .inr (6, [.ref m1, .ref m2, .ref m3, .int (nI k), .ref m4, .int (nI n), .int (nI 0), .int (nI ax), .int (nI fa), .int (nI vl), .ref m5, .int (nI tn), .int (nI hg), .int (nI bg)])), (m1, .inl (cI, 118, .inl (ro 118 s))), (m2, .inl (cI, 118, .inl (ro 118 h))), (m3, .inl (cI, 708, .inl (ro 708 (pkF t)))), (m4, .inl (cI, 60, .inl (ro 60 cs))), (m5, .inl (cI, 48, .inl (ro 48 td)))] H := hP
    have hD : va_D A9 [(m0, .inr (6, [.ref m1, .ref m2, .ref m3, .int (nI k), .ref m4, .int (nI n), .int (nI 0), .int (nI ax), .int (nI fa), .int (nI vl), .ref m5, .int (nI tn), .int (nI hg), .int (nI bg)])), (m1, .inl (cI, 118, .inl (ro 118 s))), (m2, .inl (cI, 118, .inl (ro 118 h))), (m3, .inl (cI, 708, .inl (ro 708 (pkF t)))), (m4, .inl (cI, 60, .inl (ro 60 cs))), (m5, .inl (cI, 48, .inl (ro 48 td)))] := hD
    refine W.eq (g2 := F0 m9 25 ls [.int (nI 1)]) rfl ?_
    refine q_fne (tgt := 34) (by omega) hx hb dX6_aim_25 (by decide) (fun c_25 => ?_) (fun c_25 => ?_)
    ·
      refine lv_aload_n hx hb dX6_aim_34 rfl (lv_at hl 0 rfl) ?_
      refine KM.callV (As := []) (rest := []) C0 hN (k_X6_saves l D cI cS cL m0 m1 m2 m3 m4 m5 k n 0 ax fa vl tn hg bg s t  (by first | with_reducible assumption | omega)) (cwV 0 hts gX6_aim_X6_saves rfl rfl rfl (by decide +kernel) ⟨Nat.le_of_ble_eq_true rfl, Nat.le_of_ble_eq_true rfl⟩) hK hP hD hS hA [0, 1, 3] rfl (by decide) (fun _ => rfl) 0 6 rfl rfl rfl rfl hl.1 rfl (Nat.le_of_ble_eq_true rfl) dX6_aim_35 ⟨Nat.le_of_ble_eq_true rfl, Nat.le_of_ble_eq_true rfl⟩ (fun v9 u9 H locs hv hP hD hS => ?_)
      subst hv
      have hP : va_P D vwCl [(m0, .inr (6, [.ref m1, .ref m2, .ref m3, .int (nI (kpK k)), .ref m4, .int (nI n), .int (nI 0), .int (nI ax), .int (nI fa), .int (nI vl), .ref m5, .int (nI tn), .int (nI hg), .int (nI bg)])), (m1, .inl (cI, 118, .inl (ro 118 s))), (m2, .inl (cI, 118, .inl (ro 118 h))), (m3, .inl (cI, 708, .inl (ro 708 (pkF (kpT k t s))))), (m4, .inl (cI, 60, .inl (ro 60 cs))), (m5, .inl (cI, 48, .inl (ro 48 td)))] H := hP
      have hD : va_D A9 [(m0, .inr (6, [.ref m1, .ref m2, .ref m3, .int (nI (kpK k)), .ref m4, .int (nI n), .int (nI 0), .int (nI ax), .int (nI fa), .int (nI vl), .ref m5, .int (nI tn), .int (nI hg), .int (nI bg)])), (m1, .inl (cI, 118, .inl (ro 118 s))), (m2, .inl (cI, 118, .inl (ro 118 h))), (m3, .inl (cI, 708, .inl (ro 708 (pkF (kpT k t s))))), (m4, .inl (cI, 60, .inl (ro 60 cs))), (m5, .inl (cI, 48, .inl (ro 48 td)))] := hD
      refine W.eq (g2 := F0 m9 38 ls []) rfl ?_
      refine lv_aload_n hx hb dX6_aim_38 rfl (lv_at hl 0 rfl) ?_
      refine lv_bipush (v := nI 14) hx hb dX6_aim_39 (by decide +kernel) ?_
      refine lv_iconst (v := nI 5) hx hb dX6_aim_41 (by decide +kernel) ?_
      refine lv_iload_n hx hb dX6_aim_42 rfl (lv_at hl 1 rfl) ?_
      refine q_imul hx hb dX6_aim_43 ?_
      refine q_iadd hx hb dX6_aim_44 ?_
      refine lv_iconst (v := nI 3) hx hb dX6_aim_45 (by decide +kernel) ?_
      refine q_iadd hx hb dX6_aim_46 ?_
      refine lv_iload_n hx hb dX6_aim_47 rfl (lv_at hl 2 rfl) ?_
      refine KM.callV (As := [.int (nI ((14 + (5 * j)) + 3)), .int (nI z)]) (rest := []) C0 hN (k_X6_changes l D cI cS cL m0 m1 m2 m3 m4 m5 (kpK k) n 0 ax fa vl tn hg bg s ((14 + (5 * j)) + 3) z  (by first | with_reducible assumption | omega)) (cwV 2 hts gX6_aim_X6_changes rfl rfl rfl (by decide +kernel) ⟨Nat.le_of_ble_eq_true rfl, Nat.le_of_ble_eq_true rfl⟩) hK hP hD hS hA [0, 1] rfl (by decide) (fun _ => rfl) 0 6 rfl rfl rfl rfl hl.1 rfl (Nat.le_of_ble_eq_true rfl) dX6_aim_48 ⟨Nat.le_of_ble_eq_true rfl, Nat.le_of_ble_eq_true rfl⟩ (fun v9 u9 H locs hv hP hD hS => ?_)
      subst hv
      have hP : va_P D vwCl [(m0, .inr (6, [.ref m1, .ref m2, .ref m3, .int (nI (kpK k)), .ref m4, .int (nI n), .int (nI 0), .int (nI ax), .int (nI fa), .int (nI vl), .ref m5, .int (nI tn), .int (nI hg), .int (nI bg)])), (m1, .inl (cI, 118, .inl (ro 118 (upN s ((14 + (5 * j)) + 3) z)))), (m2, .inl (cI, 118, .inl (ro 118 h))), (m3, .inl (cI, 708, .inl (ro 708 (pkF (kpT k t s))))), (m4, .inl (cI, 60, .inl (ro 60 cs))), (m5, .inl (cI, 48, .inl (ro 48 td)))] H := hP
      have hD : va_D A9 [(m0, .inr (6, [.ref m1, .ref m2, .ref m3, .int (nI (kpK k)), .ref m4, .int (nI n), .int (nI 0), .int (nI ax), .int (nI fa), .int (nI vl), .ref m5, .int (nI tn), .int (nI hg), .int (nI bg)])), (m1, .inl (cI, 118, .inl (ro 118 (upN s ((14 + (5 * j)) + 3) z)))), (m2, .inl (cI, 118, .inl (ro 118 h))), (m3, .inl (cI, 708, .inl (ro 708 (pkF (kpT k t s))))), (m4, .inl (cI, 60, .inl (ro 60 cs))), (m5, .inl (cI, 48, .inl (ro 48 td)))] := hD
      refine W.eq (g2 := F0 m9 51 ls [.int (nI (s ((14 + (5 * j)) + 3)))]) rfl ?_
      refine q_topi (y := (nI (amF s j))) (by exact congrArg nI (congrArg s (by omega))) ?_
      have er_1 : ro 118 (upN s ((14 + (5 * j)) + 3) z) = ro 118 (upN s (17 + 5 * j) z) := by rw [show 14 + 5 * j + 3 = 17 + 5 * j by omega]
      rw [er_1] at hP hD
      exact hret _ _ _ _ (some (.int (nI (amF s j)))) () 51 ls (by decide) (by decide) (by rfl) hP hD hS (ret_i dX6_aim_51)
    · exact absurd True.intro (by omega)
  · exact absurd True.intro (by omega)

theorem in_X6_pump_ok_X6 : ∀ w ∈ wsX60, w ∈ wsX6_pump := by decide +kernel
theorem fl_X6_pump_ok_25 : Cond.fieldLink RX6 25 "FountainCuesModel" "thrown" "I" ∈ wsX6_pump := by decide +kernel
set_option maxHeartbeats 4000000 in
set_option maxRecDepth 100000 in
theorem k_X6_pump_ok (l : Launch) (D : va_G) (cI cS cL : ClassId) (T : Nat) (m0 : Nat) (m1 : Nat) (m2 : Nat) (m3 : Nat) (m4 : Nat) (m5 : Nat) (k : Nat) (n : Nat) (th : Nat) (ax : Nat) (fa : Nat) (vl : Nat) (tn : Nat) (hg : Nat) (bg : Nat) (s : Nat → Nat) (h : Nat → Nat) (t : Nat → Nat → Nat) (cs : Nat → Nat) (td : Nat → Nat) (j : Nat) (z : Nat) (hI : sI T s) (hT : T ≤ 900000) (hk : k ≤ 6) (hn : n ≤ 60) (hcs : ∀ j, j < n → cs j < 2 ^ 31) (hj : j < 2) (hz2 : z ≤ 2000) : KM l D (TY cI cS cL) yX6_pump wsX6_pump ({ frames := 2, cells := 0, slots := 0, locals := 45 } : Room) [(m0, .inr (6, [.ref m1, .ref m2, .ref m3, .int (nI k), .ref m4, .int (nI n), .int (nI th), .int (nI ax), .int (nI fa), .int (nI vl), .ref m5, .int (nI tn), .int (nI hg), .int (nI bg)])), (m1, .inl (cI, 118, .inl (ro 118 s))), (m2, .inl (cI, 118, .inl (ro 118 h))), (m3, .inl (cI, 708, .inl (ro 708 (pkF t)))), (m4, .inl (cI, 60, .inl (ro 60 cs))), (m5, .inl (cI, 48, .inl (ro 48 td)))] [.ref m0, .int (nI j), .int (nI z)] (fun (v : Option Value) (_ : Unit) => v = some (.int (nI (liF s j)))) (fun _ : Unit => [(m0, .inr (6, [.ref m1, .ref m2, .ref m3, .int (nI (kpK k)), .ref m4, .int (nI n), .int (nI 0), .int (nI ax), .int (nI fa), .int (nI vl), .ref m5, .int (nI tn), .int (nI hg), .int (nI bg)])), (m1, .inl (cI, 118, .inl (ro 118 (upN s (3 + j) z)))), (m2, .inl (cI, 118, .inl (ro 118 h))), (m3, .inl (cI, 708, .inl (ro 708 (pkF (kpT k t s))))), (m4, .inl (cI, 60, .inl (ro 60 cs))), (m5, .inl (cI, 48, .inl (ro 48 td)))]) := by
  refine KM.of (cc := cX6_pump) (maxL := 3) (ret := (some .int)) (by decide) rfl (Nat.le_of_ble_eq_true rfl) ?_
  intro p9 e9 s9 m9 ar9 be9 me9 c9 Q9 A9 ls C0 hN hnm hlk hK hA hret hP hD hS hl
  obtain ⟨hx, hb, hml, hown, hts⟩ := id C0
  have hl : lv_has ls 3 [(0, .ref m0), (1, .int (nI j)), (2, .int (nI z))] := hl
  obtain ⟨H, hH0⟩ : ∃ H, H = s9.heap := ⟨_, rfl⟩
  obtain ⟨locs, hlc0⟩ : ∃ z : List Loc, z = [] := ⟨_, rfl⟩
  have hP : va_P D vwCl [(m0, .inr (6, [.ref m1, .ref m2, .ref m3, .int (nI k), .ref m4, .int (nI n), .int (nI th), .int (nI ax), .int (nI fa), .int (nI vl), .ref m5, .int (nI tn), .int (nI hg), .int (nI bg)])), (m1, .inl (cI, 118, .inl (ro 118 s))), (m2, .inl (cI, 118, .inl (ro 118 h))), (m3, .inl (cI, 708, .inl (ro 708 (pkF t)))), (m4, .inl (cI, 60, .inl (ro 60 cs))), (m5, .inl (cI, 48, .inl (ro 48 td)))] H := by rw [hH0]; exact hP
  have hD : va_D A9 [(m0, .inr (6, [.ref m1, .ref m2, .ref m3, .int (nI k), .ref m4, .int (nI n), .int (nI th), .int (nI ax), .int (nI fa), .int (nI vl), .ref m5, .int (nI tn), .int (nI hg), .int (nI bg)])), (m1, .inl (cI, 118, .inl (ro 118 s))), (m2, .inl (cI, 118, .inl (ro 118 h))), (m3, .inl (cI, 708, .inl (ro 708 (pkF t)))), (m4, .inl (cI, 60, .inl (ro 60 cs))), (m5, .inl (cI, 48, .inl (ro 48 td)))] := hD
  have hS : va_S A9 s9.heap H locs := by rw [hH0, hlc0]; exact hS
  suffices hgo : W p9 l e9 ({ frames := 2, cells := 0, slots := 0, locals := 45 } : Room) s9 m9 ar9 be9 me9 c9 H locs 0 0 Q9 (F0 m9 0 ls []) by rw [hH0, hlc0] at hgo; exact hgo
  clear hH0 hlc0
  obtain ⟨hI1, hI2, hI3, hI4, hI5, hI6, hI7, hI8, hI9, hI10, hI11⟩ := id hI
  refine lv_aload_n hx hb dX6_pump_0 rfl (lv_at hl 0 rfl) ?_
  refine lv_iconst (v := nI 0) hx hb dX6_pump_1 (by decide +kernel) ?_
  refine va_put (D := D) (ci := 6) (v := .int (nI 0)) (ty := tyX6 6) (C := RX6) (T := TX6) (N := 14) hx hb hts in_X6_pump_ok_X6 tyX6 tyX6_ok nmX6 hown hK hP hD hS 0 rfl rfl 6 (by decide) (hts _ fl_X6_pump_ok_25) (fun _ h9 => h9) rfl (by decide +kernel) rfl rfl (Nat.le_of_ble_eq_true rfl) dX6_pump_2 (fun H locs hP hD hS => ?_)
  have hP : va_P D vwCl [(m0, .inr (6, [.ref m1, .ref m2, .ref m3, .int (nI k), .ref m4, .int (nI n), .int (nI 0), .int (nI ax), .int (nI fa), .int (nI vl), .ref m5, .int (nI tn), .int (nI hg), .int (nI bg)])), (m1, .inl (cI, 118, .inl (ro 118 s))), (m2, .inl (cI, 118, .inl (ro 118 h))), (m3, .inl (cI, 708, .inl (ro 708 (pkF t)))), (m4, .inl (cI, 60, .inl (ro 60 cs))), (m5, .inl (cI, 48, .inl (ro 48 td)))] H := hP
  have hD : va_D A9 [(m0, .inr (6, [.ref m1, .ref m2, .ref m3, .int (nI k), .ref m4, .int (nI n), .int (nI 0), .int (nI ax), .int (nI fa), .int (nI vl), .ref m5, .int (nI tn), .int (nI hg), .int (nI bg)])), (m1, .inl (cI, 118, .inl (ro 118 s))), (m2, .inl (cI, 118, .inl (ro 118 h))), (m3, .inl (cI, 708, .inl (ro 708 (pkF t)))), (m4, .inl (cI, 60, .inl (ro 60 cs))), (m5, .inl (cI, 48, .inl (ro 48 td)))] := hD
  refine lv_iload_n hx hb dX6_pump_5 rfl (lv_at hl 1 rfl) ?_
  refine lv_iconst (v := nI 0) hx hb dX6_pump_6 (by decide +kernel) ?_
  refine lv_iconst (v := nI 1) hx hb dX6_pump_7 (by decide +kernel) ?_
  refine KM.callS (As := [.int (nI j), .int (nI 0), .int (nI 1)]) (rest := []) C0 hN (k_X6_in_ok l D cI cS cL j 0 1  (by first | with_reducible assumption | omega) (by first | with_reducible assumption | omega) (by first | with_reducible assumption | omega)) (va_cwS 3 hts gX6_pump_X6_in rfl rfl rfl (by decide +kernel) ⟨Nat.le_of_ble_eq_true rfl, Nat.le_of_ble_eq_true rfl⟩) hK hP hD hS hA [] rfl (by decide) (fun _ => rfl) rfl hl.1 rfl (Nat.le_of_ble_eq_true rfl) dX6_pump_8 ⟨Nat.le_of_ble_eq_true rfl, Nat.le_of_ble_eq_true rfl⟩ (fun v9 u9 H locs hv hP hD hS => ?_)
  subst hv
  have hP : va_P D vwCl [(m0, .inr (6, [.ref m1, .ref m2, .ref m3, .int (nI k), .ref m4, .int (nI n), .int (nI 0), .int (nI ax), .int (nI fa), .int (nI vl), .ref m5, .int (nI tn), .int (nI hg), .int (nI bg)])), (m1, .inl (cI, 118, .inl (ro 118 s))), (m2, .inl (cI, 118, .inl (ro 118 h))), (m3, .inl (cI, 708, .inl (ro 708 (pkF t)))), (m4, .inl (cI, 60, .inl (ro 60 cs))), (m5, .inl (cI, 48, .inl (ro 48 td)))] H := hP
  have hD : va_D A9 [(m0, .inr (6, [.ref m1, .ref m2, .ref m3, .int (nI k), .ref m4, .int (nI n), .int (nI 0), .int (nI ax), .int (nI fa), .int (nI vl), .ref m5, .int (nI tn), .int (nI hg), .int (nI bg)])), (m1, .inl (cI, 118, .inl (ro 118 s))), (m2, .inl (cI, 118, .inl (ro 118 h))), (m3, .inl (cI, 708, .inl (ro 708 (pkF t)))), (m4, .inl (cI, 60, .inl (ro 60 cs))), (m5, .inl (cI, 48, .inl (ro 48 td)))] := hD
  refine W.eq (g2 := F0 m9 11 ls [.int (nI 1)]) rfl ?_
  refine q_fne (tgt := 20) (by omega) hx hb dX6_pump_11 (by decide) (fun c_11 => ?_) (fun c_11 => ?_)
  ·
    refine lv_iload_n hx hb dX6_pump_20 rfl (lv_at hl 2 rfl) ?_
    refine lv_iconst (v := nI 0) hx hb dX6_pump_21 (by decide +kernel) ?_
    refine lv_sipush (v := nI 2000) hx hb dX6_pump_22 (by decide +kernel) ?_
    refine KM.callS (As := [.int (nI z), .int (nI 0), .int (nI 2000)]) (rest := []) C0 hN (k_X6_in_ok l D cI cS cL z 0 2000  (by first | with_reducible assumption | omega) (by first | with_reducible assumption | omega) (by first | with_reducible assumption | omega)) (va_cwS 3 hts gX6_pump_X6_in rfl rfl rfl (by decide +kernel) ⟨Nat.le_of_ble_eq_true rfl, Nat.le_of_ble_eq_true rfl⟩) hK hP hD hS hA [] rfl (by decide) (fun _ => rfl) rfl hl.1 rfl (Nat.le_of_ble_eq_true rfl) dX6_pump_25 ⟨Nat.le_of_ble_eq_true rfl, Nat.le_of_ble_eq_true rfl⟩ (fun v9 u9 H locs hv hP hD hS => ?_)
    subst hv
    have hP : va_P D vwCl [(m0, .inr (6, [.ref m1, .ref m2, .ref m3, .int (nI k), .ref m4, .int (nI n), .int (nI 0), .int (nI ax), .int (nI fa), .int (nI vl), .ref m5, .int (nI tn), .int (nI hg), .int (nI bg)])), (m1, .inl (cI, 118, .inl (ro 118 s))), (m2, .inl (cI, 118, .inl (ro 118 h))), (m3, .inl (cI, 708, .inl (ro 708 (pkF t)))), (m4, .inl (cI, 60, .inl (ro 60 cs))), (m5, .inl (cI, 48, .inl (ro 48 td)))] H := hP
    have hD : va_D A9 [(m0, .inr (6, [.ref m1, .ref m2, .ref m3, .int (nI k), .ref m4, .int (nI n), .int (nI 0), .int (nI ax), .int (nI fa), .int (nI vl), .ref m5, .int (nI tn), .int (nI hg), .int (nI bg)])), (m1, .inl (cI, 118, .inl (ro 118 s))), (m2, .inl (cI, 118, .inl (ro 118 h))), (m3, .inl (cI, 708, .inl (ro 708 (pkF t)))), (m4, .inl (cI, 60, .inl (ro 60 cs))), (m5, .inl (cI, 48, .inl (ro 48 td)))] := hD
    refine W.eq (g2 := F0 m9 28 ls [.int (nI 1)]) rfl ?_
    refine q_fne (tgt := 37) (by omega) hx hb dX6_pump_28 (by decide) (fun c_28 => ?_) (fun c_28 => ?_)
    ·
      refine lv_aload_n hx hb dX6_pump_37 rfl (lv_at hl 0 rfl) ?_
      refine KM.callV (As := []) (rest := []) C0 hN (k_X6_saves l D cI cS cL m0 m1 m2 m3 m4 m5 k n 0 ax fa vl tn hg bg s t  (by first | with_reducible assumption | omega)) (cwV 0 hts gX6_pump_X6_saves rfl rfl rfl (by decide +kernel) ⟨Nat.le_of_ble_eq_true rfl, Nat.le_of_ble_eq_true rfl⟩) hK hP hD hS hA [0, 1, 3] rfl (by decide) (fun _ => rfl) 0 6 rfl rfl rfl rfl hl.1 rfl (Nat.le_of_ble_eq_true rfl) dX6_pump_38 ⟨Nat.le_of_ble_eq_true rfl, Nat.le_of_ble_eq_true rfl⟩ (fun v9 u9 H locs hv hP hD hS => ?_)
      subst hv
      have hP : va_P D vwCl [(m0, .inr (6, [.ref m1, .ref m2, .ref m3, .int (nI (kpK k)), .ref m4, .int (nI n), .int (nI 0), .int (nI ax), .int (nI fa), .int (nI vl), .ref m5, .int (nI tn), .int (nI hg), .int (nI bg)])), (m1, .inl (cI, 118, .inl (ro 118 s))), (m2, .inl (cI, 118, .inl (ro 118 h))), (m3, .inl (cI, 708, .inl (ro 708 (pkF (kpT k t s))))), (m4, .inl (cI, 60, .inl (ro 60 cs))), (m5, .inl (cI, 48, .inl (ro 48 td)))] H := hP
      have hD : va_D A9 [(m0, .inr (6, [.ref m1, .ref m2, .ref m3, .int (nI (kpK k)), .ref m4, .int (nI n), .int (nI 0), .int (nI ax), .int (nI fa), .int (nI vl), .ref m5, .int (nI tn), .int (nI hg), .int (nI bg)])), (m1, .inl (cI, 118, .inl (ro 118 s))), (m2, .inl (cI, 118, .inl (ro 118 h))), (m3, .inl (cI, 708, .inl (ro 708 (pkF (kpT k t s))))), (m4, .inl (cI, 60, .inl (ro 60 cs))), (m5, .inl (cI, 48, .inl (ro 48 td)))] := hD
      refine W.eq (g2 := F0 m9 41 ls []) rfl ?_
      refine lv_aload_n hx hb dX6_pump_41 rfl (lv_at hl 0 rfl) ?_
      refine lv_iconst (v := nI 3) hx hb dX6_pump_42 (by decide +kernel) ?_
      refine lv_iload_n hx hb dX6_pump_43 rfl (lv_at hl 1 rfl) ?_
      refine q_iadd hx hb dX6_pump_44 ?_
      refine lv_iload_n hx hb dX6_pump_45 rfl (lv_at hl 2 rfl) ?_
      refine KM.callV (As := [.int (nI (3 + j)), .int (nI z)]) (rest := []) C0 hN (k_X6_changes l D cI cS cL m0 m1 m2 m3 m4 m5 (kpK k) n 0 ax fa vl tn hg bg s (3 + j) z  (by first | with_reducible assumption | omega)) (cwV 2 hts gX6_pump_X6_changes rfl rfl rfl (by decide +kernel) ⟨Nat.le_of_ble_eq_true rfl, Nat.le_of_ble_eq_true rfl⟩) hK hP hD hS hA [0, 1] rfl (by decide) (fun _ => rfl) 0 6 rfl rfl rfl rfl hl.1 rfl (Nat.le_of_ble_eq_true rfl) dX6_pump_46 ⟨Nat.le_of_ble_eq_true rfl, Nat.le_of_ble_eq_true rfl⟩ (fun v9 u9 H locs hv hP hD hS => ?_)
      subst hv
      have hP : va_P D vwCl [(m0, .inr (6, [.ref m1, .ref m2, .ref m3, .int (nI (kpK k)), .ref m4, .int (nI n), .int (nI 0), .int (nI ax), .int (nI fa), .int (nI vl), .ref m5, .int (nI tn), .int (nI hg), .int (nI bg)])), (m1, .inl (cI, 118, .inl (ro 118 (upN s (3 + j) z)))), (m2, .inl (cI, 118, .inl (ro 118 h))), (m3, .inl (cI, 708, .inl (ro 708 (pkF (kpT k t s))))), (m4, .inl (cI, 60, .inl (ro 60 cs))), (m5, .inl (cI, 48, .inl (ro 48 td)))] H := hP
      have hD : va_D A9 [(m0, .inr (6, [.ref m1, .ref m2, .ref m3, .int (nI (kpK k)), .ref m4, .int (nI n), .int (nI 0), .int (nI ax), .int (nI fa), .int (nI vl), .ref m5, .int (nI tn), .int (nI hg), .int (nI bg)])), (m1, .inl (cI, 118, .inl (ro 118 (upN s (3 + j) z)))), (m2, .inl (cI, 118, .inl (ro 118 h))), (m3, .inl (cI, 708, .inl (ro 708 (pkF (kpT k t s))))), (m4, .inl (cI, 60, .inl (ro 60 cs))), (m5, .inl (cI, 48, .inl (ro 48 td)))] := hD
      refine W.eq (g2 := F0 m9 49 ls [.int (nI (s (3 + j)))]) rfl ?_
      exact hret _ _ _ _ (some (.int (nI (s (3 + j))))) () 49 ls (by decide) (by decide) (by rfl) hP hD hS (ret_i dX6_pump_49)
    · exact absurd True.intro (by omega)
  · exact absurd True.intro (by omega)

theorem in_X6_wind_ok_X6 : ∀ w ∈ wsX60, w ∈ wsX6_wind := by decide +kernel
theorem fl_X6_wind_ok_25 : Cond.fieldLink RX6 25 "FountainCuesModel" "thrown" "I" ∈ wsX6_wind := by decide +kernel
set_option maxHeartbeats 4000000 in
set_option maxRecDepth 100000 in
theorem k_X6_wind_ok (l : Launch) (D : va_G) (cI cS cL : ClassId) (T : Nat) (m0 : Nat) (m1 : Nat) (m2 : Nat) (m3 : Nat) (m4 : Nat) (m5 : Nat) (k : Nat) (n : Nat) (th : Nat) (ax : Nat) (fa : Nat) (vl : Nat) (tn : Nat) (hg : Nat) (bg : Nat) (s : Nat → Nat) (h : Nat → Nat) (t : Nat → Nat → Nat) (cs : Nat → Nat) (td : Nat → Nat) (z : Nat) (hI : sI T s) (hT : T ≤ 900000) (hk : k ≤ 6) (hn : n ≤ 60) (hcs : ∀ j, j < n → cs j < 2 ^ 31) (hz2 : z ≤ 20) : KM l D (TY cI cS cL) yX6_wind wsX6_wind ({ frames := 2, cells := 0, slots := 0, locals := 45 } : Room) [(m0, .inr (6, [.ref m1, .ref m2, .ref m3, .int (nI k), .ref m4, .int (nI n), .int (nI th), .int (nI ax), .int (nI fa), .int (nI vl), .ref m5, .int (nI tn), .int (nI hg), .int (nI bg)])), (m1, .inl (cI, 118, .inl (ro 118 s))), (m2, .inl (cI, 118, .inl (ro 118 h))), (m3, .inl (cI, 708, .inl (ro 708 (pkF t)))), (m4, .inl (cI, 60, .inl (ro 60 cs))), (m5, .inl (cI, 48, .inl (ro 48 td)))] [.ref m0, .int (nI z)] (fun (v : Option Value) (_ : Unit) => v = some (.int (nI (s 5)))) (fun _ : Unit => [(m0, .inr (6, [.ref m1, .ref m2, .ref m3, .int (nI (kpK k)), .ref m4, .int (nI n), .int (nI 0), .int (nI ax), .int (nI fa), .int (nI vl), .ref m5, .int (nI tn), .int (nI hg), .int (nI bg)])), (m1, .inl (cI, 118, .inl (ro 118 (upN s 5 z)))), (m2, .inl (cI, 118, .inl (ro 118 h))), (m3, .inl (cI, 708, .inl (ro 708 (pkF (kpT k t s))))), (m4, .inl (cI, 60, .inl (ro 60 cs))), (m5, .inl (cI, 48, .inl (ro 48 td)))]) := by
  refine KM.of (cc := cX6_wind) (maxL := 2) (ret := (some .int)) (by decide) rfl (Nat.le_of_ble_eq_true rfl) ?_
  intro p9 e9 s9 m9 ar9 be9 me9 c9 Q9 A9 ls C0 hN hnm hlk hK hA hret hP hD hS hl
  obtain ⟨hx, hb, hml, hown, hts⟩ := id C0
  have hl : lv_has ls 2 [(0, .ref m0), (1, .int (nI z))] := hl
  obtain ⟨H, hH0⟩ : ∃ H, H = s9.heap := ⟨_, rfl⟩
  obtain ⟨locs, hlc0⟩ : ∃ z : List Loc, z = [] := ⟨_, rfl⟩
  have hP : va_P D vwCl [(m0, .inr (6, [.ref m1, .ref m2, .ref m3, .int (nI k), .ref m4, .int (nI n), .int (nI th), .int (nI ax), .int (nI fa), .int (nI vl), .ref m5, .int (nI tn), .int (nI hg), .int (nI bg)])), (m1, .inl (cI, 118, .inl (ro 118 s))), (m2, .inl (cI, 118, .inl (ro 118 h))), (m3, .inl (cI, 708, .inl (ro 708 (pkF t)))), (m4, .inl (cI, 60, .inl (ro 60 cs))), (m5, .inl (cI, 48, .inl (ro 48 td)))] H := by rw [hH0]; exact hP
  have hD : va_D A9 [(m0, .inr (6, [.ref m1, .ref m2, .ref m3, .int (nI k), .ref m4, .int (nI n), .int (nI th), .int (nI ax), .int (nI fa), .int (nI vl), .ref m5, .int (nI tn), .int (nI hg), .int (nI bg)])), (m1, .inl (cI, 118, .inl (ro 118 s))), (m2, .inl (cI, 118, .inl (ro 118 h))), (m3, .inl (cI, 708, .inl (ro 708 (pkF t)))), (m4, .inl (cI, 60, .inl (ro 60 cs))), (m5, .inl (cI, 48, .inl (ro 48 td)))] := hD
  have hS : va_S A9 s9.heap H locs := by rw [hH0, hlc0]; exact hS
  suffices hgo : W p9 l e9 ({ frames := 2, cells := 0, slots := 0, locals := 45 } : Room) s9 m9 ar9 be9 me9 c9 H locs 0 0 Q9 (F0 m9 0 ls []) by rw [hH0, hlc0] at hgo; exact hgo
  clear hH0 hlc0
  obtain ⟨hI1, hI2, hI3, hI4, hI5, hI6, hI7, hI8, hI9, hI10, hI11⟩ := id hI
  refine lv_aload_n hx hb dX6_wind_0 rfl (lv_at hl 0 rfl) ?_
  refine lv_iconst (v := nI 0) hx hb dX6_wind_1 (by decide +kernel) ?_
  refine va_put (D := D) (ci := 6) (v := .int (nI 0)) (ty := tyX6 6) (C := RX6) (T := TX6) (N := 14) hx hb hts in_X6_wind_ok_X6 tyX6 tyX6_ok nmX6 hown hK hP hD hS 0 rfl rfl 6 (by decide) (hts _ fl_X6_wind_ok_25) (fun _ h9 => h9) rfl (by decide +kernel) rfl rfl (Nat.le_of_ble_eq_true rfl) dX6_wind_2 (fun H locs hP hD hS => ?_)
  have hP : va_P D vwCl [(m0, .inr (6, [.ref m1, .ref m2, .ref m3, .int (nI k), .ref m4, .int (nI n), .int (nI 0), .int (nI ax), .int (nI fa), .int (nI vl), .ref m5, .int (nI tn), .int (nI hg), .int (nI bg)])), (m1, .inl (cI, 118, .inl (ro 118 s))), (m2, .inl (cI, 118, .inl (ro 118 h))), (m3, .inl (cI, 708, .inl (ro 708 (pkF t)))), (m4, .inl (cI, 60, .inl (ro 60 cs))), (m5, .inl (cI, 48, .inl (ro 48 td)))] H := hP
  have hD : va_D A9 [(m0, .inr (6, [.ref m1, .ref m2, .ref m3, .int (nI k), .ref m4, .int (nI n), .int (nI 0), .int (nI ax), .int (nI fa), .int (nI vl), .ref m5, .int (nI tn), .int (nI hg), .int (nI bg)])), (m1, .inl (cI, 118, .inl (ro 118 s))), (m2, .inl (cI, 118, .inl (ro 118 h))), (m3, .inl (cI, 708, .inl (ro 708 (pkF t)))), (m4, .inl (cI, 60, .inl (ro 60 cs))), (m5, .inl (cI, 48, .inl (ro 48 td)))] := hD
  refine lv_iload_n hx hb dX6_wind_5 rfl (lv_at hl 1 rfl) ?_
  refine lv_iconst (v := nI 0) hx hb dX6_wind_6 (by decide +kernel) ?_
  refine lv_bipush (v := nI 20) hx hb dX6_wind_7 (by decide +kernel) ?_
  refine KM.callS (As := [.int (nI z), .int (nI 0), .int (nI 20)]) (rest := []) C0 hN (k_X6_in_ok l D cI cS cL z 0 20  (by first | with_reducible assumption | omega) (by first | with_reducible assumption | omega) (by first | with_reducible assumption | omega)) (va_cwS 3 hts gX6_wind_X6_in rfl rfl rfl (by decide +kernel) ⟨Nat.le_of_ble_eq_true rfl, Nat.le_of_ble_eq_true rfl⟩) hK hP hD hS hA [] rfl (by decide) (fun _ => rfl) rfl hl.1 rfl (Nat.le_of_ble_eq_true rfl) dX6_wind_9 ⟨Nat.le_of_ble_eq_true rfl, Nat.le_of_ble_eq_true rfl⟩ (fun v9 u9 H locs hv hP hD hS => ?_)
  subst hv
  have hP : va_P D vwCl [(m0, .inr (6, [.ref m1, .ref m2, .ref m3, .int (nI k), .ref m4, .int (nI n), .int (nI 0), .int (nI ax), .int (nI fa), .int (nI vl), .ref m5, .int (nI tn), .int (nI hg), .int (nI bg)])), (m1, .inl (cI, 118, .inl (ro 118 s))), (m2, .inl (cI, 118, .inl (ro 118 h))), (m3, .inl (cI, 708, .inl (ro 708 (pkF t)))), (m4, .inl (cI, 60, .inl (ro 60 cs))), (m5, .inl (cI, 48, .inl (ro 48 td)))] H := hP
  have hD : va_D A9 [(m0, .inr (6, [.ref m1, .ref m2, .ref m3, .int (nI k), .ref m4, .int (nI n), .int (nI 0), .int (nI ax), .int (nI fa), .int (nI vl), .ref m5, .int (nI tn), .int (nI hg), .int (nI bg)])), (m1, .inl (cI, 118, .inl (ro 118 s))), (m2, .inl (cI, 118, .inl (ro 118 h))), (m3, .inl (cI, 708, .inl (ro 708 (pkF t)))), (m4, .inl (cI, 60, .inl (ro 60 cs))), (m5, .inl (cI, 48, .inl (ro 48 td)))] := hD
  refine W.eq (g2 := F0 m9 12 ls [.int (nI 1)]) rfl ?_
  refine q_fne (tgt := 21) (by omega) hx hb dX6_wind_12 (by decide) (fun c_12 => ?_) (fun c_12 => ?_)
  ·
    refine lv_aload_n hx hb dX6_wind_21 rfl (lv_at hl 0 rfl) ?_
    refine KM.callV (As := []) (rest := []) C0 hN (k_X6_saves l D cI cS cL m0 m1 m2 m3 m4 m5 k n 0 ax fa vl tn hg bg s t  (by first | with_reducible assumption | omega)) (cwV 0 hts gX6_wind_X6_saves rfl rfl rfl (by decide +kernel) ⟨Nat.le_of_ble_eq_true rfl, Nat.le_of_ble_eq_true rfl⟩) hK hP hD hS hA [0, 1, 3] rfl (by decide) (fun _ => rfl) 0 6 rfl rfl rfl rfl hl.1 rfl (Nat.le_of_ble_eq_true rfl) dX6_wind_22 ⟨Nat.le_of_ble_eq_true rfl, Nat.le_of_ble_eq_true rfl⟩ (fun v9 u9 H locs hv hP hD hS => ?_)
    subst hv
    have hP : va_P D vwCl [(m0, .inr (6, [.ref m1, .ref m2, .ref m3, .int (nI (kpK k)), .ref m4, .int (nI n), .int (nI 0), .int (nI ax), .int (nI fa), .int (nI vl), .ref m5, .int (nI tn), .int (nI hg), .int (nI bg)])), (m1, .inl (cI, 118, .inl (ro 118 s))), (m2, .inl (cI, 118, .inl (ro 118 h))), (m3, .inl (cI, 708, .inl (ro 708 (pkF (kpT k t s))))), (m4, .inl (cI, 60, .inl (ro 60 cs))), (m5, .inl (cI, 48, .inl (ro 48 td)))] H := hP
    have hD : va_D A9 [(m0, .inr (6, [.ref m1, .ref m2, .ref m3, .int (nI (kpK k)), .ref m4, .int (nI n), .int (nI 0), .int (nI ax), .int (nI fa), .int (nI vl), .ref m5, .int (nI tn), .int (nI hg), .int (nI bg)])), (m1, .inl (cI, 118, .inl (ro 118 s))), (m2, .inl (cI, 118, .inl (ro 118 h))), (m3, .inl (cI, 708, .inl (ro 708 (pkF (kpT k t s))))), (m4, .inl (cI, 60, .inl (ro 60 cs))), (m5, .inl (cI, 48, .inl (ro 48 td)))] := hD
    refine W.eq (g2 := F0 m9 25 ls []) rfl ?_
    refine lv_aload_n hx hb dX6_wind_25 rfl (lv_at hl 0 rfl) ?_
    refine lv_iconst (v := nI 5) hx hb dX6_wind_26 (by decide +kernel) ?_
    refine lv_iload_n hx hb dX6_wind_27 rfl (lv_at hl 1 rfl) ?_
    refine KM.callV (As := [.int (nI 5), .int (nI z)]) (rest := []) C0 hN (k_X6_changes l D cI cS cL m0 m1 m2 m3 m4 m5 (kpK k) n 0 ax fa vl tn hg bg s 5 z  (by first | with_reducible assumption | omega)) (cwV 2 hts gX6_wind_X6_changes rfl rfl rfl (by decide +kernel) ⟨Nat.le_of_ble_eq_true rfl, Nat.le_of_ble_eq_true rfl⟩) hK hP hD hS hA [0, 1] rfl (by decide) (fun _ => rfl) 0 6 rfl rfl rfl rfl hl.1 rfl (Nat.le_of_ble_eq_true rfl) dX6_wind_28 ⟨Nat.le_of_ble_eq_true rfl, Nat.le_of_ble_eq_true rfl⟩ (fun v9 u9 H locs hv hP hD hS => ?_)
    subst hv
    have hP : va_P D vwCl [(m0, .inr (6, [.ref m1, .ref m2, .ref m3, .int (nI (kpK k)), .ref m4, .int (nI n), .int (nI 0), .int (nI ax), .int (nI fa), .int (nI vl), .ref m5, .int (nI tn), .int (nI hg), .int (nI bg)])), (m1, .inl (cI, 118, .inl (ro 118 (upN s 5 z)))), (m2, .inl (cI, 118, .inl (ro 118 h))), (m3, .inl (cI, 708, .inl (ro 708 (pkF (kpT k t s))))), (m4, .inl (cI, 60, .inl (ro 60 cs))), (m5, .inl (cI, 48, .inl (ro 48 td)))] H := hP
    have hD : va_D A9 [(m0, .inr (6, [.ref m1, .ref m2, .ref m3, .int (nI (kpK k)), .ref m4, .int (nI n), .int (nI 0), .int (nI ax), .int (nI fa), .int (nI vl), .ref m5, .int (nI tn), .int (nI hg), .int (nI bg)])), (m1, .inl (cI, 118, .inl (ro 118 (upN s 5 z)))), (m2, .inl (cI, 118, .inl (ro 118 h))), (m3, .inl (cI, 708, .inl (ro 708 (pkF (kpT k t s))))), (m4, .inl (cI, 60, .inl (ro 60 cs))), (m5, .inl (cI, 48, .inl (ro 48 td)))] := hD
    refine W.eq (g2 := F0 m9 31 ls [.int (nI (s 5))]) rfl ?_
    exact hret _ _ _ _ (some (.int (nI (s 5)))) () 31 ls (by decide) (by decide) (by rfl) hP hD hS (ret_i dX6_wind_31)
  · exact absurd True.intro (by omega)

theorem in_X6_fill_ok_X6 : ∀ w ∈ wsX60, w ∈ wsX6_fill := by decide +kernel
theorem fl_X6_fill_ok_25 : Cond.fieldLink RX6 25 "FountainCuesModel" "thrown" "I" ∈ wsX6_fill := by decide +kernel
theorem fl_X6_fill_ok_7 : Cond.fieldLink RX6 7 "FountainCuesModel" "now" "[I" ∈ wsX6_fill := by decide +kernel
set_option maxHeartbeats 4000000 in
set_option maxRecDepth 100000 in
theorem k_X6_fill_ok (l : Launch) (D : va_G) (cI cS cL : ClassId) (T : Nat) (m0 : Nat) (m1 : Nat) (m2 : Nat) (m3 : Nat) (m4 : Nat) (m5 : Nat) (k : Nat) (n : Nat) (th : Nat) (ax : Nat) (fa : Nat) (vl : Nat) (tn : Nat) (hg : Nat) (bg : Nat) (s : Nat → Nat) (h : Nat → Nat) (t : Nat → Nat → Nat) (cs : Nat → Nat) (td : Nat → Nat) (z : Nat) (hI : sI T s) (hT : T ≤ 900000) (hk : k ≤ 6) (hn : n ≤ 60) (hcs : ∀ j, j < n → cs j < 2 ^ 31) (hz1 : 1 ≤ z) (hz2 : z ≤ 9999) (hz3 : s 6 + z ≤ 99999) : KM l D (TY cI cS cL) yX6_fill wsX6_fill ({ frames := 2, cells := 0, slots := 0, locals := 45 } : Room) [(m0, .inr (6, [.ref m1, .ref m2, .ref m3, .int (nI k), .ref m4, .int (nI n), .int (nI th), .int (nI ax), .int (nI fa), .int (nI vl), .ref m5, .int (nI tn), .int (nI hg), .int (nI bg)])), (m1, .inl (cI, 118, .inl (ro 118 s))), (m2, .inl (cI, 118, .inl (ro 118 h))), (m3, .inl (cI, 708, .inl (ro 708 (pkF t)))), (m4, .inl (cI, 60, .inl (ro 60 cs))), (m5, .inl (cI, 48, .inl (ro 48 td)))] [.ref m0, .int (nI z)] (fun (v : Option Value) (_ : Unit) => v = some (.int (nI (s 6 + z)))) (fun _ : Unit => [(m0, .inr (6, [.ref m1, .ref m2, .ref m3, .int (nI (kpK k)), .ref m4, .int (nI n), .int (nI 0), .int (nI ax), .int (nI fa), .int (nI vl), .ref m5, .int (nI tn), .int (nI hg), .int (nI bg)])), (m1, .inl (cI, 118, .inl (ro 118 (upN s 6 (s 6 + z))))), (m2, .inl (cI, 118, .inl (ro 118 h))), (m3, .inl (cI, 708, .inl (ro 708 (pkF (kpT k t s))))), (m4, .inl (cI, 60, .inl (ro 60 cs))), (m5, .inl (cI, 48, .inl (ro 48 td)))]) := by
  refine KM.of (cc := cX6_fill) (maxL := 2) (ret := (some .int)) (by decide) rfl (Nat.le_of_ble_eq_true rfl) ?_
  intro p9 e9 s9 m9 ar9 be9 me9 c9 Q9 A9 ls C0 hN hnm hlk hK hA hret hP hD hS hl
  obtain ⟨hx, hb, hml, hown, hts⟩ := id C0
  have hl : lv_has ls 2 [(0, .ref m0), (1, .int (nI z))] := hl
  obtain ⟨H, hH0⟩ : ∃ H, H = s9.heap := ⟨_, rfl⟩
  obtain ⟨locs, hlc0⟩ : ∃ z : List Loc, z = [] := ⟨_, rfl⟩
  have hP : va_P D vwCl [(m0, .inr (6, [.ref m1, .ref m2, .ref m3, .int (nI k), .ref m4, .int (nI n), .int (nI th), .int (nI ax), .int (nI fa), .int (nI vl), .ref m5, .int (nI tn), .int (nI hg), .int (nI bg)])), (m1, .inl (cI, 118, .inl (ro 118 s))), (m2, .inl (cI, 118, .inl (ro 118 h))), (m3, .inl (cI, 708, .inl (ro 708 (pkF t)))), (m4, .inl (cI, 60, .inl (ro 60 cs))), (m5, .inl (cI, 48, .inl (ro 48 td)))] H := by rw [hH0]; exact hP
  have hD : va_D A9 [(m0, .inr (6, [.ref m1, .ref m2, .ref m3, .int (nI k), .ref m4, .int (nI n), .int (nI th), .int (nI ax), .int (nI fa), .int (nI vl), .ref m5, .int (nI tn), .int (nI hg), .int (nI bg)])), (m1, .inl (cI, 118, .inl (ro 118 s))), (m2, .inl (cI, 118, .inl (ro 118 h))), (m3, .inl (cI, 708, .inl (ro 708 (pkF t)))), (m4, .inl (cI, 60, .inl (ro 60 cs))), (m5, .inl (cI, 48, .inl (ro 48 td)))] := hD
  have hS : va_S A9 s9.heap H locs := by rw [hH0, hlc0]; exact hS
  suffices hgo : W p9 l e9 ({ frames := 2, cells := 0, slots := 0, locals := 45 } : Room) s9 m9 ar9 be9 me9 c9 H locs 0 0 Q9 (F0 m9 0 ls []) by rw [hH0, hlc0] at hgo; exact hgo
  clear hH0 hlc0
  obtain ⟨hI1, hI2, hI3, hI4, hI5, hI6, hI7, hI8, hI9, hI10, hI11⟩ := id hI
  refine lv_aload_n hx hb dX6_fill_0 rfl (lv_at hl 0 rfl) ?_
  refine lv_iconst (v := nI 0) hx hb dX6_fill_1 (by decide +kernel) ?_
  refine va_put (D := D) (ci := 6) (v := .int (nI 0)) (ty := tyX6 6) (C := RX6) (T := TX6) (N := 14) hx hb hts in_X6_fill_ok_X6 tyX6 tyX6_ok nmX6 hown hK hP hD hS 0 rfl rfl 6 (by decide) (hts _ fl_X6_fill_ok_25) (fun _ h9 => h9) rfl (by decide +kernel) rfl rfl (Nat.le_of_ble_eq_true rfl) dX6_fill_2 (fun H locs hP hD hS => ?_)
  have hP : va_P D vwCl [(m0, .inr (6, [.ref m1, .ref m2, .ref m3, .int (nI k), .ref m4, .int (nI n), .int (nI 0), .int (nI ax), .int (nI fa), .int (nI vl), .ref m5, .int (nI tn), .int (nI hg), .int (nI bg)])), (m1, .inl (cI, 118, .inl (ro 118 s))), (m2, .inl (cI, 118, .inl (ro 118 h))), (m3, .inl (cI, 708, .inl (ro 708 (pkF t)))), (m4, .inl (cI, 60, .inl (ro 60 cs))), (m5, .inl (cI, 48, .inl (ro 48 td)))] H := hP
  have hD : va_D A9 [(m0, .inr (6, [.ref m1, .ref m2, .ref m3, .int (nI k), .ref m4, .int (nI n), .int (nI 0), .int (nI ax), .int (nI fa), .int (nI vl), .ref m5, .int (nI tn), .int (nI hg), .int (nI bg)])), (m1, .inl (cI, 118, .inl (ro 118 s))), (m2, .inl (cI, 118, .inl (ro 118 h))), (m3, .inl (cI, 708, .inl (ro 708 (pkF t)))), (m4, .inl (cI, 60, .inl (ro 60 cs))), (m5, .inl (cI, 48, .inl (ro 48 td)))] := hD
  refine lv_iload_n hx hb dX6_fill_5 rfl (lv_at hl 1 rfl) ?_
  refine lv_iconst (v := nI 1) hx hb dX6_fill_6 (by decide +kernel) ?_
  refine lv_sipush (v := nI 9999) hx hb dX6_fill_7 (by decide +kernel) ?_
  refine KM.callS (As := [.int (nI z), .int (nI 1), .int (nI 9999)]) (rest := []) C0 hN (k_X6_in_ok l D cI cS cL z 1 9999  (by first | with_reducible assumption | omega) (by first | with_reducible assumption | omega) (by first | with_reducible assumption | omega)) (va_cwS 3 hts gX6_fill_X6_in rfl rfl rfl (by decide +kernel) ⟨Nat.le_of_ble_eq_true rfl, Nat.le_of_ble_eq_true rfl⟩) hK hP hD hS hA [] rfl (by decide) (fun _ => rfl) rfl hl.1 rfl (Nat.le_of_ble_eq_true rfl) dX6_fill_10 ⟨Nat.le_of_ble_eq_true rfl, Nat.le_of_ble_eq_true rfl⟩ (fun v9 u9 H locs hv hP hD hS => ?_)
  subst hv
  have hP : va_P D vwCl [(m0, .inr (6, [.ref m1, .ref m2, .ref m3, .int (nI k), .ref m4, .int (nI n), .int (nI 0), .int (nI ax), .int (nI fa), .int (nI vl), .ref m5, .int (nI tn), .int (nI hg), .int (nI bg)])), (m1, .inl (cI, 118, .inl (ro 118 s))), (m2, .inl (cI, 118, .inl (ro 118 h))), (m3, .inl (cI, 708, .inl (ro 708 (pkF t)))), (m4, .inl (cI, 60, .inl (ro 60 cs))), (m5, .inl (cI, 48, .inl (ro 48 td)))] H := hP
  have hD : va_D A9 [(m0, .inr (6, [.ref m1, .ref m2, .ref m3, .int (nI k), .ref m4, .int (nI n), .int (nI 0), .int (nI ax), .int (nI fa), .int (nI vl), .ref m5, .int (nI tn), .int (nI hg), .int (nI bg)])), (m1, .inl (cI, 118, .inl (ro 118 s))), (m2, .inl (cI, 118, .inl (ro 118 h))), (m3, .inl (cI, 708, .inl (ro 708 (pkF t)))), (m4, .inl (cI, 60, .inl (ro 60 cs))), (m5, .inl (cI, 48, .inl (ro 48 td)))] := hD
  refine W.eq (g2 := F0 m9 13 ls [.int (nI 1)]) rfl ?_
  refine q_fne (tgt := 22) (by omega) hx hb dX6_fill_13 (by decide) (fun c_13 => ?_) (fun c_13 => ?_)
  ·
    refine lv_aload_n hx hb dX6_fill_22 rfl (lv_at hl 0 rfl) ?_
    refine va_get (D := D) (ci := 6) (v := .ref m1) (C := RX6) (T := TX6) (N := 14) hx hb hts in_X6_fill_ok_X6 hown hK hP 0 rfl rfl 0 (by decide) (hts _ fl_X6_fill_ok_7) (fun _ h9 => h9) rfl dX6_fill_23 ?_
    refine lv_bipush (v := nI 6) hx hb dX6_fill_26 (by decide +kernel) ?_
    refine q_iald 1 0 (by omega) (by omega) hx hb hK hP rfl rfl dX6_fill_28 ?_
    refine lv_iload_n hx hb dX6_fill_29 rfl (lv_at hl 1 rfl) ?_
    refine q_iadd hx hb dX6_fill_30 ?_
    refine lv_ldc (v := nI 99999) hx hb hown (hts (.constant RX6 89 (nI 99999)) (by decide +kernel)) dX6_fill_31 ?_
    refine q_ile (tgt := 42) (by omega) (by omega) hx hb dX6_fill_33 (by decide) (fun c_33 => ?_) (fun c_33 => ?_)
    ·
      refine lv_aload_n hx hb dX6_fill_42 rfl (lv_at hl 0 rfl) ?_
      refine KM.callV (As := []) (rest := []) C0 hN (k_X6_saves l D cI cS cL m0 m1 m2 m3 m4 m5 k n 0 ax fa vl tn hg bg s t  (by first | with_reducible assumption | omega)) (cwV 0 hts gX6_fill_X6_saves rfl rfl rfl (by decide +kernel) ⟨Nat.le_of_ble_eq_true rfl, Nat.le_of_ble_eq_true rfl⟩) hK hP hD hS hA [0, 1, 3] rfl (by decide) (fun _ => rfl) 0 6 rfl rfl rfl rfl hl.1 rfl (Nat.le_of_ble_eq_true rfl) dX6_fill_43 ⟨Nat.le_of_ble_eq_true rfl, Nat.le_of_ble_eq_true rfl⟩ (fun v9 u9 H locs hv hP hD hS => ?_)
      subst hv
      have hP : va_P D vwCl [(m0, .inr (6, [.ref m1, .ref m2, .ref m3, .int (nI (kpK k)), .ref m4, .int (nI n), .int (nI 0), .int (nI ax), .int (nI fa), .int (nI vl), .ref m5, .int (nI tn), .int (nI hg), .int (nI bg)])), (m1, .inl (cI, 118, .inl (ro 118 s))), (m2, .inl (cI, 118, .inl (ro 118 h))), (m3, .inl (cI, 708, .inl (ro 708 (pkF (kpT k t s))))), (m4, .inl (cI, 60, .inl (ro 60 cs))), (m5, .inl (cI, 48, .inl (ro 48 td)))] H := hP
      have hD : va_D A9 [(m0, .inr (6, [.ref m1, .ref m2, .ref m3, .int (nI (kpK k)), .ref m4, .int (nI n), .int (nI 0), .int (nI ax), .int (nI fa), .int (nI vl), .ref m5, .int (nI tn), .int (nI hg), .int (nI bg)])), (m1, .inl (cI, 118, .inl (ro 118 s))), (m2, .inl (cI, 118, .inl (ro 118 h))), (m3, .inl (cI, 708, .inl (ro 708 (pkF (kpT k t s))))), (m4, .inl (cI, 60, .inl (ro 60 cs))), (m5, .inl (cI, 48, .inl (ro 48 td)))] := hD
      refine W.eq (g2 := F0 m9 46 ls []) rfl ?_
      refine lv_aload_n hx hb dX6_fill_46 rfl (lv_at hl 0 rfl) ?_
      refine va_get (D := D) (ci := 6) (v := .ref m1) (C := RX6) (T := TX6) (N := 14) hx hb hts in_X6_fill_ok_X6 hown hK hP 0 rfl rfl 0 (by decide) (hts _ fl_X6_fill_ok_7) (fun _ h9 => h9) rfl dX6_fill_47 ?_
      refine lv_bipush (v := nI 6) hx hb dX6_fill_50 (by decide +kernel) ?_
      refine lv_dup2_11 hx hb dX6_fill_52 rfl rfl ?_
      refine q_iald 1 0 (by omega) (by omega) hx hb hK hP rfl rfl dX6_fill_53 ?_
      refine lv_iload_n hx hb dX6_fill_54 rfl (lv_at hl 1 rfl) ?_
      refine q_iadd hx hb dX6_fill_55 ?_
      refine q_iast 1 0 (by omega) (by omega) hx hb hK hP hD hS rfl rfl dX6_fill_56 (fun H locs hP hD hS => ?_)
      have hP : va_P D vwCl [(m0, .inr (6, [.ref m1, .ref m2, .ref m3, .int (nI (kpK k)), .ref m4, .int (nI n), .int (nI 0), .int (nI ax), .int (nI fa), .int (nI vl), .ref m5, .int (nI tn), .int (nI hg), .int (nI bg)])), (m1, .inl (cI, 118, .inl (ro 118 (upN s 6 ((s 6) + z))))), (m2, .inl (cI, 118, .inl (ro 118 h))), (m3, .inl (cI, 708, .inl (ro 708 (pkF (kpT k t s))))), (m4, .inl (cI, 60, .inl (ro 60 cs))), (m5, .inl (cI, 48, .inl (ro 48 td)))] H := hP
      have hD : va_D A9 [(m0, .inr (6, [.ref m1, .ref m2, .ref m3, .int (nI (kpK k)), .ref m4, .int (nI n), .int (nI 0), .int (nI ax), .int (nI fa), .int (nI vl), .ref m5, .int (nI tn), .int (nI hg), .int (nI bg)])), (m1, .inl (cI, 118, .inl (ro 118 (upN s 6 ((s 6) + z))))), (m2, .inl (cI, 118, .inl (ro 118 h))), (m3, .inl (cI, 708, .inl (ro 708 (pkF (kpT k t s))))), (m4, .inl (cI, 60, .inl (ro 60 cs))), (m5, .inl (cI, 48, .inl (ro 48 td)))] := hD
      refine lv_aload_n hx hb dX6_fill_57 rfl (lv_at hl 0 rfl) ?_
      refine va_get (D := D) (ci := 6) (v := .ref m1) (C := RX6) (T := TX6) (N := 14) hx hb hts in_X6_fill_ok_X6 hown hK hP 0 rfl rfl 0 (by decide) (hts _ fl_X6_fill_ok_7) (fun _ h9 => h9) rfl dX6_fill_58 ?_
      refine lv_bipush (v := nI 6) hx hb dX6_fill_61 (by decide +kernel) ?_
      refine q_iald 1 0 (by omega) (by omega) hx hb hK hP rfl rfl dX6_fill_63 ?_
      exact hret _ _ _ _ (some (.int (nI ((upN s 6 ((s 6) + z)) 6)))) () 64 ls (by decide) (by decide) (by exact rv upN_s) hP hD hS (ret_i dX6_fill_64)
    · exact absurd True.intro (by omega)
  · exact absurd True.intro (by omega)

theorem in_X6_set_ok_X6 : ∀ w ∈ wsX60, w ∈ wsX6_set := by decide +kernel
theorem fl_X6_set_ok_25 : Cond.fieldLink RX6 25 "FountainCuesModel" "thrown" "I" ∈ wsX6_set := by decide +kernel
set_option maxHeartbeats 4000000 in
set_option maxRecDepth 100000 in
theorem k_X6_set_ok (l : Launch) (D : va_G) (cI cS cL : ClassId) (T : Nat) (m0 : Nat) (m1 : Nat) (m2 : Nat) (m3 : Nat) (m4 : Nat) (m5 : Nat) (k : Nat) (n : Nat) (th : Nat) (ax : Nat) (fa : Nat) (vl : Nat) (tn : Nat) (hg : Nat) (bg : Nat) (s : Nat → Nat) (h : Nat → Nat) (t : Nat → Nat → Nat) (cs : Nat → Nat) (td : Nat → Nat) (j : Nat) (z : Nat) (hI : sI T s) (hT : T ≤ 900000) (hk : k ≤ 6) (hn : n ≤ 60) (hcs : ∀ j, j < n → cs j < 2 ^ 31) (hj : j < 3) (hz1 : leF j ≤ z) (hz2 : z ≤ moF j) : KM l D (TY cI cS cL) yX6_set wsX6_set ({ frames := 2, cells := 0, slots := 0, locals := 45 } : Room) [(m0, .inr (6, [.ref m1, .ref m2, .ref m3, .int (nI k), .ref m4, .int (nI n), .int (nI th), .int (nI ax), .int (nI fa), .int (nI vl), .ref m5, .int (nI tn), .int (nI hg), .int (nI bg)])), (m1, .inl (cI, 118, .inl (ro 118 s))), (m2, .inl (cI, 118, .inl (ro 118 h))), (m3, .inl (cI, 708, .inl (ro 708 (pkF t)))), (m4, .inl (cI, 60, .inl (ro 60 cs))), (m5, .inl (cI, 48, .inl (ro 48 td)))] [.ref m0, .int (nI j), .int (nI z)] (fun (v : Option Value) (_ : Unit) => v = some (.int (nI (seF s j)))) (fun _ : Unit => [(m0, .inr (6, [.ref m1, .ref m2, .ref m3, .int (nI (kpK k)), .ref m4, .int (nI n), .int (nI 0), .int (nI ax), .int (nI fa), .int (nI vl), .ref m5, .int (nI tn), .int (nI hg), .int (nI bg)])), (m1, .inl (cI, 118, .inl (ro 118 (upN s j z)))), (m2, .inl (cI, 118, .inl (ro 118 h))), (m3, .inl (cI, 708, .inl (ro 708 (pkF (kpT k t s))))), (m4, .inl (cI, 60, .inl (ro 60 cs))), (m5, .inl (cI, 48, .inl (ro 48 td)))]) := by
  refine KM.of (cc := cX6_set) (maxL := 3) (ret := (some .int)) (by decide) rfl (Nat.le_of_ble_eq_true rfl) ?_
  intro p9 e9 s9 m9 ar9 be9 me9 c9 Q9 A9 ls C0 hN hnm hlk hK hA hret hP hD hS hl
  obtain ⟨hx, hb, hml, hown, hts⟩ := id C0
  have hl : lv_has ls 3 [(0, .ref m0), (1, .int (nI j)), (2, .int (nI z))] := hl
  obtain ⟨H, hH0⟩ : ∃ H, H = s9.heap := ⟨_, rfl⟩
  obtain ⟨locs, hlc0⟩ : ∃ z : List Loc, z = [] := ⟨_, rfl⟩
  have hP : va_P D vwCl [(m0, .inr (6, [.ref m1, .ref m2, .ref m3, .int (nI k), .ref m4, .int (nI n), .int (nI th), .int (nI ax), .int (nI fa), .int (nI vl), .ref m5, .int (nI tn), .int (nI hg), .int (nI bg)])), (m1, .inl (cI, 118, .inl (ro 118 s))), (m2, .inl (cI, 118, .inl (ro 118 h))), (m3, .inl (cI, 708, .inl (ro 708 (pkF t)))), (m4, .inl (cI, 60, .inl (ro 60 cs))), (m5, .inl (cI, 48, .inl (ro 48 td)))] H := by rw [hH0]; exact hP
  have hD : va_D A9 [(m0, .inr (6, [.ref m1, .ref m2, .ref m3, .int (nI k), .ref m4, .int (nI n), .int (nI th), .int (nI ax), .int (nI fa), .int (nI vl), .ref m5, .int (nI tn), .int (nI hg), .int (nI bg)])), (m1, .inl (cI, 118, .inl (ro 118 s))), (m2, .inl (cI, 118, .inl (ro 118 h))), (m3, .inl (cI, 708, .inl (ro 708 (pkF t)))), (m4, .inl (cI, 60, .inl (ro 60 cs))), (m5, .inl (cI, 48, .inl (ro 48 td)))] := hD
  have hS : va_S A9 s9.heap H locs := by rw [hH0, hlc0]; exact hS
  suffices hgo : W p9 l e9 ({ frames := 2, cells := 0, slots := 0, locals := 45 } : Room) s9 m9 ar9 be9 me9 c9 H locs 0 0 Q9 (F0 m9 0 ls []) by rw [hH0, hlc0] at hgo; exact hgo
  clear hH0 hlc0
  obtain ⟨hI1, hI2, hI3, hI4, hI5, hI6, hI7, hI8, hI9, hI10, hI11⟩ := id hI
  refine lv_aload_n hx hb dX6_set_0 rfl (lv_at hl 0 rfl) ?_
  refine lv_iconst (v := nI 0) hx hb dX6_set_1 (by decide +kernel) ?_
  refine va_put (D := D) (ci := 6) (v := .int (nI 0)) (ty := tyX6 6) (C := RX6) (T := TX6) (N := 14) hx hb hts in_X6_set_ok_X6 tyX6 tyX6_ok nmX6 hown hK hP hD hS 0 rfl rfl 6 (by decide) (hts _ fl_X6_set_ok_25) (fun _ h9 => h9) rfl (by decide +kernel) rfl rfl (Nat.le_of_ble_eq_true rfl) dX6_set_2 (fun H locs hP hD hS => ?_)
  have hP : va_P D vwCl [(m0, .inr (6, [.ref m1, .ref m2, .ref m3, .int (nI k), .ref m4, .int (nI n), .int (nI 0), .int (nI ax), .int (nI fa), .int (nI vl), .ref m5, .int (nI tn), .int (nI hg), .int (nI bg)])), (m1, .inl (cI, 118, .inl (ro 118 s))), (m2, .inl (cI, 118, .inl (ro 118 h))), (m3, .inl (cI, 708, .inl (ro 708 (pkF t)))), (m4, .inl (cI, 60, .inl (ro 60 cs))), (m5, .inl (cI, 48, .inl (ro 48 td)))] H := hP
  have hD : va_D A9 [(m0, .inr (6, [.ref m1, .ref m2, .ref m3, .int (nI k), .ref m4, .int (nI n), .int (nI 0), .int (nI ax), .int (nI fa), .int (nI vl), .ref m5, .int (nI tn), .int (nI hg), .int (nI bg)])), (m1, .inl (cI, 118, .inl (ro 118 s))), (m2, .inl (cI, 118, .inl (ro 118 h))), (m3, .inl (cI, 708, .inl (ro 708 (pkF t)))), (m4, .inl (cI, 60, .inl (ro 60 cs))), (m5, .inl (cI, 48, .inl (ro 48 td)))] := hD
  refine lv_iload_n hx hb dX6_set_5 rfl (lv_at hl 1 rfl) ?_
  refine lv_iconst (v := nI 0) hx hb dX6_set_6 (by decide +kernel) ?_
  refine lv_iconst (v := nI 2) hx hb dX6_set_7 (by decide +kernel) ?_
  refine KM.callS (As := [.int (nI j), .int (nI 0), .int (nI 2)]) (rest := []) C0 hN (k_X6_in_ok l D cI cS cL j 0 2  (by first | with_reducible assumption | omega) (by first | with_reducible assumption | omega) (by first | with_reducible assumption | omega)) (va_cwS 3 hts gX6_set_X6_in rfl rfl rfl (by decide +kernel) ⟨Nat.le_of_ble_eq_true rfl, Nat.le_of_ble_eq_true rfl⟩) hK hP hD hS hA [] rfl (by decide) (fun _ => rfl) rfl hl.1 rfl (Nat.le_of_ble_eq_true rfl) dX6_set_8 ⟨Nat.le_of_ble_eq_true rfl, Nat.le_of_ble_eq_true rfl⟩ (fun v9 u9 H locs hv hP hD hS => ?_)
  subst hv
  have hP : va_P D vwCl [(m0, .inr (6, [.ref m1, .ref m2, .ref m3, .int (nI k), .ref m4, .int (nI n), .int (nI 0), .int (nI ax), .int (nI fa), .int (nI vl), .ref m5, .int (nI tn), .int (nI hg), .int (nI bg)])), (m1, .inl (cI, 118, .inl (ro 118 s))), (m2, .inl (cI, 118, .inl (ro 118 h))), (m3, .inl (cI, 708, .inl (ro 708 (pkF t)))), (m4, .inl (cI, 60, .inl (ro 60 cs))), (m5, .inl (cI, 48, .inl (ro 48 td)))] H := hP
  have hD : va_D A9 [(m0, .inr (6, [.ref m1, .ref m2, .ref m3, .int (nI k), .ref m4, .int (nI n), .int (nI 0), .int (nI ax), .int (nI fa), .int (nI vl), .ref m5, .int (nI tn), .int (nI hg), .int (nI bg)])), (m1, .inl (cI, 118, .inl (ro 118 s))), (m2, .inl (cI, 118, .inl (ro 118 h))), (m3, .inl (cI, 708, .inl (ro 708 (pkF t)))), (m4, .inl (cI, 60, .inl (ro 60 cs))), (m5, .inl (cI, 48, .inl (ro 48 td)))] := hD
  refine W.eq (g2 := F0 m9 11 ls [.int (nI 1)]) rfl ?_
  refine q_fne (tgt := 20) (by omega) hx hb dX6_set_11 (by decide) (fun c_11 => ?_) (fun c_11 => ?_)
  ·
    refine lv_iload_n hx hb dX6_set_20 rfl (lv_at hl 2 rfl) ?_
    refine lv_iload_n hx hb dX6_set_21 rfl (lv_at hl 1 rfl) ?_
    refine lv_iconst (v := nI 2) hx hb dX6_set_22 (by decide +kernel) ?_
    refine q_ine (tgt := 30) (by omega) (by omega) hx hb dX6_set_23 (by decide) (fun c_23 => ?_) (fun c_23 => ?_)
    ·
      refine lv_iconst (v := nI 0) hx hb dX6_set_30 (by decide +kernel) ?_
      refine lv_iload_n hx hb dX6_set_31 rfl (lv_at hl 1 rfl) ?_
      refine q_fne (tgt := 40) (by omega) hx hb dX6_set_32 (by decide) (fun c_32 => ?_) (fun c_32 => ?_)
      ·
        refine lv_iload_n hx hb dX6_set_40 rfl (lv_at hl 1 rfl) ?_
        refine lv_iconst (v := nI 1) hx hb dX6_set_41 (by decide +kernel) ?_
        refine q_ine (tgt := 50) (by omega) (by omega) hx hb dX6_set_42 (by decide) (fun c_42 => ?_) (fun c_42 => ?_)
        ·
          refine lv_bipush (v := nI 10) hx hb dX6_set_50 (by decide +kernel) ?_
          refine KM.callS (As := [.int (nI z), .int (nI 0), .int (nI 10)]) (rest := []) C0 hN (k_X6_in_ok l D cI cS cL z 0 10  (by have h9 := hz1; unfold leF at h9; (repeat' split at h9) <;> omega) (by have h9 := hz2; unfold moF at h9; (repeat' split at h9) <;> omega) (by first | with_reducible assumption | omega)) (va_cwS 3 hts gX6_set_X6_in rfl rfl rfl (by decide +kernel) ⟨Nat.le_of_ble_eq_true rfl, Nat.le_of_ble_eq_true rfl⟩) hK hP hD hS hA [] rfl (by decide) (fun _ => rfl) rfl hl.1 rfl (Nat.le_of_ble_eq_true rfl) dX6_set_52 ⟨Nat.le_of_ble_eq_true rfl, Nat.le_of_ble_eq_true rfl⟩ (fun v9 u9 H locs hv hP hD hS => ?_)
          subst hv
          have hP : va_P D vwCl [(m0, .inr (6, [.ref m1, .ref m2, .ref m3, .int (nI k), .ref m4, .int (nI n), .int (nI 0), .int (nI ax), .int (nI fa), .int (nI vl), .ref m5, .int (nI tn), .int (nI hg), .int (nI bg)])), (m1, .inl (cI, 118, .inl (ro 118 s))), (m2, .inl (cI, 118, .inl (ro 118 h))), (m3, .inl (cI, 708, .inl (ro 708 (pkF t)))), (m4, .inl (cI, 60, .inl (ro 60 cs))), (m5, .inl (cI, 48, .inl (ro 48 td)))] H := hP
          have hD : va_D A9 [(m0, .inr (6, [.ref m1, .ref m2, .ref m3, .int (nI k), .ref m4, .int (nI n), .int (nI 0), .int (nI ax), .int (nI fa), .int (nI vl), .ref m5, .int (nI tn), .int (nI hg), .int (nI bg)])), (m1, .inl (cI, 118, .inl (ro 118 s))), (m2, .inl (cI, 118, .inl (ro 118 h))), (m3, .inl (cI, 708, .inl (ro 708 (pkF t)))), (m4, .inl (cI, 60, .inl (ro 60 cs))), (m5, .inl (cI, 48, .inl (ro 48 td)))] := hD
          refine W.eq (g2 := F0 m9 55 ls [.int (nI 1)]) rfl ?_
          refine q_fne (tgt := 64) (by omega) hx hb dX6_set_55 (by decide) (fun c_55 => ?_) (fun c_55 => ?_)
          ·
            refine lv_aload_n hx hb dX6_set_64 rfl (lv_at hl 0 rfl) ?_
            refine KM.callV (As := []) (rest := []) C0 hN (k_X6_saves l D cI cS cL m0 m1 m2 m3 m4 m5 k n 0 ax fa vl tn hg bg s t  (by first | with_reducible assumption | omega)) (cwV 0 hts gX6_set_X6_saves rfl rfl rfl (by decide +kernel) ⟨Nat.le_of_ble_eq_true rfl, Nat.le_of_ble_eq_true rfl⟩) hK hP hD hS hA [0, 1, 3] rfl (by decide) (fun _ => rfl) 0 6 rfl rfl rfl rfl hl.1 rfl (Nat.le_of_ble_eq_true rfl) dX6_set_65 ⟨Nat.le_of_ble_eq_true rfl, Nat.le_of_ble_eq_true rfl⟩ (fun v9 u9 H locs hv hP hD hS => ?_)
            subst hv
            have hP : va_P D vwCl [(m0, .inr (6, [.ref m1, .ref m2, .ref m3, .int (nI (kpK k)), .ref m4, .int (nI n), .int (nI 0), .int (nI ax), .int (nI fa), .int (nI vl), .ref m5, .int (nI tn), .int (nI hg), .int (nI bg)])), (m1, .inl (cI, 118, .inl (ro 118 s))), (m2, .inl (cI, 118, .inl (ro 118 h))), (m3, .inl (cI, 708, .inl (ro 708 (pkF (kpT k t s))))), (m4, .inl (cI, 60, .inl (ro 60 cs))), (m5, .inl (cI, 48, .inl (ro 48 td)))] H := hP
            have hD : va_D A9 [(m0, .inr (6, [.ref m1, .ref m2, .ref m3, .int (nI (kpK k)), .ref m4, .int (nI n), .int (nI 0), .int (nI ax), .int (nI fa), .int (nI vl), .ref m5, .int (nI tn), .int (nI hg), .int (nI bg)])), (m1, .inl (cI, 118, .inl (ro 118 s))), (m2, .inl (cI, 118, .inl (ro 118 h))), (m3, .inl (cI, 708, .inl (ro 708 (pkF (kpT k t s))))), (m4, .inl (cI, 60, .inl (ro 60 cs))), (m5, .inl (cI, 48, .inl (ro 48 td)))] := hD
            refine W.eq (g2 := F0 m9 68 ls []) rfl ?_
            refine lv_aload_n hx hb dX6_set_68 rfl (lv_at hl 0 rfl) ?_
            refine lv_iload_n hx hb dX6_set_69 rfl (lv_at hl 1 rfl) ?_
            refine lv_iload_n hx hb dX6_set_70 rfl (lv_at hl 2 rfl) ?_
            refine KM.callV (As := [.int (nI j), .int (nI z)]) (rest := []) C0 hN (k_X6_changes l D cI cS cL m0 m1 m2 m3 m4 m5 (kpK k) n 0 ax fa vl tn hg bg s j z  (by first | with_reducible assumption | omega)) (cwV 2 hts gX6_set_X6_changes rfl rfl rfl (by decide +kernel) ⟨Nat.le_of_ble_eq_true rfl, Nat.le_of_ble_eq_true rfl⟩) hK hP hD hS hA [0, 1] rfl (by decide) (fun _ => rfl) 0 6 rfl rfl rfl rfl hl.1 rfl (Nat.le_of_ble_eq_true rfl) dX6_set_71 ⟨Nat.le_of_ble_eq_true rfl, Nat.le_of_ble_eq_true rfl⟩ (fun v9 u9 H locs hv hP hD hS => ?_)
            subst hv
            have hP : va_P D vwCl [(m0, .inr (6, [.ref m1, .ref m2, .ref m3, .int (nI (kpK k)), .ref m4, .int (nI n), .int (nI 0), .int (nI ax), .int (nI fa), .int (nI vl), .ref m5, .int (nI tn), .int (nI hg), .int (nI bg)])), (m1, .inl (cI, 118, .inl (ro 118 (upN s j z)))), (m2, .inl (cI, 118, .inl (ro 118 h))), (m3, .inl (cI, 708, .inl (ro 708 (pkF (kpT k t s))))), (m4, .inl (cI, 60, .inl (ro 60 cs))), (m5, .inl (cI, 48, .inl (ro 48 td)))] H := hP
            have hD : va_D A9 [(m0, .inr (6, [.ref m1, .ref m2, .ref m3, .int (nI (kpK k)), .ref m4, .int (nI n), .int (nI 0), .int (nI ax), .int (nI fa), .int (nI vl), .ref m5, .int (nI tn), .int (nI hg), .int (nI bg)])), (m1, .inl (cI, 118, .inl (ro 118 (upN s j z)))), (m2, .inl (cI, 118, .inl (ro 118 h))), (m3, .inl (cI, 708, .inl (ro 708 (pkF (kpT k t s))))), (m4, .inl (cI, 60, .inl (ro 60 cs))), (m5, .inl (cI, 48, .inl (ro 48 td)))] := hD
            refine W.eq (g2 := F0 m9 74 ls [.int (nI (s j))]) rfl ?_
            exact hret _ _ _ _ (some (.int (nI (s j)))) () 74 ls (by decide) (by decide) (by rfl) hP hD hS (ret_i dX6_set_74)
          · exact absurd True.intro (by omega)
        ·
          refine lv_bipush (v := nI 50) hx hb dX6_set_45 (by decide +kernel) ?_
          refine lv_goto (tgt := 52) hx hb dX6_set_47 (by decide) ?_
          refine KM.callS (As := [.int (nI z), .int (nI 0), .int (nI 50)]) (rest := []) C0 hN (k_X6_in_ok l D cI cS cL z 0 50  (by have h9 := hz1; unfold leF at h9; (repeat' split at h9) <;> omega) (by have h9 := hz2; unfold moF at h9; (repeat' split at h9) <;> omega) (by first | with_reducible assumption | omega)) (va_cwS 3 hts gX6_set_X6_in rfl rfl rfl (by decide +kernel) ⟨Nat.le_of_ble_eq_true rfl, Nat.le_of_ble_eq_true rfl⟩) hK hP hD hS hA [] rfl (by decide) (fun _ => rfl) rfl hl.1 rfl (Nat.le_of_ble_eq_true rfl) dX6_set_52 ⟨Nat.le_of_ble_eq_true rfl, Nat.le_of_ble_eq_true rfl⟩ (fun v9 u9 H locs hv hP hD hS => ?_)
          subst hv
          have hP : va_P D vwCl [(m0, .inr (6, [.ref m1, .ref m2, .ref m3, .int (nI k), .ref m4, .int (nI n), .int (nI 0), .int (nI ax), .int (nI fa), .int (nI vl), .ref m5, .int (nI tn), .int (nI hg), .int (nI bg)])), (m1, .inl (cI, 118, .inl (ro 118 s))), (m2, .inl (cI, 118, .inl (ro 118 h))), (m3, .inl (cI, 708, .inl (ro 708 (pkF t)))), (m4, .inl (cI, 60, .inl (ro 60 cs))), (m5, .inl (cI, 48, .inl (ro 48 td)))] H := hP
          have hD : va_D A9 [(m0, .inr (6, [.ref m1, .ref m2, .ref m3, .int (nI k), .ref m4, .int (nI n), .int (nI 0), .int (nI ax), .int (nI fa), .int (nI vl), .ref m5, .int (nI tn), .int (nI hg), .int (nI bg)])), (m1, .inl (cI, 118, .inl (ro 118 s))), (m2, .inl (cI, 118, .inl (ro 118 h))), (m3, .inl (cI, 708, .inl (ro 708 (pkF t)))), (m4, .inl (cI, 60, .inl (ro 60 cs))), (m5, .inl (cI, 48, .inl (ro 48 td)))] := hD
          refine W.eq (g2 := F0 m9 55 ls [.int (nI 1)]) rfl ?_
          refine q_fne (tgt := 64) (by omega) hx hb dX6_set_55 (by decide) (fun c_55 => ?_) (fun c_55 => ?_)
          ·
            refine lv_aload_n hx hb dX6_set_64 rfl (lv_at hl 0 rfl) ?_
            refine KM.callV (As := []) (rest := []) C0 hN (k_X6_saves l D cI cS cL m0 m1 m2 m3 m4 m5 k n 0 ax fa vl tn hg bg s t  (by first | with_reducible assumption | omega)) (cwV 0 hts gX6_set_X6_saves rfl rfl rfl (by decide +kernel) ⟨Nat.le_of_ble_eq_true rfl, Nat.le_of_ble_eq_true rfl⟩) hK hP hD hS hA [0, 1, 3] rfl (by decide) (fun _ => rfl) 0 6 rfl rfl rfl rfl hl.1 rfl (Nat.le_of_ble_eq_true rfl) dX6_set_65 ⟨Nat.le_of_ble_eq_true rfl, Nat.le_of_ble_eq_true rfl⟩ (fun v9 u9 H locs hv hP hD hS => ?_)
            subst hv
            have hP : va_P D vwCl [(m0, .inr (6, [.ref m1, .ref m2, .ref m3, .int (nI (kpK k)), .ref m4, .int (nI n), .int (nI 0), .int (nI ax), .int (nI fa), .int (nI vl), .ref m5, .int (nI tn), .int (nI hg), .int (nI bg)])), (m1, .inl (cI, 118, .inl (ro 118 s))), (m2, .inl (cI, 118, .inl (ro 118 h))), (m3, .inl (cI, 708, .inl (ro 708 (pkF (kpT k t s))))), (m4, .inl (cI, 60, .inl (ro 60 cs))), (m5, .inl (cI, 48, .inl (ro 48 td)))] H := hP
            have hD : va_D A9 [(m0, .inr (6, [.ref m1, .ref m2, .ref m3, .int (nI (kpK k)), .ref m4, .int (nI n), .int (nI 0), .int (nI ax), .int (nI fa), .int (nI vl), .ref m5, .int (nI tn), .int (nI hg), .int (nI bg)])), (m1, .inl (cI, 118, .inl (ro 118 s))), (m2, .inl (cI, 118, .inl (ro 118 h))), (m3, .inl (cI, 708, .inl (ro 708 (pkF (kpT k t s))))), (m4, .inl (cI, 60, .inl (ro 60 cs))), (m5, .inl (cI, 48, .inl (ro 48 td)))] := hD
            refine W.eq (g2 := F0 m9 68 ls []) rfl ?_
            refine lv_aload_n hx hb dX6_set_68 rfl (lv_at hl 0 rfl) ?_
            refine lv_iload_n hx hb dX6_set_69 rfl (lv_at hl 1 rfl) ?_
            refine lv_iload_n hx hb dX6_set_70 rfl (lv_at hl 2 rfl) ?_
            refine KM.callV (As := [.int (nI j), .int (nI z)]) (rest := []) C0 hN (k_X6_changes l D cI cS cL m0 m1 m2 m3 m4 m5 (kpK k) n 0 ax fa vl tn hg bg s j z  (by first | with_reducible assumption | omega)) (cwV 2 hts gX6_set_X6_changes rfl rfl rfl (by decide +kernel) ⟨Nat.le_of_ble_eq_true rfl, Nat.le_of_ble_eq_true rfl⟩) hK hP hD hS hA [0, 1] rfl (by decide) (fun _ => rfl) 0 6 rfl rfl rfl rfl hl.1 rfl (Nat.le_of_ble_eq_true rfl) dX6_set_71 ⟨Nat.le_of_ble_eq_true rfl, Nat.le_of_ble_eq_true rfl⟩ (fun v9 u9 H locs hv hP hD hS => ?_)
            subst hv
            have hP : va_P D vwCl [(m0, .inr (6, [.ref m1, .ref m2, .ref m3, .int (nI (kpK k)), .ref m4, .int (nI n), .int (nI 0), .int (nI ax), .int (nI fa), .int (nI vl), .ref m5, .int (nI tn), .int (nI hg), .int (nI bg)])), (m1, .inl (cI, 118, .inl (ro 118 (upN s j z)))), (m2, .inl (cI, 118, .inl (ro 118 h))), (m3, .inl (cI, 708, .inl (ro 708 (pkF (kpT k t s))))), (m4, .inl (cI, 60, .inl (ro 60 cs))), (m5, .inl (cI, 48, .inl (ro 48 td)))] H := hP
            have hD : va_D A9 [(m0, .inr (6, [.ref m1, .ref m2, .ref m3, .int (nI (kpK k)), .ref m4, .int (nI n), .int (nI 0), .int (nI ax), .int (nI fa), .int (nI vl), .ref m5, .int (nI tn), .int (nI hg), .int (nI bg)])), (m1, .inl (cI, 118, .inl (ro 118 (upN s j z)))), (m2, .inl (cI, 118, .inl (ro 118 h))), (m3, .inl (cI, 708, .inl (ro 708 (pkF (kpT k t s))))), (m4, .inl (cI, 60, .inl (ro 60 cs))), (m5, .inl (cI, 48, .inl (ro 48 td)))] := hD
            refine W.eq (g2 := F0 m9 74 ls [.int (nI (s j))]) rfl ?_
            exact hret _ _ _ _ (some (.int (nI (s j)))) () 74 ls (by decide) (by decide) (by rfl) hP hD hS (ret_i dX6_set_74)
          · exact absurd True.intro (by omega)
      ·
        refine lv_bipush (v := nI 20) hx hb dX6_set_35 (by decide +kernel) ?_
        refine lv_goto (tgt := 52) hx hb dX6_set_37 (by decide) ?_
        refine KM.callS (As := [.int (nI z), .int (nI 0), .int (nI 20)]) (rest := []) C0 hN (k_X6_in_ok l D cI cS cL z 0 20  (by have h9 := hz1; unfold leF at h9; (repeat' split at h9) <;> omega) (by have h9 := hz2; unfold moF at h9; (repeat' split at h9) <;> omega) (by first | with_reducible assumption | omega)) (va_cwS 3 hts gX6_set_X6_in rfl rfl rfl (by decide +kernel) ⟨Nat.le_of_ble_eq_true rfl, Nat.le_of_ble_eq_true rfl⟩) hK hP hD hS hA [] rfl (by decide) (fun _ => rfl) rfl hl.1 rfl (Nat.le_of_ble_eq_true rfl) dX6_set_52 ⟨Nat.le_of_ble_eq_true rfl, Nat.le_of_ble_eq_true rfl⟩ (fun v9 u9 H locs hv hP hD hS => ?_)
        subst hv
        have hP : va_P D vwCl [(m0, .inr (6, [.ref m1, .ref m2, .ref m3, .int (nI k), .ref m4, .int (nI n), .int (nI 0), .int (nI ax), .int (nI fa), .int (nI vl), .ref m5, .int (nI tn), .int (nI hg), .int (nI bg)])), (m1, .inl (cI, 118, .inl (ro 118 s))), (m2, .inl (cI, 118, .inl (ro 118 h))), (m3, .inl (cI, 708, .inl (ro 708 (pkF t)))), (m4, .inl (cI, 60, .inl (ro 60 cs))), (m5, .inl (cI, 48, .inl (ro 48 td)))] H := hP
        have hD : va_D A9 [(m0, .inr (6, [.ref m1, .ref m2, .ref m3, .int (nI k), .ref m4, .int (nI n), .int (nI 0), .int (nI ax), .int (nI fa), .int (nI vl), .ref m5, .int (nI tn), .int (nI hg), .int (nI bg)])), (m1, .inl (cI, 118, .inl (ro 118 s))), (m2, .inl (cI, 118, .inl (ro 118 h))), (m3, .inl (cI, 708, .inl (ro 708 (pkF t)))), (m4, .inl (cI, 60, .inl (ro 60 cs))), (m5, .inl (cI, 48, .inl (ro 48 td)))] := hD
        refine W.eq (g2 := F0 m9 55 ls [.int (nI 1)]) rfl ?_
        refine q_fne (tgt := 64) (by omega) hx hb dX6_set_55 (by decide) (fun c_55 => ?_) (fun c_55 => ?_)
        ·
          refine lv_aload_n hx hb dX6_set_64 rfl (lv_at hl 0 rfl) ?_
          refine KM.callV (As := []) (rest := []) C0 hN (k_X6_saves l D cI cS cL m0 m1 m2 m3 m4 m5 k n 0 ax fa vl tn hg bg s t  (by first | with_reducible assumption | omega)) (cwV 0 hts gX6_set_X6_saves rfl rfl rfl (by decide +kernel) ⟨Nat.le_of_ble_eq_true rfl, Nat.le_of_ble_eq_true rfl⟩) hK hP hD hS hA [0, 1, 3] rfl (by decide) (fun _ => rfl) 0 6 rfl rfl rfl rfl hl.1 rfl (Nat.le_of_ble_eq_true rfl) dX6_set_65 ⟨Nat.le_of_ble_eq_true rfl, Nat.le_of_ble_eq_true rfl⟩ (fun v9 u9 H locs hv hP hD hS => ?_)
          subst hv
          have hP : va_P D vwCl [(m0, .inr (6, [.ref m1, .ref m2, .ref m3, .int (nI (kpK k)), .ref m4, .int (nI n), .int (nI 0), .int (nI ax), .int (nI fa), .int (nI vl), .ref m5, .int (nI tn), .int (nI hg), .int (nI bg)])), (m1, .inl (cI, 118, .inl (ro 118 s))), (m2, .inl (cI, 118, .inl (ro 118 h))), (m3, .inl (cI, 708, .inl (ro 708 (pkF (kpT k t s))))), (m4, .inl (cI, 60, .inl (ro 60 cs))), (m5, .inl (cI, 48, .inl (ro 48 td)))] H := hP
          have hD : va_D A9 [(m0, .inr (6, [.ref m1, .ref m2, .ref m3, .int (nI (kpK k)), .ref m4, .int (nI n), .int (nI 0), .int (nI ax), .int (nI fa), .int (nI vl), .ref m5, .int (nI tn), .int (nI hg), .int (nI bg)])), (m1, .inl (cI, 118, .inl (ro 118 s))), (m2, .inl (cI, 118, .inl (ro 118 h))), (m3, .inl (cI, 708, .inl (ro 708 (pkF (kpT k t s))))), (m4, .inl (cI, 60, .inl (ro 60 cs))), (m5, .inl (cI, 48, .inl (ro 48 td)))] := hD
          refine W.eq (g2 := F0 m9 68 ls []) rfl ?_
          refine lv_aload_n hx hb dX6_set_68 rfl (lv_at hl 0 rfl) ?_
          refine lv_iload_n hx hb dX6_set_69 rfl (lv_at hl 1 rfl) ?_
          refine lv_iload_n hx hb dX6_set_70 rfl (lv_at hl 2 rfl) ?_
          refine KM.callV (As := [.int (nI j), .int (nI z)]) (rest := []) C0 hN (k_X6_changes l D cI cS cL m0 m1 m2 m3 m4 m5 (kpK k) n 0 ax fa vl tn hg bg s j z  (by first | with_reducible assumption | omega)) (cwV 2 hts gX6_set_X6_changes rfl rfl rfl (by decide +kernel) ⟨Nat.le_of_ble_eq_true rfl, Nat.le_of_ble_eq_true rfl⟩) hK hP hD hS hA [0, 1] rfl (by decide) (fun _ => rfl) 0 6 rfl rfl rfl rfl hl.1 rfl (Nat.le_of_ble_eq_true rfl) dX6_set_71 ⟨Nat.le_of_ble_eq_true rfl, Nat.le_of_ble_eq_true rfl⟩ (fun v9 u9 H locs hv hP hD hS => ?_)
          subst hv
          have hP : va_P D vwCl [(m0, .inr (6, [.ref m1, .ref m2, .ref m3, .int (nI (kpK k)), .ref m4, .int (nI n), .int (nI 0), .int (nI ax), .int (nI fa), .int (nI vl), .ref m5, .int (nI tn), .int (nI hg), .int (nI bg)])), (m1, .inl (cI, 118, .inl (ro 118 (upN s j z)))), (m2, .inl (cI, 118, .inl (ro 118 h))), (m3, .inl (cI, 708, .inl (ro 708 (pkF (kpT k t s))))), (m4, .inl (cI, 60, .inl (ro 60 cs))), (m5, .inl (cI, 48, .inl (ro 48 td)))] H := hP
          have hD : va_D A9 [(m0, .inr (6, [.ref m1, .ref m2, .ref m3, .int (nI (kpK k)), .ref m4, .int (nI n), .int (nI 0), .int (nI ax), .int (nI fa), .int (nI vl), .ref m5, .int (nI tn), .int (nI hg), .int (nI bg)])), (m1, .inl (cI, 118, .inl (ro 118 (upN s j z)))), (m2, .inl (cI, 118, .inl (ro 118 h))), (m3, .inl (cI, 708, .inl (ro 708 (pkF (kpT k t s))))), (m4, .inl (cI, 60, .inl (ro 60 cs))), (m5, .inl (cI, 48, .inl (ro 48 td)))] := hD
          refine W.eq (g2 := F0 m9 74 ls [.int (nI (s j))]) rfl ?_
          exact hret _ _ _ _ (some (.int (nI (s j)))) () 74 ls (by decide) (by decide) (by rfl) hP hD hS (ret_i dX6_set_74)
        · exact absurd True.intro (by omega)
    ·
      refine lv_iconst (v := nI 1) hx hb dX6_set_26 (by decide +kernel) ?_
      refine lv_goto (tgt := 31) hx hb dX6_set_27 (by decide) ?_
      refine lv_iload_n hx hb dX6_set_31 rfl (lv_at hl 1 rfl) ?_
      refine q_fne (tgt := 40) (by omega) hx hb dX6_set_32 (by decide) (fun c_32 => ?_) (fun c_32 => ?_)
      ·
        refine lv_iload_n hx hb dX6_set_40 rfl (lv_at hl 1 rfl) ?_
        refine lv_iconst (v := nI 1) hx hb dX6_set_41 (by decide +kernel) ?_
        refine q_ine (tgt := 50) (by omega) (by omega) hx hb dX6_set_42 (by decide) (fun c_42 => ?_) (fun c_42 => ?_)
        ·
          refine lv_bipush (v := nI 10) hx hb dX6_set_50 (by decide +kernel) ?_
          refine KM.callS (As := [.int (nI z), .int (nI 1), .int (nI 10)]) (rest := []) C0 hN (k_X6_in_ok l D cI cS cL z 1 10  (by have h9 := hz1; unfold leF at h9; (repeat' split at h9) <;> omega) (by have h9 := hz2; unfold moF at h9; (repeat' split at h9) <;> omega) (by first | with_reducible assumption | omega)) (va_cwS 3 hts gX6_set_X6_in rfl rfl rfl (by decide +kernel) ⟨Nat.le_of_ble_eq_true rfl, Nat.le_of_ble_eq_true rfl⟩) hK hP hD hS hA [] rfl (by decide) (fun _ => rfl) rfl hl.1 rfl (Nat.le_of_ble_eq_true rfl) dX6_set_52 ⟨Nat.le_of_ble_eq_true rfl, Nat.le_of_ble_eq_true rfl⟩ (fun v9 u9 H locs hv hP hD hS => ?_)
          subst hv
          have hP : va_P D vwCl [(m0, .inr (6, [.ref m1, .ref m2, .ref m3, .int (nI k), .ref m4, .int (nI n), .int (nI 0), .int (nI ax), .int (nI fa), .int (nI vl), .ref m5, .int (nI tn), .int (nI hg), .int (nI bg)])), (m1, .inl (cI, 118, .inl (ro 118 s))), (m2, .inl (cI, 118, .inl (ro 118 h))), (m3, .inl (cI, 708, .inl (ro 708 (pkF t)))), (m4, .inl (cI, 60, .inl (ro 60 cs))), (m5, .inl (cI, 48, .inl (ro 48 td)))] H := hP
          have hD : va_D A9 [(m0, .inr (6, [.ref m1, .ref m2, .ref m3, .int (nI k), .ref m4, .int (nI n), .int (nI 0), .int (nI ax), .int (nI fa), .int (nI vl), .ref m5, .int (nI tn), .int (nI hg), .int (nI bg)])), (m1, .inl (cI, 118, .inl (ro 118 s))), (m2, .inl (cI, 118, .inl (ro 118 h))), (m3, .inl (cI, 708, .inl (ro 708 (pkF t)))), (m4, .inl (cI, 60, .inl (ro 60 cs))), (m5, .inl (cI, 48, .inl (ro 48 td)))] := hD
          refine W.eq (g2 := F0 m9 55 ls [.int (nI 1)]) rfl ?_
          refine q_fne (tgt := 64) (by omega) hx hb dX6_set_55 (by decide) (fun c_55 => ?_) (fun c_55 => ?_)
          ·
            refine lv_aload_n hx hb dX6_set_64 rfl (lv_at hl 0 rfl) ?_
            refine KM.callV (As := []) (rest := []) C0 hN (k_X6_saves l D cI cS cL m0 m1 m2 m3 m4 m5 k n 0 ax fa vl tn hg bg s t  (by first | with_reducible assumption | omega)) (cwV 0 hts gX6_set_X6_saves rfl rfl rfl (by decide +kernel) ⟨Nat.le_of_ble_eq_true rfl, Nat.le_of_ble_eq_true rfl⟩) hK hP hD hS hA [0, 1, 3] rfl (by decide) (fun _ => rfl) 0 6 rfl rfl rfl rfl hl.1 rfl (Nat.le_of_ble_eq_true rfl) dX6_set_65 ⟨Nat.le_of_ble_eq_true rfl, Nat.le_of_ble_eq_true rfl⟩ (fun v9 u9 H locs hv hP hD hS => ?_)
            subst hv
            have hP : va_P D vwCl [(m0, .inr (6, [.ref m1, .ref m2, .ref m3, .int (nI (kpK k)), .ref m4, .int (nI n), .int (nI 0), .int (nI ax), .int (nI fa), .int (nI vl), .ref m5, .int (nI tn), .int (nI hg), .int (nI bg)])), (m1, .inl (cI, 118, .inl (ro 118 s))), (m2, .inl (cI, 118, .inl (ro 118 h))), (m3, .inl (cI, 708, .inl (ro 708 (pkF (kpT k t s))))), (m4, .inl (cI, 60, .inl (ro 60 cs))), (m5, .inl (cI, 48, .inl (ro 48 td)))] H := hP
            have hD : va_D A9 [(m0, .inr (6, [.ref m1, .ref m2, .ref m3, .int (nI (kpK k)), .ref m4, .int (nI n), .int (nI 0), .int (nI ax), .int (nI fa), .int (nI vl), .ref m5, .int (nI tn), .int (nI hg), .int (nI bg)])), (m1, .inl (cI, 118, .inl (ro 118 s))), (m2, .inl (cI, 118, .inl (ro 118 h))), (m3, .inl (cI, 708, .inl (ro 708 (pkF (kpT k t s))))), (m4, .inl (cI, 60, .inl (ro 60 cs))), (m5, .inl (cI, 48, .inl (ro 48 td)))] := hD
            refine W.eq (g2 := F0 m9 68 ls []) rfl ?_
            refine lv_aload_n hx hb dX6_set_68 rfl (lv_at hl 0 rfl) ?_
            refine lv_iload_n hx hb dX6_set_69 rfl (lv_at hl 1 rfl) ?_
            refine lv_iload_n hx hb dX6_set_70 rfl (lv_at hl 2 rfl) ?_
            refine KM.callV (As := [.int (nI j), .int (nI z)]) (rest := []) C0 hN (k_X6_changes l D cI cS cL m0 m1 m2 m3 m4 m5 (kpK k) n 0 ax fa vl tn hg bg s j z  (by first | with_reducible assumption | omega)) (cwV 2 hts gX6_set_X6_changes rfl rfl rfl (by decide +kernel) ⟨Nat.le_of_ble_eq_true rfl, Nat.le_of_ble_eq_true rfl⟩) hK hP hD hS hA [0, 1] rfl (by decide) (fun _ => rfl) 0 6 rfl rfl rfl rfl hl.1 rfl (Nat.le_of_ble_eq_true rfl) dX6_set_71 ⟨Nat.le_of_ble_eq_true rfl, Nat.le_of_ble_eq_true rfl⟩ (fun v9 u9 H locs hv hP hD hS => ?_)
            subst hv
            have hP : va_P D vwCl [(m0, .inr (6, [.ref m1, .ref m2, .ref m3, .int (nI (kpK k)), .ref m4, .int (nI n), .int (nI 0), .int (nI ax), .int (nI fa), .int (nI vl), .ref m5, .int (nI tn), .int (nI hg), .int (nI bg)])), (m1, .inl (cI, 118, .inl (ro 118 (upN s j z)))), (m2, .inl (cI, 118, .inl (ro 118 h))), (m3, .inl (cI, 708, .inl (ro 708 (pkF (kpT k t s))))), (m4, .inl (cI, 60, .inl (ro 60 cs))), (m5, .inl (cI, 48, .inl (ro 48 td)))] H := hP
            have hD : va_D A9 [(m0, .inr (6, [.ref m1, .ref m2, .ref m3, .int (nI (kpK k)), .ref m4, .int (nI n), .int (nI 0), .int (nI ax), .int (nI fa), .int (nI vl), .ref m5, .int (nI tn), .int (nI hg), .int (nI bg)])), (m1, .inl (cI, 118, .inl (ro 118 (upN s j z)))), (m2, .inl (cI, 118, .inl (ro 118 h))), (m3, .inl (cI, 708, .inl (ro 708 (pkF (kpT k t s))))), (m4, .inl (cI, 60, .inl (ro 60 cs))), (m5, .inl (cI, 48, .inl (ro 48 td)))] := hD
            refine W.eq (g2 := F0 m9 74 ls [.int (nI (s j))]) rfl ?_
            exact hret _ _ _ _ (some (.int (nI (s j)))) () 74 ls (by decide) (by decide) (by rfl) hP hD hS (ret_i dX6_set_74)
          · exact absurd True.intro (by omega)
        ·
          refine lv_bipush (v := nI 50) hx hb dX6_set_45 (by decide +kernel) ?_
          refine lv_goto (tgt := 52) hx hb dX6_set_47 (by decide) ?_
          refine KM.callS (As := [.int (nI z), .int (nI 1), .int (nI 50)]) (rest := []) C0 hN (k_X6_in_ok l D cI cS cL z 1 50  (by have h9 := hz1; unfold leF at h9; (repeat' split at h9) <;> omega) (by have h9 := hz2; unfold moF at h9; (repeat' split at h9) <;> omega) (by first | with_reducible assumption | omega)) (va_cwS 3 hts gX6_set_X6_in rfl rfl rfl (by decide +kernel) ⟨Nat.le_of_ble_eq_true rfl, Nat.le_of_ble_eq_true rfl⟩) hK hP hD hS hA [] rfl (by decide) (fun _ => rfl) rfl hl.1 rfl (Nat.le_of_ble_eq_true rfl) dX6_set_52 ⟨Nat.le_of_ble_eq_true rfl, Nat.le_of_ble_eq_true rfl⟩ (fun v9 u9 H locs hv hP hD hS => ?_)
          subst hv
          have hP : va_P D vwCl [(m0, .inr (6, [.ref m1, .ref m2, .ref m3, .int (nI k), .ref m4, .int (nI n), .int (nI 0), .int (nI ax), .int (nI fa), .int (nI vl), .ref m5, .int (nI tn), .int (nI hg), .int (nI bg)])), (m1, .inl (cI, 118, .inl (ro 118 s))), (m2, .inl (cI, 118, .inl (ro 118 h))), (m3, .inl (cI, 708, .inl (ro 708 (pkF t)))), (m4, .inl (cI, 60, .inl (ro 60 cs))), (m5, .inl (cI, 48, .inl (ro 48 td)))] H := hP
          have hD : va_D A9 [(m0, .inr (6, [.ref m1, .ref m2, .ref m3, .int (nI k), .ref m4, .int (nI n), .int (nI 0), .int (nI ax), .int (nI fa), .int (nI vl), .ref m5, .int (nI tn), .int (nI hg), .int (nI bg)])), (m1, .inl (cI, 118, .inl (ro 118 s))), (m2, .inl (cI, 118, .inl (ro 118 h))), (m3, .inl (cI, 708, .inl (ro 708 (pkF t)))), (m4, .inl (cI, 60, .inl (ro 60 cs))), (m5, .inl (cI, 48, .inl (ro 48 td)))] := hD
          refine W.eq (g2 := F0 m9 55 ls [.int (nI 1)]) rfl ?_
          refine q_fne (tgt := 64) (by omega) hx hb dX6_set_55 (by decide) (fun c_55 => ?_) (fun c_55 => ?_)
          ·
            refine lv_aload_n hx hb dX6_set_64 rfl (lv_at hl 0 rfl) ?_
            refine KM.callV (As := []) (rest := []) C0 hN (k_X6_saves l D cI cS cL m0 m1 m2 m3 m4 m5 k n 0 ax fa vl tn hg bg s t  (by first | with_reducible assumption | omega)) (cwV 0 hts gX6_set_X6_saves rfl rfl rfl (by decide +kernel) ⟨Nat.le_of_ble_eq_true rfl, Nat.le_of_ble_eq_true rfl⟩) hK hP hD hS hA [0, 1, 3] rfl (by decide) (fun _ => rfl) 0 6 rfl rfl rfl rfl hl.1 rfl (Nat.le_of_ble_eq_true rfl) dX6_set_65 ⟨Nat.le_of_ble_eq_true rfl, Nat.le_of_ble_eq_true rfl⟩ (fun v9 u9 H locs hv hP hD hS => ?_)
            subst hv
            have hP : va_P D vwCl [(m0, .inr (6, [.ref m1, .ref m2, .ref m3, .int (nI (kpK k)), .ref m4, .int (nI n), .int (nI 0), .int (nI ax), .int (nI fa), .int (nI vl), .ref m5, .int (nI tn), .int (nI hg), .int (nI bg)])), (m1, .inl (cI, 118, .inl (ro 118 s))), (m2, .inl (cI, 118, .inl (ro 118 h))), (m3, .inl (cI, 708, .inl (ro 708 (pkF (kpT k t s))))), (m4, .inl (cI, 60, .inl (ro 60 cs))), (m5, .inl (cI, 48, .inl (ro 48 td)))] H := hP
            have hD : va_D A9 [(m0, .inr (6, [.ref m1, .ref m2, .ref m3, .int (nI (kpK k)), .ref m4, .int (nI n), .int (nI 0), .int (nI ax), .int (nI fa), .int (nI vl), .ref m5, .int (nI tn), .int (nI hg), .int (nI bg)])), (m1, .inl (cI, 118, .inl (ro 118 s))), (m2, .inl (cI, 118, .inl (ro 118 h))), (m3, .inl (cI, 708, .inl (ro 708 (pkF (kpT k t s))))), (m4, .inl (cI, 60, .inl (ro 60 cs))), (m5, .inl (cI, 48, .inl (ro 48 td)))] := hD
            refine W.eq (g2 := F0 m9 68 ls []) rfl ?_
            refine lv_aload_n hx hb dX6_set_68 rfl (lv_at hl 0 rfl) ?_
            refine lv_iload_n hx hb dX6_set_69 rfl (lv_at hl 1 rfl) ?_
            refine lv_iload_n hx hb dX6_set_70 rfl (lv_at hl 2 rfl) ?_
            refine KM.callV (As := [.int (nI j), .int (nI z)]) (rest := []) C0 hN (k_X6_changes l D cI cS cL m0 m1 m2 m3 m4 m5 (kpK k) n 0 ax fa vl tn hg bg s j z  (by first | with_reducible assumption | omega)) (cwV 2 hts gX6_set_X6_changes rfl rfl rfl (by decide +kernel) ⟨Nat.le_of_ble_eq_true rfl, Nat.le_of_ble_eq_true rfl⟩) hK hP hD hS hA [0, 1] rfl (by decide) (fun _ => rfl) 0 6 rfl rfl rfl rfl hl.1 rfl (Nat.le_of_ble_eq_true rfl) dX6_set_71 ⟨Nat.le_of_ble_eq_true rfl, Nat.le_of_ble_eq_true rfl⟩ (fun v9 u9 H locs hv hP hD hS => ?_)
            subst hv
            have hP : va_P D vwCl [(m0, .inr (6, [.ref m1, .ref m2, .ref m3, .int (nI (kpK k)), .ref m4, .int (nI n), .int (nI 0), .int (nI ax), .int (nI fa), .int (nI vl), .ref m5, .int (nI tn), .int (nI hg), .int (nI bg)])), (m1, .inl (cI, 118, .inl (ro 118 (upN s j z)))), (m2, .inl (cI, 118, .inl (ro 118 h))), (m3, .inl (cI, 708, .inl (ro 708 (pkF (kpT k t s))))), (m4, .inl (cI, 60, .inl (ro 60 cs))), (m5, .inl (cI, 48, .inl (ro 48 td)))] H := hP
            have hD : va_D A9 [(m0, .inr (6, [.ref m1, .ref m2, .ref m3, .int (nI (kpK k)), .ref m4, .int (nI n), .int (nI 0), .int (nI ax), .int (nI fa), .int (nI vl), .ref m5, .int (nI tn), .int (nI hg), .int (nI bg)])), (m1, .inl (cI, 118, .inl (ro 118 (upN s j z)))), (m2, .inl (cI, 118, .inl (ro 118 h))), (m3, .inl (cI, 708, .inl (ro 708 (pkF (kpT k t s))))), (m4, .inl (cI, 60, .inl (ro 60 cs))), (m5, .inl (cI, 48, .inl (ro 48 td)))] := hD
            refine W.eq (g2 := F0 m9 74 ls [.int (nI (s j))]) rfl ?_
            exact hret _ _ _ _ (some (.int (nI (s j)))) () 74 ls (by decide) (by decide) (by rfl) hP hD hS (ret_i dX6_set_74)
          · exact absurd True.intro (by omega)
      ·
        refine lv_bipush (v := nI 20) hx hb dX6_set_35 (by decide +kernel) ?_
        refine lv_goto (tgt := 52) hx hb dX6_set_37 (by decide) ?_
        refine KM.callS (As := [.int (nI z), .int (nI 1), .int (nI 20)]) (rest := []) C0 hN (k_X6_in_ok l D cI cS cL z 1 20  (by have h9 := hz1; unfold leF at h9; (repeat' split at h9) <;> omega) (by have h9 := hz2; unfold moF at h9; (repeat' split at h9) <;> omega) (by first | with_reducible assumption | omega)) (va_cwS 3 hts gX6_set_X6_in rfl rfl rfl (by decide +kernel) ⟨Nat.le_of_ble_eq_true rfl, Nat.le_of_ble_eq_true rfl⟩) hK hP hD hS hA [] rfl (by decide) (fun _ => rfl) rfl hl.1 rfl (Nat.le_of_ble_eq_true rfl) dX6_set_52 ⟨Nat.le_of_ble_eq_true rfl, Nat.le_of_ble_eq_true rfl⟩ (fun v9 u9 H locs hv hP hD hS => ?_)
        subst hv
        have hP : va_P D vwCl [(m0, .inr (6, [.ref m1, .ref m2, .ref m3, .int (nI k), .ref m4, .int (nI n), .int (nI 0), .int (nI ax), .int (nI fa), .int (nI vl), .ref m5, .int (nI tn), .int (nI hg), .int (nI bg)])), (m1, .inl (cI, 118, .inl (ro 118 s))), (m2, .inl (cI, 118, .inl (ro 118 h))), (m3, .inl (cI, 708, .inl (ro 708 (pkF t)))), (m4, .inl (cI, 60, .inl (ro 60 cs))), (m5, .inl (cI, 48, .inl (ro 48 td)))] H := hP
        have hD : va_D A9 [(m0, .inr (6, [.ref m1, .ref m2, .ref m3, .int (nI k), .ref m4, .int (nI n), .int (nI 0), .int (nI ax), .int (nI fa), .int (nI vl), .ref m5, .int (nI tn), .int (nI hg), .int (nI bg)])), (m1, .inl (cI, 118, .inl (ro 118 s))), (m2, .inl (cI, 118, .inl (ro 118 h))), (m3, .inl (cI, 708, .inl (ro 708 (pkF t)))), (m4, .inl (cI, 60, .inl (ro 60 cs))), (m5, .inl (cI, 48, .inl (ro 48 td)))] := hD
        refine W.eq (g2 := F0 m9 55 ls [.int (nI 1)]) rfl ?_
        refine q_fne (tgt := 64) (by omega) hx hb dX6_set_55 (by decide) (fun c_55 => ?_) (fun c_55 => ?_)
        ·
          refine lv_aload_n hx hb dX6_set_64 rfl (lv_at hl 0 rfl) ?_
          refine KM.callV (As := []) (rest := []) C0 hN (k_X6_saves l D cI cS cL m0 m1 m2 m3 m4 m5 k n 0 ax fa vl tn hg bg s t  (by first | with_reducible assumption | omega)) (cwV 0 hts gX6_set_X6_saves rfl rfl rfl (by decide +kernel) ⟨Nat.le_of_ble_eq_true rfl, Nat.le_of_ble_eq_true rfl⟩) hK hP hD hS hA [0, 1, 3] rfl (by decide) (fun _ => rfl) 0 6 rfl rfl rfl rfl hl.1 rfl (Nat.le_of_ble_eq_true rfl) dX6_set_65 ⟨Nat.le_of_ble_eq_true rfl, Nat.le_of_ble_eq_true rfl⟩ (fun v9 u9 H locs hv hP hD hS => ?_)
          subst hv
          have hP : va_P D vwCl [(m0, .inr (6, [.ref m1, .ref m2, .ref m3, .int (nI (kpK k)), .ref m4, .int (nI n), .int (nI 0), .int (nI ax), .int (nI fa), .int (nI vl), .ref m5, .int (nI tn), .int (nI hg), .int (nI bg)])), (m1, .inl (cI, 118, .inl (ro 118 s))), (m2, .inl (cI, 118, .inl (ro 118 h))), (m3, .inl (cI, 708, .inl (ro 708 (pkF (kpT k t s))))), (m4, .inl (cI, 60, .inl (ro 60 cs))), (m5, .inl (cI, 48, .inl (ro 48 td)))] H := hP
          have hD : va_D A9 [(m0, .inr (6, [.ref m1, .ref m2, .ref m3, .int (nI (kpK k)), .ref m4, .int (nI n), .int (nI 0), .int (nI ax), .int (nI fa), .int (nI vl), .ref m5, .int (nI tn), .int (nI hg), .int (nI bg)])), (m1, .inl (cI, 118, .inl (ro 118 s))), (m2, .inl (cI, 118, .inl (ro 118 h))), (m3, .inl (cI, 708, .inl (ro 708 (pkF (kpT k t s))))), (m4, .inl (cI, 60, .inl (ro 60 cs))), (m5, .inl (cI, 48, .inl (ro 48 td)))] := hD
          refine W.eq (g2 := F0 m9 68 ls []) rfl ?_
          refine lv_aload_n hx hb dX6_set_68 rfl (lv_at hl 0 rfl) ?_
          refine lv_iload_n hx hb dX6_set_69 rfl (lv_at hl 1 rfl) ?_
          refine lv_iload_n hx hb dX6_set_70 rfl (lv_at hl 2 rfl) ?_
          refine KM.callV (As := [.int (nI j), .int (nI z)]) (rest := []) C0 hN (k_X6_changes l D cI cS cL m0 m1 m2 m3 m4 m5 (kpK k) n 0 ax fa vl tn hg bg s j z  (by first | with_reducible assumption | omega)) (cwV 2 hts gX6_set_X6_changes rfl rfl rfl (by decide +kernel) ⟨Nat.le_of_ble_eq_true rfl, Nat.le_of_ble_eq_true rfl⟩) hK hP hD hS hA [0, 1] rfl (by decide) (fun _ => rfl) 0 6 rfl rfl rfl rfl hl.1 rfl (Nat.le_of_ble_eq_true rfl) dX6_set_71 ⟨Nat.le_of_ble_eq_true rfl, Nat.le_of_ble_eq_true rfl⟩ (fun v9 u9 H locs hv hP hD hS => ?_)
          subst hv
          have hP : va_P D vwCl [(m0, .inr (6, [.ref m1, .ref m2, .ref m3, .int (nI (kpK k)), .ref m4, .int (nI n), .int (nI 0), .int (nI ax), .int (nI fa), .int (nI vl), .ref m5, .int (nI tn), .int (nI hg), .int (nI bg)])), (m1, .inl (cI, 118, .inl (ro 118 (upN s j z)))), (m2, .inl (cI, 118, .inl (ro 118 h))), (m3, .inl (cI, 708, .inl (ro 708 (pkF (kpT k t s))))), (m4, .inl (cI, 60, .inl (ro 60 cs))), (m5, .inl (cI, 48, .inl (ro 48 td)))] H := hP
          have hD : va_D A9 [(m0, .inr (6, [.ref m1, .ref m2, .ref m3, .int (nI (kpK k)), .ref m4, .int (nI n), .int (nI 0), .int (nI ax), .int (nI fa), .int (nI vl), .ref m5, .int (nI tn), .int (nI hg), .int (nI bg)])), (m1, .inl (cI, 118, .inl (ro 118 (upN s j z)))), (m2, .inl (cI, 118, .inl (ro 118 h))), (m3, .inl (cI, 708, .inl (ro 708 (pkF (kpT k t s))))), (m4, .inl (cI, 60, .inl (ro 60 cs))), (m5, .inl (cI, 48, .inl (ro 48 td)))] := hD
          refine W.eq (g2 := F0 m9 74 ls [.int (nI (s j))]) rfl ?_
          exact hret _ _ _ _ (some (.int (nI (s j)))) () 74 ls (by decide) (by decide) (by rfl) hP hD hS (ret_i dX6_set_74)
        · exact absurd True.intro (by omega)
  · exact absurd True.intro (by omega)

theorem in_X6_cue_ok_X6 : ∀ w ∈ wsX60, w ∈ wsX6_cue := by decide +kernel
theorem fl_X6_cue_ok_25 : Cond.fieldLink RX6 25 "FountainCuesModel" "thrown" "I" ∈ wsX6_cue := by decide +kernel
set_option maxHeartbeats 4000000 in
set_option maxRecDepth 100000 in
theorem k_X6_cue_ok (l : Launch) (D : va_G) (cI cS cL : ClassId) (T : Nat) (m0 : Nat) (m1 : Nat) (m2 : Nat) (m3 : Nat) (m4 : Nat) (m5 : Nat) (k : Nat) (n : Nat) (th : Nat) (ax : Nat) (fa : Nat) (vl : Nat) (tn : Nat) (hg : Nat) (bg : Nat) (s : Nat → Nat) (h : Nat → Nat) (t : Nat → Nat → Nat) (cs : Nat → Nat) (td : Nat → Nat) (q : Nat) (j : Nat) (x : Nat) (hI : sI T s) (hT : T ≤ 900000) (hk : k ≤ 6) (hn : n ≤ 60) (hcs : ∀ j, j < n → cs j < 2 ^ 31) (hq : q ≤ 999) (hj : j < 8) (hx2 : x ≤ 10) (hr : rS s q j x = 0) : KM l D (TY cI cS cL) yX6_cue wsX6_cue ({ frames := 3, cells := 0, slots := 0, locals := 71 } : Room) [(m0, .inr (6, [.ref m1, .ref m2, .ref m3, .int (nI k), .ref m4, .int (nI n), .int (nI th), .int (nI ax), .int (nI fa), .int (nI vl), .ref m5, .int (nI tn), .int (nI hg), .int (nI bg)])), (m1, .inl (cI, 118, .inl (ro 118 s))), (m2, .inl (cI, 118, .inl (ro 118 h))), (m3, .inl (cI, 708, .inl (ro 708 (pkF t)))), (m4, .inl (cI, 60, .inl (ro 60 cs))), (m5, .inl (cI, 48, .inl (ro 48 td)))] [.ref m0, .int (nI q), .int (nI j), .int (nI x)] (fun (v : Option Value) (_ : Unit) => v = some (.int (nI (s 9)))) (fun _ : Unit => [(m0, .inr (6, [.ref m1, .ref m2, .ref m3, .int (nI (kpK k)), .ref m4, .int (nI n), .int (nI 0), .int (nI ax), .int (nI fa), .int (nI vl), .ref m5, .int (nI tn), .int (nI hg), .int (nI bg)])), (m1, .inl (cI, 118, .inl (ro 118 (mAdd s q j x)))), (m2, .inl (cI, 118, .inl (ro 118 h))), (m3, .inl (cI, 708, .inl (ro 708 (pkF (kpT k t s))))), (m4, .inl (cI, 60, .inl (ro 60 cs))), (m5, .inl (cI, 48, .inl (ro 48 td)))]) := by
  refine KM.of (cc := cX6_cue) (maxL := 4) (ret := (some .int)) (by decide) rfl (Nat.le_of_ble_eq_true rfl) ?_
  intro p9 e9 s9 m9 ar9 be9 me9 c9 Q9 A9 ls C0 hN hnm hlk hK hA hret hP hD hS hl
  obtain ⟨hx, hb, hml, hown, hts⟩ := id C0
  have hl : lv_has ls 4 [(0, .ref m0), (1, .int (nI q)), (2, .int (nI j)), (3, .int (nI x))] := hl
  obtain ⟨H, hH0⟩ : ∃ H, H = s9.heap := ⟨_, rfl⟩
  obtain ⟨locs, hlc0⟩ : ∃ z : List Loc, z = [] := ⟨_, rfl⟩
  have hP : va_P D vwCl [(m0, .inr (6, [.ref m1, .ref m2, .ref m3, .int (nI k), .ref m4, .int (nI n), .int (nI th), .int (nI ax), .int (nI fa), .int (nI vl), .ref m5, .int (nI tn), .int (nI hg), .int (nI bg)])), (m1, .inl (cI, 118, .inl (ro 118 s))), (m2, .inl (cI, 118, .inl (ro 118 h))), (m3, .inl (cI, 708, .inl (ro 708 (pkF t)))), (m4, .inl (cI, 60, .inl (ro 60 cs))), (m5, .inl (cI, 48, .inl (ro 48 td)))] H := by rw [hH0]; exact hP
  have hD : va_D A9 [(m0, .inr (6, [.ref m1, .ref m2, .ref m3, .int (nI k), .ref m4, .int (nI n), .int (nI th), .int (nI ax), .int (nI fa), .int (nI vl), .ref m5, .int (nI tn), .int (nI hg), .int (nI bg)])), (m1, .inl (cI, 118, .inl (ro 118 s))), (m2, .inl (cI, 118, .inl (ro 118 h))), (m3, .inl (cI, 708, .inl (ro 708 (pkF t)))), (m4, .inl (cI, 60, .inl (ro 60 cs))), (m5, .inl (cI, 48, .inl (ro 48 td)))] := hD
  have hS : va_S A9 s9.heap H locs := by rw [hH0, hlc0]; exact hS
  suffices hgo : W p9 l e9 ({ frames := 3, cells := 0, slots := 0, locals := 71 } : Room) s9 m9 ar9 be9 me9 c9 H locs 0 0 Q9 (F0 m9 0 ls []) by rw [hH0, hlc0] at hgo; exact hgo
  clear hH0 hlc0
  obtain ⟨hI1, hI2, hI3, hI4, hI5, hI6, hI7, hI8, hI9, hI10, hI11⟩ := id hI
  have hr9 := rS_ok hr
  have hr8 : rS s q j x < 2 ^ 31 := rS_lt
  refine lv_aload_n hx hb dX6_cue_0 rfl (lv_at hl 0 rfl) ?_
  refine lv_iconst (v := nI 0) hx hb dX6_cue_1 (by decide +kernel) ?_
  refine va_put (D := D) (ci := 6) (v := .int (nI 0)) (ty := tyX6 6) (C := RX6) (T := TX6) (N := 14) hx hb hts in_X6_cue_ok_X6 tyX6 tyX6_ok nmX6 hown hK hP hD hS 0 rfl rfl 6 (by decide) (hts _ fl_X6_cue_ok_25) (fun _ h9 => h9) rfl (by decide +kernel) rfl rfl (Nat.le_of_ble_eq_true rfl) dX6_cue_2 (fun H locs hP hD hS => ?_)
  have hP : va_P D vwCl [(m0, .inr (6, [.ref m1, .ref m2, .ref m3, .int (nI k), .ref m4, .int (nI n), .int (nI 0), .int (nI ax), .int (nI fa), .int (nI vl), .ref m5, .int (nI tn), .int (nI hg), .int (nI bg)])), (m1, .inl (cI, 118, .inl (ro 118 s))), (m2, .inl (cI, 118, .inl (ro 118 h))), (m3, .inl (cI, 708, .inl (ro 708 (pkF t)))), (m4, .inl (cI, 60, .inl (ro 60 cs))), (m5, .inl (cI, 48, .inl (ro 48 td)))] H := hP
  have hD : va_D A9 [(m0, .inr (6, [.ref m1, .ref m2, .ref m3, .int (nI k), .ref m4, .int (nI n), .int (nI 0), .int (nI ax), .int (nI fa), .int (nI vl), .ref m5, .int (nI tn), .int (nI hg), .int (nI bg)])), (m1, .inl (cI, 118, .inl (ro 118 s))), (m2, .inl (cI, 118, .inl (ro 118 h))), (m3, .inl (cI, 708, .inl (ro 708 (pkF t)))), (m4, .inl (cI, 60, .inl (ro 60 cs))), (m5, .inl (cI, 48, .inl (ro 48 td)))] := hD
  refine lv_iload_n hx hb dX6_cue_5 rfl (lv_at hl 2 rfl) ?_
  refine KM.callS (As := [.int (nI j)]) (rest := []) C0 hN (k_X6_isJet_ok l D cI cS cL j  (by first | with_reducible assumption | omega)) (va_cwS 1 hts gX6_cue_X6_isJet rfl rfl rfl (by decide +kernel) ⟨Nat.le_of_ble_eq_true rfl, Nat.le_of_ble_eq_true rfl⟩) hK hP hD hS hA [] rfl (by decide) (fun _ => rfl) rfl hl.1 rfl (Nat.le_of_ble_eq_true rfl) dX6_cue_6 ⟨Nat.le_of_ble_eq_true rfl, Nat.le_of_ble_eq_true rfl⟩ (fun v9 u9 H locs hv hP hD hS => ?_)
  subst hv
  have hP : va_P D vwCl [(m0, .inr (6, [.ref m1, .ref m2, .ref m3, .int (nI k), .ref m4, .int (nI n), .int (nI 0), .int (nI ax), .int (nI fa), .int (nI vl), .ref m5, .int (nI tn), .int (nI hg), .int (nI bg)])), (m1, .inl (cI, 118, .inl (ro 118 s))), (m2, .inl (cI, 118, .inl (ro 118 h))), (m3, .inl (cI, 708, .inl (ro 708 (pkF t)))), (m4, .inl (cI, 60, .inl (ro 60 cs))), (m5, .inl (cI, 48, .inl (ro 48 td)))] H := hP
  have hD : va_D A9 [(m0, .inr (6, [.ref m1, .ref m2, .ref m3, .int (nI k), .ref m4, .int (nI n), .int (nI 0), .int (nI ax), .int (nI fa), .int (nI vl), .ref m5, .int (nI tn), .int (nI hg), .int (nI bg)])), (m1, .inl (cI, 118, .inl (ro 118 s))), (m2, .inl (cI, 118, .inl (ro 118 h))), (m3, .inl (cI, 708, .inl (ro 708 (pkF t)))), (m4, .inl (cI, 60, .inl (ro 60 cs))), (m5, .inl (cI, 48, .inl (ro 48 td)))] := hD
  refine W.eq (g2 := F0 m9 9 ls [.int (nI 1)]) rfl ?_
  refine q_fne (tgt := 18) (by omega) hx hb dX6_cue_9 (by decide) (fun c_9 => ?_) (fun c_9 => ?_)
  ·
    refine lv_iload_n hx hb dX6_cue_18 rfl (lv_at hl 1 rfl) ?_
    refine KM.callS (As := [.int (nI q)]) (rest := []) C0 hN (k_X6_isTick_ok l D cI cS cL q  (by first | with_reducible assumption | omega)) (va_cwS 1 hts gX6_cue_X6_isTick rfl rfl rfl (by decide +kernel) ⟨Nat.le_of_ble_eq_true rfl, Nat.le_of_ble_eq_true rfl⟩) hK hP hD hS hA [] rfl (by decide) (fun _ => rfl) rfl hl.1 rfl (Nat.le_of_ble_eq_true rfl) dX6_cue_19 ⟨Nat.le_of_ble_eq_true rfl, Nat.le_of_ble_eq_true rfl⟩ (fun v9 u9 H locs hv hP hD hS => ?_)
    subst hv
    have hP : va_P D vwCl [(m0, .inr (6, [.ref m1, .ref m2, .ref m3, .int (nI k), .ref m4, .int (nI n), .int (nI 0), .int (nI ax), .int (nI fa), .int (nI vl), .ref m5, .int (nI tn), .int (nI hg), .int (nI bg)])), (m1, .inl (cI, 118, .inl (ro 118 s))), (m2, .inl (cI, 118, .inl (ro 118 h))), (m3, .inl (cI, 708, .inl (ro 708 (pkF t)))), (m4, .inl (cI, 60, .inl (ro 60 cs))), (m5, .inl (cI, 48, .inl (ro 48 td)))] H := hP
    have hD : va_D A9 [(m0, .inr (6, [.ref m1, .ref m2, .ref m3, .int (nI k), .ref m4, .int (nI n), .int (nI 0), .int (nI ax), .int (nI fa), .int (nI vl), .ref m5, .int (nI tn), .int (nI hg), .int (nI bg)])), (m1, .inl (cI, 118, .inl (ro 118 s))), (m2, .inl (cI, 118, .inl (ro 118 h))), (m3, .inl (cI, 708, .inl (ro 708 (pkF t)))), (m4, .inl (cI, 60, .inl (ro 60 cs))), (m5, .inl (cI, 48, .inl (ro 48 td)))] := hD
    refine W.eq (g2 := F0 m9 22 ls [.int (nI 1)]) rfl ?_
    refine q_feq (tgt := 35) (by omega) hx hb dX6_cue_22 (by decide) (fun c_22 => ?_) (fun c_22 => ?_)
    · exact absurd True.intro (by omega)
    ·
      refine lv_iload_n hx hb dX6_cue_25 rfl (lv_at hl 3 rfl) ?_
      refine lv_iconst (v := nI 0) hx hb dX6_cue_26 (by decide +kernel) ?_
      refine lv_bipush (v := nI 10) hx hb dX6_cue_27 (by decide +kernel) ?_
      refine KM.callS (As := [.int (nI x), .int (nI 0), .int (nI 10)]) (rest := []) C0 hN (k_X6_in_ok l D cI cS cL x 0 10  (by first | with_reducible assumption | omega) (by first | with_reducible assumption | omega) (by first | with_reducible assumption | omega)) (va_cwS 3 hts gX6_cue_X6_in rfl rfl rfl (by decide +kernel) ⟨Nat.le_of_ble_eq_true rfl, Nat.le_of_ble_eq_true rfl⟩) hK hP hD hS hA [] rfl (by decide) (fun _ => rfl) rfl hl.1 rfl (Nat.le_of_ble_eq_true rfl) dX6_cue_29 ⟨Nat.le_of_ble_eq_true rfl, Nat.le_of_ble_eq_true rfl⟩ (fun v9 u9 H locs hv hP hD hS => ?_)
      subst hv
      have hP : va_P D vwCl [(m0, .inr (6, [.ref m1, .ref m2, .ref m3, .int (nI k), .ref m4, .int (nI n), .int (nI 0), .int (nI ax), .int (nI fa), .int (nI vl), .ref m5, .int (nI tn), .int (nI hg), .int (nI bg)])), (m1, .inl (cI, 118, .inl (ro 118 s))), (m2, .inl (cI, 118, .inl (ro 118 h))), (m3, .inl (cI, 708, .inl (ro 708 (pkF t)))), (m4, .inl (cI, 60, .inl (ro 60 cs))), (m5, .inl (cI, 48, .inl (ro 48 td)))] H := hP
      have hD : va_D A9 [(m0, .inr (6, [.ref m1, .ref m2, .ref m3, .int (nI k), .ref m4, .int (nI n), .int (nI 0), .int (nI ax), .int (nI fa), .int (nI vl), .ref m5, .int (nI tn), .int (nI hg), .int (nI bg)])), (m1, .inl (cI, 118, .inl (ro 118 s))), (m2, .inl (cI, 118, .inl (ro 118 h))), (m3, .inl (cI, 708, .inl (ro 708 (pkF t)))), (m4, .inl (cI, 60, .inl (ro 60 cs))), (m5, .inl (cI, 48, .inl (ro 48 td)))] := hD
      refine W.eq (g2 := F0 m9 32 ls [.int (nI 1)]) rfl ?_
      refine q_fne (tgt := 41) (by omega) hx hb dX6_cue_32 (by decide) (fun c_32 => ?_) (fun c_32 => ?_)
      ·
        refine lv_aload_n hx hb dX6_cue_41 rfl (lv_at hl 0 rfl) ?_
        refine lv_iload_n hx hb dX6_cue_42 rfl (lv_at hl 1 rfl) ?_
        refine lv_iload_n hx hb dX6_cue_43 rfl (lv_at hl 2 rfl) ?_
        refine lv_iload_n hx hb dX6_cue_44 rfl (lv_at hl 3 rfl) ?_
        refine KM.callV (As := [.int (nI q), .int (nI j), .int (nI x)]) (rest := []) C0 hN (k_X6_reason l D cI cS cL T m0 m1 m2 m3 m4 m5 k n 0 ax fa vl tn hg bg s q j x  (by first | with_reducible assumption | omega) (by omega) (by first | with_reducible assumption | omega) (by first | with_reducible assumption | omega) (by first | with_reducible assumption | omega)) (cwV 3 hts gX6_cue_X6_reason rfl rfl rfl (by decide +kernel) ⟨Nat.le_of_ble_eq_true rfl, Nat.le_of_ble_eq_true rfl⟩) hK hP hD hS hA [0, 1] rfl (by decide) (fun _ => rfl) 0 6 rfl rfl rfl rfl hl.1 rfl (Nat.le_of_ble_eq_true rfl) dX6_cue_45 ⟨Nat.le_of_ble_eq_true rfl, Nat.le_of_ble_eq_true rfl⟩ (fun v9 u9 H locs hv hP hD hS => ?_)
        subst hv
        have hP : va_P D vwCl [(m0, .inr (6, [.ref m1, .ref m2, .ref m3, .int (nI k), .ref m4, .int (nI n), .int (nI 0), .int (nI ax), .int (nI fa), .int (nI vl), .ref m5, .int (nI tn), .int (nI hg), .int (nI bg)])), (m1, .inl (cI, 118, .inl (ro 118 s))), (m2, .inl (cI, 118, .inl (ro 118 h))), (m3, .inl (cI, 708, .inl (ro 708 (pkF t)))), (m4, .inl (cI, 60, .inl (ro 60 cs))), (m5, .inl (cI, 48, .inl (ro 48 td)))] H := hP
        have hD : va_D A9 [(m0, .inr (6, [.ref m1, .ref m2, .ref m3, .int (nI k), .ref m4, .int (nI n), .int (nI 0), .int (nI ax), .int (nI fa), .int (nI vl), .ref m5, .int (nI tn), .int (nI hg), .int (nI bg)])), (m1, .inl (cI, 118, .inl (ro 118 s))), (m2, .inl (cI, 118, .inl (ro 118 h))), (m3, .inl (cI, 708, .inl (ro 708 (pkF t)))), (m4, .inl (cI, 60, .inl (ro 60 cs))), (m5, .inl (cI, 48, .inl (ro 48 td)))] := hD
        refine W.eq (g2 := F0 m9 48 ls [.int (nI (rS s q j x))]) rfl ?_
        refine q_feq (tgt := 57) (by omega) hx hb dX6_cue_48 (by decide) (fun c_48 => ?_) (fun c_48 => ?_)
        ·
          refine lv_aload_n hx hb dX6_cue_57 rfl (lv_at hl 0 rfl) ?_
          refine KM.callV (As := []) (rest := []) C0 hN (k_X6_saves l D cI cS cL m0 m1 m2 m3 m4 m5 k n 0 ax fa vl tn hg bg s t  (by first | with_reducible assumption | omega)) (cwV 0 hts gX6_cue_X6_saves rfl rfl rfl (by decide +kernel) ⟨Nat.le_of_ble_eq_true rfl, Nat.le_of_ble_eq_true rfl⟩) hK hP hD hS hA [0, 1, 3] rfl (by decide) (fun _ => rfl) 0 6 rfl rfl rfl rfl hl.1 rfl (Nat.le_of_ble_eq_true rfl) dX6_cue_58 ⟨Nat.le_of_ble_eq_true rfl, Nat.le_of_ble_eq_true rfl⟩ (fun v9 u9 H locs hv hP hD hS => ?_)
          subst hv
          have hP : va_P D vwCl [(m0, .inr (6, [.ref m1, .ref m2, .ref m3, .int (nI (kpK k)), .ref m4, .int (nI n), .int (nI 0), .int (nI ax), .int (nI fa), .int (nI vl), .ref m5, .int (nI tn), .int (nI hg), .int (nI bg)])), (m1, .inl (cI, 118, .inl (ro 118 s))), (m2, .inl (cI, 118, .inl (ro 118 h))), (m3, .inl (cI, 708, .inl (ro 708 (pkF (kpT k t s))))), (m4, .inl (cI, 60, .inl (ro 60 cs))), (m5, .inl (cI, 48, .inl (ro 48 td)))] H := hP
          have hD : va_D A9 [(m0, .inr (6, [.ref m1, .ref m2, .ref m3, .int (nI (kpK k)), .ref m4, .int (nI n), .int (nI 0), .int (nI ax), .int (nI fa), .int (nI vl), .ref m5, .int (nI tn), .int (nI hg), .int (nI bg)])), (m1, .inl (cI, 118, .inl (ro 118 s))), (m2, .inl (cI, 118, .inl (ro 118 h))), (m3, .inl (cI, 708, .inl (ro 708 (pkF (kpT k t s))))), (m4, .inl (cI, 60, .inl (ro 60 cs))), (m5, .inl (cI, 48, .inl (ro 48 td)))] := hD
          refine W.eq (g2 := F0 m9 61 ls []) rfl ?_
          refine lv_aload_n hx hb dX6_cue_61 rfl (lv_at hl 0 rfl) ?_
          refine lv_iload_n hx hb dX6_cue_62 rfl (lv_at hl 1 rfl) ?_
          refine lv_iload_n hx hb dX6_cue_63 rfl (lv_at hl 2 rfl) ?_
          refine lv_iload_n hx hb dX6_cue_64 rfl (lv_at hl 3 rfl) ?_
          refine KM.callV (As := [.int (nI q), .int (nI j), .int (nI x)]) (rest := []) C0 hN (k_X6_comes l D cI cS cL T m0 m1 m2 m3 m4 m5 (kpK k) n 0 ax fa vl tn hg bg s q j x  (by first | with_reducible assumption | omega) (by omega) (by first | with_reducible assumption | omega) (by first | with_reducible assumption | omega)) (cwV 3 hts gX6_cue_X6_comes rfl rfl rfl (by decide +kernel) ⟨Nat.le_of_ble_eq_true rfl, Nat.le_of_ble_eq_true rfl⟩) hK hP hD hS hA [0, 1] rfl (by decide) (fun _ => rfl) 0 6 rfl rfl rfl rfl hl.1 rfl (Nat.le_of_ble_eq_true rfl) dX6_cue_65 ⟨Nat.le_of_ble_eq_true rfl, Nat.le_of_ble_eq_true rfl⟩ (fun v9 u9 H locs hv hP hD hS => ?_)
          subst hv
          have hP : va_P D vwCl [(m0, .inr (6, [.ref m1, .ref m2, .ref m3, .int (nI (kpK k)), .ref m4, .int (nI n), .int (nI 0), .int (nI ax), .int (nI fa), .int (nI vl), .ref m5, .int (nI tn), .int (nI hg), .int (nI bg)])), (m1, .inl (cI, 118, .inl (ro 118 (mAdd s q j x)))), (m2, .inl (cI, 118, .inl (ro 118 h))), (m3, .inl (cI, 708, .inl (ro 708 (pkF (kpT k t s))))), (m4, .inl (cI, 60, .inl (ro 60 cs))), (m5, .inl (cI, 48, .inl (ro 48 td)))] H := hP
          have hD : va_D A9 [(m0, .inr (6, [.ref m1, .ref m2, .ref m3, .int (nI (kpK k)), .ref m4, .int (nI n), .int (nI 0), .int (nI ax), .int (nI fa), .int (nI vl), .ref m5, .int (nI tn), .int (nI hg), .int (nI bg)])), (m1, .inl (cI, 118, .inl (ro 118 (mAdd s q j x)))), (m2, .inl (cI, 118, .inl (ro 118 h))), (m3, .inl (cI, 708, .inl (ro 708 (pkF (kpT k t s))))), (m4, .inl (cI, 60, .inl (ro 60 cs))), (m5, .inl (cI, 48, .inl (ro 48 td)))] := hD
          refine W.eq (g2 := F0 m9 68 ls [.int (nI (s 9))]) rfl ?_
          exact hret _ _ _ _ (some (.int (nI (s 9)))) () 68 ls (by decide) (by decide) (by rfl) hP hD hS (ret_i dX6_cue_68)
        · exact absurd True.intro (by exact absurd hr c_48)
      · exact absurd True.intro (by omega)
  · exact absurd True.intro (by omega)

theorem in_X6_drop_ok_X6 : ∀ w ∈ wsX60, w ∈ wsX6_drop := by decide +kernel
theorem fl_X6_drop_ok_25 : Cond.fieldLink RX6 25 "FountainCuesModel" "thrown" "I" ∈ wsX6_drop := by decide +kernel
theorem fl_X6_drop_ok_7 : Cond.fieldLink RX6 7 "FountainCuesModel" "now" "[I" ∈ wsX6_drop := by decide +kernel
set_option maxHeartbeats 4000000 in
set_option maxRecDepth 100000 in
theorem k_X6_drop_ok (l : Launch) (D : va_G) (cI cS cL : ClassId) (T : Nat) (m0 : Nat) (m1 : Nat) (m2 : Nat) (m3 : Nat) (m4 : Nat) (m5 : Nat) (k : Nat) (n : Nat) (th : Nat) (ax : Nat) (fa : Nat) (vl : Nat) (tn : Nat) (hg : Nat) (bg : Nat) (s : Nat → Nat) (h : Nat → Nat) (t : Nat → Nat → Nat) (cs : Nat → Nat) (td : Nat → Nat) (x : Int32) (p : Nat) (hI : sI T s) (hT : T ≤ 900000) (hk : k ≤ 6) (hn : n ≤ 60) (hcs : ∀ j, j < n → cs j < 2 ^ 31) (hp : p < s 8) (hpx : nI (nuF s p) = x) : KM l D (TY cI cS cL) yX6_drop wsX6_drop ({ frames := 2, cells := 0, slots := 0, locals := 45 } : Room) [(m0, .inr (6, [.ref m1, .ref m2, .ref m3, .int (nI k), .ref m4, .int (nI n), .int (nI th), .int (nI ax), .int (nI fa), .int (nI vl), .ref m5, .int (nI tn), .int (nI hg), .int (nI bg)])), (m1, .inl (cI, 118, .inl (ro 118 s))), (m2, .inl (cI, 118, .inl (ro 118 h))), (m3, .inl (cI, 708, .inl (ro 708 (pkF t)))), (m4, .inl (cI, 60, .inl (ro 60 cs))), (m5, .inl (cI, 48, .inl (ro 48 td)))] [.ref m0, .int x] (fun (v : Option Value) (_ : Unit) => v = some (.int (nI (s 8 - 1)))) (fun _ : Unit => [(m0, .inr (6, [.ref m1, .ref m2, .ref m3, .int (nI (kpK k)), .ref m4, .int (nI n), .int (nI 0), .int (nI ax), .int (nI fa), .int (nI vl), .ref m5, .int (nI tn), .int (nI hg), .int (nI bg)])), (m1, .inl (cI, 118, .inl (ro 118 (mDrop s p)))), (m2, .inl (cI, 118, .inl (ro 118 h))), (m3, .inl (cI, 708, .inl (ro 708 (pkF (kpT k t s))))), (m4, .inl (cI, 60, .inl (ro 60 cs))), (m5, .inl (cI, 48, .inl (ro 48 td)))]) := by
  refine KM.of (cc := cX6_drop) (maxL := 4) (ret := (some .int)) (by decide) rfl (Nat.le_of_ble_eq_true rfl) ?_
  intro p9 e9 s9 m9 ar9 be9 me9 c9 Q9 A9 ls C0 hN hnm hlk hK hA hret hP hD hS hl
  obtain ⟨hx, hb, hml, hown, hts⟩ := id C0
  have hl : lv_has ls 4 [(0, .ref m0), (1, .int x)] := hl
  obtain ⟨H, hH0⟩ : ∃ H, H = s9.heap := ⟨_, rfl⟩
  obtain ⟨locs, hlc0⟩ : ∃ z : List Loc, z = [] := ⟨_, rfl⟩
  have hP : va_P D vwCl [(m0, .inr (6, [.ref m1, .ref m2, .ref m3, .int (nI k), .ref m4, .int (nI n), .int (nI th), .int (nI ax), .int (nI fa), .int (nI vl), .ref m5, .int (nI tn), .int (nI hg), .int (nI bg)])), (m1, .inl (cI, 118, .inl (ro 118 s))), (m2, .inl (cI, 118, .inl (ro 118 h))), (m3, .inl (cI, 708, .inl (ro 708 (pkF t)))), (m4, .inl (cI, 60, .inl (ro 60 cs))), (m5, .inl (cI, 48, .inl (ro 48 td)))] H := by rw [hH0]; exact hP
  have hD : va_D A9 [(m0, .inr (6, [.ref m1, .ref m2, .ref m3, .int (nI k), .ref m4, .int (nI n), .int (nI th), .int (nI ax), .int (nI fa), .int (nI vl), .ref m5, .int (nI tn), .int (nI hg), .int (nI bg)])), (m1, .inl (cI, 118, .inl (ro 118 s))), (m2, .inl (cI, 118, .inl (ro 118 h))), (m3, .inl (cI, 708, .inl (ro 708 (pkF t)))), (m4, .inl (cI, 60, .inl (ro 60 cs))), (m5, .inl (cI, 48, .inl (ro 48 td)))] := hD
  have hS : va_S A9 s9.heap H locs := by rw [hH0, hlc0]; exact hS
  suffices hgo : W p9 l e9 ({ frames := 2, cells := 0, slots := 0, locals := 45 } : Room) s9 m9 ar9 be9 me9 c9 H locs 0 0 Q9 (F0 m9 0 ls []) by rw [hH0, hlc0] at hgo; exact hgo
  clear hH0 hlc0
  obtain ⟨hI1, hI2, hI3, hI4, hI5, hI6, hI7, hI8, hI9, hI10, hI11⟩ := id hI
  refine lv_aload_n hx hb dX6_drop_0 rfl (lv_at hl 0 rfl) ?_
  refine lv_iconst (v := nI 0) hx hb dX6_drop_1 (by decide +kernel) ?_
  refine va_put (D := D) (ci := 6) (v := .int (nI 0)) (ty := tyX6 6) (C := RX6) (T := TX6) (N := 14) hx hb hts in_X6_drop_ok_X6 tyX6 tyX6_ok nmX6 hown hK hP hD hS 0 rfl rfl 6 (by decide) (hts _ fl_X6_drop_ok_25) (fun _ h9 => h9) rfl (by decide +kernel) rfl rfl (Nat.le_of_ble_eq_true rfl) dX6_drop_2 (fun H locs hP hD hS => ?_)
  have hP : va_P D vwCl [(m0, .inr (6, [.ref m1, .ref m2, .ref m3, .int (nI k), .ref m4, .int (nI n), .int (nI 0), .int (nI ax), .int (nI fa), .int (nI vl), .ref m5, .int (nI tn), .int (nI hg), .int (nI bg)])), (m1, .inl (cI, 118, .inl (ro 118 s))), (m2, .inl (cI, 118, .inl (ro 118 h))), (m3, .inl (cI, 708, .inl (ro 708 (pkF t)))), (m4, .inl (cI, 60, .inl (ro 60 cs))), (m5, .inl (cI, 48, .inl (ro 48 td)))] H := hP
  have hD : va_D A9 [(m0, .inr (6, [.ref m1, .ref m2, .ref m3, .int (nI k), .ref m4, .int (nI n), .int (nI 0), .int (nI ax), .int (nI fa), .int (nI vl), .ref m5, .int (nI tn), .int (nI hg), .int (nI bg)])), (m1, .inl (cI, 118, .inl (ro 118 s))), (m2, .inl (cI, 118, .inl (ro 118 h))), (m3, .inl (cI, 708, .inl (ro 708 (pkF t)))), (m4, .inl (cI, 60, .inl (ro 60 cs))), (m5, .inl (cI, 48, .inl (ro 48 td)))] := hD
  refine lv_iconst (v := (-1)) hx hb dX6_drop_5 (by decide +kernel) ?_
  refine q_topi (y := (if p < 0 then nI p else -1)) (by rfl) ?_
  refine lv_istore_n (lv' := [(2, .int (if p < 0 then nI p else -1)), (0, .ref m0), (1, .int x)]) hx hb dX6_drop_6 rfl hl (by decide) rfl (fun ls hl => ?_)
  refine lv_iconst (v := nI 0) hx hb dX6_drop_7 (by decide +kernel) ?_
  refine lv_istore_n (lv' := [(3, .int (nI 0)), (2, .int (if p < 0 then nI p else -1)), (0, .ref m0), (1, .int x)]) hx hb dX6_drop_8 rfl hl (by decide) rfl (fun ls hl => ?_)
  have L9 : ∀ (fuel : Nat) (i : Nat) (H : Heap) (locs : List Loc) (ls : Array Slot), (i ≤ s 8) → (s 8 - i < fuel) → va_P D vwCl [(m0, .inr (6, [.ref m1, .ref m2, .ref m3, .int (nI k), .ref m4, .int (nI n), .int (nI 0), .int (nI ax), .int (nI fa), .int (nI vl), .ref m5, .int (nI tn), .int (nI hg), .int (nI bg)])), (m1, .inl (cI, 118, .inl (ro 118 s))), (m2, .inl (cI, 118, .inl (ro 118 h))), (m3, .inl (cI, 708, .inl (ro 708 (pkF t)))), (m4, .inl (cI, 60, .inl (ro 60 cs))), (m5, .inl (cI, 48, .inl (ro 48 td)))] H → va_D A9 [(m0, .inr (6, [.ref m1, .ref m2, .ref m3, .int (nI k), .ref m4, .int (nI n), .int (nI 0), .int (nI ax), .int (nI fa), .int (nI vl), .ref m5, .int (nI tn), .int (nI hg), .int (nI bg)])), (m1, .inl (cI, 118, .inl (ro 118 s))), (m2, .inl (cI, 118, .inl (ro 118 h))), (m3, .inl (cI, 708, .inl (ro 708 (pkF t)))), (m4, .inl (cI, 60, .inl (ro 60 cs))), (m5, .inl (cI, 48, .inl (ro 48 td)))] → va_S A9 s9.heap H locs → lv_has ls 4 [(0, .ref m0), (1, .int x), (3, .int (nI i)), (2, .int (if p < i then nI p else -1))] → W p9 l e9 ({ frames := 2, cells := 0, slots := 0, locals := 45 } : Room) s9 m9 ar9 be9 me9 c9 H locs 0 0 Q9 (F0 m9 9 ls []) := by
    intro fuel
    induction fuel with
    | zero => intro i H locs ls hi hfu; exact absurd hfu (Nat.not_lt_zero _)
    | succ fuel ih9 =>
      intro i H locs ls hi hfu hP hD hS hl
      refine lv_iload_n hx hb dX6_drop_9 rfl (lv_at hl 2 rfl) ?_
      refine lv_aload_n hx hb dX6_drop_10 rfl (lv_at hl 0 rfl) ?_
      refine va_get (D := D) (ci := 6) (v := .ref m1) (C := RX6) (T := TX6) (N := 14) hx hb hts in_X6_drop_ok_X6 hown hK hP 0 rfl rfl 0 (by decide) (hts _ fl_X6_drop_ok_7) (fun _ h9 => h9) rfl dX6_drop_11 ?_
      refine lv_bipush (v := nI 8) hx hb dX6_drop_14 (by decide +kernel) ?_
      refine q_iald 1 0 (by omega) (by omega) hx hb hK hP rfl rfl dX6_drop_16 ?_
      refine q_ige (tgt := 45) (by omega) (by omega) hx hb dX6_drop_17 (by decide) (fun c_17 => ?_) (fun c_17 => ?_)
      ·
        refine lv_iload_n hx hb dX6_drop_45 rfl (lv_at hl 3 rfl) ?_
        refine q_topi (y := (nI p)) (by exact if_pos (by omega)) ?_
        refine lv_iconst (v := (-1)) hx hb dX6_drop_46 (by decide +kernel) ?_
        refine lv_icmp_ne (tgt := 56) hx hb dX6_drop_47 (by decide) (fun c_47 => ?_) (fun c_47 => ?_)
        ·
          refine lv_aload_n hx hb dX6_drop_56 rfl (lv_at hl 0 rfl) ?_
          refine KM.callV (As := []) (rest := []) C0 hN (k_X6_saves l D cI cS cL m0 m1 m2 m3 m4 m5 k n 0 ax fa vl tn hg bg s t  (by first | with_reducible assumption | omega)) (cwV 0 hts gX6_drop_X6_saves rfl rfl rfl (by decide +kernel) ⟨Nat.le_of_ble_eq_true rfl, Nat.le_of_ble_eq_true rfl⟩) hK hP hD hS hA [0, 1, 3] rfl (by decide) (fun _ => rfl) 0 6 rfl rfl rfl rfl hl.1 rfl (Nat.le_of_ble_eq_true rfl) dX6_drop_57 ⟨Nat.le_of_ble_eq_true rfl, Nat.le_of_ble_eq_true rfl⟩ (fun v9 u9 H locs hv hP hD hS => ?_)
          subst hv
          have hP : va_P D vwCl [(m0, .inr (6, [.ref m1, .ref m2, .ref m3, .int (nI (kpK k)), .ref m4, .int (nI n), .int (nI 0), .int (nI ax), .int (nI fa), .int (nI vl), .ref m5, .int (nI tn), .int (nI hg), .int (nI bg)])), (m1, .inl (cI, 118, .inl (ro 118 s))), (m2, .inl (cI, 118, .inl (ro 118 h))), (m3, .inl (cI, 708, .inl (ro 708 (pkF (kpT k t s))))), (m4, .inl (cI, 60, .inl (ro 60 cs))), (m5, .inl (cI, 48, .inl (ro 48 td)))] H := hP
          have hD : va_D A9 [(m0, .inr (6, [.ref m1, .ref m2, .ref m3, .int (nI (kpK k)), .ref m4, .int (nI n), .int (nI 0), .int (nI ax), .int (nI fa), .int (nI vl), .ref m5, .int (nI tn), .int (nI hg), .int (nI bg)])), (m1, .inl (cI, 118, .inl (ro 118 s))), (m2, .inl (cI, 118, .inl (ro 118 h))), (m3, .inl (cI, 708, .inl (ro 708 (pkF (kpT k t s))))), (m4, .inl (cI, 60, .inl (ro 60 cs))), (m5, .inl (cI, 48, .inl (ro 48 td)))] := hD
          refine W.eq (g2 := F0 m9 60 ls []) rfl ?_
          refine lv_aload_n hx hb dX6_drop_60 rfl (lv_at hl 0 rfl) ?_
          refine va_get (D := D) (ci := 6) (v := .ref m1) (C := RX6) (T := TX6) (N := 14) hx hb hts in_X6_drop_ok_X6 hown hK hP 0 rfl rfl 0 (by decide) (hts _ fl_X6_drop_ok_7) (fun _ h9 => h9) rfl dX6_drop_61 ?_
          refine lv_iload_n hx hb dX6_drop_64 rfl (lv_at hl 3 rfl) ?_
          refine q_topi (y := (nI p)) (by exact if_pos (by omega)) ?_
          refine KM.callS (As := [.ref m1, .int (nI p)]) (rest := []) C0 hN (k_X6_goesOut l D cI cS cL m1 s p  (by first | with_reducible assumption | omega) (by first | with_reducible assumption | omega)) (va_cwS 2 hts gX6_drop_X6_goesOut rfl rfl rfl (by decide +kernel) ⟨Nat.le_of_ble_eq_true rfl, Nat.le_of_ble_eq_true rfl⟩) hK hP hD hS hA [1] rfl (by decide) (fun _ => rfl) rfl hl.1 rfl (Nat.le_of_ble_eq_true rfl) dX6_drop_65 ⟨Nat.le_of_ble_eq_true rfl, Nat.le_of_ble_eq_true rfl⟩ (fun v9 u9 H locs hv hP hD hS => ?_)
          subst hv
          have hP : va_P D vwCl [(m0, .inr (6, [.ref m1, .ref m2, .ref m3, .int (nI (kpK k)), .ref m4, .int (nI n), .int (nI 0), .int (nI ax), .int (nI fa), .int (nI vl), .ref m5, .int (nI tn), .int (nI hg), .int (nI bg)])), (m1, .inl (cI, 118, .inl (ro 118 (mDrop s p)))), (m2, .inl (cI, 118, .inl (ro 118 h))), (m3, .inl (cI, 708, .inl (ro 708 (pkF (kpT k t s))))), (m4, .inl (cI, 60, .inl (ro 60 cs))), (m5, .inl (cI, 48, .inl (ro 48 td)))] H := hP
          have hD : va_D A9 [(m0, .inr (6, [.ref m1, .ref m2, .ref m3, .int (nI (kpK k)), .ref m4, .int (nI n), .int (nI 0), .int (nI ax), .int (nI fa), .int (nI vl), .ref m5, .int (nI tn), .int (nI hg), .int (nI bg)])), (m1, .inl (cI, 118, .inl (ro 118 (mDrop s p)))), (m2, .inl (cI, 118, .inl (ro 118 h))), (m3, .inl (cI, 708, .inl (ro 708 (pkF (kpT k t s))))), (m4, .inl (cI, 60, .inl (ro 60 cs))), (m5, .inl (cI, 48, .inl (ro 48 td)))] := hD
          refine W.eq (g2 := F0 m9 68 ls []) rfl ?_
          refine lv_aload_n hx hb dX6_drop_68 rfl (lv_at hl 0 rfl) ?_
          refine va_get (D := D) (ci := 6) (v := .ref m1) (C := RX6) (T := TX6) (N := 14) hx hb hts in_X6_drop_ok_X6 hown hK hP 0 rfl rfl 0 (by decide) (hts _ fl_X6_drop_ok_7) (fun _ h9 => h9) rfl dX6_drop_69 ?_
          refine lv_bipush (v := nI 8) hx hb dX6_drop_72 (by decide +kernel) ?_
          refine q_iald 1 0 (by omega) (by omega) hx hb hK hP rfl rfl dX6_drop_74 ?_
          refine q_topi (y := (nI (s 8 - 1))) (by rfl) ?_
          exact hret _ _ _ _ (some (.int (nI (s 8 - 1)))) () 75 ls (by decide) (by decide) (by rfl) hP hD hS (ret_i dX6_drop_75)
        · exact absurd c_47 (nI_nm1 (by omega))
      ·
        refine lv_aload_n hx hb dX6_drop_20 rfl (lv_at hl 0 rfl) ?_
        refine va_get (D := D) (ci := 6) (v := .ref m1) (C := RX6) (T := TX6) (N := 14) hx hb hts in_X6_drop_ok_X6 hown hK hP 0 rfl rfl 0 (by decide) (hts _ fl_X6_drop_ok_7) (fun _ h9 => h9) rfl dX6_drop_21 ?_
        refine lv_iload_n hx hb dX6_drop_24 rfl (lv_at hl 2 rfl) ?_
        refine lv_iconst (v := nI 0) hx hb dX6_drop_25 (by decide +kernel) ?_
        refine KM.callS (As := [.ref m1, .int (nI i), .int (nI 0)]) (rest := []) C0 hN (k_X6_by_0 l D cI cS cL m1 s i  (by first | with_reducible assumption | omega)) (va_cwS 3 hts gX6_drop_X6_by rfl rfl rfl (by decide +kernel) ⟨Nat.le_of_ble_eq_true rfl, Nat.le_of_ble_eq_true rfl⟩) hK hP hD hS hA [1] rfl (by decide) (fun _ => rfl) rfl hl.1 rfl (Nat.le_of_ble_eq_true rfl) dX6_drop_26 ⟨Nat.le_of_ble_eq_true rfl, Nat.le_of_ble_eq_true rfl⟩ (fun v9 u9 H locs hv hP hD hS => ?_)
        subst hv
        have hP : va_P D vwCl [(m0, .inr (6, [.ref m1, .ref m2, .ref m3, .int (nI k), .ref m4, .int (nI n), .int (nI 0), .int (nI ax), .int (nI fa), .int (nI vl), .ref m5, .int (nI tn), .int (nI hg), .int (nI bg)])), (m1, .inl (cI, 118, .inl (ro 118 s))), (m2, .inl (cI, 118, .inl (ro 118 h))), (m3, .inl (cI, 708, .inl (ro 708 (pkF t)))), (m4, .inl (cI, 60, .inl (ro 60 cs))), (m5, .inl (cI, 48, .inl (ro 48 td)))] H := hP
        have hD : va_D A9 [(m0, .inr (6, [.ref m1, .ref m2, .ref m3, .int (nI k), .ref m4, .int (nI n), .int (nI 0), .int (nI ax), .int (nI fa), .int (nI vl), .ref m5, .int (nI tn), .int (nI hg), .int (nI bg)])), (m1, .inl (cI, 118, .inl (ro 118 s))), (m2, .inl (cI, 118, .inl (ro 118 h))), (m3, .inl (cI, 708, .inl (ro 708 (pkF t)))), (m4, .inl (cI, 60, .inl (ro 60 cs))), (m5, .inl (cI, 48, .inl (ro 48 td)))] := hD
        refine W.eq (g2 := F0 m9 29 ls [.int (nI (nuF s i))]) rfl ?_
        refine lv_iload_n hx hb dX6_drop_29 rfl (lv_at hl 1 rfl) ?_
        refine lv_icmp_ne (tgt := 37) hx hb dX6_drop_30 (by decide) (fun c_30 => ?_) (fun c_30 => ?_)
        ·
          refine lv_iload_n hx hb dX6_drop_37 rfl (lv_at hl 3 rfl) ?_
          refine q_topi (y := (if p < (i + 1) then nI p else -1)) (by exact pl_miss hp hpx c_30) ?_
          refine lv_istore_n (lv' := [(2, .int (if p < (i + 1) then nI p else -1)), (0, .ref m0), (1, .int x), (3, .int (nI i))]) hx hb dX6_drop_38 rfl hl (by decide) rfl (fun ls hl => ?_)
          refine lv_iinc (v := (nI (i + 1))) (lv' := [(3, .int (nI (i + 1))), (2, .int (if p < (i + 1) then nI p else -1)), (0, .ref m0), (1, .int x)]) hx hb dX6_drop_39 hl (k := 3) rfl (nI_add i 1) (by decide) rfl (fun ls hl => ?_)
          refine lv_goto (tgt := 9) hx hb dX6_drop_42 (by decide) ?_
          exact ih9  (i + 1) _ _ ls (by first | with_reducible assumption | omega) (by omega) hP hD hS (lv_sub hl [2, 3, 0, 1] rfl)
        ·
          refine lv_iload_n hx hb dX6_drop_33 rfl (lv_at hl 2 rfl) ?_
          refine q_topi (y := (if p < (i + 1) then nI p else -1)) (by exact pl_hit hI hT hp hpx (by omega) c_30) ?_
          refine lv_goto (tgt := 38) hx hb dX6_drop_34 (by decide) ?_
          refine lv_istore_n (lv' := [(2, .int (if p < (i + 1) then nI p else -1)), (0, .ref m0), (1, .int x), (3, .int (nI i))]) hx hb dX6_drop_38 rfl hl (by decide) rfl (fun ls hl => ?_)
          refine lv_iinc (v := (nI (i + 1))) (lv' := [(3, .int (nI (i + 1))), (2, .int (if p < (i + 1) then nI p else -1)), (0, .ref m0), (1, .int x)]) hx hb dX6_drop_39 hl (k := 3) rfl (nI_add i 1) (by decide) rfl (fun ls hl => ?_)
          refine lv_goto (tgt := 9) hx hb dX6_drop_42 (by decide) ?_
          exact ih9  (i + 1) _ _ ls (by first | with_reducible assumption | omega) (by omega) hP hD hS (lv_sub hl [2, 3, 0, 1] rfl)
  exact L9 (s 8 - 0 + 1) 0 _ _ ls (by first | with_reducible assumption | omega) (by omega) hP hD hS (lv_sub hl [2, 3, 0, 1] rfl)

theorem in_X6_play_ok_X6 : ∀ w ∈ wsX60, w ∈ wsX6_play := by decide +kernel
theorem fl_X6_play_ok_25 : Cond.fieldLink RX6 25 "FountainCuesModel" "thrown" "I" ∈ wsX6_play := by decide +kernel
theorem fl_X6_play_ok_7 : Cond.fieldLink RX6 7 "FountainCuesModel" "now" "[I" ∈ wsX6_play := by decide +kernel
set_option maxHeartbeats 4000000 in
set_option maxRecDepth 100000 in
theorem k_X6_play_ok (l : Launch) (D : va_G) (cI cS cL : ClassId) (T : Nat) (m0 : Nat) (m1 : Nat) (m2 : Nat) (m3 : Nat) (m4 : Nat) (m5 : Nat) (k : Nat) (n : Nat) (th : Nat) (ax : Nat) (fa : Nat) (vl : Nat) (tn : Nat) (hg : Nat) (bg : Nat) (s : Nat → Nat) (h : Nat → Nat) (t : Nat → Nat → Nat) (cs : Nat → Nat) (td : Nat → Nat) (x : Nat) (hI : sI T s) (hT : T ≤ 900000) (hk : k ≤ 6) (hn : n ≤ 60) (hcs : ∀ j, j < n → cs j < 2 ^ 31) (hx1 : 1 ≤ x) (hx2 : x ≤ 100) : KM l D (TY cI cS cL) yX6_play wsX6_play ({ frames := 6, cells := 0, slots := 0, locals := 138 } : Room) [(m0, .inr (6, [.ref m1, .ref m2, .ref m3, .int (nI k), .ref m4, .int (nI n), .int (nI th), .int (nI ax), .int (nI fa), .int (nI vl), .ref m5, .int (nI tn), .int (nI hg), .int (nI bg)])), (m1, .inl (cI, 118, .inl (ro 118 s))), (m2, .inl (cI, 118, .inl (ro 118 h))), (m3, .inl (cI, 708, .inl (ro 708 (pkF t)))), (m4, .inl (cI, 60, .inl (ro 60 cs))), (m5, .inl (cI, 48, .inl (ro 48 td)))] [.ref m0, .int (nI x)] (fun (v : Option Value) (u : Nat → Nat) => v = some (.int (nI (mPlay x s 10 - s 10)))) (fun (u : Nat → Nat) => [(m0, .inr (6, [.ref m1, .ref m2, .ref m3, .int (nI (kpK k)), .ref m4, .int (nI n), .int (nI 0), .int (nI ax), .int (nI fa), .int (nI vl), .ref m5, .int (nI tn), .int (nI (u 0)), .int (nI (u 1))])), (m1, .inl (cI, 118, .inl (ro 118 (mPlay x s)))), (m2, .inl (cI, 118, .inl (ro 118 h))), (m3, .inl (cI, 708, .inl (ro 708 (pkF (kpT k t s))))), (m4, .inl (cI, 60, .inl (ro 60 cs))), (m5, .inl (cI, 48, .inl (ro 48 td)))]) := by
  refine KM.of (cc := cX6_play) (maxL := 4) (ret := (some .int)) (by decide) rfl (Nat.le_of_ble_eq_true rfl) ?_
  intro p9 e9 s9 m9 ar9 be9 me9 c9 Q9 A9 ls C0 hN hnm hlk hK hA hret hP hD hS hl
  obtain ⟨hx, hb, hml, hown, hts⟩ := id C0
  have hl : lv_has ls 4 [(0, .ref m0), (1, .int (nI x))] := hl
  obtain ⟨H, hH0⟩ : ∃ H, H = s9.heap := ⟨_, rfl⟩
  obtain ⟨locs, hlc0⟩ : ∃ z : List Loc, z = [] := ⟨_, rfl⟩
  have hP : va_P D vwCl [(m0, .inr (6, [.ref m1, .ref m2, .ref m3, .int (nI k), .ref m4, .int (nI n), .int (nI th), .int (nI ax), .int (nI fa), .int (nI vl), .ref m5, .int (nI tn), .int (nI hg), .int (nI bg)])), (m1, .inl (cI, 118, .inl (ro 118 s))), (m2, .inl (cI, 118, .inl (ro 118 h))), (m3, .inl (cI, 708, .inl (ro 708 (pkF t)))), (m4, .inl (cI, 60, .inl (ro 60 cs))), (m5, .inl (cI, 48, .inl (ro 48 td)))] H := by rw [hH0]; exact hP
  have hD : va_D A9 [(m0, .inr (6, [.ref m1, .ref m2, .ref m3, .int (nI k), .ref m4, .int (nI n), .int (nI th), .int (nI ax), .int (nI fa), .int (nI vl), .ref m5, .int (nI tn), .int (nI hg), .int (nI bg)])), (m1, .inl (cI, 118, .inl (ro 118 s))), (m2, .inl (cI, 118, .inl (ro 118 h))), (m3, .inl (cI, 708, .inl (ro 708 (pkF t)))), (m4, .inl (cI, 60, .inl (ro 60 cs))), (m5, .inl (cI, 48, .inl (ro 48 td)))] := hD
  have hS : va_S A9 s9.heap H locs := by rw [hH0, hlc0]; exact hS
  suffices hgo : W p9 l e9 ({ frames := 6, cells := 0, slots := 0, locals := 138 } : Room) s9 m9 ar9 be9 me9 c9 H locs 0 0 Q9 (F0 m9 0 ls []) by rw [hH0, hlc0] at hgo; exact hgo
  clear hH0 hlc0
  obtain ⟨hI1, hI2, hI3, hI4, hI5, hI6, hI7, hI8, hI9, hI10, hI11⟩ := id hI
  refine lv_aload_n hx hb dX6_play_0 rfl (lv_at hl 0 rfl) ?_
  refine lv_iconst (v := nI 0) hx hb dX6_play_1 (by decide +kernel) ?_
  refine va_put (D := D) (ci := 6) (v := .int (nI 0)) (ty := tyX6 6) (C := RX6) (T := TX6) (N := 14) hx hb hts in_X6_play_ok_X6 tyX6 tyX6_ok nmX6 hown hK hP hD hS 0 rfl rfl 6 (by decide) (hts _ fl_X6_play_ok_25) (fun _ h9 => h9) rfl (by decide +kernel) rfl rfl (Nat.le_of_ble_eq_true rfl) dX6_play_2 (fun H locs hP hD hS => ?_)
  have hP : va_P D vwCl [(m0, .inr (6, [.ref m1, .ref m2, .ref m3, .int (nI k), .ref m4, .int (nI n), .int (nI 0), .int (nI ax), .int (nI fa), .int (nI vl), .ref m5, .int (nI tn), .int (nI hg), .int (nI bg)])), (m1, .inl (cI, 118, .inl (ro 118 s))), (m2, .inl (cI, 118, .inl (ro 118 h))), (m3, .inl (cI, 708, .inl (ro 708 (pkF t)))), (m4, .inl (cI, 60, .inl (ro 60 cs))), (m5, .inl (cI, 48, .inl (ro 48 td)))] H := hP
  have hD : va_D A9 [(m0, .inr (6, [.ref m1, .ref m2, .ref m3, .int (nI k), .ref m4, .int (nI n), .int (nI 0), .int (nI ax), .int (nI fa), .int (nI vl), .ref m5, .int (nI tn), .int (nI hg), .int (nI bg)])), (m1, .inl (cI, 118, .inl (ro 118 s))), (m2, .inl (cI, 118, .inl (ro 118 h))), (m3, .inl (cI, 708, .inl (ro 708 (pkF t)))), (m4, .inl (cI, 60, .inl (ro 60 cs))), (m5, .inl (cI, 48, .inl (ro 48 td)))] := hD
  refine lv_iload_n hx hb dX6_play_5 rfl (lv_at hl 1 rfl) ?_
  refine lv_iconst (v := nI 1) hx hb dX6_play_6 (by decide +kernel) ?_
  refine lv_bipush (v := nI 100) hx hb dX6_play_7 (by decide +kernel) ?_
  refine KM.callS (As := [.int (nI x), .int (nI 1), .int (nI 100)]) (rest := []) C0 hN (k_X6_in_ok l D cI cS cL x 1 100  (by first | with_reducible assumption | omega) (by first | with_reducible assumption | omega) (by first | with_reducible assumption | omega)) (va_cwS 3 hts gX6_play_X6_in rfl rfl rfl (by decide +kernel) ⟨Nat.le_of_ble_eq_true rfl, Nat.le_of_ble_eq_true rfl⟩) hK hP hD hS hA [] rfl (by decide) (fun _ => rfl) rfl hl.1 rfl (Nat.le_of_ble_eq_true rfl) dX6_play_9 ⟨Nat.le_of_ble_eq_true rfl, Nat.le_of_ble_eq_true rfl⟩ (fun v9 u9 H locs hv hP hD hS => ?_)
  subst hv
  have hP : va_P D vwCl [(m0, .inr (6, [.ref m1, .ref m2, .ref m3, .int (nI k), .ref m4, .int (nI n), .int (nI 0), .int (nI ax), .int (nI fa), .int (nI vl), .ref m5, .int (nI tn), .int (nI hg), .int (nI bg)])), (m1, .inl (cI, 118, .inl (ro 118 s))), (m2, .inl (cI, 118, .inl (ro 118 h))), (m3, .inl (cI, 708, .inl (ro 708 (pkF t)))), (m4, .inl (cI, 60, .inl (ro 60 cs))), (m5, .inl (cI, 48, .inl (ro 48 td)))] H := hP
  have hD : va_D A9 [(m0, .inr (6, [.ref m1, .ref m2, .ref m3, .int (nI k), .ref m4, .int (nI n), .int (nI 0), .int (nI ax), .int (nI fa), .int (nI vl), .ref m5, .int (nI tn), .int (nI hg), .int (nI bg)])), (m1, .inl (cI, 118, .inl (ro 118 s))), (m2, .inl (cI, 118, .inl (ro 118 h))), (m3, .inl (cI, 708, .inl (ro 708 (pkF t)))), (m4, .inl (cI, 60, .inl (ro 60 cs))), (m5, .inl (cI, 48, .inl (ro 48 td)))] := hD
  refine W.eq (g2 := F0 m9 12 ls [.int (nI 1)]) rfl ?_
  refine q_fne (tgt := 21) (by omega) hx hb dX6_play_12 (by decide) (fun c_12 => ?_) (fun c_12 => ?_)
  ·
    refine lv_aload_n hx hb dX6_play_21 rfl (lv_at hl 0 rfl) ?_
    refine KM.callV (As := []) (rest := []) C0 hN (k_X6_saves l D cI cS cL m0 m1 m2 m3 m4 m5 k n 0 ax fa vl tn hg bg s t  (by first | with_reducible assumption | omega)) (cwV 0 hts gX6_play_X6_saves rfl rfl rfl (by decide +kernel) ⟨Nat.le_of_ble_eq_true rfl, Nat.le_of_ble_eq_true rfl⟩) hK hP hD hS hA [0, 1, 3] rfl (by decide) (fun _ => rfl) 0 6 rfl rfl rfl rfl hl.1 rfl (Nat.le_of_ble_eq_true rfl) dX6_play_22 ⟨Nat.le_of_ble_eq_true rfl, Nat.le_of_ble_eq_true rfl⟩ (fun v9 u9 H locs hv hP hD hS => ?_)
    subst hv
    have hP : va_P D vwCl [(m0, .inr (6, [.ref m1, .ref m2, .ref m3, .int (nI (kpK k)), .ref m4, .int (nI n), .int (nI 0), .int (nI ax), .int (nI fa), .int (nI vl), .ref m5, .int (nI tn), .int (nI hg), .int (nI bg)])), (m1, .inl (cI, 118, .inl (ro 118 s))), (m2, .inl (cI, 118, .inl (ro 118 h))), (m3, .inl (cI, 708, .inl (ro 708 (pkF (kpT k t s))))), (m4, .inl (cI, 60, .inl (ro 60 cs))), (m5, .inl (cI, 48, .inl (ro 48 td)))] H := hP
    have hD : va_D A9 [(m0, .inr (6, [.ref m1, .ref m2, .ref m3, .int (nI (kpK k)), .ref m4, .int (nI n), .int (nI 0), .int (nI ax), .int (nI fa), .int (nI vl), .ref m5, .int (nI tn), .int (nI hg), .int (nI bg)])), (m1, .inl (cI, 118, .inl (ro 118 s))), (m2, .inl (cI, 118, .inl (ro 118 h))), (m3, .inl (cI, 708, .inl (ro 708 (pkF (kpT k t s))))), (m4, .inl (cI, 60, .inl (ro 60 cs))), (m5, .inl (cI, 48, .inl (ro 48 td)))] := hD
    refine W.eq (g2 := F0 m9 25 ls []) rfl ?_
    refine lv_aload_n hx hb dX6_play_25 rfl (lv_at hl 0 rfl) ?_
    refine va_get (D := D) (ci := 6) (v := .ref m1) (C := RX6) (T := TX6) (N := 14) hx hb hts in_X6_play_ok_X6 hown hK hP 0 rfl rfl 0 (by decide) (hts _ fl_X6_play_ok_7) (fun _ h9 => h9) rfl dX6_play_26 ?_
    refine lv_bipush (v := nI 10) hx hb dX6_play_29 (by decide +kernel) ?_
    refine q_iald 1 0 (by omega) (by omega) hx hb hK hP rfl rfl dX6_play_31 ?_
    refine lv_istore_n (lv' := [(2, .int (nI (s 10))), (0, .ref m0), (1, .int (nI x))]) hx hb dX6_play_32 rfl hl (by decide) rfl (fun ls hl => ?_)
    have er_1 : ro 118 s = ro 118 (mPlay 0 s) := by rfl
    rw [er_1] at hP hD
    refine lv_iconst (v := nI 0) hx hb dX6_play_33 (by decide +kernel) ?_
    refine lv_istore_n (lv' := [(3, .int (nI 0)), (2, .int (nI (s 10))), (0, .ref m0), (1, .int (nI x))]) hx hb dX6_play_34 rfl hl (by decide) rfl (fun ls hl => ?_)
    have L35 : ∀ (fuel : Nat) (i : Nat) (h2 : Nat) (b2 : Nat) (H : Heap) (locs : List Loc) (ls : Array Slot), (i ≤ x) → (x - i < fuel) → va_P D vwCl [(m0, .inr (6, [.ref m1, .ref m2, .ref m3, .int (nI (kpK k)), .ref m4, .int (nI n), .int (nI 0), .int (nI ax), .int (nI fa), .int (nI vl), .ref m5, .int (nI tn), .int (nI h2), .int (nI b2)])), (m1, .inl (cI, 118, .inl (ro 118 (mPlay i s)))), (m2, .inl (cI, 118, .inl (ro 118 h))), (m3, .inl (cI, 708, .inl (ro 708 (pkF (kpT k t s))))), (m4, .inl (cI, 60, .inl (ro 60 cs))), (m5, .inl (cI, 48, .inl (ro 48 td)))] H → va_D A9 [(m0, .inr (6, [.ref m1, .ref m2, .ref m3, .int (nI (kpK k)), .ref m4, .int (nI n), .int (nI 0), .int (nI ax), .int (nI fa), .int (nI vl), .ref m5, .int (nI tn), .int (nI h2), .int (nI b2)])), (m1, .inl (cI, 118, .inl (ro 118 (mPlay i s)))), (m2, .inl (cI, 118, .inl (ro 118 h))), (m3, .inl (cI, 708, .inl (ro 708 (pkF (kpT k t s))))), (m4, .inl (cI, 60, .inl (ro 60 cs))), (m5, .inl (cI, 48, .inl (ro 48 td)))] → va_S A9 s9.heap H locs → lv_has ls 4 [(0, .ref m0), (1, .int (nI x)), (2, .int (nI (s 10))), (3, .int (nI i))] → W p9 l e9 ({ frames := 6, cells := 0, slots := 0, locals := 138 } : Room) s9 m9 ar9 be9 me9 c9 H locs 0 0 Q9 (F0 m9 35 ls []) := by
      intro fuel
      induction fuel with
      | zero => intro i h2 b2 H locs ls hi hfu; exact absurd hfu (Nat.not_lt_zero _)
      | succ fuel ih35 =>
        intro i h2 b2 H locs ls hi hfu hP hD hS hl
        have hIi := sI_play i hI
        refine lv_iload_n hx hb dX6_play_35 rfl (lv_at hl 3 rfl) ?_
        refine lv_iload_n hx hb dX6_play_36 rfl (lv_at hl 1 rfl) ?_
        refine q_ige (tgt := 54) (by omega) (by omega) hx hb dX6_play_37 (by decide) (fun c_37 => ?_) (fun c_37 => ?_)
        ·
          have hix : i = x := by omega
          subst hix
          refine lv_aload_n hx hb dX6_play_54 rfl (lv_at hl 0 rfl) ?_
          refine va_get (D := D) (ci := 6) (v := .ref m1) (C := RX6) (T := TX6) (N := 14) hx hb hts in_X6_play_ok_X6 hown hK hP 0 rfl rfl 0 (by decide) (hts _ fl_X6_play_ok_7) (fun _ h9 => h9) rfl dX6_play_55 ?_
          refine lv_bipush (v := nI 10) hx hb dX6_play_58 (by decide +kernel) ?_
          refine q_iald 1 0 (by omega) (by omega) hx hb hK hP rfl rfl dX6_play_60 ?_
          refine lv_iload_n hx hb dX6_play_61 rfl (lv_at hl 2 rfl) ?_
          refine q_isub (by exact lost_mono _ _) hx hb dX6_play_62 ?_
          exact hret _ _ _ _ (some (.int (nI (((mPlay i s) 10) - (s 10))))) (fun i9 => [h2, b2].getD i9 0) 63 ls (by decide) (by decide) (by rfl) hP hD hS (ret_i dX6_play_63)
        ·
          refine lv_aload_n hx hb dX6_play_40 rfl (lv_at hl 0 rfl) ?_
          refine lv_aload_n hx hb dX6_play_41 rfl (lv_at hl 0 rfl) ?_
          refine va_get (D := D) (ci := 6) (v := .ref m1) (C := RX6) (T := TX6) (N := 14) hx hb hts in_X6_play_ok_X6 hown hK hP 0 rfl rfl 0 (by decide) (hts _ fl_X6_play_ok_7) (fun _ h9 => h9) rfl dX6_play_42 ?_
          refine KM.callV (As := [.ref m1]) (rest := []) C0 hN (k_X6_tick l D cI cS cL (T + i) m0 m1 m2 m3 m4 m5 (kpK k) n 0 ax fa vl tn h2 b2 m1 (mPlay i s)  (by exact hIi) (by omega)) (cwV 1 hts gX6_play_X6_tick rfl rfl rfl (by decide +kernel) ⟨Nat.le_of_ble_eq_true rfl, Nat.le_of_ble_eq_true rfl⟩) hK hP hD hS hA [0, 1] rfl (by decide) (fun _ => rfl) 0 6 rfl rfl rfl rfl hl.1 rfl (Nat.le_of_ble_eq_true rfl) dX6_play_45 ⟨Nat.le_of_ble_eq_true rfl, Nat.le_of_ble_eq_true rfl⟩ (fun v9 u9 H locs hv hP hD hS => ?_)
          subst hv
          have hP : va_P D vwCl [(m0, .inr (6, [.ref m1, .ref m2, .ref m3, .int (nI (kpK k)), .ref m4, .int (nI n), .int (nI 0), .int (nI ax), .int (nI fa), .int (nI vl), .ref m5, .int (nI tn), .int (nI (hiS (mMove (mCues 16 (mPlay i s))))), .int (nI (brS (mMove (mCues 16 (mPlay i s)))))])), (m1, .inl (cI, 118, .inl (ro 118 (mTick (mPlay i s))))), (m2, .inl (cI, 118, .inl (ro 118 h))), (m3, .inl (cI, 708, .inl (ro 708 (pkF (kpT k t s))))), (m4, .inl (cI, 60, .inl (ro 60 cs))), (m5, .inl (cI, 48, .inl (ro 48 td)))] H := hP
          have hD : va_D A9 [(m0, .inr (6, [.ref m1, .ref m2, .ref m3, .int (nI (kpK k)), .ref m4, .int (nI n), .int (nI 0), .int (nI ax), .int (nI fa), .int (nI vl), .ref m5, .int (nI tn), .int (nI (hiS (mMove (mCues 16 (mPlay i s))))), .int (nI (brS (mMove (mCues 16 (mPlay i s)))))])), (m1, .inl (cI, 118, .inl (ro 118 (mTick (mPlay i s))))), (m2, .inl (cI, 118, .inl (ro 118 h))), (m3, .inl (cI, 708, .inl (ro 708 (pkF (kpT k t s))))), (m4, .inl (cI, 60, .inl (ro 60 cs))), (m5, .inl (cI, 48, .inl (ro 48 td)))] := hD
          refine W.eq (g2 := F0 m9 48 ls []) rfl ?_
          have er_2 : ro 118 (mTick (mPlay i s)) = ro 118 (mPlay (i + 1) s) := by rw [mPlay_succ]
          rw [er_2] at hP hD
          refine lv_iinc (v := (nI (i + 1))) (lv' := [(3, .int (nI (i + 1))), (0, .ref m0), (1, .int (nI x)), (2, .int (nI (s 10)))]) hx hb dX6_play_48 hl (k := 3) rfl (nI_add i 1) (by decide) rfl (fun ls hl => ?_)
          refine lv_goto (tgt := 35) hx hb dX6_play_51 (by decide) ?_
          exact ih35  (i + 1) (hiS (mMove (mCues 16 (mPlay i s)))) (brS (mMove (mCues 16 (mPlay i s)))) _ _ ls (by first | with_reducible assumption | omega) (by omega) hP hD hS (lv_sub hl [1, 2, 3, 0] rfl)
    exact L35 (x - 0 + 1) 0 hg bg _ _ ls (by first | with_reducible assumption | omega) (by omega) hP hD hS (lv_sub hl [2, 3, 1, 0] rfl)
  · exact absurd True.intro (by omega)

theorem in_X6_append_ok_X6 : ∀ w ∈ wsX60, w ∈ wsX6_append := by decide +kernel
theorem fl_X6_append_ok_25 : Cond.fieldLink RX6 25 "FountainCuesModel" "thrown" "I" ∈ wsX6_append := by decide +kernel
theorem fl_X6_append_ok_111 : Cond.fieldLink RX6 111 "FountainCuesModel" "typed" "I" ∈ wsX6_append := by decide +kernel
theorem fl_X6_append_ok_19 : Cond.fieldLink RX6 19 "FountainCuesModel" "text" "[I" ∈ wsX6_append := by decide +kernel
set_option maxHeartbeats 4000000 in
set_option maxRecDepth 100000 in
theorem k_X6_append_ok (l : Launch) (D : va_G) (cI cS cL : ClassId) (T : Nat) (m0 : Nat) (m1 : Nat) (m2 : Nat) (m3 : Nat) (m4 : Nat) (m5 : Nat) (k : Nat) (n : Nat) (th : Nat) (ax : Nat) (fa : Nat) (vl : Nat) (tn : Nat) (hg : Nat) (bg : Nat) (s : Nat → Nat) (h : Nat → Nat) (t : Nat → Nat → Nat) (cs : Nat → Nat) (td : Nat → Nat) (c : Nat) (hI : sI T s) (hT : T ≤ 900000) (hk : k ≤ 6) (hn : n ≤ 60) (hcs : ∀ j, j < n → cs j < 2 ^ 31) (hc1 : 33 ≤ c) (hc2 : c ≤ 126) (hn2 : n < 60) : KM l D (TY cI cS cL) yX6_append wsX6_append ({ frames := 1, cells := 0, slots := 0, locals := 22 } : Room) [(m0, .inr (6, [.ref m1, .ref m2, .ref m3, .int (nI k), .ref m4, .int (nI n), .int (nI th), .int (nI ax), .int (nI fa), .int (nI vl), .ref m5, .int (nI tn), .int (nI hg), .int (nI bg)])), (m1, .inl (cI, 118, .inl (ro 118 s))), (m2, .inl (cI, 118, .inl (ro 118 h))), (m3, .inl (cI, 708, .inl (ro 708 (pkF t)))), (m4, .inl (cI, 60, .inl (ro 60 cs))), (m5, .inl (cI, 48, .inl (ro 48 td)))] [.ref m0, .int (nI c)] (fun (v : Option Value) (_ : Unit) => v = some (.int (nI (n + 1)))) (fun _ : Unit => [(m0, .inr (6, [.ref m1, .ref m2, .ref m3, .int (nI k), .ref m4, .int (nI (n + 1)), .int (nI 0), .int (nI ax), .int (nI fa), .int (nI vl), .ref m5, .int (nI tn), .int (nI hg), .int (nI bg)])), (m1, .inl (cI, 118, .inl (ro 118 s))), (m2, .inl (cI, 118, .inl (ro 118 h))), (m3, .inl (cI, 708, .inl (ro 708 (pkF t)))), (m4, .inl (cI, 60, .inl (ro 60 (upN cs n c)))), (m5, .inl (cI, 48, .inl (ro 48 td)))]) := by
  refine KM.of (cc := cX6_append) (maxL := 2) (ret := (some .int)) (by decide) rfl (Nat.le_of_ble_eq_true rfl) ?_
  intro p9 e9 s9 m9 ar9 be9 me9 c9 Q9 A9 ls C0 hN hnm hlk hK hA hret hP hD hS hl
  obtain ⟨hx, hb, hml, hown, hts⟩ := id C0
  have hl : lv_has ls 2 [(0, .ref m0), (1, .int (nI c))] := hl
  obtain ⟨H, hH0⟩ : ∃ H, H = s9.heap := ⟨_, rfl⟩
  obtain ⟨locs, hlc0⟩ : ∃ z : List Loc, z = [] := ⟨_, rfl⟩
  have hP : va_P D vwCl [(m0, .inr (6, [.ref m1, .ref m2, .ref m3, .int (nI k), .ref m4, .int (nI n), .int (nI th), .int (nI ax), .int (nI fa), .int (nI vl), .ref m5, .int (nI tn), .int (nI hg), .int (nI bg)])), (m1, .inl (cI, 118, .inl (ro 118 s))), (m2, .inl (cI, 118, .inl (ro 118 h))), (m3, .inl (cI, 708, .inl (ro 708 (pkF t)))), (m4, .inl (cI, 60, .inl (ro 60 cs))), (m5, .inl (cI, 48, .inl (ro 48 td)))] H := by rw [hH0]; exact hP
  have hD : va_D A9 [(m0, .inr (6, [.ref m1, .ref m2, .ref m3, .int (nI k), .ref m4, .int (nI n), .int (nI th), .int (nI ax), .int (nI fa), .int (nI vl), .ref m5, .int (nI tn), .int (nI hg), .int (nI bg)])), (m1, .inl (cI, 118, .inl (ro 118 s))), (m2, .inl (cI, 118, .inl (ro 118 h))), (m3, .inl (cI, 708, .inl (ro 708 (pkF t)))), (m4, .inl (cI, 60, .inl (ro 60 cs))), (m5, .inl (cI, 48, .inl (ro 48 td)))] := hD
  have hS : va_S A9 s9.heap H locs := by rw [hH0, hlc0]; exact hS
  suffices hgo : W p9 l e9 ({ frames := 1, cells := 0, slots := 0, locals := 22 } : Room) s9 m9 ar9 be9 me9 c9 H locs 0 0 Q9 (F0 m9 0 ls []) by rw [hH0, hlc0] at hgo; exact hgo
  clear hH0 hlc0
  obtain ⟨hI1, hI2, hI3, hI4, hI5, hI6, hI7, hI8, hI9, hI10, hI11⟩ := id hI
  refine lv_aload_n hx hb dX6_append_0 rfl (lv_at hl 0 rfl) ?_
  refine lv_iconst (v := nI 0) hx hb dX6_append_1 (by decide +kernel) ?_
  refine va_put (D := D) (ci := 6) (v := .int (nI 0)) (ty := tyX6 6) (C := RX6) (T := TX6) (N := 14) hx hb hts in_X6_append_ok_X6 tyX6 tyX6_ok nmX6 hown hK hP hD hS 0 rfl rfl 6 (by decide) (hts _ fl_X6_append_ok_25) (fun _ h9 => h9) rfl (by decide +kernel) rfl rfl (Nat.le_of_ble_eq_true rfl) dX6_append_2 (fun H locs hP hD hS => ?_)
  have hP : va_P D vwCl [(m0, .inr (6, [.ref m1, .ref m2, .ref m3, .int (nI k), .ref m4, .int (nI n), .int (nI 0), .int (nI ax), .int (nI fa), .int (nI vl), .ref m5, .int (nI tn), .int (nI hg), .int (nI bg)])), (m1, .inl (cI, 118, .inl (ro 118 s))), (m2, .inl (cI, 118, .inl (ro 118 h))), (m3, .inl (cI, 708, .inl (ro 708 (pkF t)))), (m4, .inl (cI, 60, .inl (ro 60 cs))), (m5, .inl (cI, 48, .inl (ro 48 td)))] H := hP
  have hD : va_D A9 [(m0, .inr (6, [.ref m1, .ref m2, .ref m3, .int (nI k), .ref m4, .int (nI n), .int (nI 0), .int (nI ax), .int (nI fa), .int (nI vl), .ref m5, .int (nI tn), .int (nI hg), .int (nI bg)])), (m1, .inl (cI, 118, .inl (ro 118 s))), (m2, .inl (cI, 118, .inl (ro 118 h))), (m3, .inl (cI, 708, .inl (ro 708 (pkF t)))), (m4, .inl (cI, 60, .inl (ro 60 cs))), (m5, .inl (cI, 48, .inl (ro 48 td)))] := hD
  refine lv_iload_n hx hb dX6_append_5 rfl (lv_at hl 1 rfl) ?_
  refine lv_bipush (v := nI 33) hx hb dX6_append_6 (by decide +kernel) ?_
  refine lv_bipush (v := nI 126) hx hb dX6_append_8 (by decide +kernel) ?_
  refine KM.callS (As := [.int (nI c), .int (nI 33), .int (nI 126)]) (rest := []) C0 hN (k_X6_in_ok l D cI cS cL c 33 126  (by first | with_reducible assumption | omega) (by first | with_reducible assumption | omega) (by first | with_reducible assumption | omega)) (va_cwS 3 hts gX6_append_X6_in rfl rfl rfl (by decide +kernel) ⟨Nat.le_of_ble_eq_true rfl, Nat.le_of_ble_eq_true rfl⟩) hK hP hD hS hA [] rfl (by decide) (fun _ => rfl) rfl hl.1 rfl (Nat.le_of_ble_eq_true rfl) dX6_append_10 ⟨Nat.le_of_ble_eq_true rfl, Nat.le_of_ble_eq_true rfl⟩ (fun v9 u9 H locs hv hP hD hS => ?_)
  subst hv
  have hP : va_P D vwCl [(m0, .inr (6, [.ref m1, .ref m2, .ref m3, .int (nI k), .ref m4, .int (nI n), .int (nI 0), .int (nI ax), .int (nI fa), .int (nI vl), .ref m5, .int (nI tn), .int (nI hg), .int (nI bg)])), (m1, .inl (cI, 118, .inl (ro 118 s))), (m2, .inl (cI, 118, .inl (ro 118 h))), (m3, .inl (cI, 708, .inl (ro 708 (pkF t)))), (m4, .inl (cI, 60, .inl (ro 60 cs))), (m5, .inl (cI, 48, .inl (ro 48 td)))] H := hP
  have hD : va_D A9 [(m0, .inr (6, [.ref m1, .ref m2, .ref m3, .int (nI k), .ref m4, .int (nI n), .int (nI 0), .int (nI ax), .int (nI fa), .int (nI vl), .ref m5, .int (nI tn), .int (nI hg), .int (nI bg)])), (m1, .inl (cI, 118, .inl (ro 118 s))), (m2, .inl (cI, 118, .inl (ro 118 h))), (m3, .inl (cI, 708, .inl (ro 708 (pkF t)))), (m4, .inl (cI, 60, .inl (ro 60 cs))), (m5, .inl (cI, 48, .inl (ro 48 td)))] := hD
  refine W.eq (g2 := F0 m9 13 ls [.int (nI 1)]) rfl ?_
  refine q_fne (tgt := 22) (by omega) hx hb dX6_append_13 (by decide) (fun c_13 => ?_) (fun c_13 => ?_)
  ·
    refine lv_aload_n hx hb dX6_append_22 rfl (lv_at hl 0 rfl) ?_
    refine va_get (D := D) (ci := 6) (v := .int (nI n)) (C := RX6) (T := TX6) (N := 14) hx hb hts in_X6_append_ok_X6 hown hK hP 0 rfl rfl 5 (by decide) (hts _ fl_X6_append_ok_111) (fun _ h9 => h9) rfl dX6_append_23 ?_
    refine lv_bipush (v := nI 60) hx hb dX6_append_26 (by decide +kernel) ?_
    refine q_ine (tgt := 37) (by omega) (by omega) hx hb dX6_append_28 (by decide) (fun c_28 => ?_) (fun c_28 => ?_)
    ·
      refine lv_aload_n hx hb dX6_append_37 rfl (lv_at hl 0 rfl) ?_
      refine va_get (D := D) (ci := 6) (v := .ref m4) (C := RX6) (T := TX6) (N := 14) hx hb hts in_X6_append_ok_X6 hown hK hP 0 rfl rfl 4 (by decide) (hts _ fl_X6_append_ok_19) (fun _ h9 => h9) rfl dX6_append_38 ?_
      refine lv_aload_n hx hb dX6_append_41 rfl (lv_at hl 0 rfl) ?_
      refine va_get (D := D) (ci := 6) (v := .int (nI n)) (C := RX6) (T := TX6) (N := 14) hx hb hts in_X6_append_ok_X6 hown hK hP 0 rfl rfl 5 (by decide) (hts _ fl_X6_append_ok_111) (fun _ h9 => h9) rfl dX6_append_42 ?_
      refine lv_iload_n hx hb dX6_append_45 rfl (lv_at hl 1 rfl) ?_
      refine q_iast 4 0 (by omega) (by omega) hx hb hK hP hD hS rfl rfl dX6_append_46 (fun H locs hP hD hS => ?_)
      have hP : va_P D vwCl [(m0, .inr (6, [.ref m1, .ref m2, .ref m3, .int (nI k), .ref m4, .int (nI n), .int (nI 0), .int (nI ax), .int (nI fa), .int (nI vl), .ref m5, .int (nI tn), .int (nI hg), .int (nI bg)])), (m1, .inl (cI, 118, .inl (ro 118 s))), (m2, .inl (cI, 118, .inl (ro 118 h))), (m3, .inl (cI, 708, .inl (ro 708 (pkF t)))), (m4, .inl (cI, 60, .inl (ro 60 (upN cs n c)))), (m5, .inl (cI, 48, .inl (ro 48 td)))] H := hP
      have hD : va_D A9 [(m0, .inr (6, [.ref m1, .ref m2, .ref m3, .int (nI k), .ref m4, .int (nI n), .int (nI 0), .int (nI ax), .int (nI fa), .int (nI vl), .ref m5, .int (nI tn), .int (nI hg), .int (nI bg)])), (m1, .inl (cI, 118, .inl (ro 118 s))), (m2, .inl (cI, 118, .inl (ro 118 h))), (m3, .inl (cI, 708, .inl (ro 708 (pkF t)))), (m4, .inl (cI, 60, .inl (ro 60 (upN cs n c)))), (m5, .inl (cI, 48, .inl (ro 48 td)))] := hD
      refine lv_aload_n hx hb dX6_append_47 rfl (lv_at hl 0 rfl) ?_
      refine lv_dup hx hb dX6_append_48 rfl ?_
      refine va_get (D := D) (ci := 6) (v := .int (nI n)) (C := RX6) (T := TX6) (N := 14) hx hb hts in_X6_append_ok_X6 hown hK hP 0 rfl rfl 5 (by decide) (hts _ fl_X6_append_ok_111) (fun _ h9 => h9) rfl dX6_append_49 ?_
      refine lv_iconst (v := nI 1) hx hb dX6_append_52 (by decide +kernel) ?_
      refine q_iadd hx hb dX6_append_53 ?_
      refine va_put (D := D) (ci := 6) (v := .int (nI (n + 1))) (ty := tyX6 5) (C := RX6) (T := TX6) (N := 14) hx hb hts in_X6_append_ok_X6 tyX6 tyX6_ok nmX6 hown hK hP hD hS 0 rfl rfl 5 (by decide) (hts _ fl_X6_append_ok_111) (fun _ h9 => h9) rfl (by decide +kernel) rfl rfl (Nat.le_of_ble_eq_true rfl) dX6_append_54 (fun H locs hP hD hS => ?_)
      have hP : va_P D vwCl [(m0, .inr (6, [.ref m1, .ref m2, .ref m3, .int (nI k), .ref m4, .int (nI (n + 1)), .int (nI 0), .int (nI ax), .int (nI fa), .int (nI vl), .ref m5, .int (nI tn), .int (nI hg), .int (nI bg)])), (m1, .inl (cI, 118, .inl (ro 118 s))), (m2, .inl (cI, 118, .inl (ro 118 h))), (m3, .inl (cI, 708, .inl (ro 708 (pkF t)))), (m4, .inl (cI, 60, .inl (ro 60 (upN cs n c)))), (m5, .inl (cI, 48, .inl (ro 48 td)))] H := hP
      have hD : va_D A9 [(m0, .inr (6, [.ref m1, .ref m2, .ref m3, .int (nI k), .ref m4, .int (nI (n + 1)), .int (nI 0), .int (nI ax), .int (nI fa), .int (nI vl), .ref m5, .int (nI tn), .int (nI hg), .int (nI bg)])), (m1, .inl (cI, 118, .inl (ro 118 s))), (m2, .inl (cI, 118, .inl (ro 118 h))), (m3, .inl (cI, 708, .inl (ro 708 (pkF t)))), (m4, .inl (cI, 60, .inl (ro 60 (upN cs n c)))), (m5, .inl (cI, 48, .inl (ro 48 td)))] := hD
      refine lv_aload_n hx hb dX6_append_57 rfl (lv_at hl 0 rfl) ?_
      refine va_get (D := D) (ci := 6) (v := .int (nI (n + 1))) (C := RX6) (T := TX6) (N := 14) hx hb hts in_X6_append_ok_X6 hown hK hP 0 rfl rfl 5 (by decide) (hts _ fl_X6_append_ok_111) (fun _ h9 => h9) rfl dX6_append_58 ?_
      exact hret _ _ _ _ (some (.int (nI (n + 1)))) () 61 ls (by decide) (by decide) (by rfl) hP hD hS (ret_i dX6_append_61)
    · exact absurd True.intro (by omega)
  · exact absurd True.intro (by omega)

theorem in_X6_clearBuffer_ok_X6 : ∀ w ∈ wsX60, w ∈ wsX6_clearBuffer := by decide +kernel
theorem fl_X6_clearBuffer_ok_25 : Cond.fieldLink RX6 25 "FountainCuesModel" "thrown" "I" ∈ wsX6_clearBuffer := by decide +kernel
theorem fl_X6_clearBuffer_ok_111 : Cond.fieldLink RX6 111 "FountainCuesModel" "typed" "I" ∈ wsX6_clearBuffer := by decide +kernel
set_option maxHeartbeats 4000000 in
set_option maxRecDepth 100000 in
theorem k_X6_clearBuffer_ok (l : Launch) (D : va_G) (cI cS cL : ClassId) (T : Nat) (m0 : Nat) (m1 : Nat) (m2 : Nat) (m3 : Nat) (m4 : Nat) (m5 : Nat) (k : Nat) (n : Nat) (th : Nat) (ax : Nat) (fa : Nat) (vl : Nat) (tn : Nat) (hg : Nat) (bg : Nat) (s : Nat → Nat) (h : Nat → Nat) (t : Nat → Nat → Nat) (cs : Nat → Nat) (td : Nat → Nat) (hI : sI T s) (hT : T ≤ 900000) (hk : k ≤ 6) (hn : n ≤ 60) (hcs : ∀ j, j < n → cs j < 2 ^ 31) : KM l D (TY cI cS cL) yX6_clearBuffer wsX6_clearBuffer ({ frames := 0, cells := 0, slots := 0, locals := 0 } : Room) [(m0, .inr (6, [.ref m1, .ref m2, .ref m3, .int (nI k), .ref m4, .int (nI n), .int (nI th), .int (nI ax), .int (nI fa), .int (nI vl), .ref m5, .int (nI tn), .int (nI hg), .int (nI bg)])), (m1, .inl (cI, 118, .inl (ro 118 s))), (m2, .inl (cI, 118, .inl (ro 118 h))), (m3, .inl (cI, 708, .inl (ro 708 (pkF t)))), (m4, .inl (cI, 60, .inl (ro 60 cs))), (m5, .inl (cI, 48, .inl (ro 48 td)))] [.ref m0] (fun (v : Option Value) (_ : Unit) => v = some (.int (nI n))) (fun _ : Unit => [(m0, .inr (6, [.ref m1, .ref m2, .ref m3, .int (nI k), .ref m4, .int (nI 0), .int (nI 0), .int (nI ax), .int (nI fa), .int (nI vl), .ref m5, .int (nI tn), .int (nI hg), .int (nI bg)])), (m1, .inl (cI, 118, .inl (ro 118 s))), (m2, .inl (cI, 118, .inl (ro 118 h))), (m3, .inl (cI, 708, .inl (ro 708 (pkF t)))), (m4, .inl (cI, 60, .inl (ro 60 cs))), (m5, .inl (cI, 48, .inl (ro 48 td)))]) := by
  refine KM.of (cc := cX6_clearBuffer) (maxL := 2) (ret := (some .int)) (by decide) rfl (Nat.le_of_ble_eq_true rfl) ?_
  intro p9 e9 s9 m9 ar9 be9 me9 c9 Q9 A9 ls C0 hN hnm hlk hK hA hret hP hD hS hl
  obtain ⟨hx, hb, hml, hown, hts⟩ := id C0
  have hl : lv_has ls 2 [(0, .ref m0)] := hl
  obtain ⟨H, hH0⟩ : ∃ H, H = s9.heap := ⟨_, rfl⟩
  obtain ⟨locs, hlc0⟩ : ∃ z : List Loc, z = [] := ⟨_, rfl⟩
  have hP : va_P D vwCl [(m0, .inr (6, [.ref m1, .ref m2, .ref m3, .int (nI k), .ref m4, .int (nI n), .int (nI th), .int (nI ax), .int (nI fa), .int (nI vl), .ref m5, .int (nI tn), .int (nI hg), .int (nI bg)])), (m1, .inl (cI, 118, .inl (ro 118 s))), (m2, .inl (cI, 118, .inl (ro 118 h))), (m3, .inl (cI, 708, .inl (ro 708 (pkF t)))), (m4, .inl (cI, 60, .inl (ro 60 cs))), (m5, .inl (cI, 48, .inl (ro 48 td)))] H := by rw [hH0]; exact hP
  have hD : va_D A9 [(m0, .inr (6, [.ref m1, .ref m2, .ref m3, .int (nI k), .ref m4, .int (nI n), .int (nI th), .int (nI ax), .int (nI fa), .int (nI vl), .ref m5, .int (nI tn), .int (nI hg), .int (nI bg)])), (m1, .inl (cI, 118, .inl (ro 118 s))), (m2, .inl (cI, 118, .inl (ro 118 h))), (m3, .inl (cI, 708, .inl (ro 708 (pkF t)))), (m4, .inl (cI, 60, .inl (ro 60 cs))), (m5, .inl (cI, 48, .inl (ro 48 td)))] := hD
  have hS : va_S A9 s9.heap H locs := by rw [hH0, hlc0]; exact hS
  suffices hgo : W p9 l e9 ({ frames := 0, cells := 0, slots := 0, locals := 0 } : Room) s9 m9 ar9 be9 me9 c9 H locs 0 0 Q9 (F0 m9 0 ls []) by rw [hH0, hlc0] at hgo; exact hgo
  clear hH0 hlc0
  obtain ⟨hI1, hI2, hI3, hI4, hI5, hI6, hI7, hI8, hI9, hI10, hI11⟩ := id hI
  refine lv_aload_n hx hb dX6_clearBuffer_0 rfl (lv_at hl 0 rfl) ?_
  refine lv_iconst (v := nI 0) hx hb dX6_clearBuffer_1 (by decide +kernel) ?_
  refine va_put (D := D) (ci := 6) (v := .int (nI 0)) (ty := tyX6 6) (C := RX6) (T := TX6) (N := 14) hx hb hts in_X6_clearBuffer_ok_X6 tyX6 tyX6_ok nmX6 hown hK hP hD hS 0 rfl rfl 6 (by decide) (hts _ fl_X6_clearBuffer_ok_25) (fun _ h9 => h9) rfl (by decide +kernel) rfl rfl (Nat.le_of_ble_eq_true rfl) dX6_clearBuffer_2 (fun H locs hP hD hS => ?_)
  have hP : va_P D vwCl [(m0, .inr (6, [.ref m1, .ref m2, .ref m3, .int (nI k), .ref m4, .int (nI n), .int (nI 0), .int (nI ax), .int (nI fa), .int (nI vl), .ref m5, .int (nI tn), .int (nI hg), .int (nI bg)])), (m1, .inl (cI, 118, .inl (ro 118 s))), (m2, .inl (cI, 118, .inl (ro 118 h))), (m3, .inl (cI, 708, .inl (ro 708 (pkF t)))), (m4, .inl (cI, 60, .inl (ro 60 cs))), (m5, .inl (cI, 48, .inl (ro 48 td)))] H := hP
  have hD : va_D A9 [(m0, .inr (6, [.ref m1, .ref m2, .ref m3, .int (nI k), .ref m4, .int (nI n), .int (nI 0), .int (nI ax), .int (nI fa), .int (nI vl), .ref m5, .int (nI tn), .int (nI hg), .int (nI bg)])), (m1, .inl (cI, 118, .inl (ro 118 s))), (m2, .inl (cI, 118, .inl (ro 118 h))), (m3, .inl (cI, 708, .inl (ro 708 (pkF t)))), (m4, .inl (cI, 60, .inl (ro 60 cs))), (m5, .inl (cI, 48, .inl (ro 48 td)))] := hD
  refine lv_aload_n hx hb dX6_clearBuffer_5 rfl (lv_at hl 0 rfl) ?_
  refine va_get (D := D) (ci := 6) (v := .int (nI n)) (C := RX6) (T := TX6) (N := 14) hx hb hts in_X6_clearBuffer_ok_X6 hown hK hP 0 rfl rfl 5 (by decide) (hts _ fl_X6_clearBuffer_ok_111) (fun _ h9 => h9) rfl dX6_clearBuffer_6 ?_
  refine lv_istore_n (lv' := [(1, .int (nI n)), (0, .ref m0)]) hx hb dX6_clearBuffer_9 rfl hl (by decide) rfl (fun ls hl => ?_)
  refine lv_aload_n hx hb dX6_clearBuffer_10 rfl (lv_at hl 1 rfl) ?_
  refine lv_iconst (v := nI 0) hx hb dX6_clearBuffer_11 (by decide +kernel) ?_
  refine va_put (D := D) (ci := 6) (v := .int (nI 0)) (ty := tyX6 5) (C := RX6) (T := TX6) (N := 14) hx hb hts in_X6_clearBuffer_ok_X6 tyX6 tyX6_ok nmX6 hown hK hP hD hS 0 rfl rfl 5 (by decide) (hts _ fl_X6_clearBuffer_ok_111) (fun _ h9 => h9) rfl (by decide +kernel) rfl rfl (Nat.le_of_ble_eq_true rfl) dX6_clearBuffer_12 (fun H locs hP hD hS => ?_)
  have hP : va_P D vwCl [(m0, .inr (6, [.ref m1, .ref m2, .ref m3, .int (nI k), .ref m4, .int (nI 0), .int (nI 0), .int (nI ax), .int (nI fa), .int (nI vl), .ref m5, .int (nI tn), .int (nI hg), .int (nI bg)])), (m1, .inl (cI, 118, .inl (ro 118 s))), (m2, .inl (cI, 118, .inl (ro 118 h))), (m3, .inl (cI, 708, .inl (ro 708 (pkF t)))), (m4, .inl (cI, 60, .inl (ro 60 cs))), (m5, .inl (cI, 48, .inl (ro 48 td)))] H := hP
  have hD : va_D A9 [(m0, .inr (6, [.ref m1, .ref m2, .ref m3, .int (nI k), .ref m4, .int (nI 0), .int (nI 0), .int (nI ax), .int (nI fa), .int (nI vl), .ref m5, .int (nI tn), .int (nI hg), .int (nI bg)])), (m1, .inl (cI, 118, .inl (ro 118 s))), (m2, .inl (cI, 118, .inl (ro 118 h))), (m3, .inl (cI, 708, .inl (ro 708 (pkF t)))), (m4, .inl (cI, 60, .inl (ro 60 cs))), (m5, .inl (cI, 48, .inl (ro 48 td)))] := hD
  refine lv_iload_n hx hb dX6_clearBuffer_15 rfl (lv_at hl 0 rfl) ?_
  exact hret _ _ _ _ (some (.int (nI n))) () 16 ls (by decide) (by decide) (by rfl) hP hD hS (ret_i dX6_clearBuffer_16)

theorem in_X6_undo_ok_X6 : ∀ w ∈ wsX60, w ∈ wsX6_undo := by decide +kernel
theorem fl_X6_undo_ok_25 : Cond.fieldLink RX6 25 "FountainCuesModel" "thrown" "I" ∈ wsX6_undo := by decide +kernel
theorem fl_X6_undo_ok_33 : Cond.fieldLink RX6 33 "FountainCuesModel" "kept" "I" ∈ wsX6_undo := by decide +kernel
theorem fl_X6_undo_ok_16 : Cond.fieldLink RX6 16 "FountainCuesModel" "past" "[I" ∈ wsX6_undo := by decide +kernel
theorem fl_X6_undo_ok_7 : Cond.fieldLink RX6 7 "FountainCuesModel" "now" "[I" ∈ wsX6_undo := by decide +kernel
set_option maxHeartbeats 4000000 in
set_option maxRecDepth 100000 in
theorem k_X6_undo_ok (l : Launch) (D : va_G) (cI cS cL : ClassId) (T : Nat) (m0 : Nat) (m1 : Nat) (m2 : Nat) (m3 : Nat) (m4 : Nat) (m5 : Nat) (k : Nat) (n : Nat) (th : Nat) (ax : Nat) (fa : Nat) (vl : Nat) (tn : Nat) (hg : Nat) (bg : Nat) (s : Nat → Nat) (h : Nat → Nat) (t : Nat → Nat → Nat) (cs : Nat → Nat) (td : Nat → Nat) (hI : sI T s) (hT : T ≤ 900000) (hk : k ≤ 6) (hn : n ≤ 60) (hcs : ∀ j, j < n → cs j < 2 ^ 31) (hk0 : k ≠ 0) : KM l D (TY cI cS cL) yX6_undo wsX6_undo ({ frames := 1, cells := 0, slots := 0, locals := 24 } : Room) [(m0, .inr (6, [.ref m1, .ref m2, .ref m3, .int (nI k), .ref m4, .int (nI n), .int (nI th), .int (nI ax), .int (nI fa), .int (nI vl), .ref m5, .int (nI tn), .int (nI hg), .int (nI bg)])), (m1, .inl (cI, 118, .inl (ro 118 s))), (m2, .inl (cI, 118, .inl (ro 118 h))), (m3, .inl (cI, 708, .inl (ro 708 (pkF t)))), (m4, .inl (cI, 60, .inl (ro 60 cs))), (m5, .inl (cI, 48, .inl (ro 48 td)))] [.ref m0] (fun (v : Option Value) (_ : Unit) => v = some (.int (nI (k - 1)))) (fun _ : Unit => [(m0, .inr (6, [.ref m1, .ref m2, .ref m3, .int (nI (k - 1)), .ref m4, .int (nI n), .int (nI 0), .int (nI ax), .int (nI fa), .int (nI vl), .ref m5, .int (nI tn), .int (nI hg), .int (nI bg)])), (m1, .inl (cI, 118, .inl (ro 118 (t (k - 1))))), (m2, .inl (cI, 118, .inl (ro 118 h))), (m3, .inl (cI, 708, .inl (ro 708 (pkF t)))), (m4, .inl (cI, 60, .inl (ro 60 cs))), (m5, .inl (cI, 48, .inl (ro 48 td)))]) := by
  refine KM.of (cc := cX6_undo) (maxL := 1) (ret := (some .int)) (by decide) rfl (Nat.le_of_ble_eq_true rfl) ?_
  intro p9 e9 s9 m9 ar9 be9 me9 c9 Q9 A9 ls C0 hN hnm hlk hK hA hret hP hD hS hl
  obtain ⟨hx, hb, hml, hown, hts⟩ := id C0
  have hl : lv_has ls 1 [(0, .ref m0)] := hl
  obtain ⟨H, hH0⟩ : ∃ H, H = s9.heap := ⟨_, rfl⟩
  obtain ⟨locs, hlc0⟩ : ∃ z : List Loc, z = [] := ⟨_, rfl⟩
  have hP : va_P D vwCl [(m0, .inr (6, [.ref m1, .ref m2, .ref m3, .int (nI k), .ref m4, .int (nI n), .int (nI th), .int (nI ax), .int (nI fa), .int (nI vl), .ref m5, .int (nI tn), .int (nI hg), .int (nI bg)])), (m1, .inl (cI, 118, .inl (ro 118 s))), (m2, .inl (cI, 118, .inl (ro 118 h))), (m3, .inl (cI, 708, .inl (ro 708 (pkF t)))), (m4, .inl (cI, 60, .inl (ro 60 cs))), (m5, .inl (cI, 48, .inl (ro 48 td)))] H := by rw [hH0]; exact hP
  have hD : va_D A9 [(m0, .inr (6, [.ref m1, .ref m2, .ref m3, .int (nI k), .ref m4, .int (nI n), .int (nI th), .int (nI ax), .int (nI fa), .int (nI vl), .ref m5, .int (nI tn), .int (nI hg), .int (nI bg)])), (m1, .inl (cI, 118, .inl (ro 118 s))), (m2, .inl (cI, 118, .inl (ro 118 h))), (m3, .inl (cI, 708, .inl (ro 708 (pkF t)))), (m4, .inl (cI, 60, .inl (ro 60 cs))), (m5, .inl (cI, 48, .inl (ro 48 td)))] := hD
  have hS : va_S A9 s9.heap H locs := by rw [hH0, hlc0]; exact hS
  suffices hgo : W p9 l e9 ({ frames := 1, cells := 0, slots := 0, locals := 24 } : Room) s9 m9 ar9 be9 me9 c9 H locs 0 0 Q9 (F0 m9 0 ls []) by rw [hH0, hlc0] at hgo; exact hgo
  clear hH0 hlc0
  obtain ⟨hI1, hI2, hI3, hI4, hI5, hI6, hI7, hI8, hI9, hI10, hI11⟩ := id hI
  refine lv_aload_n hx hb dX6_undo_0 rfl (lv_at hl 0 rfl) ?_
  refine lv_iconst (v := nI 0) hx hb dX6_undo_1 (by decide +kernel) ?_
  refine va_put (D := D) (ci := 6) (v := .int (nI 0)) (ty := tyX6 6) (C := RX6) (T := TX6) (N := 14) hx hb hts in_X6_undo_ok_X6 tyX6 tyX6_ok nmX6 hown hK hP hD hS 0 rfl rfl 6 (by decide) (hts _ fl_X6_undo_ok_25) (fun _ h9 => h9) rfl (by decide +kernel) rfl rfl (Nat.le_of_ble_eq_true rfl) dX6_undo_2 (fun H locs hP hD hS => ?_)
  have hP : va_P D vwCl [(m0, .inr (6, [.ref m1, .ref m2, .ref m3, .int (nI k), .ref m4, .int (nI n), .int (nI 0), .int (nI ax), .int (nI fa), .int (nI vl), .ref m5, .int (nI tn), .int (nI hg), .int (nI bg)])), (m1, .inl (cI, 118, .inl (ro 118 s))), (m2, .inl (cI, 118, .inl (ro 118 h))), (m3, .inl (cI, 708, .inl (ro 708 (pkF t)))), (m4, .inl (cI, 60, .inl (ro 60 cs))), (m5, .inl (cI, 48, .inl (ro 48 td)))] H := hP
  have hD : va_D A9 [(m0, .inr (6, [.ref m1, .ref m2, .ref m3, .int (nI k), .ref m4, .int (nI n), .int (nI 0), .int (nI ax), .int (nI fa), .int (nI vl), .ref m5, .int (nI tn), .int (nI hg), .int (nI bg)])), (m1, .inl (cI, 118, .inl (ro 118 s))), (m2, .inl (cI, 118, .inl (ro 118 h))), (m3, .inl (cI, 708, .inl (ro 708 (pkF t)))), (m4, .inl (cI, 60, .inl (ro 60 cs))), (m5, .inl (cI, 48, .inl (ro 48 td)))] := hD
  refine lv_aload_n hx hb dX6_undo_5 rfl (lv_at hl 0 rfl) ?_
  refine va_get (D := D) (ci := 6) (v := .int (nI k)) (C := RX6) (T := TX6) (N := 14) hx hb hts in_X6_undo_ok_X6 hown hK hP 0 rfl rfl 3 (by decide) (hts _ fl_X6_undo_ok_33) (fun _ h9 => h9) rfl dX6_undo_6 ?_
  refine q_fne (tgt := 18) (by omega) hx hb dX6_undo_9 (by decide) (fun c_9 => ?_) (fun c_9 => ?_)
  ·
    refine lv_aload_n hx hb dX6_undo_18 rfl (lv_at hl 0 rfl) ?_
    refine lv_dup hx hb dX6_undo_19 rfl ?_
    refine va_get (D := D) (ci := 6) (v := .int (nI k)) (C := RX6) (T := TX6) (N := 14) hx hb hts in_X6_undo_ok_X6 hown hK hP 0 rfl rfl 3 (by decide) (hts _ fl_X6_undo_ok_33) (fun _ h9 => h9) rfl dX6_undo_20 ?_
    refine lv_iconst (v := nI 1) hx hb dX6_undo_23 (by decide +kernel) ?_
    refine q_isub (by omega) hx hb dX6_undo_24 ?_
    refine va_put (D := D) (ci := 6) (v := .int (nI (k - 1))) (ty := tyX6 3) (C := RX6) (T := TX6) (N := 14) hx hb hts in_X6_undo_ok_X6 tyX6 tyX6_ok nmX6 hown hK hP hD hS 0 rfl rfl 3 (by decide) (hts _ fl_X6_undo_ok_33) (fun _ h9 => h9) rfl (by decide +kernel) rfl rfl (Nat.le_of_ble_eq_true rfl) dX6_undo_25 (fun H locs hP hD hS => ?_)
    have hP : va_P D vwCl [(m0, .inr (6, [.ref m1, .ref m2, .ref m3, .int (nI (k - 1)), .ref m4, .int (nI n), .int (nI 0), .int (nI ax), .int (nI fa), .int (nI vl), .ref m5, .int (nI tn), .int (nI hg), .int (nI bg)])), (m1, .inl (cI, 118, .inl (ro 118 s))), (m2, .inl (cI, 118, .inl (ro 118 h))), (m3, .inl (cI, 708, .inl (ro 708 (pkF t)))), (m4, .inl (cI, 60, .inl (ro 60 cs))), (m5, .inl (cI, 48, .inl (ro 48 td)))] H := hP
    have hD : va_D A9 [(m0, .inr (6, [.ref m1, .ref m2, .ref m3, .int (nI (k - 1)), .ref m4, .int (nI n), .int (nI 0), .int (nI ax), .int (nI fa), .int (nI vl), .ref m5, .int (nI tn), .int (nI hg), .int (nI bg)])), (m1, .inl (cI, 118, .inl (ro 118 s))), (m2, .inl (cI, 118, .inl (ro 118 h))), (m3, .inl (cI, 708, .inl (ro 708 (pkF t)))), (m4, .inl (cI, 60, .inl (ro 60 cs))), (m5, .inl (cI, 48, .inl (ro 48 td)))] := hD
    refine lv_aload_n hx hb dX6_undo_28 rfl (lv_at hl 0 rfl) ?_
    refine va_get (D := D) (ci := 6) (v := .ref m3) (C := RX6) (T := TX6) (N := 14) hx hb hts in_X6_undo_ok_X6 hown hK hP 0 rfl rfl 2 (by decide) (hts _ fl_X6_undo_ok_16) (fun _ h9 => h9) rfl dX6_undo_29 ?_
    refine lv_bipush (v := nI 118) hx hb dX6_undo_32 (by decide +kernel) ?_
    refine lv_aload_n hx hb dX6_undo_34 rfl (lv_at hl 0 rfl) ?_
    refine va_get (D := D) (ci := 6) (v := .int (nI (k - 1))) (C := RX6) (T := TX6) (N := 14) hx hb hts in_X6_undo_ok_X6 hown hK hP 0 rfl rfl 3 (by decide) (hts _ fl_X6_undo_ok_33) (fun _ h9 => h9) rfl dX6_undo_35 ?_
    refine q_imul hx hb dX6_undo_38 ?_
    refine lv_aload_n hx hb dX6_undo_39 rfl (lv_at hl 0 rfl) ?_
    refine va_get (D := D) (ci := 6) (v := .ref m1) (C := RX6) (T := TX6) (N := 14) hx hb hts in_X6_undo_ok_X6 hown hK hP 0 rfl rfl 0 (by decide) (hts _ fl_X6_undo_ok_7) (fun _ h9 => h9) rfl dX6_undo_40 ?_
    refine lv_iconst (v := nI 0) hx hb dX6_undo_43 (by decide +kernel) ?_
    refine KM.callS (As := [.ref m3, .int (nI (118 * (k - 1))), .ref m1, .int (nI 0)]) (rest := []) C0 hN (k_X6_copies l D cI cS cL m3 708 (pkF t) (118 * (k - 1)) m1 118 s 0  (by first | with_reducible assumption | omega) (by first | with_reducible assumption | omega) (by first | with_reducible assumption | omega) (by first | with_reducible assumption | omega)) (va_cwS 4 hts gX6_undo_X6_copies rfl rfl rfl (by decide +kernel) ⟨Nat.le_of_ble_eq_true rfl, Nat.le_of_ble_eq_true rfl⟩) hK hP hD hS hA [3, 1] rfl (by decide) (fun _ => rfl) rfl hl.1 rfl (Nat.le_of_ble_eq_true rfl) dX6_undo_44 ⟨Nat.le_of_ble_eq_true rfl, Nat.le_of_ble_eq_true rfl⟩ (fun v9 u9 H locs hv hP hD hS => ?_)
    subst hv
    have hP : va_P D vwCl [(m0, .inr (6, [.ref m1, .ref m2, .ref m3, .int (nI (k - 1)), .ref m4, .int (nI n), .int (nI 0), .int (nI ax), .int (nI fa), .int (nI vl), .ref m5, .int (nI tn), .int (nI hg), .int (nI bg)])), (m1, .inl (cI, 118, .inl (ro 118 (cpF (pkF t) (118 * (k - 1)) s 0 118)))), (m2, .inl (cI, 118, .inl (ro 118 h))), (m3, .inl (cI, 708, .inl (ro 708 (pkF t)))), (m4, .inl (cI, 60, .inl (ro 60 cs))), (m5, .inl (cI, 48, .inl (ro 48 td)))] H := hP
    have hD : va_D A9 [(m0, .inr (6, [.ref m1, .ref m2, .ref m3, .int (nI (k - 1)), .ref m4, .int (nI n), .int (nI 0), .int (nI ax), .int (nI fa), .int (nI vl), .ref m5, .int (nI tn), .int (nI hg), .int (nI bg)])), (m1, .inl (cI, 118, .inl (ro 118 (cpF (pkF t) (118 * (k - 1)) s 0 118)))), (m2, .inl (cI, 118, .inl (ro 118 h))), (m3, .inl (cI, 708, .inl (ro 708 (pkF t)))), (m4, .inl (cI, 60, .inl (ro 60 cs))), (m5, .inl (cI, 48, .inl (ro 48 td)))] := hD
    refine W.eq (g2 := F0 m9 47 ls []) rfl ?_
    have er_1 : ro 118 (cpF (pkF t) (118 * (k - 1)) s 0 118) = ro 118 (t (k - 1)) := by exact undo_row
    rw [er_1] at hP hD
    refine lv_aload_n hx hb dX6_undo_47 rfl (lv_at hl 0 rfl) ?_
    refine va_get (D := D) (ci := 6) (v := .int (nI (k - 1))) (C := RX6) (T := TX6) (N := 14) hx hb hts in_X6_undo_ok_X6 hown hK hP 0 rfl rfl 3 (by decide) (hts _ fl_X6_undo_ok_33) (fun _ h9 => h9) rfl dX6_undo_48 ?_
    exact hret _ _ _ _ (some (.int (nI (k - 1)))) () 51 ls (by decide) (by decide) (by rfl) hP hD hS (ret_i dX6_undo_51)
  · exact absurd True.intro (by omega)

theorem in_X6_jetOf_ok_X6 : ∀ w ∈ wsX60, w ∈ wsX6_jetOf := by decide +kernel
theorem fl_X6_jetOf_ok_25 : Cond.fieldLink RX6 25 "FountainCuesModel" "thrown" "I" ∈ wsX6_jetOf := by decide +kernel
set_option maxHeartbeats 4000000 in
set_option maxRecDepth 100000 in
theorem k_X6_jetOf_ok (l : Launch) (D : va_G) (cI cS cL : ClassId) (T : Nat) (m0 : Nat) (m1 : Nat) (m2 : Nat) (m3 : Nat) (m4 : Nat) (m5 : Nat) (k : Nat) (n : Nat) (th : Nat) (ax : Nat) (fa : Nat) (vl : Nat) (tn : Nat) (hg : Nat) (bg : Nat) (s : Nat → Nat) (h : Nat → Nat) (t : Nat → Nat → Nat) (cs : Nat → Nat) (td : Nat → Nat) (j : Nat) (y : Nat) (hI : sI T s) (hT : T ≤ 900000) (hk : k ≤ 6) (hn : n ≤ 60) (hcs : ∀ j, j < n → cs j < 2 ^ 31) (hj : j < 8) (hy2 : y ≤ 7) : KM l D (TY cI cS cL) yX6_jetOf wsX6_jetOf ({ frames := 6, cells := 0, slots := 0, locals := 134 } : Room) [(m0, .inr (6, [.ref m1, .ref m2, .ref m3, .int (nI k), .ref m4, .int (nI n), .int (nI th), .int (nI ax), .int (nI fa), .int (nI vl), .ref m5, .int (nI tn), .int (nI hg), .int (nI bg)])), (m1, .inl (cI, 118, .inl (ro 118 s))), (m2, .inl (cI, 118, .inl (ro 118 h))), (m3, .inl (cI, 708, .inl (ro 708 (pkF t)))), (m4, .inl (cI, 60, .inl (ro 60 cs))), (m5, .inl (cI, 48, .inl (ro 48 td)))] [.ref m0, .int (nI j), .int (nI y)] (fun (v : Option Value) (_ : Unit) => v = some (.int (nI (jetS s j y)))) (fun _ : Unit => [(m0, .inr (6, [.ref m1, .ref m2, .ref m3, .int (nI k), .ref m4, .int (nI n), .int (nI 0), .int (nI ax), .int (nI fa), .int (nI vl), .ref m5, .int (nI tn), .int (nI hg), .int (nI bg)])), (m1, .inl (cI, 118, .inl (ro 118 s))), (m2, .inl (cI, 118, .inl (ro 118 h))), (m3, .inl (cI, 708, .inl (ro 708 (pkF t)))), (m4, .inl (cI, 60, .inl (ro 60 cs))), (m5, .inl (cI, 48, .inl (ro 48 td)))]) := by
  refine KM.of (cc := cX6_jetOf) (maxL := 3) (ret := (some .int)) (by decide) rfl (Nat.le_of_ble_eq_true rfl) ?_
  intro p9 e9 s9 m9 ar9 be9 me9 c9 Q9 A9 ls C0 hN hnm hlk hK hA hret hP hD hS hl
  obtain ⟨hx, hb, hml, hown, hts⟩ := id C0
  have hl : lv_has ls 3 [(0, .ref m0), (1, .int (nI j)), (2, .int (nI y))] := hl
  obtain ⟨H, hH0⟩ : ∃ H, H = s9.heap := ⟨_, rfl⟩
  obtain ⟨locs, hlc0⟩ : ∃ z : List Loc, z = [] := ⟨_, rfl⟩
  have hP : va_P D vwCl [(m0, .inr (6, [.ref m1, .ref m2, .ref m3, .int (nI k), .ref m4, .int (nI n), .int (nI th), .int (nI ax), .int (nI fa), .int (nI vl), .ref m5, .int (nI tn), .int (nI hg), .int (nI bg)])), (m1, .inl (cI, 118, .inl (ro 118 s))), (m2, .inl (cI, 118, .inl (ro 118 h))), (m3, .inl (cI, 708, .inl (ro 708 (pkF t)))), (m4, .inl (cI, 60, .inl (ro 60 cs))), (m5, .inl (cI, 48, .inl (ro 48 td)))] H := by rw [hH0]; exact hP
  have hD : va_D A9 [(m0, .inr (6, [.ref m1, .ref m2, .ref m3, .int (nI k), .ref m4, .int (nI n), .int (nI th), .int (nI ax), .int (nI fa), .int (nI vl), .ref m5, .int (nI tn), .int (nI hg), .int (nI bg)])), (m1, .inl (cI, 118, .inl (ro 118 s))), (m2, .inl (cI, 118, .inl (ro 118 h))), (m3, .inl (cI, 708, .inl (ro 708 (pkF t)))), (m4, .inl (cI, 60, .inl (ro 60 cs))), (m5, .inl (cI, 48, .inl (ro 48 td)))] := hD
  have hS : va_S A9 s9.heap H locs := by rw [hH0, hlc0]; exact hS
  suffices hgo : W p9 l e9 ({ frames := 6, cells := 0, slots := 0, locals := 134 } : Room) s9 m9 ar9 be9 me9 c9 H locs 0 0 Q9 (F0 m9 0 ls []) by rw [hH0, hlc0] at hgo; exact hgo
  clear hH0 hlc0
  obtain ⟨hI1, hI2, hI3, hI4, hI5, hI6, hI7, hI8, hI9, hI10, hI11⟩ := id hI
  refine lv_aload_n hx hb dX6_jetOf_0 rfl (lv_at hl 0 rfl) ?_
  refine lv_iconst (v := nI 0) hx hb dX6_jetOf_1 (by decide +kernel) ?_
  refine va_put (D := D) (ci := 6) (v := .int (nI 0)) (ty := tyX6 6) (C := RX6) (T := TX6) (N := 14) hx hb hts in_X6_jetOf_ok_X6 tyX6 tyX6_ok nmX6 hown hK hP hD hS 0 rfl rfl 6 (by decide) (hts _ fl_X6_jetOf_ok_25) (fun _ h9 => h9) rfl (by decide +kernel) rfl rfl (Nat.le_of_ble_eq_true rfl) dX6_jetOf_2 (fun H locs hP hD hS => ?_)
  have hP : va_P D vwCl [(m0, .inr (6, [.ref m1, .ref m2, .ref m3, .int (nI k), .ref m4, .int (nI n), .int (nI 0), .int (nI ax), .int (nI fa), .int (nI vl), .ref m5, .int (nI tn), .int (nI hg), .int (nI bg)])), (m1, .inl (cI, 118, .inl (ro 118 s))), (m2, .inl (cI, 118, .inl (ro 118 h))), (m3, .inl (cI, 708, .inl (ro 708 (pkF t)))), (m4, .inl (cI, 60, .inl (ro 60 cs))), (m5, .inl (cI, 48, .inl (ro 48 td)))] H := hP
  have hD : va_D A9 [(m0, .inr (6, [.ref m1, .ref m2, .ref m3, .int (nI k), .ref m4, .int (nI n), .int (nI 0), .int (nI ax), .int (nI fa), .int (nI vl), .ref m5, .int (nI tn), .int (nI hg), .int (nI bg)])), (m1, .inl (cI, 118, .inl (ro 118 s))), (m2, .inl (cI, 118, .inl (ro 118 h))), (m3, .inl (cI, 708, .inl (ro 708 (pkF t)))), (m4, .inl (cI, 60, .inl (ro 60 cs))), (m5, .inl (cI, 48, .inl (ro 48 td)))] := hD
  refine lv_iload_n hx hb dX6_jetOf_5 rfl (lv_at hl 1 rfl) ?_
  refine KM.callS (As := [.int (nI j)]) (rest := []) C0 hN (k_X6_isJet_ok l D cI cS cL j  (by first | with_reducible assumption | omega)) (va_cwS 1 hts gX6_jetOf_X6_isJet rfl rfl rfl (by decide +kernel) ⟨Nat.le_of_ble_eq_true rfl, Nat.le_of_ble_eq_true rfl⟩) hK hP hD hS hA [] rfl (by decide) (fun _ => rfl) rfl hl.1 rfl (Nat.le_of_ble_eq_true rfl) dX6_jetOf_6 ⟨Nat.le_of_ble_eq_true rfl, Nat.le_of_ble_eq_true rfl⟩ (fun v9 u9 H locs hv hP hD hS => ?_)
  subst hv
  have hP : va_P D vwCl [(m0, .inr (6, [.ref m1, .ref m2, .ref m3, .int (nI k), .ref m4, .int (nI n), .int (nI 0), .int (nI ax), .int (nI fa), .int (nI vl), .ref m5, .int (nI tn), .int (nI hg), .int (nI bg)])), (m1, .inl (cI, 118, .inl (ro 118 s))), (m2, .inl (cI, 118, .inl (ro 118 h))), (m3, .inl (cI, 708, .inl (ro 708 (pkF t)))), (m4, .inl (cI, 60, .inl (ro 60 cs))), (m5, .inl (cI, 48, .inl (ro 48 td)))] H := hP
  have hD : va_D A9 [(m0, .inr (6, [.ref m1, .ref m2, .ref m3, .int (nI k), .ref m4, .int (nI n), .int (nI 0), .int (nI ax), .int (nI fa), .int (nI vl), .ref m5, .int (nI tn), .int (nI hg), .int (nI bg)])), (m1, .inl (cI, 118, .inl (ro 118 s))), (m2, .inl (cI, 118, .inl (ro 118 h))), (m3, .inl (cI, 708, .inl (ro 708 (pkF t)))), (m4, .inl (cI, 60, .inl (ro 60 cs))), (m5, .inl (cI, 48, .inl (ro 48 td)))] := hD
  refine W.eq (g2 := F0 m9 9 ls [.int (nI 1)]) rfl ?_
  refine q_fne (tgt := 18) (by omega) hx hb dX6_jetOf_9 (by decide) (fun c_9 => ?_) (fun c_9 => ?_)
  ·
    refine lv_iload_n hx hb dX6_jetOf_18 rfl (lv_at hl 2 rfl) ?_
    refine lv_iconst (v := nI 0) hx hb dX6_jetOf_19 (by decide +kernel) ?_
    refine lv_bipush (v := nI 7) hx hb dX6_jetOf_20 (by decide +kernel) ?_
    refine KM.callS (As := [.int (nI y), .int (nI 0), .int (nI 7)]) (rest := []) C0 hN (k_X6_in_ok l D cI cS cL y 0 7  (by first | with_reducible assumption | omega) (by first | with_reducible assumption | omega) (by first | with_reducible assumption | omega)) (va_cwS 3 hts gX6_jetOf_X6_in rfl rfl rfl (by decide +kernel) ⟨Nat.le_of_ble_eq_true rfl, Nat.le_of_ble_eq_true rfl⟩) hK hP hD hS hA [] rfl (by decide) (fun _ => rfl) rfl hl.1 rfl (Nat.le_of_ble_eq_true rfl) dX6_jetOf_22 ⟨Nat.le_of_ble_eq_true rfl, Nat.le_of_ble_eq_true rfl⟩ (fun v9 u9 H locs hv hP hD hS => ?_)
    subst hv
    have hP : va_P D vwCl [(m0, .inr (6, [.ref m1, .ref m2, .ref m3, .int (nI k), .ref m4, .int (nI n), .int (nI 0), .int (nI ax), .int (nI fa), .int (nI vl), .ref m5, .int (nI tn), .int (nI hg), .int (nI bg)])), (m1, .inl (cI, 118, .inl (ro 118 s))), (m2, .inl (cI, 118, .inl (ro 118 h))), (m3, .inl (cI, 708, .inl (ro 708 (pkF t)))), (m4, .inl (cI, 60, .inl (ro 60 cs))), (m5, .inl (cI, 48, .inl (ro 48 td)))] H := hP
    have hD : va_D A9 [(m0, .inr (6, [.ref m1, .ref m2, .ref m3, .int (nI k), .ref m4, .int (nI n), .int (nI 0), .int (nI ax), .int (nI fa), .int (nI vl), .ref m5, .int (nI tn), .int (nI hg), .int (nI bg)])), (m1, .inl (cI, 118, .inl (ro 118 s))), (m2, .inl (cI, 118, .inl (ro 118 h))), (m3, .inl (cI, 708, .inl (ro 708 (pkF t)))), (m4, .inl (cI, 60, .inl (ro 60 cs))), (m5, .inl (cI, 48, .inl (ro 48 td)))] := hD
    refine W.eq (g2 := F0 m9 25 ls [.int (nI 1)]) rfl ?_
    refine q_feq (tgt := 37) (by omega) hx hb dX6_jetOf_25 (by decide) (fun c_25 => ?_) (fun c_25 => ?_)
    · exact absurd True.intro (by omega)
    ·
      refine lv_aload_n hx hb dX6_jetOf_28 rfl (lv_at hl 0 rfl) ?_
      refine lv_iload_n hx hb dX6_jetOf_29 rfl (lv_at hl 1 rfl) ?_
      refine lv_iload_n hx hb dX6_jetOf_30 rfl (lv_at hl 2 rfl) ?_
      refine KM.callV (As := [.int (nI j), .int (nI y)]) (rest := []) C0 hN (k_X6_ofJet l D cI cS cL T m0 m1 m2 m3 m4 m5 k n 0 ax fa vl tn hg bg s j y  (by first | with_reducible assumption | omega) (by omega) (by first | with_reducible assumption | omega) (by first | with_reducible assumption | omega)) (cwV 2 hts gX6_jetOf_X6_ofJet rfl rfl rfl (by decide +kernel) ⟨Nat.le_of_ble_eq_true rfl, Nat.le_of_ble_eq_true rfl⟩) hK hP hD hS hA [0, 1] rfl (by decide) (fun _ => rfl) 0 6 rfl rfl rfl rfl hl.1 rfl (Nat.le_of_ble_eq_true rfl) dX6_jetOf_31 ⟨Nat.le_of_ble_eq_true rfl, Nat.le_of_ble_eq_true rfl⟩ (fun v9 u9 H locs hv hP hD hS => ?_)
      subst hv
      have hP : va_P D vwCl [(m0, .inr (6, [.ref m1, .ref m2, .ref m3, .int (nI k), .ref m4, .int (nI n), .int (nI 0), .int (nI ax), .int (nI fa), .int (nI vl), .ref m5, .int (nI tn), .int (nI hg), .int (nI bg)])), (m1, .inl (cI, 118, .inl (ro 118 s))), (m2, .inl (cI, 118, .inl (ro 118 h))), (m3, .inl (cI, 708, .inl (ro 708 (pkF t)))), (m4, .inl (cI, 60, .inl (ro 60 cs))), (m5, .inl (cI, 48, .inl (ro 48 td)))] H := hP
      have hD : va_D A9 [(m0, .inr (6, [.ref m1, .ref m2, .ref m3, .int (nI k), .ref m4, .int (nI n), .int (nI 0), .int (nI ax), .int (nI fa), .int (nI vl), .ref m5, .int (nI tn), .int (nI hg), .int (nI bg)])), (m1, .inl (cI, 118, .inl (ro 118 s))), (m2, .inl (cI, 118, .inl (ro 118 h))), (m3, .inl (cI, 708, .inl (ro 708 (pkF t)))), (m4, .inl (cI, 60, .inl (ro 60 cs))), (m5, .inl (cI, 48, .inl (ro 48 td)))] := hD
      refine W.eq (g2 := F0 m9 34 ls [.int (nI (jetS s j y))]) rfl ?_
      refine lv_goto (tgt := 42) hx hb dX6_jetOf_34 (by decide) ?_
      exact hret _ _ _ _ (some (.int (nI (jetS s j y)))) () 42 ls (by decide) (by decide) (by rfl) hP hD hS (ret_i dX6_jetOf_42)
  · exact absurd True.intro (by omega)

theorem in_X6_pumpOf_ok_X6 : ∀ w ∈ wsX60, w ∈ wsX6_pumpOf := by decide +kernel
theorem fl_X6_pumpOf_ok_25 : Cond.fieldLink RX6 25 "FountainCuesModel" "thrown" "I" ∈ wsX6_pumpOf := by decide +kernel
set_option maxHeartbeats 4000000 in
set_option maxRecDepth 100000 in
theorem k_X6_pumpOf_ok (l : Launch) (D : va_G) (cI cS cL : ClassId) (T : Nat) (m0 : Nat) (m1 : Nat) (m2 : Nat) (m3 : Nat) (m4 : Nat) (m5 : Nat) (k : Nat) (n : Nat) (th : Nat) (ax : Nat) (fa : Nat) (vl : Nat) (tn : Nat) (hg : Nat) (bg : Nat) (s : Nat → Nat) (h : Nat → Nat) (t : Nat → Nat → Nat) (cs : Nat → Nat) (td : Nat → Nat) (j : Nat) (y : Nat) (hI : sI T s) (hT : T ≤ 900000) (hk : k ≤ 6) (hn : n ≤ 60) (hcs : ∀ j, j < n → cs j < 2 ^ 31) (hj : j < 2) (hy2 : y ≤ 2) : KM l D (TY cI cS cL) yX6_pumpOf wsX6_pumpOf ({ frames := 5, cells := 0, slots := 0, locals := 115 } : Room) [(m0, .inr (6, [.ref m1, .ref m2, .ref m3, .int (nI k), .ref m4, .int (nI n), .int (nI th), .int (nI ax), .int (nI fa), .int (nI vl), .ref m5, .int (nI tn), .int (nI hg), .int (nI bg)])), (m1, .inl (cI, 118, .inl (ro 118 s))), (m2, .inl (cI, 118, .inl (ro 118 h))), (m3, .inl (cI, 708, .inl (ro 708 (pkF t)))), (m4, .inl (cI, 60, .inl (ro 60 cs))), (m5, .inl (cI, 48, .inl (ro 48 td)))] [.ref m0, .int (nI j), .int (nI y)] (fun (v : Option Value) (_ : Unit) => v = some (.int (nI (pmpS s j y)))) (fun _ : Unit => [(m0, .inr (6, [.ref m1, .ref m2, .ref m3, .int (nI k), .ref m4, .int (nI n), .int (nI 0), .int (nI ax), .int (nI fa), .int (nI vl), .ref m5, .int (nI tn), .int (nI hg), .int (nI bg)])), (m1, .inl (cI, 118, .inl (ro 118 s))), (m2, .inl (cI, 118, .inl (ro 118 h))), (m3, .inl (cI, 708, .inl (ro 708 (pkF t)))), (m4, .inl (cI, 60, .inl (ro 60 cs))), (m5, .inl (cI, 48, .inl (ro 48 td)))]) := by
  refine KM.of (cc := cX6_pumpOf) (maxL := 3) (ret := (some .int)) (by decide) rfl (Nat.le_of_ble_eq_true rfl) ?_
  intro p9 e9 s9 m9 ar9 be9 me9 c9 Q9 A9 ls C0 hN hnm hlk hK hA hret hP hD hS hl
  obtain ⟨hx, hb, hml, hown, hts⟩ := id C0
  have hl : lv_has ls 3 [(0, .ref m0), (1, .int (nI j)), (2, .int (nI y))] := hl
  obtain ⟨H, hH0⟩ : ∃ H, H = s9.heap := ⟨_, rfl⟩
  obtain ⟨locs, hlc0⟩ : ∃ z : List Loc, z = [] := ⟨_, rfl⟩
  have hP : va_P D vwCl [(m0, .inr (6, [.ref m1, .ref m2, .ref m3, .int (nI k), .ref m4, .int (nI n), .int (nI th), .int (nI ax), .int (nI fa), .int (nI vl), .ref m5, .int (nI tn), .int (nI hg), .int (nI bg)])), (m1, .inl (cI, 118, .inl (ro 118 s))), (m2, .inl (cI, 118, .inl (ro 118 h))), (m3, .inl (cI, 708, .inl (ro 708 (pkF t)))), (m4, .inl (cI, 60, .inl (ro 60 cs))), (m5, .inl (cI, 48, .inl (ro 48 td)))] H := by rw [hH0]; exact hP
  have hD : va_D A9 [(m0, .inr (6, [.ref m1, .ref m2, .ref m3, .int (nI k), .ref m4, .int (nI n), .int (nI th), .int (nI ax), .int (nI fa), .int (nI vl), .ref m5, .int (nI tn), .int (nI hg), .int (nI bg)])), (m1, .inl (cI, 118, .inl (ro 118 s))), (m2, .inl (cI, 118, .inl (ro 118 h))), (m3, .inl (cI, 708, .inl (ro 708 (pkF t)))), (m4, .inl (cI, 60, .inl (ro 60 cs))), (m5, .inl (cI, 48, .inl (ro 48 td)))] := hD
  have hS : va_S A9 s9.heap H locs := by rw [hH0, hlc0]; exact hS
  suffices hgo : W p9 l e9 ({ frames := 5, cells := 0, slots := 0, locals := 115 } : Room) s9 m9 ar9 be9 me9 c9 H locs 0 0 Q9 (F0 m9 0 ls []) by rw [hH0, hlc0] at hgo; exact hgo
  clear hH0 hlc0
  obtain ⟨hI1, hI2, hI3, hI4, hI5, hI6, hI7, hI8, hI9, hI10, hI11⟩ := id hI
  refine lv_aload_n hx hb dX6_pumpOf_0 rfl (lv_at hl 0 rfl) ?_
  refine lv_iconst (v := nI 0) hx hb dX6_pumpOf_1 (by decide +kernel) ?_
  refine va_put (D := D) (ci := 6) (v := .int (nI 0)) (ty := tyX6 6) (C := RX6) (T := TX6) (N := 14) hx hb hts in_X6_pumpOf_ok_X6 tyX6 tyX6_ok nmX6 hown hK hP hD hS 0 rfl rfl 6 (by decide) (hts _ fl_X6_pumpOf_ok_25) (fun _ h9 => h9) rfl (by decide +kernel) rfl rfl (Nat.le_of_ble_eq_true rfl) dX6_pumpOf_2 (fun H locs hP hD hS => ?_)
  have hP : va_P D vwCl [(m0, .inr (6, [.ref m1, .ref m2, .ref m3, .int (nI k), .ref m4, .int (nI n), .int (nI 0), .int (nI ax), .int (nI fa), .int (nI vl), .ref m5, .int (nI tn), .int (nI hg), .int (nI bg)])), (m1, .inl (cI, 118, .inl (ro 118 s))), (m2, .inl (cI, 118, .inl (ro 118 h))), (m3, .inl (cI, 708, .inl (ro 708 (pkF t)))), (m4, .inl (cI, 60, .inl (ro 60 cs))), (m5, .inl (cI, 48, .inl (ro 48 td)))] H := hP
  have hD : va_D A9 [(m0, .inr (6, [.ref m1, .ref m2, .ref m3, .int (nI k), .ref m4, .int (nI n), .int (nI 0), .int (nI ax), .int (nI fa), .int (nI vl), .ref m5, .int (nI tn), .int (nI hg), .int (nI bg)])), (m1, .inl (cI, 118, .inl (ro 118 s))), (m2, .inl (cI, 118, .inl (ro 118 h))), (m3, .inl (cI, 708, .inl (ro 708 (pkF t)))), (m4, .inl (cI, 60, .inl (ro 60 cs))), (m5, .inl (cI, 48, .inl (ro 48 td)))] := hD
  refine lv_iload_n hx hb dX6_pumpOf_5 rfl (lv_at hl 1 rfl) ?_
  refine lv_iconst (v := nI 0) hx hb dX6_pumpOf_6 (by decide +kernel) ?_
  refine lv_iconst (v := nI 1) hx hb dX6_pumpOf_7 (by decide +kernel) ?_
  refine KM.callS (As := [.int (nI j), .int (nI 0), .int (nI 1)]) (rest := []) C0 hN (k_X6_in_ok l D cI cS cL j 0 1  (by first | with_reducible assumption | omega) (by first | with_reducible assumption | omega) (by first | with_reducible assumption | omega)) (va_cwS 3 hts gX6_pumpOf_X6_in rfl rfl rfl (by decide +kernel) ⟨Nat.le_of_ble_eq_true rfl, Nat.le_of_ble_eq_true rfl⟩) hK hP hD hS hA [] rfl (by decide) (fun _ => rfl) rfl hl.1 rfl (Nat.le_of_ble_eq_true rfl) dX6_pumpOf_8 ⟨Nat.le_of_ble_eq_true rfl, Nat.le_of_ble_eq_true rfl⟩ (fun v9 u9 H locs hv hP hD hS => ?_)
  subst hv
  have hP : va_P D vwCl [(m0, .inr (6, [.ref m1, .ref m2, .ref m3, .int (nI k), .ref m4, .int (nI n), .int (nI 0), .int (nI ax), .int (nI fa), .int (nI vl), .ref m5, .int (nI tn), .int (nI hg), .int (nI bg)])), (m1, .inl (cI, 118, .inl (ro 118 s))), (m2, .inl (cI, 118, .inl (ro 118 h))), (m3, .inl (cI, 708, .inl (ro 708 (pkF t)))), (m4, .inl (cI, 60, .inl (ro 60 cs))), (m5, .inl (cI, 48, .inl (ro 48 td)))] H := hP
  have hD : va_D A9 [(m0, .inr (6, [.ref m1, .ref m2, .ref m3, .int (nI k), .ref m4, .int (nI n), .int (nI 0), .int (nI ax), .int (nI fa), .int (nI vl), .ref m5, .int (nI tn), .int (nI hg), .int (nI bg)])), (m1, .inl (cI, 118, .inl (ro 118 s))), (m2, .inl (cI, 118, .inl (ro 118 h))), (m3, .inl (cI, 708, .inl (ro 708 (pkF t)))), (m4, .inl (cI, 60, .inl (ro 60 cs))), (m5, .inl (cI, 48, .inl (ro 48 td)))] := hD
  refine W.eq (g2 := F0 m9 11 ls [.int (nI 1)]) rfl ?_
  refine q_fne (tgt := 20) (by omega) hx hb dX6_pumpOf_11 (by decide) (fun c_11 => ?_) (fun c_11 => ?_)
  ·
    refine lv_iload_n hx hb dX6_pumpOf_20 rfl (lv_at hl 2 rfl) ?_
    refine lv_iconst (v := nI 0) hx hb dX6_pumpOf_21 (by decide +kernel) ?_
    refine lv_iconst (v := nI 2) hx hb dX6_pumpOf_22 (by decide +kernel) ?_
    refine KM.callS (As := [.int (nI y), .int (nI 0), .int (nI 2)]) (rest := []) C0 hN (k_X6_in_ok l D cI cS cL y 0 2  (by first | with_reducible assumption | omega) (by first | with_reducible assumption | omega) (by first | with_reducible assumption | omega)) (va_cwS 3 hts gX6_pumpOf_X6_in rfl rfl rfl (by decide +kernel) ⟨Nat.le_of_ble_eq_true rfl, Nat.le_of_ble_eq_true rfl⟩) hK hP hD hS hA [] rfl (by decide) (fun _ => rfl) rfl hl.1 rfl (Nat.le_of_ble_eq_true rfl) dX6_pumpOf_23 ⟨Nat.le_of_ble_eq_true rfl, Nat.le_of_ble_eq_true rfl⟩ (fun v9 u9 H locs hv hP hD hS => ?_)
    subst hv
    have hP : va_P D vwCl [(m0, .inr (6, [.ref m1, .ref m2, .ref m3, .int (nI k), .ref m4, .int (nI n), .int (nI 0), .int (nI ax), .int (nI fa), .int (nI vl), .ref m5, .int (nI tn), .int (nI hg), .int (nI bg)])), (m1, .inl (cI, 118, .inl (ro 118 s))), (m2, .inl (cI, 118, .inl (ro 118 h))), (m3, .inl (cI, 708, .inl (ro 708 (pkF t)))), (m4, .inl (cI, 60, .inl (ro 60 cs))), (m5, .inl (cI, 48, .inl (ro 48 td)))] H := hP
    have hD : va_D A9 [(m0, .inr (6, [.ref m1, .ref m2, .ref m3, .int (nI k), .ref m4, .int (nI n), .int (nI 0), .int (nI ax), .int (nI fa), .int (nI vl), .ref m5, .int (nI tn), .int (nI hg), .int (nI bg)])), (m1, .inl (cI, 118, .inl (ro 118 s))), (m2, .inl (cI, 118, .inl (ro 118 h))), (m3, .inl (cI, 708, .inl (ro 708 (pkF t)))), (m4, .inl (cI, 60, .inl (ro 60 cs))), (m5, .inl (cI, 48, .inl (ro 48 td)))] := hD
    refine W.eq (g2 := F0 m9 26 ls [.int (nI 1)]) rfl ?_
    refine q_feq (tgt := 38) (by omega) hx hb dX6_pumpOf_26 (by decide) (fun c_26 => ?_) (fun c_26 => ?_)
    · exact absurd True.intro (by omega)
    ·
      refine lv_aload_n hx hb dX6_pumpOf_29 rfl (lv_at hl 0 rfl) ?_
      refine lv_iload_n hx hb dX6_pumpOf_30 rfl (lv_at hl 1 rfl) ?_
      refine lv_iload_n hx hb dX6_pumpOf_31 rfl (lv_at hl 2 rfl) ?_
      refine KM.callV (As := [.int (nI j), .int (nI y)]) (rest := []) C0 hN (k_X6_ofPump l D cI cS cL T m0 m1 m2 m3 m4 m5 k n 0 ax fa vl tn hg bg s j y  (by first | with_reducible assumption | omega) (by omega) (by first | with_reducible assumption | omega) (by first | with_reducible assumption | omega)) (cwV 2 hts gX6_pumpOf_X6_ofPump rfl rfl rfl (by decide +kernel) ⟨Nat.le_of_ble_eq_true rfl, Nat.le_of_ble_eq_true rfl⟩) hK hP hD hS hA [0, 1] rfl (by decide) (fun _ => rfl) 0 6 rfl rfl rfl rfl hl.1 rfl (Nat.le_of_ble_eq_true rfl) dX6_pumpOf_32 ⟨Nat.le_of_ble_eq_true rfl, Nat.le_of_ble_eq_true rfl⟩ (fun v9 u9 H locs hv hP hD hS => ?_)
      subst hv
      have hP : va_P D vwCl [(m0, .inr (6, [.ref m1, .ref m2, .ref m3, .int (nI k), .ref m4, .int (nI n), .int (nI 0), .int (nI ax), .int (nI fa), .int (nI vl), .ref m5, .int (nI tn), .int (nI hg), .int (nI bg)])), (m1, .inl (cI, 118, .inl (ro 118 s))), (m2, .inl (cI, 118, .inl (ro 118 h))), (m3, .inl (cI, 708, .inl (ro 708 (pkF t)))), (m4, .inl (cI, 60, .inl (ro 60 cs))), (m5, .inl (cI, 48, .inl (ro 48 td)))] H := hP
      have hD : va_D A9 [(m0, .inr (6, [.ref m1, .ref m2, .ref m3, .int (nI k), .ref m4, .int (nI n), .int (nI 0), .int (nI ax), .int (nI fa), .int (nI vl), .ref m5, .int (nI tn), .int (nI hg), .int (nI bg)])), (m1, .inl (cI, 118, .inl (ro 118 s))), (m2, .inl (cI, 118, .inl (ro 118 h))), (m3, .inl (cI, 708, .inl (ro 708 (pkF t)))), (m4, .inl (cI, 60, .inl (ro 60 cs))), (m5, .inl (cI, 48, .inl (ro 48 td)))] := hD
      refine W.eq (g2 := F0 m9 35 ls [.int (nI (pmpS s j y))]) rfl ?_
      refine lv_goto (tgt := 43) hx hb dX6_pumpOf_35 (by decide) ?_
      exact hret _ _ _ _ (some (.int (nI (pmpS s j y)))) () 43 ls (by decide) (by decide) (by rfl) hP hD hS (ret_i dX6_pumpOf_43)
  · exact absurd True.intro (by omega)

theorem in_X6_cueOf_ok_X6 : ∀ w ∈ wsX60, w ∈ wsX6_cueOf := by decide +kernel
theorem fl_X6_cueOf_ok_25 : Cond.fieldLink RX6 25 "FountainCuesModel" "thrown" "I" ∈ wsX6_cueOf := by decide +kernel
theorem fl_X6_cueOf_ok_7 : Cond.fieldLink RX6 7 "FountainCuesModel" "now" "[I" ∈ wsX6_cueOf := by decide +kernel
set_option maxHeartbeats 4000000 in
set_option maxRecDepth 100000 in
theorem k_X6_cueOf_ok (l : Launch) (D : va_G) (cI cS cL : ClassId) (T : Nat) (m0 : Nat) (m1 : Nat) (m2 : Nat) (m3 : Nat) (m4 : Nat) (m5 : Nat) (k : Nat) (n : Nat) (th : Nat) (ax : Nat) (fa : Nat) (vl : Nat) (tn : Nat) (hg : Nat) (bg : Nat) (s : Nat → Nat) (h : Nat → Nat) (t : Nat → Nat → Nat) (cs : Nat → Nat) (td : Nat → Nat) (x : Nat) (y : Nat) (hI : sI T s) (hT : T ≤ 900000) (hk : k ≤ 6) (hn : n ≤ 60) (hcs : ∀ j, j < n → cs j < 2 ^ 31) (hx2 : x < 2 ^ 31) (hy2 : y ≤ 3) : KM l D (TY cI cS cL) yX6_cueOf wsX6_cueOf ({ frames := 1, cells := 0, slots := 0, locals := 22 } : Room) [(m0, .inr (6, [.ref m1, .ref m2, .ref m3, .int (nI k), .ref m4, .int (nI n), .int (nI th), .int (nI ax), .int (nI fa), .int (nI vl), .ref m5, .int (nI tn), .int (nI hg), .int (nI bg)])), (m1, .inl (cI, 118, .inl (ro 118 s))), (m2, .inl (cI, 118, .inl (ro 118 h))), (m3, .inl (cI, 708, .inl (ro 708 (pkF t)))), (m4, .inl (cI, 60, .inl (ro 60 cs))), (m5, .inl (cI, 48, .inl (ro 48 td)))] [.ref m0, .int (nI x), .int (nI y)] (fun (v : Option Value) (_ : Unit) => v = some (.int (if x < s 8 then nI (numS (nuF s) (tiF s) (jeF s) (acF s) y x) else -1))) (fun _ : Unit => [(m0, .inr (6, [.ref m1, .ref m2, .ref m3, .int (nI k), .ref m4, .int (nI n), .int (nI 0), .int (nI ax), .int (nI fa), .int (nI vl), .ref m5, .int (nI tn), .int (nI hg), .int (nI bg)])), (m1, .inl (cI, 118, .inl (ro 118 s))), (m2, .inl (cI, 118, .inl (ro 118 h))), (m3, .inl (cI, 708, .inl (ro 708 (pkF t)))), (m4, .inl (cI, 60, .inl (ro 60 cs))), (m5, .inl (cI, 48, .inl (ro 48 td)))]) := by
  refine KM.of (cc := cX6_cueOf) (maxL := 3) (ret := (some .int)) (by decide) rfl (Nat.le_of_ble_eq_true rfl) ?_
  intro p9 e9 s9 m9 ar9 be9 me9 c9 Q9 A9 ls C0 hN hnm hlk hK hA hret hP hD hS hl
  obtain ⟨hx, hb, hml, hown, hts⟩ := id C0
  have hl : lv_has ls 3 [(0, .ref m0), (1, .int (nI x)), (2, .int (nI y))] := hl
  obtain ⟨H, hH0⟩ : ∃ H, H = s9.heap := ⟨_, rfl⟩
  obtain ⟨locs, hlc0⟩ : ∃ z : List Loc, z = [] := ⟨_, rfl⟩
  have hP : va_P D vwCl [(m0, .inr (6, [.ref m1, .ref m2, .ref m3, .int (nI k), .ref m4, .int (nI n), .int (nI th), .int (nI ax), .int (nI fa), .int (nI vl), .ref m5, .int (nI tn), .int (nI hg), .int (nI bg)])), (m1, .inl (cI, 118, .inl (ro 118 s))), (m2, .inl (cI, 118, .inl (ro 118 h))), (m3, .inl (cI, 708, .inl (ro 708 (pkF t)))), (m4, .inl (cI, 60, .inl (ro 60 cs))), (m5, .inl (cI, 48, .inl (ro 48 td)))] H := by rw [hH0]; exact hP
  have hD : va_D A9 [(m0, .inr (6, [.ref m1, .ref m2, .ref m3, .int (nI k), .ref m4, .int (nI n), .int (nI th), .int (nI ax), .int (nI fa), .int (nI vl), .ref m5, .int (nI tn), .int (nI hg), .int (nI bg)])), (m1, .inl (cI, 118, .inl (ro 118 s))), (m2, .inl (cI, 118, .inl (ro 118 h))), (m3, .inl (cI, 708, .inl (ro 708 (pkF t)))), (m4, .inl (cI, 60, .inl (ro 60 cs))), (m5, .inl (cI, 48, .inl (ro 48 td)))] := hD
  have hS : va_S A9 s9.heap H locs := by rw [hH0, hlc0]; exact hS
  suffices hgo : W p9 l e9 ({ frames := 1, cells := 0, slots := 0, locals := 22 } : Room) s9 m9 ar9 be9 me9 c9 H locs 0 0 Q9 (F0 m9 0 ls []) by rw [hH0, hlc0] at hgo; exact hgo
  clear hH0 hlc0
  obtain ⟨hI1, hI2, hI3, hI4, hI5, hI6, hI7, hI8, hI9, hI10, hI11⟩ := id hI
  refine lv_aload_n hx hb dX6_cueOf_0 rfl (lv_at hl 0 rfl) ?_
  refine lv_iconst (v := nI 0) hx hb dX6_cueOf_1 (by decide +kernel) ?_
  refine va_put (D := D) (ci := 6) (v := .int (nI 0)) (ty := tyX6 6) (C := RX6) (T := TX6) (N := 14) hx hb hts in_X6_cueOf_ok_X6 tyX6 tyX6_ok nmX6 hown hK hP hD hS 0 rfl rfl 6 (by decide) (hts _ fl_X6_cueOf_ok_25) (fun _ h9 => h9) rfl (by decide +kernel) rfl rfl (Nat.le_of_ble_eq_true rfl) dX6_cueOf_2 (fun H locs hP hD hS => ?_)
  have hP : va_P D vwCl [(m0, .inr (6, [.ref m1, .ref m2, .ref m3, .int (nI k), .ref m4, .int (nI n), .int (nI 0), .int (nI ax), .int (nI fa), .int (nI vl), .ref m5, .int (nI tn), .int (nI hg), .int (nI bg)])), (m1, .inl (cI, 118, .inl (ro 118 s))), (m2, .inl (cI, 118, .inl (ro 118 h))), (m3, .inl (cI, 708, .inl (ro 708 (pkF t)))), (m4, .inl (cI, 60, .inl (ro 60 cs))), (m5, .inl (cI, 48, .inl (ro 48 td)))] H := hP
  have hD : va_D A9 [(m0, .inr (6, [.ref m1, .ref m2, .ref m3, .int (nI k), .ref m4, .int (nI n), .int (nI 0), .int (nI ax), .int (nI fa), .int (nI vl), .ref m5, .int (nI tn), .int (nI hg), .int (nI bg)])), (m1, .inl (cI, 118, .inl (ro 118 s))), (m2, .inl (cI, 118, .inl (ro 118 h))), (m3, .inl (cI, 708, .inl (ro 708 (pkF t)))), (m4, .inl (cI, 60, .inl (ro 60 cs))), (m5, .inl (cI, 48, .inl (ro 48 td)))] := hD
  refine lv_iload_n hx hb dX6_cueOf_5 rfl (lv_at hl 1 rfl) ?_
  refine lv_if_lt (tgt := 18) hx hb dX6_cueOf_6 (by decide) (fun c_6 => ?_) (fun c_6 => ?_)
  · exact absurd c_6 (nI_pos (by omega))
  ·
    refine lv_iload_n hx hb dX6_cueOf_9 rfl (lv_at hl 2 rfl) ?_
    refine lv_iconst (v := nI 0) hx hb dX6_cueOf_10 (by decide +kernel) ?_
    refine lv_iconst (v := nI 3) hx hb dX6_cueOf_11 (by decide +kernel) ?_
    refine KM.callS (As := [.int (nI y), .int (nI 0), .int (nI 3)]) (rest := []) C0 hN (k_X6_in_ok l D cI cS cL y 0 3  (by first | with_reducible assumption | omega) (by first | with_reducible assumption | omega) (by first | with_reducible assumption | omega)) (va_cwS 3 hts gX6_cueOf_X6_in rfl rfl rfl (by decide +kernel) ⟨Nat.le_of_ble_eq_true rfl, Nat.le_of_ble_eq_true rfl⟩) hK hP hD hS hA [] rfl (by decide) (fun _ => rfl) rfl hl.1 rfl (Nat.le_of_ble_eq_true rfl) dX6_cueOf_12 ⟨Nat.le_of_ble_eq_true rfl, Nat.le_of_ble_eq_true rfl⟩ (fun v9 u9 H locs hv hP hD hS => ?_)
    subst hv
    have hP : va_P D vwCl [(m0, .inr (6, [.ref m1, .ref m2, .ref m3, .int (nI k), .ref m4, .int (nI n), .int (nI 0), .int (nI ax), .int (nI fa), .int (nI vl), .ref m5, .int (nI tn), .int (nI hg), .int (nI bg)])), (m1, .inl (cI, 118, .inl (ro 118 s))), (m2, .inl (cI, 118, .inl (ro 118 h))), (m3, .inl (cI, 708, .inl (ro 708 (pkF t)))), (m4, .inl (cI, 60, .inl (ro 60 cs))), (m5, .inl (cI, 48, .inl (ro 48 td)))] H := hP
    have hD : va_D A9 [(m0, .inr (6, [.ref m1, .ref m2, .ref m3, .int (nI k), .ref m4, .int (nI n), .int (nI 0), .int (nI ax), .int (nI fa), .int (nI vl), .ref m5, .int (nI tn), .int (nI hg), .int (nI bg)])), (m1, .inl (cI, 118, .inl (ro 118 s))), (m2, .inl (cI, 118, .inl (ro 118 h))), (m3, .inl (cI, 708, .inl (ro 708 (pkF t)))), (m4, .inl (cI, 60, .inl (ro 60 cs))), (m5, .inl (cI, 48, .inl (ro 48 td)))] := hD
    refine W.eq (g2 := F0 m9 15 ls [.int (nI 1)]) rfl ?_
    refine q_fne (tgt := 24) (by omega) hx hb dX6_cueOf_15 (by decide) (fun c_15 => ?_) (fun c_15 => ?_)
    ·
      refine lv_iload_n hx hb dX6_cueOf_24 rfl (lv_at hl 1 rfl) ?_
      refine lv_aload_n hx hb dX6_cueOf_25 rfl (lv_at hl 0 rfl) ?_
      refine va_get (D := D) (ci := 6) (v := .ref m1) (C := RX6) (T := TX6) (N := 14) hx hb hts in_X6_cueOf_ok_X6 hown hK hP 0 rfl rfl 0 (by decide) (hts _ fl_X6_cueOf_ok_7) (fun _ h9 => h9) rfl dX6_cueOf_26 ?_
      refine lv_bipush (v := nI 8) hx hb dX6_cueOf_29 (by decide +kernel) ?_
      refine q_iald 1 0 (by omega) (by omega) hx hb hK hP rfl rfl dX6_cueOf_31 ?_
      refine q_ige (tgt := 47) (by omega) (by omega) hx hb dX6_cueOf_32 (by decide) (fun c_32 => ?_) (fun c_32 => ?_)
      ·
        refine lv_iconst (v := (-1)) hx hb dX6_cueOf_47 (by decide +kernel) ?_
        exact hret _ _ _ _ (some (.int (-1))) () 48 ls (by decide) (by decide) (by first | exact rvi (if_neg (by omega)).symm | exact rvi (((if_pos (by omega)).trans (congrArg nI (by unfold numS; (repeat' split) <;> (show s _ = s _; congr 1; omega)))).symm)) hP hD hS (ret_i dX6_cueOf_48)
      ·
        refine lv_aload_n hx hb dX6_cueOf_35 rfl (lv_at hl 0 rfl) ?_
        refine va_get (D := D) (ci := 6) (v := .ref m1) (C := RX6) (T := TX6) (N := 14) hx hb hts in_X6_cueOf_ok_X6 hown hK hP 0 rfl rfl 0 (by decide) (hts _ fl_X6_cueOf_ok_7) (fun _ h9 => h9) rfl dX6_cueOf_36 ?_
        refine lv_iload_n hx hb dX6_cueOf_39 rfl (lv_at hl 1 rfl) ?_
        refine lv_iload_n hx hb dX6_cueOf_40 rfl (lv_at hl 2 rfl) ?_
        refine KM.callS (As := [.ref m1, .int (nI x), .int (nI y)]) (rest := []) C0 hN (k_X6_by_v l D cI cS cL m1 s x y  (by first | with_reducible assumption | omega) (by first | with_reducible assumption | omega)) (va_cwS 3 hts gX6_cueOf_X6_by rfl rfl rfl (by decide +kernel) ⟨Nat.le_of_ble_eq_true rfl, Nat.le_of_ble_eq_true rfl⟩) hK hP hD hS hA [1] rfl (by decide) (fun _ => rfl) rfl hl.1 rfl (Nat.le_of_ble_eq_true rfl) dX6_cueOf_41 ⟨Nat.le_of_ble_eq_true rfl, Nat.le_of_ble_eq_true rfl⟩ (fun v9 u9 H locs hv hP hD hS => ?_)
        subst hv
        have hP : va_P D vwCl [(m0, .inr (6, [.ref m1, .ref m2, .ref m3, .int (nI k), .ref m4, .int (nI n), .int (nI 0), .int (nI ax), .int (nI fa), .int (nI vl), .ref m5, .int (nI tn), .int (nI hg), .int (nI bg)])), (m1, .inl (cI, 118, .inl (ro 118 s))), (m2, .inl (cI, 118, .inl (ro 118 h))), (m3, .inl (cI, 708, .inl (ro 708 (pkF t)))), (m4, .inl (cI, 60, .inl (ro 60 cs))), (m5, .inl (cI, 48, .inl (ro 48 td)))] H := hP
        have hD : va_D A9 [(m0, .inr (6, [.ref m1, .ref m2, .ref m3, .int (nI k), .ref m4, .int (nI n), .int (nI 0), .int (nI ax), .int (nI fa), .int (nI vl), .ref m5, .int (nI tn), .int (nI hg), .int (nI bg)])), (m1, .inl (cI, 118, .inl (ro 118 s))), (m2, .inl (cI, 118, .inl (ro 118 h))), (m3, .inl (cI, 708, .inl (ro 708 (pkF t)))), (m4, .inl (cI, 60, .inl (ro 60 cs))), (m5, .inl (cI, 48, .inl (ro 48 td)))] := hD
        refine W.eq (g2 := F0 m9 44 ls [.int (nI (s (54 + 4 * x + y)))]) rfl ?_
        refine lv_goto (tgt := 48) hx hb dX6_cueOf_44 (by decide) ?_
        exact hret _ _ _ _ (some (.int (nI (s (54 + 4 * x + y))))) () 48 ls (by decide) (by decide) (by first | exact rvi (if_neg (by omega)).symm | exact rvi (((if_pos (by omega)).trans (congrArg nI (by unfold numS; (repeat' split) <;> (show s _ = s _; congr 1; omega)))).symm)) hP hD hS (ret_i dX6_cueOf_48)
    · exact absurd True.intro (by omega)

theorem in_X6_count_ok_X6 : ∀ w ∈ wsX60, w ∈ wsX6_count := by decide +kernel
theorem fl_X6_count_ok_25 : Cond.fieldLink RX6 25 "FountainCuesModel" "thrown" "I" ∈ wsX6_count := by decide +kernel
set_option maxHeartbeats 4000000 in
set_option maxRecDepth 100000 in
theorem k_X6_count_ok (l : Launch) (D : va_G) (cI cS cL : ClassId) (T : Nat) (m0 : Nat) (m1 : Nat) (m2 : Nat) (m3 : Nat) (m4 : Nat) (m5 : Nat) (k : Nat) (n : Nat) (th : Nat) (ax : Nat) (fa : Nat) (vl : Nat) (tn : Nat) (hg : Nat) (bg : Nat) (s : Nat → Nat) (h : Nat → Nat) (t : Nat → Nat → Nat) (cs : Nat → Nat) (td : Nat → Nat) (y : Nat) (hI : sI T s) (hT : T ≤ 900000) (hk : k ≤ 6) (hn : n ≤ 60) (hcs : ∀ j, j < n → cs j < 2 ^ 31) (hy2 : y ≤ 9) : KM l D (TY cI cS cL) yX6_count wsX6_count ({ frames := 7, cells := 0, slots := 0, locals := 155 } : Room) [(m0, .inr (6, [.ref m1, .ref m2, .ref m3, .int (nI k), .ref m4, .int (nI n), .int (nI th), .int (nI ax), .int (nI fa), .int (nI vl), .ref m5, .int (nI tn), .int (nI hg), .int (nI bg)])), (m1, .inl (cI, 118, .inl (ro 118 s))), (m2, .inl (cI, 118, .inl (ro 118 h))), (m3, .inl (cI, 708, .inl (ro 708 (pkF t)))), (m4, .inl (cI, 60, .inl (ro 60 cs))), (m5, .inl (cI, 48, .inl (ro 48 td)))] [.ref m0, .int (nI y)] (fun (v : Option Value) (_ : Unit) => v = some (.int (nI (cntS s k y)))) (fun _ : Unit => [(m0, .inr (6, [.ref m1, .ref m2, .ref m3, .int (nI k), .ref m4, .int (nI n), .int (nI 0), .int (nI ax), .int (nI fa), .int (nI vl), .ref m5, .int (nI tn), .int (nI hg), .int (nI bg)])), (m1, .inl (cI, 118, .inl (ro 118 s))), (m2, .inl (cI, 118, .inl (ro 118 h))), (m3, .inl (cI, 708, .inl (ro 708 (pkF t)))), (m4, .inl (cI, 60, .inl (ro 60 cs))), (m5, .inl (cI, 48, .inl (ro 48 td)))]) := by
  refine KM.of (cc := cX6_count) (maxL := 2) (ret := (some .int)) (by decide) rfl (Nat.le_of_ble_eq_true rfl) ?_
  intro p9 e9 s9 m9 ar9 be9 me9 c9 Q9 A9 ls C0 hN hnm hlk hK hA hret hP hD hS hl
  obtain ⟨hx, hb, hml, hown, hts⟩ := id C0
  have hl : lv_has ls 2 [(0, .ref m0), (1, .int (nI y))] := hl
  obtain ⟨H, hH0⟩ : ∃ H, H = s9.heap := ⟨_, rfl⟩
  obtain ⟨locs, hlc0⟩ : ∃ z : List Loc, z = [] := ⟨_, rfl⟩
  have hP : va_P D vwCl [(m0, .inr (6, [.ref m1, .ref m2, .ref m3, .int (nI k), .ref m4, .int (nI n), .int (nI th), .int (nI ax), .int (nI fa), .int (nI vl), .ref m5, .int (nI tn), .int (nI hg), .int (nI bg)])), (m1, .inl (cI, 118, .inl (ro 118 s))), (m2, .inl (cI, 118, .inl (ro 118 h))), (m3, .inl (cI, 708, .inl (ro 708 (pkF t)))), (m4, .inl (cI, 60, .inl (ro 60 cs))), (m5, .inl (cI, 48, .inl (ro 48 td)))] H := by rw [hH0]; exact hP
  have hD : va_D A9 [(m0, .inr (6, [.ref m1, .ref m2, .ref m3, .int (nI k), .ref m4, .int (nI n), .int (nI th), .int (nI ax), .int (nI fa), .int (nI vl), .ref m5, .int (nI tn), .int (nI hg), .int (nI bg)])), (m1, .inl (cI, 118, .inl (ro 118 s))), (m2, .inl (cI, 118, .inl (ro 118 h))), (m3, .inl (cI, 708, .inl (ro 708 (pkF t)))), (m4, .inl (cI, 60, .inl (ro 60 cs))), (m5, .inl (cI, 48, .inl (ro 48 td)))] := hD
  have hS : va_S A9 s9.heap H locs := by rw [hH0, hlc0]; exact hS
  suffices hgo : W p9 l e9 ({ frames := 7, cells := 0, slots := 0, locals := 155 } : Room) s9 m9 ar9 be9 me9 c9 H locs 0 0 Q9 (F0 m9 0 ls []) by rw [hH0, hlc0] at hgo; exact hgo
  clear hH0 hlc0
  obtain ⟨hI1, hI2, hI3, hI4, hI5, hI6, hI7, hI8, hI9, hI10, hI11⟩ := id hI
  refine lv_aload_n hx hb dX6_count_0 rfl (lv_at hl 0 rfl) ?_
  refine lv_iconst (v := nI 0) hx hb dX6_count_1 (by decide +kernel) ?_
  refine va_put (D := D) (ci := 6) (v := .int (nI 0)) (ty := tyX6 6) (C := RX6) (T := TX6) (N := 14) hx hb hts in_X6_count_ok_X6 tyX6 tyX6_ok nmX6 hown hK hP hD hS 0 rfl rfl 6 (by decide) (hts _ fl_X6_count_ok_25) (fun _ h9 => h9) rfl (by decide +kernel) rfl rfl (Nat.le_of_ble_eq_true rfl) dX6_count_2 (fun H locs hP hD hS => ?_)
  have hP : va_P D vwCl [(m0, .inr (6, [.ref m1, .ref m2, .ref m3, .int (nI k), .ref m4, .int (nI n), .int (nI 0), .int (nI ax), .int (nI fa), .int (nI vl), .ref m5, .int (nI tn), .int (nI hg), .int (nI bg)])), (m1, .inl (cI, 118, .inl (ro 118 s))), (m2, .inl (cI, 118, .inl (ro 118 h))), (m3, .inl (cI, 708, .inl (ro 708 (pkF t)))), (m4, .inl (cI, 60, .inl (ro 60 cs))), (m5, .inl (cI, 48, .inl (ro 48 td)))] H := hP
  have hD : va_D A9 [(m0, .inr (6, [.ref m1, .ref m2, .ref m3, .int (nI k), .ref m4, .int (nI n), .int (nI 0), .int (nI ax), .int (nI fa), .int (nI vl), .ref m5, .int (nI tn), .int (nI hg), .int (nI bg)])), (m1, .inl (cI, 118, .inl (ro 118 s))), (m2, .inl (cI, 118, .inl (ro 118 h))), (m3, .inl (cI, 708, .inl (ro 708 (pkF t)))), (m4, .inl (cI, 60, .inl (ro 60 cs))), (m5, .inl (cI, 48, .inl (ro 48 td)))] := hD
  refine lv_iload_n hx hb dX6_count_5 rfl (lv_at hl 1 rfl) ?_
  refine lv_iconst (v := nI 0) hx hb dX6_count_6 (by decide +kernel) ?_
  refine lv_bipush (v := nI 9) hx hb dX6_count_7 (by decide +kernel) ?_
  refine KM.callS (As := [.int (nI y), .int (nI 0), .int (nI 9)]) (rest := []) C0 hN (k_X6_in_ok l D cI cS cL y 0 9  (by first | with_reducible assumption | omega) (by first | with_reducible assumption | omega) (by first | with_reducible assumption | omega)) (va_cwS 3 hts gX6_count_X6_in rfl rfl rfl (by decide +kernel) ⟨Nat.le_of_ble_eq_true rfl, Nat.le_of_ble_eq_true rfl⟩) hK hP hD hS hA [] rfl (by decide) (fun _ => rfl) rfl hl.1 rfl (Nat.le_of_ble_eq_true rfl) dX6_count_9 ⟨Nat.le_of_ble_eq_true rfl, Nat.le_of_ble_eq_true rfl⟩ (fun v9 u9 H locs hv hP hD hS => ?_)
  subst hv
  have hP : va_P D vwCl [(m0, .inr (6, [.ref m1, .ref m2, .ref m3, .int (nI k), .ref m4, .int (nI n), .int (nI 0), .int (nI ax), .int (nI fa), .int (nI vl), .ref m5, .int (nI tn), .int (nI hg), .int (nI bg)])), (m1, .inl (cI, 118, .inl (ro 118 s))), (m2, .inl (cI, 118, .inl (ro 118 h))), (m3, .inl (cI, 708, .inl (ro 708 (pkF t)))), (m4, .inl (cI, 60, .inl (ro 60 cs))), (m5, .inl (cI, 48, .inl (ro 48 td)))] H := hP
  have hD : va_D A9 [(m0, .inr (6, [.ref m1, .ref m2, .ref m3, .int (nI k), .ref m4, .int (nI n), .int (nI 0), .int (nI ax), .int (nI fa), .int (nI vl), .ref m5, .int (nI tn), .int (nI hg), .int (nI bg)])), (m1, .inl (cI, 118, .inl (ro 118 s))), (m2, .inl (cI, 118, .inl (ro 118 h))), (m3, .inl (cI, 708, .inl (ro 708 (pkF t)))), (m4, .inl (cI, 60, .inl (ro 60 cs))), (m5, .inl (cI, 48, .inl (ro 48 td)))] := hD
  refine W.eq (g2 := F0 m9 12 ls [.int (nI 1)]) rfl ?_
  refine q_feq (tgt := 23) (by omega) hx hb dX6_count_12 (by decide) (fun c_12 => ?_) (fun c_12 => ?_)
  · exact absurd True.intro (by omega)
  ·
    refine lv_aload_n hx hb dX6_count_15 rfl (lv_at hl 0 rfl) ?_
    refine lv_iload_n hx hb dX6_count_16 rfl (lv_at hl 1 rfl) ?_
    refine KM.callV (As := [.int (nI y)]) (rest := []) C0 hN (k_X6_counted l D cI cS cL T m0 m1 m2 m3 m4 m5 k n 0 ax fa vl tn hg bg s y  (by first | with_reducible assumption | omega) (by omega) (by first | with_reducible assumption | omega)) (cwV 1 hts gX6_count_X6_counted rfl rfl rfl (by decide +kernel) ⟨Nat.le_of_ble_eq_true rfl, Nat.le_of_ble_eq_true rfl⟩) hK hP hD hS hA [0, 1] rfl (by decide) (fun _ => rfl) 0 6 rfl rfl rfl rfl hl.1 rfl (Nat.le_of_ble_eq_true rfl) dX6_count_17 ⟨Nat.le_of_ble_eq_true rfl, Nat.le_of_ble_eq_true rfl⟩ (fun v9 u9 H locs hv hP hD hS => ?_)
    subst hv
    have hP : va_P D vwCl [(m0, .inr (6, [.ref m1, .ref m2, .ref m3, .int (nI k), .ref m4, .int (nI n), .int (nI 0), .int (nI ax), .int (nI fa), .int (nI vl), .ref m5, .int (nI tn), .int (nI hg), .int (nI bg)])), (m1, .inl (cI, 118, .inl (ro 118 s))), (m2, .inl (cI, 118, .inl (ro 118 h))), (m3, .inl (cI, 708, .inl (ro 708 (pkF t)))), (m4, .inl (cI, 60, .inl (ro 60 cs))), (m5, .inl (cI, 48, .inl (ro 48 td)))] H := hP
    have hD : va_D A9 [(m0, .inr (6, [.ref m1, .ref m2, .ref m3, .int (nI k), .ref m4, .int (nI n), .int (nI 0), .int (nI ax), .int (nI fa), .int (nI vl), .ref m5, .int (nI tn), .int (nI hg), .int (nI bg)])), (m1, .inl (cI, 118, .inl (ro 118 s))), (m2, .inl (cI, 118, .inl (ro 118 h))), (m3, .inl (cI, 708, .inl (ro 708 (pkF t)))), (m4, .inl (cI, 60, .inl (ro 60 cs))), (m5, .inl (cI, 48, .inl (ro 48 td)))] := hD
    refine W.eq (g2 := F0 m9 20 ls [.int (nI (cntS s k y))]) rfl ?_
    refine lv_goto (tgt := 28) hx hb dX6_count_20 (by decide) ?_
    exact hret _ _ _ _ (some (.int (nI (cntS s k y)))) () 28 ls (by decide) (by decide) (by rfl) hP hD hS (ret_i dX6_count_28)

theorem in_X6_setting_ok_X6 : ∀ w ∈ wsX60, w ∈ wsX6_setting := by decide +kernel
theorem fl_X6_setting_ok_25 : Cond.fieldLink RX6 25 "FountainCuesModel" "thrown" "I" ∈ wsX6_setting := by decide +kernel
theorem fl_X6_setting_ok_7 : Cond.fieldLink RX6 7 "FountainCuesModel" "now" "[I" ∈ wsX6_setting := by decide +kernel
set_option maxHeartbeats 4000000 in
set_option maxRecDepth 100000 in
theorem k_X6_setting_ok (l : Launch) (D : va_G) (cI cS cL : ClassId) (T : Nat) (m0 : Nat) (m1 : Nat) (m2 : Nat) (m3 : Nat) (m4 : Nat) (m5 : Nat) (k : Nat) (n : Nat) (th : Nat) (ax : Nat) (fa : Nat) (vl : Nat) (tn : Nat) (hg : Nat) (bg : Nat) (s : Nat → Nat) (h : Nat → Nat) (t : Nat → Nat → Nat) (cs : Nat → Nat) (td : Nat → Nat) (j : Nat) (hI : sI T s) (hT : T ≤ 900000) (hk : k ≤ 6) (hn : n ≤ 60) (hcs : ∀ j, j < n → cs j < 2 ^ 31) (hj : j < 3) : KM l D (TY cI cS cL) yX6_setting wsX6_setting ({ frames := 1, cells := 0, slots := 0, locals := 22 } : Room) [(m0, .inr (6, [.ref m1, .ref m2, .ref m3, .int (nI k), .ref m4, .int (nI n), .int (nI th), .int (nI ax), .int (nI fa), .int (nI vl), .ref m5, .int (nI tn), .int (nI hg), .int (nI bg)])), (m1, .inl (cI, 118, .inl (ro 118 s))), (m2, .inl (cI, 118, .inl (ro 118 h))), (m3, .inl (cI, 708, .inl (ro 708 (pkF t)))), (m4, .inl (cI, 60, .inl (ro 60 cs))), (m5, .inl (cI, 48, .inl (ro 48 td)))] [.ref m0, .int (nI j)] (fun (v : Option Value) (_ : Unit) => v = some (.int (nI (seF s j)))) (fun _ : Unit => [(m0, .inr (6, [.ref m1, .ref m2, .ref m3, .int (nI k), .ref m4, .int (nI n), .int (nI 0), .int (nI ax), .int (nI fa), .int (nI vl), .ref m5, .int (nI tn), .int (nI hg), .int (nI bg)])), (m1, .inl (cI, 118, .inl (ro 118 s))), (m2, .inl (cI, 118, .inl (ro 118 h))), (m3, .inl (cI, 708, .inl (ro 708 (pkF t)))), (m4, .inl (cI, 60, .inl (ro 60 cs))), (m5, .inl (cI, 48, .inl (ro 48 td)))]) := by
  refine KM.of (cc := cX6_setting) (maxL := 2) (ret := (some .int)) (by decide) rfl (Nat.le_of_ble_eq_true rfl) ?_
  intro p9 e9 s9 m9 ar9 be9 me9 c9 Q9 A9 ls C0 hN hnm hlk hK hA hret hP hD hS hl
  obtain ⟨hx, hb, hml, hown, hts⟩ := id C0
  have hl : lv_has ls 2 [(0, .ref m0), (1, .int (nI j))] := hl
  obtain ⟨H, hH0⟩ : ∃ H, H = s9.heap := ⟨_, rfl⟩
  obtain ⟨locs, hlc0⟩ : ∃ z : List Loc, z = [] := ⟨_, rfl⟩
  have hP : va_P D vwCl [(m0, .inr (6, [.ref m1, .ref m2, .ref m3, .int (nI k), .ref m4, .int (nI n), .int (nI th), .int (nI ax), .int (nI fa), .int (nI vl), .ref m5, .int (nI tn), .int (nI hg), .int (nI bg)])), (m1, .inl (cI, 118, .inl (ro 118 s))), (m2, .inl (cI, 118, .inl (ro 118 h))), (m3, .inl (cI, 708, .inl (ro 708 (pkF t)))), (m4, .inl (cI, 60, .inl (ro 60 cs))), (m5, .inl (cI, 48, .inl (ro 48 td)))] H := by rw [hH0]; exact hP
  have hD : va_D A9 [(m0, .inr (6, [.ref m1, .ref m2, .ref m3, .int (nI k), .ref m4, .int (nI n), .int (nI th), .int (nI ax), .int (nI fa), .int (nI vl), .ref m5, .int (nI tn), .int (nI hg), .int (nI bg)])), (m1, .inl (cI, 118, .inl (ro 118 s))), (m2, .inl (cI, 118, .inl (ro 118 h))), (m3, .inl (cI, 708, .inl (ro 708 (pkF t)))), (m4, .inl (cI, 60, .inl (ro 60 cs))), (m5, .inl (cI, 48, .inl (ro 48 td)))] := hD
  have hS : va_S A9 s9.heap H locs := by rw [hH0, hlc0]; exact hS
  suffices hgo : W p9 l e9 ({ frames := 1, cells := 0, slots := 0, locals := 22 } : Room) s9 m9 ar9 be9 me9 c9 H locs 0 0 Q9 (F0 m9 0 ls []) by rw [hH0, hlc0] at hgo; exact hgo
  clear hH0 hlc0
  obtain ⟨hI1, hI2, hI3, hI4, hI5, hI6, hI7, hI8, hI9, hI10, hI11⟩ := id hI
  refine lv_aload_n hx hb dX6_setting_0 rfl (lv_at hl 0 rfl) ?_
  refine lv_iconst (v := nI 0) hx hb dX6_setting_1 (by decide +kernel) ?_
  refine va_put (D := D) (ci := 6) (v := .int (nI 0)) (ty := tyX6 6) (C := RX6) (T := TX6) (N := 14) hx hb hts in_X6_setting_ok_X6 tyX6 tyX6_ok nmX6 hown hK hP hD hS 0 rfl rfl 6 (by decide) (hts _ fl_X6_setting_ok_25) (fun _ h9 => h9) rfl (by decide +kernel) rfl rfl (Nat.le_of_ble_eq_true rfl) dX6_setting_2 (fun H locs hP hD hS => ?_)
  have hP : va_P D vwCl [(m0, .inr (6, [.ref m1, .ref m2, .ref m3, .int (nI k), .ref m4, .int (nI n), .int (nI 0), .int (nI ax), .int (nI fa), .int (nI vl), .ref m5, .int (nI tn), .int (nI hg), .int (nI bg)])), (m1, .inl (cI, 118, .inl (ro 118 s))), (m2, .inl (cI, 118, .inl (ro 118 h))), (m3, .inl (cI, 708, .inl (ro 708 (pkF t)))), (m4, .inl (cI, 60, .inl (ro 60 cs))), (m5, .inl (cI, 48, .inl (ro 48 td)))] H := hP
  have hD : va_D A9 [(m0, .inr (6, [.ref m1, .ref m2, .ref m3, .int (nI k), .ref m4, .int (nI n), .int (nI 0), .int (nI ax), .int (nI fa), .int (nI vl), .ref m5, .int (nI tn), .int (nI hg), .int (nI bg)])), (m1, .inl (cI, 118, .inl (ro 118 s))), (m2, .inl (cI, 118, .inl (ro 118 h))), (m3, .inl (cI, 708, .inl (ro 708 (pkF t)))), (m4, .inl (cI, 60, .inl (ro 60 cs))), (m5, .inl (cI, 48, .inl (ro 48 td)))] := hD
  refine lv_iload_n hx hb dX6_setting_5 rfl (lv_at hl 1 rfl) ?_
  refine lv_iconst (v := nI 0) hx hb dX6_setting_6 (by decide +kernel) ?_
  refine lv_iconst (v := nI 2) hx hb dX6_setting_7 (by decide +kernel) ?_
  refine KM.callS (As := [.int (nI j), .int (nI 0), .int (nI 2)]) (rest := []) C0 hN (k_X6_in_ok l D cI cS cL j 0 2  (by first | with_reducible assumption | omega) (by first | with_reducible assumption | omega) (by first | with_reducible assumption | omega)) (va_cwS 3 hts gX6_setting_X6_in rfl rfl rfl (by decide +kernel) ⟨Nat.le_of_ble_eq_true rfl, Nat.le_of_ble_eq_true rfl⟩) hK hP hD hS hA [] rfl (by decide) (fun _ => rfl) rfl hl.1 rfl (Nat.le_of_ble_eq_true rfl) dX6_setting_8 ⟨Nat.le_of_ble_eq_true rfl, Nat.le_of_ble_eq_true rfl⟩ (fun v9 u9 H locs hv hP hD hS => ?_)
  subst hv
  have hP : va_P D vwCl [(m0, .inr (6, [.ref m1, .ref m2, .ref m3, .int (nI k), .ref m4, .int (nI n), .int (nI 0), .int (nI ax), .int (nI fa), .int (nI vl), .ref m5, .int (nI tn), .int (nI hg), .int (nI bg)])), (m1, .inl (cI, 118, .inl (ro 118 s))), (m2, .inl (cI, 118, .inl (ro 118 h))), (m3, .inl (cI, 708, .inl (ro 708 (pkF t)))), (m4, .inl (cI, 60, .inl (ro 60 cs))), (m5, .inl (cI, 48, .inl (ro 48 td)))] H := hP
  have hD : va_D A9 [(m0, .inr (6, [.ref m1, .ref m2, .ref m3, .int (nI k), .ref m4, .int (nI n), .int (nI 0), .int (nI ax), .int (nI fa), .int (nI vl), .ref m5, .int (nI tn), .int (nI hg), .int (nI bg)])), (m1, .inl (cI, 118, .inl (ro 118 s))), (m2, .inl (cI, 118, .inl (ro 118 h))), (m3, .inl (cI, 708, .inl (ro 708 (pkF t)))), (m4, .inl (cI, 60, .inl (ro 60 cs))), (m5, .inl (cI, 48, .inl (ro 48 td)))] := hD
  refine W.eq (g2 := F0 m9 11 ls [.int (nI 1)]) rfl ?_
  refine q_feq (tgt := 23) (by omega) hx hb dX6_setting_11 (by decide) (fun c_11 => ?_) (fun c_11 => ?_)
  · exact absurd True.intro (by omega)
  ·
    refine lv_aload_n hx hb dX6_setting_14 rfl (lv_at hl 0 rfl) ?_
    refine va_get (D := D) (ci := 6) (v := .ref m1) (C := RX6) (T := TX6) (N := 14) hx hb hts in_X6_setting_ok_X6 hown hK hP 0 rfl rfl 0 (by decide) (hts _ fl_X6_setting_ok_7) (fun _ h9 => h9) rfl dX6_setting_15 ?_
    refine lv_iload_n hx hb dX6_setting_18 rfl (lv_at hl 1 rfl) ?_
    refine q_iald 1 0 (by omega) (by omega) hx hb hK hP rfl rfl dX6_setting_19 ?_
    refine lv_goto (tgt := 28) hx hb dX6_setting_20 (by decide) ?_
    exact hret _ _ _ _ (some (.int (nI (s j)))) () 28 ls (by decide) (by decide) (by rfl) hP hD hS (ret_i dX6_setting_28)

theorem in_X6_refusal_ok_X6 : ∀ w ∈ wsX60, w ∈ wsX6_refusal := by decide +kernel
theorem fl_X6_refusal_ok_25 : Cond.fieldLink RX6 25 "FountainCuesModel" "thrown" "I" ∈ wsX6_refusal := by decide +kernel
set_option maxHeartbeats 4000000 in
set_option maxRecDepth 100000 in
theorem k_X6_refusal_ok (l : Launch) (D : va_G) (cI cS cL : ClassId) (T : Nat) (m0 : Nat) (m1 : Nat) (m2 : Nat) (m3 : Nat) (m4 : Nat) (m5 : Nat) (k : Nat) (n : Nat) (th : Nat) (ax : Nat) (fa : Nat) (vl : Nat) (tn : Nat) (hg : Nat) (bg : Nat) (s : Nat → Nat) (h : Nat → Nat) (t : Nat → Nat → Nat) (cs : Nat → Nat) (td : Nat → Nat) (q : Nat) (j : Nat) (x : Nat) (hI : sI T s) (hT : T ≤ 900000) (hk : k ≤ 6) (hn : n ≤ 60) (hcs : ∀ j, j < n → cs j < 2 ^ 31) (hq : q ≤ 999) (hj : j < 8) (hx2 : x ≤ 10) : KM l D (TY cI cS cL) yX6_refusal wsX6_refusal ({ frames := 3, cells := 0, slots := 0, locals := 71 } : Room) [(m0, .inr (6, [.ref m1, .ref m2, .ref m3, .int (nI k), .ref m4, .int (nI n), .int (nI th), .int (nI ax), .int (nI fa), .int (nI vl), .ref m5, .int (nI tn), .int (nI hg), .int (nI bg)])), (m1, .inl (cI, 118, .inl (ro 118 s))), (m2, .inl (cI, 118, .inl (ro 118 h))), (m3, .inl (cI, 708, .inl (ro 708 (pkF t)))), (m4, .inl (cI, 60, .inl (ro 60 cs))), (m5, .inl (cI, 48, .inl (ro 48 td)))] [.ref m0, .int (nI q), .int (nI j), .int (nI x)] (fun (v : Option Value) (_ : Unit) => v = some (.int (nI (rS s q j x)))) (fun _ : Unit => [(m0, .inr (6, [.ref m1, .ref m2, .ref m3, .int (nI k), .ref m4, .int (nI n), .int (nI 0), .int (nI ax), .int (nI fa), .int (nI vl), .ref m5, .int (nI tn), .int (nI hg), .int (nI bg)])), (m1, .inl (cI, 118, .inl (ro 118 s))), (m2, .inl (cI, 118, .inl (ro 118 h))), (m3, .inl (cI, 708, .inl (ro 708 (pkF t)))), (m4, .inl (cI, 60, .inl (ro 60 cs))), (m5, .inl (cI, 48, .inl (ro 48 td)))]) := by
  refine KM.of (cc := cX6_refusal) (maxL := 4) (ret := (some .int)) (by decide) rfl (Nat.le_of_ble_eq_true rfl) ?_
  intro p9 e9 s9 m9 ar9 be9 me9 c9 Q9 A9 ls C0 hN hnm hlk hK hA hret hP hD hS hl
  obtain ⟨hx, hb, hml, hown, hts⟩ := id C0
  have hl : lv_has ls 4 [(0, .ref m0), (1, .int (nI q)), (2, .int (nI j)), (3, .int (nI x))] := hl
  obtain ⟨H, hH0⟩ : ∃ H, H = s9.heap := ⟨_, rfl⟩
  obtain ⟨locs, hlc0⟩ : ∃ z : List Loc, z = [] := ⟨_, rfl⟩
  have hP : va_P D vwCl [(m0, .inr (6, [.ref m1, .ref m2, .ref m3, .int (nI k), .ref m4, .int (nI n), .int (nI th), .int (nI ax), .int (nI fa), .int (nI vl), .ref m5, .int (nI tn), .int (nI hg), .int (nI bg)])), (m1, .inl (cI, 118, .inl (ro 118 s))), (m2, .inl (cI, 118, .inl (ro 118 h))), (m3, .inl (cI, 708, .inl (ro 708 (pkF t)))), (m4, .inl (cI, 60, .inl (ro 60 cs))), (m5, .inl (cI, 48, .inl (ro 48 td)))] H := by rw [hH0]; exact hP
  have hD : va_D A9 [(m0, .inr (6, [.ref m1, .ref m2, .ref m3, .int (nI k), .ref m4, .int (nI n), .int (nI th), .int (nI ax), .int (nI fa), .int (nI vl), .ref m5, .int (nI tn), .int (nI hg), .int (nI bg)])), (m1, .inl (cI, 118, .inl (ro 118 s))), (m2, .inl (cI, 118, .inl (ro 118 h))), (m3, .inl (cI, 708, .inl (ro 708 (pkF t)))), (m4, .inl (cI, 60, .inl (ro 60 cs))), (m5, .inl (cI, 48, .inl (ro 48 td)))] := hD
  have hS : va_S A9 s9.heap H locs := by rw [hH0, hlc0]; exact hS
  suffices hgo : W p9 l e9 ({ frames := 3, cells := 0, slots := 0, locals := 71 } : Room) s9 m9 ar9 be9 me9 c9 H locs 0 0 Q9 (F0 m9 0 ls []) by rw [hH0, hlc0] at hgo; exact hgo
  clear hH0 hlc0
  obtain ⟨hI1, hI2, hI3, hI4, hI5, hI6, hI7, hI8, hI9, hI10, hI11⟩ := id hI
  refine lv_aload_n hx hb dX6_refusal_0 rfl (lv_at hl 0 rfl) ?_
  refine lv_iconst (v := nI 0) hx hb dX6_refusal_1 (by decide +kernel) ?_
  refine va_put (D := D) (ci := 6) (v := .int (nI 0)) (ty := tyX6 6) (C := RX6) (T := TX6) (N := 14) hx hb hts in_X6_refusal_ok_X6 tyX6 tyX6_ok nmX6 hown hK hP hD hS 0 rfl rfl 6 (by decide) (hts _ fl_X6_refusal_ok_25) (fun _ h9 => h9) rfl (by decide +kernel) rfl rfl (Nat.le_of_ble_eq_true rfl) dX6_refusal_2 (fun H locs hP hD hS => ?_)
  have hP : va_P D vwCl [(m0, .inr (6, [.ref m1, .ref m2, .ref m3, .int (nI k), .ref m4, .int (nI n), .int (nI 0), .int (nI ax), .int (nI fa), .int (nI vl), .ref m5, .int (nI tn), .int (nI hg), .int (nI bg)])), (m1, .inl (cI, 118, .inl (ro 118 s))), (m2, .inl (cI, 118, .inl (ro 118 h))), (m3, .inl (cI, 708, .inl (ro 708 (pkF t)))), (m4, .inl (cI, 60, .inl (ro 60 cs))), (m5, .inl (cI, 48, .inl (ro 48 td)))] H := hP
  have hD : va_D A9 [(m0, .inr (6, [.ref m1, .ref m2, .ref m3, .int (nI k), .ref m4, .int (nI n), .int (nI 0), .int (nI ax), .int (nI fa), .int (nI vl), .ref m5, .int (nI tn), .int (nI hg), .int (nI bg)])), (m1, .inl (cI, 118, .inl (ro 118 s))), (m2, .inl (cI, 118, .inl (ro 118 h))), (m3, .inl (cI, 708, .inl (ro 708 (pkF t)))), (m4, .inl (cI, 60, .inl (ro 60 cs))), (m5, .inl (cI, 48, .inl (ro 48 td)))] := hD
  refine lv_iload_n hx hb dX6_refusal_5 rfl (lv_at hl 2 rfl) ?_
  refine KM.callS (As := [.int (nI j)]) (rest := []) C0 hN (k_X6_isJet_ok l D cI cS cL j  (by first | with_reducible assumption | omega)) (va_cwS 1 hts gX6_refusal_X6_isJet rfl rfl rfl (by decide +kernel) ⟨Nat.le_of_ble_eq_true rfl, Nat.le_of_ble_eq_true rfl⟩) hK hP hD hS hA [] rfl (by decide) (fun _ => rfl) rfl hl.1 rfl (Nat.le_of_ble_eq_true rfl) dX6_refusal_6 ⟨Nat.le_of_ble_eq_true rfl, Nat.le_of_ble_eq_true rfl⟩ (fun v9 u9 H locs hv hP hD hS => ?_)
  subst hv
  have hP : va_P D vwCl [(m0, .inr (6, [.ref m1, .ref m2, .ref m3, .int (nI k), .ref m4, .int (nI n), .int (nI 0), .int (nI ax), .int (nI fa), .int (nI vl), .ref m5, .int (nI tn), .int (nI hg), .int (nI bg)])), (m1, .inl (cI, 118, .inl (ro 118 s))), (m2, .inl (cI, 118, .inl (ro 118 h))), (m3, .inl (cI, 708, .inl (ro 708 (pkF t)))), (m4, .inl (cI, 60, .inl (ro 60 cs))), (m5, .inl (cI, 48, .inl (ro 48 td)))] H := hP
  have hD : va_D A9 [(m0, .inr (6, [.ref m1, .ref m2, .ref m3, .int (nI k), .ref m4, .int (nI n), .int (nI 0), .int (nI ax), .int (nI fa), .int (nI vl), .ref m5, .int (nI tn), .int (nI hg), .int (nI bg)])), (m1, .inl (cI, 118, .inl (ro 118 s))), (m2, .inl (cI, 118, .inl (ro 118 h))), (m3, .inl (cI, 708, .inl (ro 708 (pkF t)))), (m4, .inl (cI, 60, .inl (ro 60 cs))), (m5, .inl (cI, 48, .inl (ro 48 td)))] := hD
  refine W.eq (g2 := F0 m9 9 ls [.int (nI 1)]) rfl ?_
  refine q_fne (tgt := 18) (by omega) hx hb dX6_refusal_9 (by decide) (fun c_9 => ?_) (fun c_9 => ?_)
  ·
    refine lv_iload_n hx hb dX6_refusal_18 rfl (lv_at hl 1 rfl) ?_
    refine KM.callS (As := [.int (nI q)]) (rest := []) C0 hN (k_X6_isTick_ok l D cI cS cL q  (by first | with_reducible assumption | omega)) (va_cwS 1 hts gX6_refusal_X6_isTick rfl rfl rfl (by decide +kernel) ⟨Nat.le_of_ble_eq_true rfl, Nat.le_of_ble_eq_true rfl⟩) hK hP hD hS hA [] rfl (by decide) (fun _ => rfl) rfl hl.1 rfl (Nat.le_of_ble_eq_true rfl) dX6_refusal_19 ⟨Nat.le_of_ble_eq_true rfl, Nat.le_of_ble_eq_true rfl⟩ (fun v9 u9 H locs hv hP hD hS => ?_)
    subst hv
    have hP : va_P D vwCl [(m0, .inr (6, [.ref m1, .ref m2, .ref m3, .int (nI k), .ref m4, .int (nI n), .int (nI 0), .int (nI ax), .int (nI fa), .int (nI vl), .ref m5, .int (nI tn), .int (nI hg), .int (nI bg)])), (m1, .inl (cI, 118, .inl (ro 118 s))), (m2, .inl (cI, 118, .inl (ro 118 h))), (m3, .inl (cI, 708, .inl (ro 708 (pkF t)))), (m4, .inl (cI, 60, .inl (ro 60 cs))), (m5, .inl (cI, 48, .inl (ro 48 td)))] H := hP
    have hD : va_D A9 [(m0, .inr (6, [.ref m1, .ref m2, .ref m3, .int (nI k), .ref m4, .int (nI n), .int (nI 0), .int (nI ax), .int (nI fa), .int (nI vl), .ref m5, .int (nI tn), .int (nI hg), .int (nI bg)])), (m1, .inl (cI, 118, .inl (ro 118 s))), (m2, .inl (cI, 118, .inl (ro 118 h))), (m3, .inl (cI, 708, .inl (ro 708 (pkF t)))), (m4, .inl (cI, 60, .inl (ro 60 cs))), (m5, .inl (cI, 48, .inl (ro 48 td)))] := hD
    refine W.eq (g2 := F0 m9 22 ls [.int (nI 1)]) rfl ?_
    refine q_feq (tgt := 45) (by omega) hx hb dX6_refusal_22 (by decide) (fun c_22 => ?_) (fun c_22 => ?_)
    · exact absurd True.intro (by omega)
    ·
      refine lv_iload_n hx hb dX6_refusal_25 rfl (lv_at hl 3 rfl) ?_
      refine lv_iconst (v := nI 0) hx hb dX6_refusal_26 (by decide +kernel) ?_
      refine lv_bipush (v := nI 10) hx hb dX6_refusal_27 (by decide +kernel) ?_
      refine KM.callS (As := [.int (nI x), .int (nI 0), .int (nI 10)]) (rest := []) C0 hN (k_X6_in_ok l D cI cS cL x 0 10  (by first | with_reducible assumption | omega) (by first | with_reducible assumption | omega) (by first | with_reducible assumption | omega)) (va_cwS 3 hts gX6_refusal_X6_in rfl rfl rfl (by decide +kernel) ⟨Nat.le_of_ble_eq_true rfl, Nat.le_of_ble_eq_true rfl⟩) hK hP hD hS hA [] rfl (by decide) (fun _ => rfl) rfl hl.1 rfl (Nat.le_of_ble_eq_true rfl) dX6_refusal_29 ⟨Nat.le_of_ble_eq_true rfl, Nat.le_of_ble_eq_true rfl⟩ (fun v9 u9 H locs hv hP hD hS => ?_)
      subst hv
      have hP : va_P D vwCl [(m0, .inr (6, [.ref m1, .ref m2, .ref m3, .int (nI k), .ref m4, .int (nI n), .int (nI 0), .int (nI ax), .int (nI fa), .int (nI vl), .ref m5, .int (nI tn), .int (nI hg), .int (nI bg)])), (m1, .inl (cI, 118, .inl (ro 118 s))), (m2, .inl (cI, 118, .inl (ro 118 h))), (m3, .inl (cI, 708, .inl (ro 708 (pkF t)))), (m4, .inl (cI, 60, .inl (ro 60 cs))), (m5, .inl (cI, 48, .inl (ro 48 td)))] H := hP
      have hD : va_D A9 [(m0, .inr (6, [.ref m1, .ref m2, .ref m3, .int (nI k), .ref m4, .int (nI n), .int (nI 0), .int (nI ax), .int (nI fa), .int (nI vl), .ref m5, .int (nI tn), .int (nI hg), .int (nI bg)])), (m1, .inl (cI, 118, .inl (ro 118 s))), (m2, .inl (cI, 118, .inl (ro 118 h))), (m3, .inl (cI, 708, .inl (ro 708 (pkF t)))), (m4, .inl (cI, 60, .inl (ro 60 cs))), (m5, .inl (cI, 48, .inl (ro 48 td)))] := hD
      refine W.eq (g2 := F0 m9 32 ls [.int (nI 1)]) rfl ?_
      refine q_feq (tgt := 45) (by omega) hx hb dX6_refusal_32 (by decide) (fun c_32 => ?_) (fun c_32 => ?_)
      · exact absurd True.intro (by omega)
      ·
        refine lv_aload_n hx hb dX6_refusal_35 rfl (lv_at hl 0 rfl) ?_
        refine lv_iload_n hx hb dX6_refusal_36 rfl (lv_at hl 1 rfl) ?_
        refine lv_iload_n hx hb dX6_refusal_37 rfl (lv_at hl 2 rfl) ?_
        refine lv_iload_n hx hb dX6_refusal_38 rfl (lv_at hl 3 rfl) ?_
        refine KM.callV (As := [.int (nI q), .int (nI j), .int (nI x)]) (rest := []) C0 hN (k_X6_reason l D cI cS cL T m0 m1 m2 m3 m4 m5 k n 0 ax fa vl tn hg bg s q j x  (by first | with_reducible assumption | omega) (by omega) (by first | with_reducible assumption | omega) (by first | with_reducible assumption | omega) (by first | with_reducible assumption | omega)) (cwV 3 hts gX6_refusal_X6_reason rfl rfl rfl (by decide +kernel) ⟨Nat.le_of_ble_eq_true rfl, Nat.le_of_ble_eq_true rfl⟩) hK hP hD hS hA [0, 1] rfl (by decide) (fun _ => rfl) 0 6 rfl rfl rfl rfl hl.1 rfl (Nat.le_of_ble_eq_true rfl) dX6_refusal_39 ⟨Nat.le_of_ble_eq_true rfl, Nat.le_of_ble_eq_true rfl⟩ (fun v9 u9 H locs hv hP hD hS => ?_)
        subst hv
        have hP : va_P D vwCl [(m0, .inr (6, [.ref m1, .ref m2, .ref m3, .int (nI k), .ref m4, .int (nI n), .int (nI 0), .int (nI ax), .int (nI fa), .int (nI vl), .ref m5, .int (nI tn), .int (nI hg), .int (nI bg)])), (m1, .inl (cI, 118, .inl (ro 118 s))), (m2, .inl (cI, 118, .inl (ro 118 h))), (m3, .inl (cI, 708, .inl (ro 708 (pkF t)))), (m4, .inl (cI, 60, .inl (ro 60 cs))), (m5, .inl (cI, 48, .inl (ro 48 td)))] H := hP
        have hD : va_D A9 [(m0, .inr (6, [.ref m1, .ref m2, .ref m3, .int (nI k), .ref m4, .int (nI n), .int (nI 0), .int (nI ax), .int (nI fa), .int (nI vl), .ref m5, .int (nI tn), .int (nI hg), .int (nI bg)])), (m1, .inl (cI, 118, .inl (ro 118 s))), (m2, .inl (cI, 118, .inl (ro 118 h))), (m3, .inl (cI, 708, .inl (ro 708 (pkF t)))), (m4, .inl (cI, 60, .inl (ro 60 cs))), (m5, .inl (cI, 48, .inl (ro 48 td)))] := hD
        refine W.eq (g2 := F0 m9 42 ls [.int (nI (rS s q j x))]) rfl ?_
        refine lv_goto (tgt := 50) hx hb dX6_refusal_42 (by decide) ?_
        exact hret _ _ _ _ (some (.int (nI (rS s q j x)))) () 50 ls (by decide) (by decide) (by rfl) hP hD hS (ret_i dX6_refusal_50)
  · exact absurd True.intro (by omega)

theorem in_X6_ifPlayed_ok_X6 : ∀ w ∈ wsX60, w ∈ wsX6_ifPlayed := by decide +kernel
theorem fl_X6_ifPlayed_ok_25 : Cond.fieldLink RX6 25 "FountainCuesModel" "thrown" "I" ∈ wsX6_ifPlayed := by decide +kernel
set_option maxHeartbeats 4000000 in
set_option maxRecDepth 100000 in
theorem k_X6_ifPlayed_ok (l : Launch) (D : va_G) (cI cS cL : ClassId) (T : Nat) (m0 : Nat) (m1 : Nat) (m2 : Nat) (m3 : Nat) (m4 : Nat) (m5 : Nat) (k : Nat) (n : Nat) (th : Nat) (ax : Nat) (fa : Nat) (vl : Nat) (tn : Nat) (hg : Nat) (bg : Nat) (s : Nat → Nat) (h : Nat → Nat) (t : Nat → Nat → Nat) (cs : Nat → Nat) (td : Nat → Nat) (x : Nat) (y : Nat) (hI : sI T s) (hT : T ≤ 900000) (hk : k ≤ 6) (hn : n ≤ 60) (hcs : ∀ j, j < n → cs j < 2 ^ 31) (hx1 : 1 ≤ x) (hx2 : x ≤ 100) (hy2 : y ≤ 3) : KM l D (TY cI cS cL) yX6_ifPlayed wsX6_ifPlayed ({ frames := 7, cells := 0, slots := 0, locals := 163 } : Room) [(m0, .inr (6, [.ref m1, .ref m2, .ref m3, .int (nI k), .ref m4, .int (nI n), .int (nI th), .int (nI ax), .int (nI fa), .int (nI vl), .ref m5, .int (nI tn), .int (nI hg), .int (nI bg)])), (m1, .inl (cI, 118, .inl (ro 118 s))), (m2, .inl (cI, 118, .inl (ro 118 h))), (m3, .inl (cI, 708, .inl (ro 708 (pkF t)))), (m4, .inl (cI, 60, .inl (ro 60 cs))), (m5, .inl (cI, 48, .inl (ro 48 td)))] [.ref m0, .int (nI x), .int (nI y)] (fun (v : Option Value) (u : Nat → Nat → Nat) => v = some (.int (nI (ifpS s x y)))) (fun (u : Nat → Nat → Nat) => [(m0, .inr (6, [.ref m1, .ref m2, .ref m3, .int (nI k), .ref m4, .int (nI n), .int (nI 0), .int (nI ax), .int (nI fa), .int (nI vl), .ref m5, .int (nI tn), .int (nI (u 0 0)), .int (nI (u 0 1))])), (m1, .inl (cI, 118, .inl (ro 118 s))), (m2, .inl (cI, 118, .inl (ro 118 (u 1)))), (m3, .inl (cI, 708, .inl (ro 708 (pkF t)))), (m4, .inl (cI, 60, .inl (ro 60 cs))), (m5, .inl (cI, 48, .inl (ro 48 td)))]) := by
  refine KM.of (cc := cX6_ifPlayed) (maxL := 3) (ret := (some .int)) (by decide) rfl (Nat.le_of_ble_eq_true rfl) ?_
  intro p9 e9 s9 m9 ar9 be9 me9 c9 Q9 A9 ls C0 hN hnm hlk hK hA hret hP hD hS hl
  obtain ⟨hx, hb, hml, hown, hts⟩ := id C0
  have hl : lv_has ls 3 [(0, .ref m0), (1, .int (nI x)), (2, .int (nI y))] := hl
  obtain ⟨H, hH0⟩ : ∃ H, H = s9.heap := ⟨_, rfl⟩
  obtain ⟨locs, hlc0⟩ : ∃ z : List Loc, z = [] := ⟨_, rfl⟩
  have hP : va_P D vwCl [(m0, .inr (6, [.ref m1, .ref m2, .ref m3, .int (nI k), .ref m4, .int (nI n), .int (nI th), .int (nI ax), .int (nI fa), .int (nI vl), .ref m5, .int (nI tn), .int (nI hg), .int (nI bg)])), (m1, .inl (cI, 118, .inl (ro 118 s))), (m2, .inl (cI, 118, .inl (ro 118 h))), (m3, .inl (cI, 708, .inl (ro 708 (pkF t)))), (m4, .inl (cI, 60, .inl (ro 60 cs))), (m5, .inl (cI, 48, .inl (ro 48 td)))] H := by rw [hH0]; exact hP
  have hD : va_D A9 [(m0, .inr (6, [.ref m1, .ref m2, .ref m3, .int (nI k), .ref m4, .int (nI n), .int (nI th), .int (nI ax), .int (nI fa), .int (nI vl), .ref m5, .int (nI tn), .int (nI hg), .int (nI bg)])), (m1, .inl (cI, 118, .inl (ro 118 s))), (m2, .inl (cI, 118, .inl (ro 118 h))), (m3, .inl (cI, 708, .inl (ro 708 (pkF t)))), (m4, .inl (cI, 60, .inl (ro 60 cs))), (m5, .inl (cI, 48, .inl (ro 48 td)))] := hD
  have hS : va_S A9 s9.heap H locs := by rw [hH0, hlc0]; exact hS
  suffices hgo : W p9 l e9 ({ frames := 7, cells := 0, slots := 0, locals := 163 } : Room) s9 m9 ar9 be9 me9 c9 H locs 0 0 Q9 (F0 m9 0 ls []) by rw [hH0, hlc0] at hgo; exact hgo
  clear hH0 hlc0
  obtain ⟨hI1, hI2, hI3, hI4, hI5, hI6, hI7, hI8, hI9, hI10, hI11⟩ := id hI
  refine lv_aload_n hx hb dX6_ifPlayed_0 rfl (lv_at hl 0 rfl) ?_
  refine lv_iconst (v := nI 0) hx hb dX6_ifPlayed_1 (by decide +kernel) ?_
  refine va_put (D := D) (ci := 6) (v := .int (nI 0)) (ty := tyX6 6) (C := RX6) (T := TX6) (N := 14) hx hb hts in_X6_ifPlayed_ok_X6 tyX6 tyX6_ok nmX6 hown hK hP hD hS 0 rfl rfl 6 (by decide) (hts _ fl_X6_ifPlayed_ok_25) (fun _ h9 => h9) rfl (by decide +kernel) rfl rfl (Nat.le_of_ble_eq_true rfl) dX6_ifPlayed_2 (fun H locs hP hD hS => ?_)
  have hP : va_P D vwCl [(m0, .inr (6, [.ref m1, .ref m2, .ref m3, .int (nI k), .ref m4, .int (nI n), .int (nI 0), .int (nI ax), .int (nI fa), .int (nI vl), .ref m5, .int (nI tn), .int (nI hg), .int (nI bg)])), (m1, .inl (cI, 118, .inl (ro 118 s))), (m2, .inl (cI, 118, .inl (ro 118 h))), (m3, .inl (cI, 708, .inl (ro 708 (pkF t)))), (m4, .inl (cI, 60, .inl (ro 60 cs))), (m5, .inl (cI, 48, .inl (ro 48 td)))] H := hP
  have hD : va_D A9 [(m0, .inr (6, [.ref m1, .ref m2, .ref m3, .int (nI k), .ref m4, .int (nI n), .int (nI 0), .int (nI ax), .int (nI fa), .int (nI vl), .ref m5, .int (nI tn), .int (nI hg), .int (nI bg)])), (m1, .inl (cI, 118, .inl (ro 118 s))), (m2, .inl (cI, 118, .inl (ro 118 h))), (m3, .inl (cI, 708, .inl (ro 708 (pkF t)))), (m4, .inl (cI, 60, .inl (ro 60 cs))), (m5, .inl (cI, 48, .inl (ro 48 td)))] := hD
  refine lv_iload_n hx hb dX6_ifPlayed_5 rfl (lv_at hl 1 rfl) ?_
  refine lv_iconst (v := nI 1) hx hb dX6_ifPlayed_6 (by decide +kernel) ?_
  refine lv_bipush (v := nI 100) hx hb dX6_ifPlayed_7 (by decide +kernel) ?_
  refine KM.callS (As := [.int (nI x), .int (nI 1), .int (nI 100)]) (rest := []) C0 hN (k_X6_in_ok l D cI cS cL x 1 100  (by first | with_reducible assumption | omega) (by first | with_reducible assumption | omega) (by first | with_reducible assumption | omega)) (va_cwS 3 hts gX6_ifPlayed_X6_in rfl rfl rfl (by decide +kernel) ⟨Nat.le_of_ble_eq_true rfl, Nat.le_of_ble_eq_true rfl⟩) hK hP hD hS hA [] rfl (by decide) (fun _ => rfl) rfl hl.1 rfl (Nat.le_of_ble_eq_true rfl) dX6_ifPlayed_9 ⟨Nat.le_of_ble_eq_true rfl, Nat.le_of_ble_eq_true rfl⟩ (fun v9 u9 H locs hv hP hD hS => ?_)
  subst hv
  have hP : va_P D vwCl [(m0, .inr (6, [.ref m1, .ref m2, .ref m3, .int (nI k), .ref m4, .int (nI n), .int (nI 0), .int (nI ax), .int (nI fa), .int (nI vl), .ref m5, .int (nI tn), .int (nI hg), .int (nI bg)])), (m1, .inl (cI, 118, .inl (ro 118 s))), (m2, .inl (cI, 118, .inl (ro 118 h))), (m3, .inl (cI, 708, .inl (ro 708 (pkF t)))), (m4, .inl (cI, 60, .inl (ro 60 cs))), (m5, .inl (cI, 48, .inl (ro 48 td)))] H := hP
  have hD : va_D A9 [(m0, .inr (6, [.ref m1, .ref m2, .ref m3, .int (nI k), .ref m4, .int (nI n), .int (nI 0), .int (nI ax), .int (nI fa), .int (nI vl), .ref m5, .int (nI tn), .int (nI hg), .int (nI bg)])), (m1, .inl (cI, 118, .inl (ro 118 s))), (m2, .inl (cI, 118, .inl (ro 118 h))), (m3, .inl (cI, 708, .inl (ro 708 (pkF t)))), (m4, .inl (cI, 60, .inl (ro 60 cs))), (m5, .inl (cI, 48, .inl (ro 48 td)))] := hD
  refine W.eq (g2 := F0 m9 12 ls [.int (nI 1)]) rfl ?_
  refine q_feq (tgt := 33) (by omega) hx hb dX6_ifPlayed_12 (by decide) (fun c_12 => ?_) (fun c_12 => ?_)
  · exact absurd True.intro (by omega)
  ·
    refine lv_iload_n hx hb dX6_ifPlayed_15 rfl (lv_at hl 2 rfl) ?_
    refine lv_iconst (v := nI 0) hx hb dX6_ifPlayed_16 (by decide +kernel) ?_
    refine lv_iconst (v := nI 3) hx hb dX6_ifPlayed_17 (by decide +kernel) ?_
    refine KM.callS (As := [.int (nI y), .int (nI 0), .int (nI 3)]) (rest := []) C0 hN (k_X6_in_ok l D cI cS cL y 0 3  (by first | with_reducible assumption | omega) (by first | with_reducible assumption | omega) (by first | with_reducible assumption | omega)) (va_cwS 3 hts gX6_ifPlayed_X6_in rfl rfl rfl (by decide +kernel) ⟨Nat.le_of_ble_eq_true rfl, Nat.le_of_ble_eq_true rfl⟩) hK hP hD hS hA [] rfl (by decide) (fun _ => rfl) rfl hl.1 rfl (Nat.le_of_ble_eq_true rfl) dX6_ifPlayed_18 ⟨Nat.le_of_ble_eq_true rfl, Nat.le_of_ble_eq_true rfl⟩ (fun v9 u9 H locs hv hP hD hS => ?_)
    subst hv
    have hP : va_P D vwCl [(m0, .inr (6, [.ref m1, .ref m2, .ref m3, .int (nI k), .ref m4, .int (nI n), .int (nI 0), .int (nI ax), .int (nI fa), .int (nI vl), .ref m5, .int (nI tn), .int (nI hg), .int (nI bg)])), (m1, .inl (cI, 118, .inl (ro 118 s))), (m2, .inl (cI, 118, .inl (ro 118 h))), (m3, .inl (cI, 708, .inl (ro 708 (pkF t)))), (m4, .inl (cI, 60, .inl (ro 60 cs))), (m5, .inl (cI, 48, .inl (ro 48 td)))] H := hP
    have hD : va_D A9 [(m0, .inr (6, [.ref m1, .ref m2, .ref m3, .int (nI k), .ref m4, .int (nI n), .int (nI 0), .int (nI ax), .int (nI fa), .int (nI vl), .ref m5, .int (nI tn), .int (nI hg), .int (nI bg)])), (m1, .inl (cI, 118, .inl (ro 118 s))), (m2, .inl (cI, 118, .inl (ro 118 h))), (m3, .inl (cI, 708, .inl (ro 708 (pkF t)))), (m4, .inl (cI, 60, .inl (ro 60 cs))), (m5, .inl (cI, 48, .inl (ro 48 td)))] := hD
    refine W.eq (g2 := F0 m9 21 ls [.int (nI 1)]) rfl ?_
    refine q_feq (tgt := 33) (by omega) hx hb dX6_ifPlayed_21 (by decide) (fun c_21 => ?_) (fun c_21 => ?_)
    · exact absurd True.intro (by omega)
    ·
      refine lv_aload_n hx hb dX6_ifPlayed_24 rfl (lv_at hl 0 rfl) ?_
      refine lv_iload_n hx hb dX6_ifPlayed_25 rfl (lv_at hl 1 rfl) ?_
      refine lv_iload_n hx hb dX6_ifPlayed_26 rfl (lv_at hl 2 rfl) ?_
      refine KM.callV (As := [.int (nI x), .int (nI y)]) (rest := []) C0 hN (k_X6_byPlaying l D cI cS cL T m0 m1 m2 m3 m4 m5 k n 0 ax fa vl tn hg bg s h x y  (by first | with_reducible assumption | omega) (by omega) (by first | with_reducible assumption | omega) (by first | with_reducible assumption | omega)) (cwV 2 hts gX6_ifPlayed_X6_byPlaying rfl rfl rfl (by decide +kernel) ⟨Nat.le_of_ble_eq_true rfl, Nat.le_of_ble_eq_true rfl⟩) hK hP hD hS hA [0, 1, 2] rfl (by decide) (fun _ => rfl) 0 6 rfl rfl rfl rfl hl.1 rfl (Nat.le_of_ble_eq_true rfl) dX6_ifPlayed_27 ⟨Nat.le_of_ble_eq_true rfl, Nat.le_of_ble_eq_true rfl⟩ (fun v9 u9 H locs hv hP hD hS => ?_)
      obtain ⟨u, rfl⟩ : ∃ z, z = u9 := ⟨_, rfl⟩
      subst hv
      have hP : va_P D vwCl [(m0, .inr (6, [.ref m1, .ref m2, .ref m3, .int (nI k), .ref m4, .int (nI n), .int (nI 0), .int (nI ax), .int (nI fa), .int (nI vl), .ref m5, .int (nI tn), .int (nI (u 0 0)), .int (nI (u 0 1))])), (m1, .inl (cI, 118, .inl (ro 118 s))), (m2, .inl (cI, 118, .inl (ro 118 (u 1)))), (m3, .inl (cI, 708, .inl (ro 708 (pkF t)))), (m4, .inl (cI, 60, .inl (ro 60 cs))), (m5, .inl (cI, 48, .inl (ro 48 td)))] H := hP
      have hD : va_D A9 [(m0, .inr (6, [.ref m1, .ref m2, .ref m3, .int (nI k), .ref m4, .int (nI n), .int (nI 0), .int (nI ax), .int (nI fa), .int (nI vl), .ref m5, .int (nI tn), .int (nI (u 0 0)), .int (nI (u 0 1))])), (m1, .inl (cI, 118, .inl (ro 118 s))), (m2, .inl (cI, 118, .inl (ro 118 (u 1)))), (m3, .inl (cI, 708, .inl (ro 708 (pkF t)))), (m4, .inl (cI, 60, .inl (ro 60 cs))), (m5, .inl (cI, 48, .inl (ro 48 td)))] := hD
      refine W.eq (g2 := F0 m9 30 ls [.int (nI (ifpS s x y))]) rfl ?_
      refine lv_goto (tgt := 38) hx hb dX6_ifPlayed_30 (by decide) ?_
      exact hret _ _ _ _ (some (.int (nI (ifpS s x y)))) u 38 ls (by decide) (by decide) (by rfl) hP hD hS (ret_i dX6_ifPlayed_38)

theorem in_X6_mostAim_ok_X6 : ∀ w ∈ wsX60, w ∈ wsX6_mostAim := by decide +kernel
theorem fl_X6_mostAim_ok_25 : Cond.fieldLink RX6 25 "FountainCuesModel" "thrown" "I" ∈ wsX6_mostAim := by decide +kernel
set_option maxHeartbeats 4000000 in
set_option maxRecDepth 100000 in
theorem k_X6_mostAim_ok (l : Launch) (D : va_G) (cI cS cL : ClassId) (T : Nat) (m0 : Nat) (m1 : Nat) (m2 : Nat) (m3 : Nat) (m4 : Nat) (m5 : Nat) (k : Nat) (n : Nat) (th : Nat) (ax : Nat) (fa : Nat) (vl : Nat) (tn : Nat) (hg : Nat) (bg : Nat) (s : Nat → Nat) (h : Nat → Nat) (t : Nat → Nat → Nat) (cs : Nat → Nat) (td : Nat → Nat) (q : Nat) (j : Nat) (hI : sI T s) (hT : T ≤ 900000) (hk : k ≤ 6) (hn : n ≤ 60) (hcs : ∀ j, j < n → cs j < 2 ^ 31) (hq : q ≤ 999) (hj : j < 8) : KM l D (TY cI cS cL) yX6_mostAim wsX6_mostAim ({ frames := 4, cells := 0, slots := 0, locals := 94 } : Room) [(m0, .inr (6, [.ref m1, .ref m2, .ref m3, .int (nI k), .ref m4, .int (nI n), .int (nI th), .int (nI ax), .int (nI fa), .int (nI vl), .ref m5, .int (nI tn), .int (nI hg), .int (nI bg)])), (m1, .inl (cI, 118, .inl (ro 118 s))), (m2, .inl (cI, 118, .inl (ro 118 h))), (m3, .inl (cI, 708, .inl (ro 708 (pkF t)))), (m4, .inl (cI, 60, .inl (ro 60 cs))), (m5, .inl (cI, 48, .inl (ro 48 td)))] [.ref m0, .int (nI q), .int (nI j)] (fun (v : Option Value) (_ : Unit) => v = some (.int (mostD s q j 11))) (fun _ : Unit => [(m0, .inr (6, [.ref m1, .ref m2, .ref m3, .int (nI k), .ref m4, .int (nI n), .int (nI 0), .int (nI ax), .int (nI fa), .int (nI vl), .ref m5, .int (nI tn), .int (nI hg), .int (nI bg)])), (m1, .inl (cI, 118, .inl (ro 118 s))), (m2, .inl (cI, 118, .inl (ro 118 h))), (m3, .inl (cI, 708, .inl (ro 708 (pkF t)))), (m4, .inl (cI, 60, .inl (ro 60 cs))), (m5, .inl (cI, 48, .inl (ro 48 td)))]) := by
  refine KM.of (cc := cX6_mostAim) (maxL := 3) (ret := (some .int)) (by decide) rfl (Nat.le_of_ble_eq_true rfl) ?_
  intro p9 e9 s9 m9 ar9 be9 me9 c9 Q9 A9 ls C0 hN hnm hlk hK hA hret hP hD hS hl
  obtain ⟨hx, hb, hml, hown, hts⟩ := id C0
  have hl : lv_has ls 3 [(0, .ref m0), (1, .int (nI q)), (2, .int (nI j))] := hl
  obtain ⟨H, hH0⟩ : ∃ H, H = s9.heap := ⟨_, rfl⟩
  obtain ⟨locs, hlc0⟩ : ∃ z : List Loc, z = [] := ⟨_, rfl⟩
  have hP : va_P D vwCl [(m0, .inr (6, [.ref m1, .ref m2, .ref m3, .int (nI k), .ref m4, .int (nI n), .int (nI th), .int (nI ax), .int (nI fa), .int (nI vl), .ref m5, .int (nI tn), .int (nI hg), .int (nI bg)])), (m1, .inl (cI, 118, .inl (ro 118 s))), (m2, .inl (cI, 118, .inl (ro 118 h))), (m3, .inl (cI, 708, .inl (ro 708 (pkF t)))), (m4, .inl (cI, 60, .inl (ro 60 cs))), (m5, .inl (cI, 48, .inl (ro 48 td)))] H := by rw [hH0]; exact hP
  have hD : va_D A9 [(m0, .inr (6, [.ref m1, .ref m2, .ref m3, .int (nI k), .ref m4, .int (nI n), .int (nI th), .int (nI ax), .int (nI fa), .int (nI vl), .ref m5, .int (nI tn), .int (nI hg), .int (nI bg)])), (m1, .inl (cI, 118, .inl (ro 118 s))), (m2, .inl (cI, 118, .inl (ro 118 h))), (m3, .inl (cI, 708, .inl (ro 708 (pkF t)))), (m4, .inl (cI, 60, .inl (ro 60 cs))), (m5, .inl (cI, 48, .inl (ro 48 td)))] := hD
  have hS : va_S A9 s9.heap H locs := by rw [hH0, hlc0]; exact hS
  suffices hgo : W p9 l e9 ({ frames := 4, cells := 0, slots := 0, locals := 94 } : Room) s9 m9 ar9 be9 me9 c9 H locs 0 0 Q9 (F0 m9 0 ls []) by rw [hH0, hlc0] at hgo; exact hgo
  clear hH0 hlc0
  obtain ⟨hI1, hI2, hI3, hI4, hI5, hI6, hI7, hI8, hI9, hI10, hI11⟩ := id hI
  refine lv_aload_n hx hb dX6_mostAim_0 rfl (lv_at hl 0 rfl) ?_
  refine lv_iconst (v := nI 0) hx hb dX6_mostAim_1 (by decide +kernel) ?_
  refine va_put (D := D) (ci := 6) (v := .int (nI 0)) (ty := tyX6 6) (C := RX6) (T := TX6) (N := 14) hx hb hts in_X6_mostAim_ok_X6 tyX6 tyX6_ok nmX6 hown hK hP hD hS 0 rfl rfl 6 (by decide) (hts _ fl_X6_mostAim_ok_25) (fun _ h9 => h9) rfl (by decide +kernel) rfl rfl (Nat.le_of_ble_eq_true rfl) dX6_mostAim_2 (fun H locs hP hD hS => ?_)
  have hP : va_P D vwCl [(m0, .inr (6, [.ref m1, .ref m2, .ref m3, .int (nI k), .ref m4, .int (nI n), .int (nI 0), .int (nI ax), .int (nI fa), .int (nI vl), .ref m5, .int (nI tn), .int (nI hg), .int (nI bg)])), (m1, .inl (cI, 118, .inl (ro 118 s))), (m2, .inl (cI, 118, .inl (ro 118 h))), (m3, .inl (cI, 708, .inl (ro 708 (pkF t)))), (m4, .inl (cI, 60, .inl (ro 60 cs))), (m5, .inl (cI, 48, .inl (ro 48 td)))] H := hP
  have hD : va_D A9 [(m0, .inr (6, [.ref m1, .ref m2, .ref m3, .int (nI k), .ref m4, .int (nI n), .int (nI 0), .int (nI ax), .int (nI fa), .int (nI vl), .ref m5, .int (nI tn), .int (nI hg), .int (nI bg)])), (m1, .inl (cI, 118, .inl (ro 118 s))), (m2, .inl (cI, 118, .inl (ro 118 h))), (m3, .inl (cI, 708, .inl (ro 708 (pkF t)))), (m4, .inl (cI, 60, .inl (ro 60 cs))), (m5, .inl (cI, 48, .inl (ro 48 td)))] := hD
  refine lv_iload_n hx hb dX6_mostAim_5 rfl (lv_at hl 2 rfl) ?_
  refine KM.callS (As := [.int (nI j)]) (rest := []) C0 hN (k_X6_isJet_ok l D cI cS cL j  (by first | with_reducible assumption | omega)) (va_cwS 1 hts gX6_mostAim_X6_isJet rfl rfl rfl (by decide +kernel) ⟨Nat.le_of_ble_eq_true rfl, Nat.le_of_ble_eq_true rfl⟩) hK hP hD hS hA [] rfl (by decide) (fun _ => rfl) rfl hl.1 rfl (Nat.le_of_ble_eq_true rfl) dX6_mostAim_6 ⟨Nat.le_of_ble_eq_true rfl, Nat.le_of_ble_eq_true rfl⟩ (fun v9 u9 H locs hv hP hD hS => ?_)
  subst hv
  have hP : va_P D vwCl [(m0, .inr (6, [.ref m1, .ref m2, .ref m3, .int (nI k), .ref m4, .int (nI n), .int (nI 0), .int (nI ax), .int (nI fa), .int (nI vl), .ref m5, .int (nI tn), .int (nI hg), .int (nI bg)])), (m1, .inl (cI, 118, .inl (ro 118 s))), (m2, .inl (cI, 118, .inl (ro 118 h))), (m3, .inl (cI, 708, .inl (ro 708 (pkF t)))), (m4, .inl (cI, 60, .inl (ro 60 cs))), (m5, .inl (cI, 48, .inl (ro 48 td)))] H := hP
  have hD : va_D A9 [(m0, .inr (6, [.ref m1, .ref m2, .ref m3, .int (nI k), .ref m4, .int (nI n), .int (nI 0), .int (nI ax), .int (nI fa), .int (nI vl), .ref m5, .int (nI tn), .int (nI hg), .int (nI bg)])), (m1, .inl (cI, 118, .inl (ro 118 s))), (m2, .inl (cI, 118, .inl (ro 118 h))), (m3, .inl (cI, 708, .inl (ro 708 (pkF t)))), (m4, .inl (cI, 60, .inl (ro 60 cs))), (m5, .inl (cI, 48, .inl (ro 48 td)))] := hD
  refine W.eq (g2 := F0 m9 9 ls [.int (nI 1)]) rfl ?_
  refine q_fne (tgt := 18) (by omega) hx hb dX6_mostAim_9 (by decide) (fun c_9 => ?_) (fun c_9 => ?_)
  ·
    refine lv_iload_n hx hb dX6_mostAim_18 rfl (lv_at hl 1 rfl) ?_
    refine KM.callS (As := [.int (nI q)]) (rest := []) C0 hN (k_X6_isTick_ok l D cI cS cL q  (by first | with_reducible assumption | omega)) (va_cwS 1 hts gX6_mostAim_X6_isTick rfl rfl rfl (by decide +kernel) ⟨Nat.le_of_ble_eq_true rfl, Nat.le_of_ble_eq_true rfl⟩) hK hP hD hS hA [] rfl (by decide) (fun _ => rfl) rfl hl.1 rfl (Nat.le_of_ble_eq_true rfl) dX6_mostAim_19 ⟨Nat.le_of_ble_eq_true rfl, Nat.le_of_ble_eq_true rfl⟩ (fun v9 u9 H locs hv hP hD hS => ?_)
    subst hv
    have hP : va_P D vwCl [(m0, .inr (6, [.ref m1, .ref m2, .ref m3, .int (nI k), .ref m4, .int (nI n), .int (nI 0), .int (nI ax), .int (nI fa), .int (nI vl), .ref m5, .int (nI tn), .int (nI hg), .int (nI bg)])), (m1, .inl (cI, 118, .inl (ro 118 s))), (m2, .inl (cI, 118, .inl (ro 118 h))), (m3, .inl (cI, 708, .inl (ro 708 (pkF t)))), (m4, .inl (cI, 60, .inl (ro 60 cs))), (m5, .inl (cI, 48, .inl (ro 48 td)))] H := hP
    have hD : va_D A9 [(m0, .inr (6, [.ref m1, .ref m2, .ref m3, .int (nI k), .ref m4, .int (nI n), .int (nI 0), .int (nI ax), .int (nI fa), .int (nI vl), .ref m5, .int (nI tn), .int (nI hg), .int (nI bg)])), (m1, .inl (cI, 118, .inl (ro 118 s))), (m2, .inl (cI, 118, .inl (ro 118 h))), (m3, .inl (cI, 708, .inl (ro 708 (pkF t)))), (m4, .inl (cI, 60, .inl (ro 60 cs))), (m5, .inl (cI, 48, .inl (ro 48 td)))] := hD
    refine W.eq (g2 := F0 m9 22 ls [.int (nI 1)]) rfl ?_
    refine q_feq (tgt := 34) (by omega) hx hb dX6_mostAim_22 (by decide) (fun c_22 => ?_) (fun c_22 => ?_)
    · exact absurd True.intro (by omega)
    ·
      refine lv_aload_n hx hb dX6_mostAim_25 rfl (lv_at hl 0 rfl) ?_
      refine lv_iload_n hx hb dX6_mostAim_26 rfl (lv_at hl 1 rfl) ?_
      refine lv_iload_n hx hb dX6_mostAim_27 rfl (lv_at hl 2 rfl) ?_
      refine KM.callV (As := [.int (nI q), .int (nI j)]) (rest := []) C0 hN (k_X6_greatest l D cI cS cL T m0 m1 m2 m3 m4 m5 k n 0 ax fa vl tn hg bg s q j  (by first | with_reducible assumption | omega) (by omega) (by first | with_reducible assumption | omega) (by first | with_reducible assumption | omega)) (cwV 2 hts gX6_mostAim_X6_greatest rfl rfl rfl (by decide +kernel) ⟨Nat.le_of_ble_eq_true rfl, Nat.le_of_ble_eq_true rfl⟩) hK hP hD hS hA [0, 1] rfl (by decide) (fun _ => rfl) 0 6 rfl rfl rfl rfl hl.1 rfl (Nat.le_of_ble_eq_true rfl) dX6_mostAim_28 ⟨Nat.le_of_ble_eq_true rfl, Nat.le_of_ble_eq_true rfl⟩ (fun v9 u9 H locs hv hP hD hS => ?_)
      subst hv
      have hP : va_P D vwCl [(m0, .inr (6, [.ref m1, .ref m2, .ref m3, .int (nI k), .ref m4, .int (nI n), .int (nI 0), .int (nI ax), .int (nI fa), .int (nI vl), .ref m5, .int (nI tn), .int (nI hg), .int (nI bg)])), (m1, .inl (cI, 118, .inl (ro 118 s))), (m2, .inl (cI, 118, .inl (ro 118 h))), (m3, .inl (cI, 708, .inl (ro 708 (pkF t)))), (m4, .inl (cI, 60, .inl (ro 60 cs))), (m5, .inl (cI, 48, .inl (ro 48 td)))] H := hP
      have hD : va_D A9 [(m0, .inr (6, [.ref m1, .ref m2, .ref m3, .int (nI k), .ref m4, .int (nI n), .int (nI 0), .int (nI ax), .int (nI fa), .int (nI vl), .ref m5, .int (nI tn), .int (nI hg), .int (nI bg)])), (m1, .inl (cI, 118, .inl (ro 118 s))), (m2, .inl (cI, 118, .inl (ro 118 h))), (m3, .inl (cI, 708, .inl (ro 708 (pkF t)))), (m4, .inl (cI, 60, .inl (ro 60 cs))), (m5, .inl (cI, 48, .inl (ro 48 td)))] := hD
      refine W.eq (g2 := F0 m9 31 ls [.int (mostD s q j 11)]) rfl ?_
      refine lv_goto (tgt := 39) hx hb dX6_mostAim_31 (by decide) ?_
      exact hret _ _ _ _ (some (.int (mostD s q j 11))) () 39 ls (by decide) (by decide) (by rfl) hP hD hS (ret_i dX6_mostAim_39)
  · exact absurd True.intro (by omega)

theorem in_X6_fits_ok_X6 : ∀ w ∈ wsX60, w ∈ wsX6_fits := by decide +kernel
theorem fl_X6_fits_ok_25 : Cond.fieldLink RX6 25 "FountainCuesModel" "thrown" "I" ∈ wsX6_fits := by decide +kernel
set_option maxHeartbeats 4000000 in
set_option maxRecDepth 100000 in
theorem k_X6_fits_ok (l : Launch) (D : va_G) (cI cS cL : ClassId) (T : Nat) (m0 : Nat) (m1 : Nat) (m2 : Nat) (m3 : Nat) (m4 : Nat) (m5 : Nat) (k : Nat) (n : Nat) (th : Nat) (ax : Nat) (fa : Nat) (vl : Nat) (tn : Nat) (hg : Nat) (bg : Nat) (s : Nat → Nat) (h : Nat → Nat) (t : Nat → Nat → Nat) (cs : Nat → Nat) (td : Nat → Nat) (q : Nat) (j : Nat) (x : Nat) (hI : sI T s) (hT : T ≤ 900000) (hk : k ≤ 6) (hn : n ≤ 60) (hcs : ∀ j, j < n → cs j < 2 ^ 31) (hq : q ≤ 999) (hj : j < 8) (hx2 : x ≤ 10) : KM l D (TY cI cS cL) yX6_fits wsX6_fits ({ frames := 4, cells := 0, slots := 0, locals := 95 } : Room) [(m0, .inr (6, [.ref m1, .ref m2, .ref m3, .int (nI k), .ref m4, .int (nI n), .int (nI th), .int (nI ax), .int (nI fa), .int (nI vl), .ref m5, .int (nI tn), .int (nI hg), .int (nI bg)])), (m1, .inl (cI, 118, .inl (ro 118 s))), (m2, .inl (cI, 118, .inl (ro 118 h))), (m3, .inl (cI, 708, .inl (ro 708 (pkF t)))), (m4, .inl (cI, 60, .inl (ro 60 cs))), (m5, .inl (cI, 48, .inl (ro 48 td)))] [.ref m0, .int (nI q), .int (nI j), .int (nI x)] (fun (v : Option Value) (_ : Unit) => v = some (.int (fitD s j x (1000 - q) q))) (fun _ : Unit => [(m0, .inr (6, [.ref m1, .ref m2, .ref m3, .int (nI k), .ref m4, .int (nI n), .int (nI 0), .int (nI ax), .int (nI fa), .int (nI vl), .ref m5, .int (nI tn), .int (nI hg), .int (nI bg)])), (m1, .inl (cI, 118, .inl (ro 118 s))), (m2, .inl (cI, 118, .inl (ro 118 h))), (m3, .inl (cI, 708, .inl (ro 708 (pkF t)))), (m4, .inl (cI, 60, .inl (ro 60 cs))), (m5, .inl (cI, 48, .inl (ro 48 td)))]) := by
  refine KM.of (cc := cX6_fits) (maxL := 4) (ret := (some .int)) (by decide) rfl (Nat.le_of_ble_eq_true rfl) ?_
  intro p9 e9 s9 m9 ar9 be9 me9 c9 Q9 A9 ls C0 hN hnm hlk hK hA hret hP hD hS hl
  obtain ⟨hx, hb, hml, hown, hts⟩ := id C0
  have hl : lv_has ls 4 [(0, .ref m0), (1, .int (nI q)), (2, .int (nI j)), (3, .int (nI x))] := hl
  obtain ⟨H, hH0⟩ : ∃ H, H = s9.heap := ⟨_, rfl⟩
  obtain ⟨locs, hlc0⟩ : ∃ z : List Loc, z = [] := ⟨_, rfl⟩
  have hP : va_P D vwCl [(m0, .inr (6, [.ref m1, .ref m2, .ref m3, .int (nI k), .ref m4, .int (nI n), .int (nI th), .int (nI ax), .int (nI fa), .int (nI vl), .ref m5, .int (nI tn), .int (nI hg), .int (nI bg)])), (m1, .inl (cI, 118, .inl (ro 118 s))), (m2, .inl (cI, 118, .inl (ro 118 h))), (m3, .inl (cI, 708, .inl (ro 708 (pkF t)))), (m4, .inl (cI, 60, .inl (ro 60 cs))), (m5, .inl (cI, 48, .inl (ro 48 td)))] H := by rw [hH0]; exact hP
  have hD : va_D A9 [(m0, .inr (6, [.ref m1, .ref m2, .ref m3, .int (nI k), .ref m4, .int (nI n), .int (nI th), .int (nI ax), .int (nI fa), .int (nI vl), .ref m5, .int (nI tn), .int (nI hg), .int (nI bg)])), (m1, .inl (cI, 118, .inl (ro 118 s))), (m2, .inl (cI, 118, .inl (ro 118 h))), (m3, .inl (cI, 708, .inl (ro 708 (pkF t)))), (m4, .inl (cI, 60, .inl (ro 60 cs))), (m5, .inl (cI, 48, .inl (ro 48 td)))] := hD
  have hS : va_S A9 s9.heap H locs := by rw [hH0, hlc0]; exact hS
  suffices hgo : W p9 l e9 ({ frames := 4, cells := 0, slots := 0, locals := 95 } : Room) s9 m9 ar9 be9 me9 c9 H locs 0 0 Q9 (F0 m9 0 ls []) by rw [hH0, hlc0] at hgo; exact hgo
  clear hH0 hlc0
  obtain ⟨hI1, hI2, hI3, hI4, hI5, hI6, hI7, hI8, hI9, hI10, hI11⟩ := id hI
  refine lv_aload_n hx hb dX6_fits_0 rfl (lv_at hl 0 rfl) ?_
  refine lv_iconst (v := nI 0) hx hb dX6_fits_1 (by decide +kernel) ?_
  refine va_put (D := D) (ci := 6) (v := .int (nI 0)) (ty := tyX6 6) (C := RX6) (T := TX6) (N := 14) hx hb hts in_X6_fits_ok_X6 tyX6 tyX6_ok nmX6 hown hK hP hD hS 0 rfl rfl 6 (by decide) (hts _ fl_X6_fits_ok_25) (fun _ h9 => h9) rfl (by decide +kernel) rfl rfl (Nat.le_of_ble_eq_true rfl) dX6_fits_2 (fun H locs hP hD hS => ?_)
  have hP : va_P D vwCl [(m0, .inr (6, [.ref m1, .ref m2, .ref m3, .int (nI k), .ref m4, .int (nI n), .int (nI 0), .int (nI ax), .int (nI fa), .int (nI vl), .ref m5, .int (nI tn), .int (nI hg), .int (nI bg)])), (m1, .inl (cI, 118, .inl (ro 118 s))), (m2, .inl (cI, 118, .inl (ro 118 h))), (m3, .inl (cI, 708, .inl (ro 708 (pkF t)))), (m4, .inl (cI, 60, .inl (ro 60 cs))), (m5, .inl (cI, 48, .inl (ro 48 td)))] H := hP
  have hD : va_D A9 [(m0, .inr (6, [.ref m1, .ref m2, .ref m3, .int (nI k), .ref m4, .int (nI n), .int (nI 0), .int (nI ax), .int (nI fa), .int (nI vl), .ref m5, .int (nI tn), .int (nI hg), .int (nI bg)])), (m1, .inl (cI, 118, .inl (ro 118 s))), (m2, .inl (cI, 118, .inl (ro 118 h))), (m3, .inl (cI, 708, .inl (ro 708 (pkF t)))), (m4, .inl (cI, 60, .inl (ro 60 cs))), (m5, .inl (cI, 48, .inl (ro 48 td)))] := hD
  refine lv_iload_n hx hb dX6_fits_5 rfl (lv_at hl 2 rfl) ?_
  refine KM.callS (As := [.int (nI j)]) (rest := []) C0 hN (k_X6_isJet_ok l D cI cS cL j  (by first | with_reducible assumption | omega)) (va_cwS 1 hts gX6_fits_X6_isJet rfl rfl rfl (by decide +kernel) ⟨Nat.le_of_ble_eq_true rfl, Nat.le_of_ble_eq_true rfl⟩) hK hP hD hS hA [] rfl (by decide) (fun _ => rfl) rfl hl.1 rfl (Nat.le_of_ble_eq_true rfl) dX6_fits_6 ⟨Nat.le_of_ble_eq_true rfl, Nat.le_of_ble_eq_true rfl⟩ (fun v9 u9 H locs hv hP hD hS => ?_)
  subst hv
  have hP : va_P D vwCl [(m0, .inr (6, [.ref m1, .ref m2, .ref m3, .int (nI k), .ref m4, .int (nI n), .int (nI 0), .int (nI ax), .int (nI fa), .int (nI vl), .ref m5, .int (nI tn), .int (nI hg), .int (nI bg)])), (m1, .inl (cI, 118, .inl (ro 118 s))), (m2, .inl (cI, 118, .inl (ro 118 h))), (m3, .inl (cI, 708, .inl (ro 708 (pkF t)))), (m4, .inl (cI, 60, .inl (ro 60 cs))), (m5, .inl (cI, 48, .inl (ro 48 td)))] H := hP
  have hD : va_D A9 [(m0, .inr (6, [.ref m1, .ref m2, .ref m3, .int (nI k), .ref m4, .int (nI n), .int (nI 0), .int (nI ax), .int (nI fa), .int (nI vl), .ref m5, .int (nI tn), .int (nI hg), .int (nI bg)])), (m1, .inl (cI, 118, .inl (ro 118 s))), (m2, .inl (cI, 118, .inl (ro 118 h))), (m3, .inl (cI, 708, .inl (ro 708 (pkF t)))), (m4, .inl (cI, 60, .inl (ro 60 cs))), (m5, .inl (cI, 48, .inl (ro 48 td)))] := hD
  refine W.eq (g2 := F0 m9 9 ls [.int (nI 1)]) rfl ?_
  refine q_fne (tgt := 18) (by omega) hx hb dX6_fits_9 (by decide) (fun c_9 => ?_) (fun c_9 => ?_)
  ·
    refine lv_iload_n hx hb dX6_fits_18 rfl (lv_at hl 1 rfl) ?_
    refine KM.callS (As := [.int (nI q)]) (rest := []) C0 hN (k_X6_isTick_ok l D cI cS cL q  (by first | with_reducible assumption | omega)) (va_cwS 1 hts gX6_fits_X6_isTick rfl rfl rfl (by decide +kernel) ⟨Nat.le_of_ble_eq_true rfl, Nat.le_of_ble_eq_true rfl⟩) hK hP hD hS hA [] rfl (by decide) (fun _ => rfl) rfl hl.1 rfl (Nat.le_of_ble_eq_true rfl) dX6_fits_19 ⟨Nat.le_of_ble_eq_true rfl, Nat.le_of_ble_eq_true rfl⟩ (fun v9 u9 H locs hv hP hD hS => ?_)
    subst hv
    have hP : va_P D vwCl [(m0, .inr (6, [.ref m1, .ref m2, .ref m3, .int (nI k), .ref m4, .int (nI n), .int (nI 0), .int (nI ax), .int (nI fa), .int (nI vl), .ref m5, .int (nI tn), .int (nI hg), .int (nI bg)])), (m1, .inl (cI, 118, .inl (ro 118 s))), (m2, .inl (cI, 118, .inl (ro 118 h))), (m3, .inl (cI, 708, .inl (ro 708 (pkF t)))), (m4, .inl (cI, 60, .inl (ro 60 cs))), (m5, .inl (cI, 48, .inl (ro 48 td)))] H := hP
    have hD : va_D A9 [(m0, .inr (6, [.ref m1, .ref m2, .ref m3, .int (nI k), .ref m4, .int (nI n), .int (nI 0), .int (nI ax), .int (nI fa), .int (nI vl), .ref m5, .int (nI tn), .int (nI hg), .int (nI bg)])), (m1, .inl (cI, 118, .inl (ro 118 s))), (m2, .inl (cI, 118, .inl (ro 118 h))), (m3, .inl (cI, 708, .inl (ro 708 (pkF t)))), (m4, .inl (cI, 60, .inl (ro 60 cs))), (m5, .inl (cI, 48, .inl (ro 48 td)))] := hD
    refine W.eq (g2 := F0 m9 22 ls [.int (nI 1)]) rfl ?_
    refine q_feq (tgt := 45) (by omega) hx hb dX6_fits_22 (by decide) (fun c_22 => ?_) (fun c_22 => ?_)
    · exact absurd True.intro (by omega)
    ·
      refine lv_iload_n hx hb dX6_fits_25 rfl (lv_at hl 3 rfl) ?_
      refine lv_iconst (v := nI 0) hx hb dX6_fits_26 (by decide +kernel) ?_
      refine lv_bipush (v := nI 10) hx hb dX6_fits_27 (by decide +kernel) ?_
      refine KM.callS (As := [.int (nI x), .int (nI 0), .int (nI 10)]) (rest := []) C0 hN (k_X6_in_ok l D cI cS cL x 0 10  (by first | with_reducible assumption | omega) (by first | with_reducible assumption | omega) (by first | with_reducible assumption | omega)) (va_cwS 3 hts gX6_fits_X6_in rfl rfl rfl (by decide +kernel) ⟨Nat.le_of_ble_eq_true rfl, Nat.le_of_ble_eq_true rfl⟩) hK hP hD hS hA [] rfl (by decide) (fun _ => rfl) rfl hl.1 rfl (Nat.le_of_ble_eq_true rfl) dX6_fits_29 ⟨Nat.le_of_ble_eq_true rfl, Nat.le_of_ble_eq_true rfl⟩ (fun v9 u9 H locs hv hP hD hS => ?_)
      subst hv
      have hP : va_P D vwCl [(m0, .inr (6, [.ref m1, .ref m2, .ref m3, .int (nI k), .ref m4, .int (nI n), .int (nI 0), .int (nI ax), .int (nI fa), .int (nI vl), .ref m5, .int (nI tn), .int (nI hg), .int (nI bg)])), (m1, .inl (cI, 118, .inl (ro 118 s))), (m2, .inl (cI, 118, .inl (ro 118 h))), (m3, .inl (cI, 708, .inl (ro 708 (pkF t)))), (m4, .inl (cI, 60, .inl (ro 60 cs))), (m5, .inl (cI, 48, .inl (ro 48 td)))] H := hP
      have hD : va_D A9 [(m0, .inr (6, [.ref m1, .ref m2, .ref m3, .int (nI k), .ref m4, .int (nI n), .int (nI 0), .int (nI ax), .int (nI fa), .int (nI vl), .ref m5, .int (nI tn), .int (nI hg), .int (nI bg)])), (m1, .inl (cI, 118, .inl (ro 118 s))), (m2, .inl (cI, 118, .inl (ro 118 h))), (m3, .inl (cI, 708, .inl (ro 708 (pkF t)))), (m4, .inl (cI, 60, .inl (ro 60 cs))), (m5, .inl (cI, 48, .inl (ro 48 td)))] := hD
      refine W.eq (g2 := F0 m9 32 ls [.int (nI 1)]) rfl ?_
      refine q_feq (tgt := 45) (by omega) hx hb dX6_fits_32 (by decide) (fun c_32 => ?_) (fun c_32 => ?_)
      · exact absurd True.intro (by omega)
      ·
        refine lv_aload_n hx hb dX6_fits_35 rfl (lv_at hl 0 rfl) ?_
        refine lv_iload_n hx hb dX6_fits_36 rfl (lv_at hl 1 rfl) ?_
        refine lv_iload_n hx hb dX6_fits_37 rfl (lv_at hl 2 rfl) ?_
        refine lv_iload_n hx hb dX6_fits_38 rfl (lv_at hl 3 rfl) ?_
        refine KM.callV (As := [.int (nI q), .int (nI j), .int (nI x)]) (rest := []) C0 hN (k_X6_fit l D cI cS cL T m0 m1 m2 m3 m4 m5 k n 0 ax fa vl tn hg bg s q j x  (by first | with_reducible assumption | omega) (by omega) (by first | with_reducible assumption | omega) (by first | with_reducible assumption | omega) (by first | with_reducible assumption | omega)) (cwV 3 hts gX6_fits_X6_fit rfl rfl rfl (by decide +kernel) ⟨Nat.le_of_ble_eq_true rfl, Nat.le_of_ble_eq_true rfl⟩) hK hP hD hS hA [0, 1] rfl (by decide) (fun _ => rfl) 0 6 rfl rfl rfl rfl hl.1 rfl (Nat.le_of_ble_eq_true rfl) dX6_fits_39 ⟨Nat.le_of_ble_eq_true rfl, Nat.le_of_ble_eq_true rfl⟩ (fun v9 u9 H locs hv hP hD hS => ?_)
        subst hv
        have hP : va_P D vwCl [(m0, .inr (6, [.ref m1, .ref m2, .ref m3, .int (nI k), .ref m4, .int (nI n), .int (nI 0), .int (nI ax), .int (nI fa), .int (nI vl), .ref m5, .int (nI tn), .int (nI hg), .int (nI bg)])), (m1, .inl (cI, 118, .inl (ro 118 s))), (m2, .inl (cI, 118, .inl (ro 118 h))), (m3, .inl (cI, 708, .inl (ro 708 (pkF t)))), (m4, .inl (cI, 60, .inl (ro 60 cs))), (m5, .inl (cI, 48, .inl (ro 48 td)))] H := hP
        have hD : va_D A9 [(m0, .inr (6, [.ref m1, .ref m2, .ref m3, .int (nI k), .ref m4, .int (nI n), .int (nI 0), .int (nI ax), .int (nI fa), .int (nI vl), .ref m5, .int (nI tn), .int (nI hg), .int (nI bg)])), (m1, .inl (cI, 118, .inl (ro 118 s))), (m2, .inl (cI, 118, .inl (ro 118 h))), (m3, .inl (cI, 708, .inl (ro 708 (pkF t)))), (m4, .inl (cI, 60, .inl (ro 60 cs))), (m5, .inl (cI, 48, .inl (ro 48 td)))] := hD
        refine W.eq (g2 := F0 m9 42 ls [.int (fitD s j x (1000 - q) q)]) rfl ?_
        refine lv_goto (tgt := 50) hx hb dX6_fits_42 (by decide) ?_
        exact hret _ _ _ _ (some (.int (fitD s j x (1000 - q) q))) () 50 ls (by decide) (by decide) (by rfl) hP hD hS (ret_i dX6_fits_50)
  · exact absurd True.intro (by omega)

theorem in_X6_dryIn_ok_X6 : ∀ w ∈ wsX60, w ∈ wsX6_dryIn := by decide +kernel
theorem fl_X6_dryIn_ok_25 : Cond.fieldLink RX6 25 "FountainCuesModel" "thrown" "I" ∈ wsX6_dryIn := by decide +kernel
set_option maxHeartbeats 4000000 in
set_option maxRecDepth 100000 in
theorem k_X6_dryIn_ok (l : Launch) (D : va_G) (cI cS cL : ClassId) (T : Nat) (m0 : Nat) (m1 : Nat) (m2 : Nat) (m3 : Nat) (m4 : Nat) (m5 : Nat) (k : Nat) (n : Nat) (th : Nat) (ax : Nat) (fa : Nat) (vl : Nat) (tn : Nat) (hg : Nat) (bg : Nat) (s : Nat → Nat) (h : Nat → Nat) (t : Nat → Nat → Nat) (cs : Nat → Nat) (td : Nat → Nat) (hI : sI T s) (hT : T ≤ 900000) (hk : k ≤ 6) (hn : n ≤ 60) (hcs : ∀ j, j < n → cs j < 2 ^ 31) : KM l D (TY cI cS cL) yX6_dryIn wsX6_dryIn ({ frames := 7, cells := 0, slots := 0, locals := 159 } : Room) [(m0, .inr (6, [.ref m1, .ref m2, .ref m3, .int (nI k), .ref m4, .int (nI n), .int (nI th), .int (nI ax), .int (nI fa), .int (nI vl), .ref m5, .int (nI tn), .int (nI hg), .int (nI bg)])), (m1, .inl (cI, 118, .inl (ro 118 s))), (m2, .inl (cI, 118, .inl (ro 118 h))), (m3, .inl (cI, 708, .inl (ro 708 (pkF t)))), (m4, .inl (cI, 60, .inl (ro 60 cs))), (m5, .inl (cI, 48, .inl (ro 48 td)))] [.ref m0] (fun (v : Option Value) (u : Nat → Nat → Nat) => v = some (.int (dryD 500 1 (mZero s)))) (fun (u : Nat → Nat → Nat) => [(m0, .inr (6, [.ref m1, .ref m2, .ref m3, .int (nI k), .ref m4, .int (nI n), .int (nI 0), .int (nI ax), .int (nI fa), .int (nI vl), .ref m5, .int (nI tn), .int (nI (u 0 0)), .int (nI (u 0 1))])), (m1, .inl (cI, 118, .inl (ro 118 s))), (m2, .inl (cI, 118, .inl (ro 118 (u 1)))), (m3, .inl (cI, 708, .inl (ro 708 (pkF t)))), (m4, .inl (cI, 60, .inl (ro 60 cs))), (m5, .inl (cI, 48, .inl (ro 48 td)))]) := by
  refine KM.of (cc := cX6_dryIn) (maxL := 1) (ret := (some .int)) (by decide) rfl (Nat.le_of_ble_eq_true rfl) ?_
  intro p9 e9 s9 m9 ar9 be9 me9 c9 Q9 A9 ls C0 hN hnm hlk hK hA hret hP hD hS hl
  obtain ⟨hx, hb, hml, hown, hts⟩ := id C0
  have hl : lv_has ls 1 [(0, .ref m0)] := hl
  obtain ⟨H, hH0⟩ : ∃ H, H = s9.heap := ⟨_, rfl⟩
  obtain ⟨locs, hlc0⟩ : ∃ z : List Loc, z = [] := ⟨_, rfl⟩
  have hP : va_P D vwCl [(m0, .inr (6, [.ref m1, .ref m2, .ref m3, .int (nI k), .ref m4, .int (nI n), .int (nI th), .int (nI ax), .int (nI fa), .int (nI vl), .ref m5, .int (nI tn), .int (nI hg), .int (nI bg)])), (m1, .inl (cI, 118, .inl (ro 118 s))), (m2, .inl (cI, 118, .inl (ro 118 h))), (m3, .inl (cI, 708, .inl (ro 708 (pkF t)))), (m4, .inl (cI, 60, .inl (ro 60 cs))), (m5, .inl (cI, 48, .inl (ro 48 td)))] H := by rw [hH0]; exact hP
  have hD : va_D A9 [(m0, .inr (6, [.ref m1, .ref m2, .ref m3, .int (nI k), .ref m4, .int (nI n), .int (nI th), .int (nI ax), .int (nI fa), .int (nI vl), .ref m5, .int (nI tn), .int (nI hg), .int (nI bg)])), (m1, .inl (cI, 118, .inl (ro 118 s))), (m2, .inl (cI, 118, .inl (ro 118 h))), (m3, .inl (cI, 708, .inl (ro 708 (pkF t)))), (m4, .inl (cI, 60, .inl (ro 60 cs))), (m5, .inl (cI, 48, .inl (ro 48 td)))] := hD
  have hS : va_S A9 s9.heap H locs := by rw [hH0, hlc0]; exact hS
  suffices hgo : W p9 l e9 ({ frames := 7, cells := 0, slots := 0, locals := 159 } : Room) s9 m9 ar9 be9 me9 c9 H locs 0 0 Q9 (F0 m9 0 ls []) by rw [hH0, hlc0] at hgo; exact hgo
  clear hH0 hlc0
  obtain ⟨hI1, hI2, hI3, hI4, hI5, hI6, hI7, hI8, hI9, hI10, hI11⟩ := id hI
  refine lv_aload_n hx hb dX6_dryIn_0 rfl (lv_at hl 0 rfl) ?_
  refine lv_iconst (v := nI 0) hx hb dX6_dryIn_1 (by decide +kernel) ?_
  refine va_put (D := D) (ci := 6) (v := .int (nI 0)) (ty := tyX6 6) (C := RX6) (T := TX6) (N := 14) hx hb hts in_X6_dryIn_ok_X6 tyX6 tyX6_ok nmX6 hown hK hP hD hS 0 rfl rfl 6 (by decide) (hts _ fl_X6_dryIn_ok_25) (fun _ h9 => h9) rfl (by decide +kernel) rfl rfl (Nat.le_of_ble_eq_true rfl) dX6_dryIn_2 (fun H locs hP hD hS => ?_)
  have hP : va_P D vwCl [(m0, .inr (6, [.ref m1, .ref m2, .ref m3, .int (nI k), .ref m4, .int (nI n), .int (nI 0), .int (nI ax), .int (nI fa), .int (nI vl), .ref m5, .int (nI tn), .int (nI hg), .int (nI bg)])), (m1, .inl (cI, 118, .inl (ro 118 s))), (m2, .inl (cI, 118, .inl (ro 118 h))), (m3, .inl (cI, 708, .inl (ro 708 (pkF t)))), (m4, .inl (cI, 60, .inl (ro 60 cs))), (m5, .inl (cI, 48, .inl (ro 48 td)))] H := hP
  have hD : va_D A9 [(m0, .inr (6, [.ref m1, .ref m2, .ref m3, .int (nI k), .ref m4, .int (nI n), .int (nI 0), .int (nI ax), .int (nI fa), .int (nI vl), .ref m5, .int (nI tn), .int (nI hg), .int (nI bg)])), (m1, .inl (cI, 118, .inl (ro 118 s))), (m2, .inl (cI, 118, .inl (ro 118 h))), (m3, .inl (cI, 708, .inl (ro 708 (pkF t)))), (m4, .inl (cI, 60, .inl (ro 60 cs))), (m5, .inl (cI, 48, .inl (ro 48 td)))] := hD
  refine lv_aload_n hx hb dX6_dryIn_5 rfl (lv_at hl 0 rfl) ?_
  refine KM.callV (As := []) (rest := []) C0 hN (k_X6_lasts l D cI cS cL T m0 m1 m2 m3 m4 m5 k n 0 ax fa vl tn hg bg s h  (by first | with_reducible assumption | omega) (by omega)) (cwV 0 hts gX6_dryIn_X6_lasts rfl rfl rfl (by decide +kernel) ⟨Nat.le_of_ble_eq_true rfl, Nat.le_of_ble_eq_true rfl⟩) hK hP hD hS hA [0, 1, 2] rfl (by decide) (fun _ => rfl) 0 6 rfl rfl rfl rfl hl.1 rfl (Nat.le_of_ble_eq_true rfl) dX6_dryIn_6 ⟨Nat.le_of_ble_eq_true rfl, Nat.le_of_ble_eq_true rfl⟩ (fun v9 u9 H locs hv hP hD hS => ?_)
  obtain ⟨u, rfl⟩ : ∃ z, z = u9 := ⟨_, rfl⟩
  subst hv
  have hP : va_P D vwCl [(m0, .inr (6, [.ref m1, .ref m2, .ref m3, .int (nI k), .ref m4, .int (nI n), .int (nI 0), .int (nI ax), .int (nI fa), .int (nI vl), .ref m5, .int (nI tn), .int (nI (u 0 0)), .int (nI (u 0 1))])), (m1, .inl (cI, 118, .inl (ro 118 s))), (m2, .inl (cI, 118, .inl (ro 118 (u 1)))), (m3, .inl (cI, 708, .inl (ro 708 (pkF t)))), (m4, .inl (cI, 60, .inl (ro 60 cs))), (m5, .inl (cI, 48, .inl (ro 48 td)))] H := hP
  have hD : va_D A9 [(m0, .inr (6, [.ref m1, .ref m2, .ref m3, .int (nI k), .ref m4, .int (nI n), .int (nI 0), .int (nI ax), .int (nI fa), .int (nI vl), .ref m5, .int (nI tn), .int (nI (u 0 0)), .int (nI (u 0 1))])), (m1, .inl (cI, 118, .inl (ro 118 s))), (m2, .inl (cI, 118, .inl (ro 118 (u 1)))), (m3, .inl (cI, 708, .inl (ro 708 (pkF t)))), (m4, .inl (cI, 60, .inl (ro 60 cs))), (m5, .inl (cI, 48, .inl (ro 48 td)))] := hD
  refine W.eq (g2 := F0 m9 9 ls [.int (dryD 500 1 (mZero s))]) rfl ?_
  exact hret _ _ _ _ (some (.int (dryD 500 1 (mZero s)))) u 9 ls (by decide) (by decide) (by rfl) hP hD hS (ret_i dX6_dryIn_9)

theorem in_X6_jet_bad_X6 : ∀ w ∈ wsX60, w ∈ wsX6_jet := by decide +kernel
theorem fl_X6_jet_bad_25 : Cond.fieldLink RX6 25 "FountainCuesModel" "thrown" "I" ∈ wsX6_jet := by decide +kernel
set_option maxHeartbeats 4000000 in
set_option maxRecDepth 100000 in
theorem k_X6_jet_bad (l : Launch) (D : va_G) (cI cS cL : ClassId) (T : Nat) (m0 : Nat) (m1 : Nat) (m2 : Nat) (m3 : Nat) (m4 : Nat) (m5 : Nat) (k : Nat) (n : Nat) (th : Nat) (ax : Nat) (fa : Nat) (vl : Nat) (tn : Nat) (hg : Nat) (bg : Nat) (s : Nat → Nat) (h : Nat → Nat) (t : Nat → Nat → Nat) (cs : Nat → Nat) (td : Nat → Nat) (v1 : Int32) (v2 : Int32) (v3 : Int32) (hI : sI T s) (hT : T ≤ 900000) (hk : k ≤ 6) (hn : n ≤ 60) (hcs : ∀ j, j < n → cs j < 2 ^ 31) (hbad : ¬ (inR v1 0 7 ∧ inR v2 1 20 ∧ inR v3 0 3)) : KM l D (TY cI cS cL) yX6_jet wsX6_jet ({ frames := 2, cells := 0, slots := 0, locals := 42 } : Room) [(m0, .inr (6, [.ref m1, .ref m2, .ref m3, .int (nI k), .ref m4, .int (nI n), .int (nI th), .int (nI ax), .int (nI fa), .int (nI vl), .ref m5, .int (nI tn), .int (nI hg), .int (nI bg)])), (m1, .inl (cI, 118, .inl (ro 118 s))), (m2, .inl (cI, 118, .inl (ro 118 h))), (m3, .inl (cI, 708, .inl (ro 708 (pkF t)))), (m4, .inl (cI, 60, .inl (ro 60 cs))), (m5, .inl (cI, 48, .inl (ro 48 td)))] [.ref m0, .int v1, .int v2, .int v3] (fun (v : Option Value) (_ : Unit) => v = some (.int (nI 0))) (fun _ : Unit => [(m0, .inr (6, [.ref m1, .ref m2, .ref m3, .int (nI k), .ref m4, .int (nI n), .int (nI (if inR v1 0 7 then 2 else 1)), .int (nI ax), .int (nI fa), .int (nI vl), .ref m5, .int (nI tn), .int (nI hg), .int (nI bg)])), (m1, .inl (cI, 118, .inl (ro 118 s))), (m2, .inl (cI, 118, .inl (ro 118 h))), (m3, .inl (cI, 708, .inl (ro 708 (pkF t)))), (m4, .inl (cI, 60, .inl (ro 60 cs))), (m5, .inl (cI, 48, .inl (ro 48 td)))]) := by
  refine KM.of (cc := cX6_jet) (maxL := 4) (ret := (some .int)) (by decide) rfl (Nat.le_of_ble_eq_true rfl) ?_
  intro p9 e9 s9 m9 ar9 be9 me9 c9 Q9 A9 ls C0 hN hnm hlk hK hA hret hP hD hS hl
  obtain ⟨hx, hb, hml, hown, hts⟩ := id C0
  have hl : lv_has ls 4 [(0, .ref m0), (1, .int v1), (2, .int v2), (3, .int v3)] := hl
  obtain ⟨H, hH0⟩ : ∃ H, H = s9.heap := ⟨_, rfl⟩
  obtain ⟨locs, hlc0⟩ : ∃ z : List Loc, z = [] := ⟨_, rfl⟩
  have hP : va_P D vwCl [(m0, .inr (6, [.ref m1, .ref m2, .ref m3, .int (nI k), .ref m4, .int (nI n), .int (nI th), .int (nI ax), .int (nI fa), .int (nI vl), .ref m5, .int (nI tn), .int (nI hg), .int (nI bg)])), (m1, .inl (cI, 118, .inl (ro 118 s))), (m2, .inl (cI, 118, .inl (ro 118 h))), (m3, .inl (cI, 708, .inl (ro 708 (pkF t)))), (m4, .inl (cI, 60, .inl (ro 60 cs))), (m5, .inl (cI, 48, .inl (ro 48 td)))] H := by rw [hH0]; exact hP
  have hD : va_D A9 [(m0, .inr (6, [.ref m1, .ref m2, .ref m3, .int (nI k), .ref m4, .int (nI n), .int (nI th), .int (nI ax), .int (nI fa), .int (nI vl), .ref m5, .int (nI tn), .int (nI hg), .int (nI bg)])), (m1, .inl (cI, 118, .inl (ro 118 s))), (m2, .inl (cI, 118, .inl (ro 118 h))), (m3, .inl (cI, 708, .inl (ro 708 (pkF t)))), (m4, .inl (cI, 60, .inl (ro 60 cs))), (m5, .inl (cI, 48, .inl (ro 48 td)))] := hD
  have hS : va_S A9 s9.heap H locs := by rw [hH0, hlc0]; exact hS
  suffices hgo : W p9 l e9 ({ frames := 2, cells := 0, slots := 0, locals := 42 } : Room) s9 m9 ar9 be9 me9 c9 H locs 0 0 Q9 (F0 m9 0 ls []) by rw [hH0, hlc0] at hgo; exact hgo
  clear hH0 hlc0
  obtain ⟨hI1, hI2, hI3, hI4, hI5, hI6, hI7, hI8, hI9, hI10, hI11⟩ := id hI
  refine lv_aload_n hx hb dX6_jet_0 rfl (lv_at hl 0 rfl) ?_
  refine lv_iconst (v := nI 0) hx hb dX6_jet_1 (by decide +kernel) ?_
  refine va_put (D := D) (ci := 6) (v := .int (nI 0)) (ty := tyX6 6) (C := RX6) (T := TX6) (N := 14) hx hb hts in_X6_jet_bad_X6 tyX6 tyX6_ok nmX6 hown hK hP hD hS 0 rfl rfl 6 (by decide) (hts _ fl_X6_jet_bad_25) (fun _ h9 => h9) rfl (by decide +kernel) rfl rfl (Nat.le_of_ble_eq_true rfl) dX6_jet_2 (fun H locs hP hD hS => ?_)
  have hP : va_P D vwCl [(m0, .inr (6, [.ref m1, .ref m2, .ref m3, .int (nI k), .ref m4, .int (nI n), .int (nI 0), .int (nI ax), .int (nI fa), .int (nI vl), .ref m5, .int (nI tn), .int (nI hg), .int (nI bg)])), (m1, .inl (cI, 118, .inl (ro 118 s))), (m2, .inl (cI, 118, .inl (ro 118 h))), (m3, .inl (cI, 708, .inl (ro 708 (pkF t)))), (m4, .inl (cI, 60, .inl (ro 60 cs))), (m5, .inl (cI, 48, .inl (ro 48 td)))] H := hP
  have hD : va_D A9 [(m0, .inr (6, [.ref m1, .ref m2, .ref m3, .int (nI k), .ref m4, .int (nI n), .int (nI 0), .int (nI ax), .int (nI fa), .int (nI vl), .ref m5, .int (nI tn), .int (nI hg), .int (nI bg)])), (m1, .inl (cI, 118, .inl (ro 118 s))), (m2, .inl (cI, 118, .inl (ro 118 h))), (m3, .inl (cI, 708, .inl (ro 708 (pkF t)))), (m4, .inl (cI, 60, .inl (ro 60 cs))), (m5, .inl (cI, 48, .inl (ro 48 td)))] := hD
  refine lv_iload_n hx hb dX6_jet_5 rfl (lv_at hl 1 rfl) ?_
  refine KM.callS (As := [.int v1]) (rest := []) C0 hN (k_X6_isJet l D cI cS cL v1  ) (va_cwS 1 hts gX6_jet_X6_isJet rfl rfl rfl (by decide +kernel) ⟨Nat.le_of_ble_eq_true rfl, Nat.le_of_ble_eq_true rfl⟩) hK hP hD hS hA [] rfl (by decide) (fun _ => rfl) rfl hl.1 rfl (Nat.le_of_ble_eq_true rfl) dX6_jet_6 ⟨Nat.le_of_ble_eq_true rfl, Nat.le_of_ble_eq_true rfl⟩ (fun v9 u9 H locs hv hP hD hS => ?_)
  subst hv
  have hP : va_P D vwCl [(m0, .inr (6, [.ref m1, .ref m2, .ref m3, .int (nI k), .ref m4, .int (nI n), .int (nI 0), .int (nI ax), .int (nI fa), .int (nI vl), .ref m5, .int (nI tn), .int (nI hg), .int (nI bg)])), (m1, .inl (cI, 118, .inl (ro 118 s))), (m2, .inl (cI, 118, .inl (ro 118 h))), (m3, .inl (cI, 708, .inl (ro 708 (pkF t)))), (m4, .inl (cI, 60, .inl (ro 60 cs))), (m5, .inl (cI, 48, .inl (ro 48 td)))] H := hP
  have hD : va_D A9 [(m0, .inr (6, [.ref m1, .ref m2, .ref m3, .int (nI k), .ref m4, .int (nI n), .int (nI 0), .int (nI ax), .int (nI fa), .int (nI vl), .ref m5, .int (nI tn), .int (nI hg), .int (nI bg)])), (m1, .inl (cI, 118, .inl (ro 118 s))), (m2, .inl (cI, 118, .inl (ro 118 h))), (m3, .inl (cI, 708, .inl (ro 708 (pkF t)))), (m4, .inl (cI, 60, .inl (ro 60 cs))), (m5, .inl (cI, 48, .inl (ro 48 td)))] := hD
  refine W.eq (g2 := F0 m9 9 ls [.int (nI (bI (inR v1 0 7)))]) rfl ?_
  refine q_fne (tgt := 18) bI_lt hx hb dX6_jet_9 (by decide) (fun c_9 => ?_) (fun c_9 => ?_)
  ·
    have c_9 := bI_nz c_9
    refine lv_iload_n hx hb dX6_jet_18 rfl (lv_at hl 2 rfl) ?_
    refine lv_iconst (v := nI 1) hx hb dX6_jet_19 (by decide +kernel) ?_
    refine lv_bipush (v := nI 20) hx hb dX6_jet_20 (by decide +kernel) ?_
    refine KM.callS (As := [.int v2, .int (nI 1), .int (nI 20)]) (rest := []) C0 hN (k_X6_in l D cI cS cL v2 1 20  (by decide) (by decide)) (va_cwS 3 hts gX6_jet_X6_in rfl rfl rfl (by decide +kernel) ⟨Nat.le_of_ble_eq_true rfl, Nat.le_of_ble_eq_true rfl⟩) hK hP hD hS hA [] rfl (by decide) (fun _ => rfl) rfl hl.1 rfl (Nat.le_of_ble_eq_true rfl) dX6_jet_22 ⟨Nat.le_of_ble_eq_true rfl, Nat.le_of_ble_eq_true rfl⟩ (fun v9 u9 H locs hv hP hD hS => ?_)
    subst hv
    have hP : va_P D vwCl [(m0, .inr (6, [.ref m1, .ref m2, .ref m3, .int (nI k), .ref m4, .int (nI n), .int (nI 0), .int (nI ax), .int (nI fa), .int (nI vl), .ref m5, .int (nI tn), .int (nI hg), .int (nI bg)])), (m1, .inl (cI, 118, .inl (ro 118 s))), (m2, .inl (cI, 118, .inl (ro 118 h))), (m3, .inl (cI, 708, .inl (ro 708 (pkF t)))), (m4, .inl (cI, 60, .inl (ro 60 cs))), (m5, .inl (cI, 48, .inl (ro 48 td)))] H := hP
    have hD : va_D A9 [(m0, .inr (6, [.ref m1, .ref m2, .ref m3, .int (nI k), .ref m4, .int (nI n), .int (nI 0), .int (nI ax), .int (nI fa), .int (nI vl), .ref m5, .int (nI tn), .int (nI hg), .int (nI bg)])), (m1, .inl (cI, 118, .inl (ro 118 s))), (m2, .inl (cI, 118, .inl (ro 118 h))), (m3, .inl (cI, 708, .inl (ro 708 (pkF t)))), (m4, .inl (cI, 60, .inl (ro 60 cs))), (m5, .inl (cI, 48, .inl (ro 48 td)))] := hD
    refine W.eq (g2 := F0 m9 25 ls [.int (nI (bI (inR v2 1 20)))]) rfl ?_
    refine q_feq (tgt := 37) bI_lt hx hb dX6_jet_25 (by decide) (fun c_25 => ?_) (fun c_25 => ?_)
    ·
      have c_25 := bI_z c_25
      refine lv_aload_n hx hb dX6_jet_37 rfl (lv_at hl 0 rfl) ?_
      refine lv_iconst (v := nI 2) hx hb dX6_jet_38 (by decide +kernel) ?_
      refine KM.callV (As := [.int (nI 2)]) (rest := []) C0 hN (k_X6_fails l D cI cS cL m0 m1 m2 m3 m4 m5 k n 0 ax fa vl tn hg bg 2  ) (cwV 1 hts gX6_jet_X6_fails rfl rfl rfl (by decide +kernel) ⟨Nat.le_of_ble_eq_true rfl, Nat.le_of_ble_eq_true rfl⟩) hK hP hD hS hA [0] rfl (by decide) (fun _ => rfl) 0 6 rfl rfl rfl rfl hl.1 rfl (Nat.le_of_ble_eq_true rfl) dX6_jet_39 ⟨Nat.le_of_ble_eq_true rfl, Nat.le_of_ble_eq_true rfl⟩ (fun v9 u9 H locs hv hP hD hS => ?_)
      subst hv
      have hP : va_P D vwCl [(m0, .inr (6, [.ref m1, .ref m2, .ref m3, .int (nI k), .ref m4, .int (nI n), .int (nI 2), .int (nI ax), .int (nI fa), .int (nI vl), .ref m5, .int (nI tn), .int (nI hg), .int (nI bg)])), (m1, .inl (cI, 118, .inl (ro 118 s))), (m2, .inl (cI, 118, .inl (ro 118 h))), (m3, .inl (cI, 708, .inl (ro 708 (pkF t)))), (m4, .inl (cI, 60, .inl (ro 60 cs))), (m5, .inl (cI, 48, .inl (ro 48 td)))] H := hP
      have hD : va_D A9 [(m0, .inr (6, [.ref m1, .ref m2, .ref m3, .int (nI k), .ref m4, .int (nI n), .int (nI 2), .int (nI ax), .int (nI fa), .int (nI vl), .ref m5, .int (nI tn), .int (nI hg), .int (nI bg)])), (m1, .inl (cI, 118, .inl (ro 118 s))), (m2, .inl (cI, 118, .inl (ro 118 h))), (m3, .inl (cI, 708, .inl (ro 708 (pkF t)))), (m4, .inl (cI, 60, .inl (ro 60 cs))), (m5, .inl (cI, 48, .inl (ro 48 td)))] := hD
      refine W.eq (g2 := F0 m9 42 ls [.int (nI 0)]) rfl ?_
      rw [show (if inR v1 0 7 then 2 else 1) = 2 from by (repeat' split) <;> first | rfl | (exfalso; omega)] at hret
      exact hret _ _ _ _ (some (.int (nI 0))) () 42 ls (by decide) (by decide) (by rfl) hP hD hS (ret_i dX6_jet_42)
    ·
      have c_25 := bI_nz c_25
      refine lv_iload_n hx hb dX6_jet_28 rfl (lv_at hl 3 rfl) ?_
      refine lv_iconst (v := nI 0) hx hb dX6_jet_29 (by decide +kernel) ?_
      refine lv_iconst (v := nI 3) hx hb dX6_jet_30 (by decide +kernel) ?_
      refine KM.callS (As := [.int v3, .int (nI 0), .int (nI 3)]) (rest := []) C0 hN (k_X6_in l D cI cS cL v3 0 3  (by decide) (by decide)) (va_cwS 3 hts gX6_jet_X6_in rfl rfl rfl (by decide +kernel) ⟨Nat.le_of_ble_eq_true rfl, Nat.le_of_ble_eq_true rfl⟩) hK hP hD hS hA [] rfl (by decide) (fun _ => rfl) rfl hl.1 rfl (Nat.le_of_ble_eq_true rfl) dX6_jet_31 ⟨Nat.le_of_ble_eq_true rfl, Nat.le_of_ble_eq_true rfl⟩ (fun v9 u9 H locs hv hP hD hS => ?_)
      subst hv
      have hP : va_P D vwCl [(m0, .inr (6, [.ref m1, .ref m2, .ref m3, .int (nI k), .ref m4, .int (nI n), .int (nI 0), .int (nI ax), .int (nI fa), .int (nI vl), .ref m5, .int (nI tn), .int (nI hg), .int (nI bg)])), (m1, .inl (cI, 118, .inl (ro 118 s))), (m2, .inl (cI, 118, .inl (ro 118 h))), (m3, .inl (cI, 708, .inl (ro 708 (pkF t)))), (m4, .inl (cI, 60, .inl (ro 60 cs))), (m5, .inl (cI, 48, .inl (ro 48 td)))] H := hP
      have hD : va_D A9 [(m0, .inr (6, [.ref m1, .ref m2, .ref m3, .int (nI k), .ref m4, .int (nI n), .int (nI 0), .int (nI ax), .int (nI fa), .int (nI vl), .ref m5, .int (nI tn), .int (nI hg), .int (nI bg)])), (m1, .inl (cI, 118, .inl (ro 118 s))), (m2, .inl (cI, 118, .inl (ro 118 h))), (m3, .inl (cI, 708, .inl (ro 708 (pkF t)))), (m4, .inl (cI, 60, .inl (ro 60 cs))), (m5, .inl (cI, 48, .inl (ro 48 td)))] := hD
      refine W.eq (g2 := F0 m9 34 ls [.int (nI (bI (inR v3 0 3)))]) rfl ?_
      refine q_fne (tgt := 43) bI_lt hx hb dX6_jet_34 (by decide) (fun c_34 => ?_) (fun c_34 => ?_)
      ·
        have c_34 := bI_nz c_34
        exfalso; omega
      ·
        have c_34 := bI_z c_34
        refine lv_aload_n hx hb dX6_jet_37 rfl (lv_at hl 0 rfl) ?_
        refine lv_iconst (v := nI 2) hx hb dX6_jet_38 (by decide +kernel) ?_
        refine KM.callV (As := [.int (nI 2)]) (rest := []) C0 hN (k_X6_fails l D cI cS cL m0 m1 m2 m3 m4 m5 k n 0 ax fa vl tn hg bg 2  ) (cwV 1 hts gX6_jet_X6_fails rfl rfl rfl (by decide +kernel) ⟨Nat.le_of_ble_eq_true rfl, Nat.le_of_ble_eq_true rfl⟩) hK hP hD hS hA [0] rfl (by decide) (fun _ => rfl) 0 6 rfl rfl rfl rfl hl.1 rfl (Nat.le_of_ble_eq_true rfl) dX6_jet_39 ⟨Nat.le_of_ble_eq_true rfl, Nat.le_of_ble_eq_true rfl⟩ (fun v9 u9 H locs hv hP hD hS => ?_)
        subst hv
        have hP : va_P D vwCl [(m0, .inr (6, [.ref m1, .ref m2, .ref m3, .int (nI k), .ref m4, .int (nI n), .int (nI 2), .int (nI ax), .int (nI fa), .int (nI vl), .ref m5, .int (nI tn), .int (nI hg), .int (nI bg)])), (m1, .inl (cI, 118, .inl (ro 118 s))), (m2, .inl (cI, 118, .inl (ro 118 h))), (m3, .inl (cI, 708, .inl (ro 708 (pkF t)))), (m4, .inl (cI, 60, .inl (ro 60 cs))), (m5, .inl (cI, 48, .inl (ro 48 td)))] H := hP
        have hD : va_D A9 [(m0, .inr (6, [.ref m1, .ref m2, .ref m3, .int (nI k), .ref m4, .int (nI n), .int (nI 2), .int (nI ax), .int (nI fa), .int (nI vl), .ref m5, .int (nI tn), .int (nI hg), .int (nI bg)])), (m1, .inl (cI, 118, .inl (ro 118 s))), (m2, .inl (cI, 118, .inl (ro 118 h))), (m3, .inl (cI, 708, .inl (ro 708 (pkF t)))), (m4, .inl (cI, 60, .inl (ro 60 cs))), (m5, .inl (cI, 48, .inl (ro 48 td)))] := hD
        refine W.eq (g2 := F0 m9 42 ls [.int (nI 0)]) rfl ?_
        rw [show (if inR v1 0 7 then 2 else 1) = 2 from by (repeat' split) <;> first | rfl | (exfalso; omega)] at hret
        exact hret _ _ _ _ (some (.int (nI 0))) () 42 ls (by decide) (by decide) (by rfl) hP hD hS (ret_i dX6_jet_42)
  ·
    have c_9 := bI_z c_9
    refine lv_aload_n hx hb dX6_jet_12 rfl (lv_at hl 0 rfl) ?_
    refine lv_iconst (v := nI 1) hx hb dX6_jet_13 (by decide +kernel) ?_
    refine KM.callV (As := [.int (nI 1)]) (rest := []) C0 hN (k_X6_fails l D cI cS cL m0 m1 m2 m3 m4 m5 k n 0 ax fa vl tn hg bg 1  ) (cwV 1 hts gX6_jet_X6_fails rfl rfl rfl (by decide +kernel) ⟨Nat.le_of_ble_eq_true rfl, Nat.le_of_ble_eq_true rfl⟩) hK hP hD hS hA [0] rfl (by decide) (fun _ => rfl) 0 6 rfl rfl rfl rfl hl.1 rfl (Nat.le_of_ble_eq_true rfl) dX6_jet_14 ⟨Nat.le_of_ble_eq_true rfl, Nat.le_of_ble_eq_true rfl⟩ (fun v9 u9 H locs hv hP hD hS => ?_)
    subst hv
    have hP : va_P D vwCl [(m0, .inr (6, [.ref m1, .ref m2, .ref m3, .int (nI k), .ref m4, .int (nI n), .int (nI 1), .int (nI ax), .int (nI fa), .int (nI vl), .ref m5, .int (nI tn), .int (nI hg), .int (nI bg)])), (m1, .inl (cI, 118, .inl (ro 118 s))), (m2, .inl (cI, 118, .inl (ro 118 h))), (m3, .inl (cI, 708, .inl (ro 708 (pkF t)))), (m4, .inl (cI, 60, .inl (ro 60 cs))), (m5, .inl (cI, 48, .inl (ro 48 td)))] H := hP
    have hD : va_D A9 [(m0, .inr (6, [.ref m1, .ref m2, .ref m3, .int (nI k), .ref m4, .int (nI n), .int (nI 1), .int (nI ax), .int (nI fa), .int (nI vl), .ref m5, .int (nI tn), .int (nI hg), .int (nI bg)])), (m1, .inl (cI, 118, .inl (ro 118 s))), (m2, .inl (cI, 118, .inl (ro 118 h))), (m3, .inl (cI, 708, .inl (ro 708 (pkF t)))), (m4, .inl (cI, 60, .inl (ro 60 cs))), (m5, .inl (cI, 48, .inl (ro 48 td)))] := hD
    refine W.eq (g2 := F0 m9 17 ls [.int (nI 0)]) rfl ?_
    rw [show (if inR v1 0 7 then 2 else 1) = 1 from by (repeat' split) <;> first | rfl | (exfalso; omega)] at hret
    exact hret _ _ _ _ (some (.int (nI 0))) () 17 ls (by decide) (by decide) (by rfl) hP hD hS (ret_i dX6_jet_17)

theorem in_X6_aim_bad_X6 : ∀ w ∈ wsX60, w ∈ wsX6_aim := by decide +kernel
theorem fl_X6_aim_bad_25 : Cond.fieldLink RX6 25 "FountainCuesModel" "thrown" "I" ∈ wsX6_aim := by decide +kernel
set_option maxHeartbeats 4000000 in
set_option maxRecDepth 100000 in
theorem k_X6_aim_bad (l : Launch) (D : va_G) (cI cS cL : ClassId) (T : Nat) (m0 : Nat) (m1 : Nat) (m2 : Nat) (m3 : Nat) (m4 : Nat) (m5 : Nat) (k : Nat) (n : Nat) (th : Nat) (ax : Nat) (fa : Nat) (vl : Nat) (tn : Nat) (hg : Nat) (bg : Nat) (s : Nat → Nat) (h : Nat → Nat) (t : Nat → Nat → Nat) (cs : Nat → Nat) (td : Nat → Nat) (v1 : Int32) (v2 : Int32) (hI : sI T s) (hT : T ≤ 900000) (hk : k ≤ 6) (hn : n ≤ 60) (hcs : ∀ j, j < n → cs j < 2 ^ 31) (hbad : ¬ (inR v1 0 7 ∧ inR v2 0 10)) : KM l D (TY cI cS cL) yX6_aim wsX6_aim ({ frames := 2, cells := 0, slots := 0, locals := 42 } : Room) [(m0, .inr (6, [.ref m1, .ref m2, .ref m3, .int (nI k), .ref m4, .int (nI n), .int (nI th), .int (nI ax), .int (nI fa), .int (nI vl), .ref m5, .int (nI tn), .int (nI hg), .int (nI bg)])), (m1, .inl (cI, 118, .inl (ro 118 s))), (m2, .inl (cI, 118, .inl (ro 118 h))), (m3, .inl (cI, 708, .inl (ro 708 (pkF t)))), (m4, .inl (cI, 60, .inl (ro 60 cs))), (m5, .inl (cI, 48, .inl (ro 48 td)))] [.ref m0, .int v1, .int v2] (fun (v : Option Value) (_ : Unit) => v = some (.int (nI 0))) (fun _ : Unit => [(m0, .inr (6, [.ref m1, .ref m2, .ref m3, .int (nI k), .ref m4, .int (nI n), .int (nI (if inR v1 0 7 then 2 else 1)), .int (nI ax), .int (nI fa), .int (nI vl), .ref m5, .int (nI tn), .int (nI hg), .int (nI bg)])), (m1, .inl (cI, 118, .inl (ro 118 s))), (m2, .inl (cI, 118, .inl (ro 118 h))), (m3, .inl (cI, 708, .inl (ro 708 (pkF t)))), (m4, .inl (cI, 60, .inl (ro 60 cs))), (m5, .inl (cI, 48, .inl (ro 48 td)))]) := by
  refine KM.of (cc := cX6_aim) (maxL := 3) (ret := (some .int)) (by decide) rfl (Nat.le_of_ble_eq_true rfl) ?_
  intro p9 e9 s9 m9 ar9 be9 me9 c9 Q9 A9 ls C0 hN hnm hlk hK hA hret hP hD hS hl
  obtain ⟨hx, hb, hml, hown, hts⟩ := id C0
  have hl : lv_has ls 3 [(0, .ref m0), (1, .int v1), (2, .int v2)] := hl
  obtain ⟨H, hH0⟩ : ∃ H, H = s9.heap := ⟨_, rfl⟩
  obtain ⟨locs, hlc0⟩ : ∃ z : List Loc, z = [] := ⟨_, rfl⟩
  have hP : va_P D vwCl [(m0, .inr (6, [.ref m1, .ref m2, .ref m3, .int (nI k), .ref m4, .int (nI n), .int (nI th), .int (nI ax), .int (nI fa), .int (nI vl), .ref m5, .int (nI tn), .int (nI hg), .int (nI bg)])), (m1, .inl (cI, 118, .inl (ro 118 s))), (m2, .inl (cI, 118, .inl (ro 118 h))), (m3, .inl (cI, 708, .inl (ro 708 (pkF t)))), (m4, .inl (cI, 60, .inl (ro 60 cs))), (m5, .inl (cI, 48, .inl (ro 48 td)))] H := by rw [hH0]; exact hP
  have hD : va_D A9 [(m0, .inr (6, [.ref m1, .ref m2, .ref m3, .int (nI k), .ref m4, .int (nI n), .int (nI th), .int (nI ax), .int (nI fa), .int (nI vl), .ref m5, .int (nI tn), .int (nI hg), .int (nI bg)])), (m1, .inl (cI, 118, .inl (ro 118 s))), (m2, .inl (cI, 118, .inl (ro 118 h))), (m3, .inl (cI, 708, .inl (ro 708 (pkF t)))), (m4, .inl (cI, 60, .inl (ro 60 cs))), (m5, .inl (cI, 48, .inl (ro 48 td)))] := hD
  have hS : va_S A9 s9.heap H locs := by rw [hH0, hlc0]; exact hS
  suffices hgo : W p9 l e9 ({ frames := 2, cells := 0, slots := 0, locals := 42 } : Room) s9 m9 ar9 be9 me9 c9 H locs 0 0 Q9 (F0 m9 0 ls []) by rw [hH0, hlc0] at hgo; exact hgo
  clear hH0 hlc0
  obtain ⟨hI1, hI2, hI3, hI4, hI5, hI6, hI7, hI8, hI9, hI10, hI11⟩ := id hI
  refine lv_aload_n hx hb dX6_aim_0 rfl (lv_at hl 0 rfl) ?_
  refine lv_iconst (v := nI 0) hx hb dX6_aim_1 (by decide +kernel) ?_
  refine va_put (D := D) (ci := 6) (v := .int (nI 0)) (ty := tyX6 6) (C := RX6) (T := TX6) (N := 14) hx hb hts in_X6_aim_bad_X6 tyX6 tyX6_ok nmX6 hown hK hP hD hS 0 rfl rfl 6 (by decide) (hts _ fl_X6_aim_bad_25) (fun _ h9 => h9) rfl (by decide +kernel) rfl rfl (Nat.le_of_ble_eq_true rfl) dX6_aim_2 (fun H locs hP hD hS => ?_)
  have hP : va_P D vwCl [(m0, .inr (6, [.ref m1, .ref m2, .ref m3, .int (nI k), .ref m4, .int (nI n), .int (nI 0), .int (nI ax), .int (nI fa), .int (nI vl), .ref m5, .int (nI tn), .int (nI hg), .int (nI bg)])), (m1, .inl (cI, 118, .inl (ro 118 s))), (m2, .inl (cI, 118, .inl (ro 118 h))), (m3, .inl (cI, 708, .inl (ro 708 (pkF t)))), (m4, .inl (cI, 60, .inl (ro 60 cs))), (m5, .inl (cI, 48, .inl (ro 48 td)))] H := hP
  have hD : va_D A9 [(m0, .inr (6, [.ref m1, .ref m2, .ref m3, .int (nI k), .ref m4, .int (nI n), .int (nI 0), .int (nI ax), .int (nI fa), .int (nI vl), .ref m5, .int (nI tn), .int (nI hg), .int (nI bg)])), (m1, .inl (cI, 118, .inl (ro 118 s))), (m2, .inl (cI, 118, .inl (ro 118 h))), (m3, .inl (cI, 708, .inl (ro 708 (pkF t)))), (m4, .inl (cI, 60, .inl (ro 60 cs))), (m5, .inl (cI, 48, .inl (ro 48 td)))] := hD
  refine lv_iload_n hx hb dX6_aim_5 rfl (lv_at hl 1 rfl) ?_
  refine KM.callS (As := [.int v1]) (rest := []) C0 hN (k_X6_isJet l D cI cS cL v1  ) (va_cwS 1 hts gX6_aim_X6_isJet rfl rfl rfl (by decide +kernel) ⟨Nat.le_of_ble_eq_true rfl, Nat.le_of_ble_eq_true rfl⟩) hK hP hD hS hA [] rfl (by decide) (fun _ => rfl) rfl hl.1 rfl (Nat.le_of_ble_eq_true rfl) dX6_aim_6 ⟨Nat.le_of_ble_eq_true rfl, Nat.le_of_ble_eq_true rfl⟩ (fun v9 u9 H locs hv hP hD hS => ?_)
  subst hv
  have hP : va_P D vwCl [(m0, .inr (6, [.ref m1, .ref m2, .ref m3, .int (nI k), .ref m4, .int (nI n), .int (nI 0), .int (nI ax), .int (nI fa), .int (nI vl), .ref m5, .int (nI tn), .int (nI hg), .int (nI bg)])), (m1, .inl (cI, 118, .inl (ro 118 s))), (m2, .inl (cI, 118, .inl (ro 118 h))), (m3, .inl (cI, 708, .inl (ro 708 (pkF t)))), (m4, .inl (cI, 60, .inl (ro 60 cs))), (m5, .inl (cI, 48, .inl (ro 48 td)))] H := hP
  have hD : va_D A9 [(m0, .inr (6, [.ref m1, .ref m2, .ref m3, .int (nI k), .ref m4, .int (nI n), .int (nI 0), .int (nI ax), .int (nI fa), .int (nI vl), .ref m5, .int (nI tn), .int (nI hg), .int (nI bg)])), (m1, .inl (cI, 118, .inl (ro 118 s))), (m2, .inl (cI, 118, .inl (ro 118 h))), (m3, .inl (cI, 708, .inl (ro 708 (pkF t)))), (m4, .inl (cI, 60, .inl (ro 60 cs))), (m5, .inl (cI, 48, .inl (ro 48 td)))] := hD
  refine W.eq (g2 := F0 m9 9 ls [.int (nI (bI (inR v1 0 7)))]) rfl ?_
  refine q_fne (tgt := 18) bI_lt hx hb dX6_aim_9 (by decide) (fun c_9 => ?_) (fun c_9 => ?_)
  ·
    have c_9 := bI_nz c_9
    refine lv_iload_n hx hb dX6_aim_18 rfl (lv_at hl 2 rfl) ?_
    refine lv_iconst (v := nI 0) hx hb dX6_aim_19 (by decide +kernel) ?_
    refine lv_bipush (v := nI 10) hx hb dX6_aim_20 (by decide +kernel) ?_
    refine KM.callS (As := [.int v2, .int (nI 0), .int (nI 10)]) (rest := []) C0 hN (k_X6_in l D cI cS cL v2 0 10  (by decide) (by decide)) (va_cwS 3 hts gX6_aim_X6_in rfl rfl rfl (by decide +kernel) ⟨Nat.le_of_ble_eq_true rfl, Nat.le_of_ble_eq_true rfl⟩) hK hP hD hS hA [] rfl (by decide) (fun _ => rfl) rfl hl.1 rfl (Nat.le_of_ble_eq_true rfl) dX6_aim_22 ⟨Nat.le_of_ble_eq_true rfl, Nat.le_of_ble_eq_true rfl⟩ (fun v9 u9 H locs hv hP hD hS => ?_)
    subst hv
    have hP : va_P D vwCl [(m0, .inr (6, [.ref m1, .ref m2, .ref m3, .int (nI k), .ref m4, .int (nI n), .int (nI 0), .int (nI ax), .int (nI fa), .int (nI vl), .ref m5, .int (nI tn), .int (nI hg), .int (nI bg)])), (m1, .inl (cI, 118, .inl (ro 118 s))), (m2, .inl (cI, 118, .inl (ro 118 h))), (m3, .inl (cI, 708, .inl (ro 708 (pkF t)))), (m4, .inl (cI, 60, .inl (ro 60 cs))), (m5, .inl (cI, 48, .inl (ro 48 td)))] H := hP
    have hD : va_D A9 [(m0, .inr (6, [.ref m1, .ref m2, .ref m3, .int (nI k), .ref m4, .int (nI n), .int (nI 0), .int (nI ax), .int (nI fa), .int (nI vl), .ref m5, .int (nI tn), .int (nI hg), .int (nI bg)])), (m1, .inl (cI, 118, .inl (ro 118 s))), (m2, .inl (cI, 118, .inl (ro 118 h))), (m3, .inl (cI, 708, .inl (ro 708 (pkF t)))), (m4, .inl (cI, 60, .inl (ro 60 cs))), (m5, .inl (cI, 48, .inl (ro 48 td)))] := hD
    refine W.eq (g2 := F0 m9 25 ls [.int (nI (bI (inR v2 0 10)))]) rfl ?_
    refine q_fne (tgt := 34) bI_lt hx hb dX6_aim_25 (by decide) (fun c_25 => ?_) (fun c_25 => ?_)
    ·
      have c_25 := bI_nz c_25
      exfalso; omega
    ·
      have c_25 := bI_z c_25
      refine lv_aload_n hx hb dX6_aim_28 rfl (lv_at hl 0 rfl) ?_
      refine lv_iconst (v := nI 2) hx hb dX6_aim_29 (by decide +kernel) ?_
      refine KM.callV (As := [.int (nI 2)]) (rest := []) C0 hN (k_X6_fails l D cI cS cL m0 m1 m2 m3 m4 m5 k n 0 ax fa vl tn hg bg 2  ) (cwV 1 hts gX6_aim_X6_fails rfl rfl rfl (by decide +kernel) ⟨Nat.le_of_ble_eq_true rfl, Nat.le_of_ble_eq_true rfl⟩) hK hP hD hS hA [0] rfl (by decide) (fun _ => rfl) 0 6 rfl rfl rfl rfl hl.1 rfl (Nat.le_of_ble_eq_true rfl) dX6_aim_30 ⟨Nat.le_of_ble_eq_true rfl, Nat.le_of_ble_eq_true rfl⟩ (fun v9 u9 H locs hv hP hD hS => ?_)
      subst hv
      have hP : va_P D vwCl [(m0, .inr (6, [.ref m1, .ref m2, .ref m3, .int (nI k), .ref m4, .int (nI n), .int (nI 2), .int (nI ax), .int (nI fa), .int (nI vl), .ref m5, .int (nI tn), .int (nI hg), .int (nI bg)])), (m1, .inl (cI, 118, .inl (ro 118 s))), (m2, .inl (cI, 118, .inl (ro 118 h))), (m3, .inl (cI, 708, .inl (ro 708 (pkF t)))), (m4, .inl (cI, 60, .inl (ro 60 cs))), (m5, .inl (cI, 48, .inl (ro 48 td)))] H := hP
      have hD : va_D A9 [(m0, .inr (6, [.ref m1, .ref m2, .ref m3, .int (nI k), .ref m4, .int (nI n), .int (nI 2), .int (nI ax), .int (nI fa), .int (nI vl), .ref m5, .int (nI tn), .int (nI hg), .int (nI bg)])), (m1, .inl (cI, 118, .inl (ro 118 s))), (m2, .inl (cI, 118, .inl (ro 118 h))), (m3, .inl (cI, 708, .inl (ro 708 (pkF t)))), (m4, .inl (cI, 60, .inl (ro 60 cs))), (m5, .inl (cI, 48, .inl (ro 48 td)))] := hD
      refine W.eq (g2 := F0 m9 33 ls [.int (nI 0)]) rfl ?_
      rw [show (if inR v1 0 7 then 2 else 1) = 2 from by (repeat' split) <;> first | rfl | (exfalso; omega)] at hret
      exact hret _ _ _ _ (some (.int (nI 0))) () 33 ls (by decide) (by decide) (by rfl) hP hD hS (ret_i dX6_aim_33)
  ·
    have c_9 := bI_z c_9
    refine lv_aload_n hx hb dX6_aim_12 rfl (lv_at hl 0 rfl) ?_
    refine lv_iconst (v := nI 1) hx hb dX6_aim_13 (by decide +kernel) ?_
    refine KM.callV (As := [.int (nI 1)]) (rest := []) C0 hN (k_X6_fails l D cI cS cL m0 m1 m2 m3 m4 m5 k n 0 ax fa vl tn hg bg 1  ) (cwV 1 hts gX6_aim_X6_fails rfl rfl rfl (by decide +kernel) ⟨Nat.le_of_ble_eq_true rfl, Nat.le_of_ble_eq_true rfl⟩) hK hP hD hS hA [0] rfl (by decide) (fun _ => rfl) 0 6 rfl rfl rfl rfl hl.1 rfl (Nat.le_of_ble_eq_true rfl) dX6_aim_14 ⟨Nat.le_of_ble_eq_true rfl, Nat.le_of_ble_eq_true rfl⟩ (fun v9 u9 H locs hv hP hD hS => ?_)
    subst hv
    have hP : va_P D vwCl [(m0, .inr (6, [.ref m1, .ref m2, .ref m3, .int (nI k), .ref m4, .int (nI n), .int (nI 1), .int (nI ax), .int (nI fa), .int (nI vl), .ref m5, .int (nI tn), .int (nI hg), .int (nI bg)])), (m1, .inl (cI, 118, .inl (ro 118 s))), (m2, .inl (cI, 118, .inl (ro 118 h))), (m3, .inl (cI, 708, .inl (ro 708 (pkF t)))), (m4, .inl (cI, 60, .inl (ro 60 cs))), (m5, .inl (cI, 48, .inl (ro 48 td)))] H := hP
    have hD : va_D A9 [(m0, .inr (6, [.ref m1, .ref m2, .ref m3, .int (nI k), .ref m4, .int (nI n), .int (nI 1), .int (nI ax), .int (nI fa), .int (nI vl), .ref m5, .int (nI tn), .int (nI hg), .int (nI bg)])), (m1, .inl (cI, 118, .inl (ro 118 s))), (m2, .inl (cI, 118, .inl (ro 118 h))), (m3, .inl (cI, 708, .inl (ro 708 (pkF t)))), (m4, .inl (cI, 60, .inl (ro 60 cs))), (m5, .inl (cI, 48, .inl (ro 48 td)))] := hD
    refine W.eq (g2 := F0 m9 17 ls [.int (nI 0)]) rfl ?_
    rw [show (if inR v1 0 7 then 2 else 1) = 1 from by (repeat' split) <;> first | rfl | (exfalso; omega)] at hret
    exact hret _ _ _ _ (some (.int (nI 0))) () 17 ls (by decide) (by decide) (by rfl) hP hD hS (ret_i dX6_aim_17)

theorem in_X6_pump_bad_X6 : ∀ w ∈ wsX60, w ∈ wsX6_pump := by decide +kernel
theorem fl_X6_pump_bad_25 : Cond.fieldLink RX6 25 "FountainCuesModel" "thrown" "I" ∈ wsX6_pump := by decide +kernel
set_option maxHeartbeats 4000000 in
set_option maxRecDepth 100000 in
theorem k_X6_pump_bad (l : Launch) (D : va_G) (cI cS cL : ClassId) (T : Nat) (m0 : Nat) (m1 : Nat) (m2 : Nat) (m3 : Nat) (m4 : Nat) (m5 : Nat) (k : Nat) (n : Nat) (th : Nat) (ax : Nat) (fa : Nat) (vl : Nat) (tn : Nat) (hg : Nat) (bg : Nat) (s : Nat → Nat) (h : Nat → Nat) (t : Nat → Nat → Nat) (cs : Nat → Nat) (td : Nat → Nat) (v1 : Int32) (v2 : Int32) (hI : sI T s) (hT : T ≤ 900000) (hk : k ≤ 6) (hn : n ≤ 60) (hcs : ∀ j, j < n → cs j < 2 ^ 31) (hbad : ¬ (inR v1 0 1 ∧ inR v2 0 2000)) : KM l D (TY cI cS cL) yX6_pump wsX6_pump ({ frames := 1, cells := 0, slots := 0, locals := 22 } : Room) [(m0, .inr (6, [.ref m1, .ref m2, .ref m3, .int (nI k), .ref m4, .int (nI n), .int (nI th), .int (nI ax), .int (nI fa), .int (nI vl), .ref m5, .int (nI tn), .int (nI hg), .int (nI bg)])), (m1, .inl (cI, 118, .inl (ro 118 s))), (m2, .inl (cI, 118, .inl (ro 118 h))), (m3, .inl (cI, 708, .inl (ro 708 (pkF t)))), (m4, .inl (cI, 60, .inl (ro 60 cs))), (m5, .inl (cI, 48, .inl (ro 48 td)))] [.ref m0, .int v1, .int v2] (fun (v : Option Value) (_ : Unit) => v = some (.int (nI 0))) (fun _ : Unit => [(m0, .inr (6, [.ref m1, .ref m2, .ref m3, .int (nI k), .ref m4, .int (nI n), .int (nI (if inR v1 0 1 then 2 else 1)), .int (nI ax), .int (nI fa), .int (nI vl), .ref m5, .int (nI tn), .int (nI hg), .int (nI bg)])), (m1, .inl (cI, 118, .inl (ro 118 s))), (m2, .inl (cI, 118, .inl (ro 118 h))), (m3, .inl (cI, 708, .inl (ro 708 (pkF t)))), (m4, .inl (cI, 60, .inl (ro 60 cs))), (m5, .inl (cI, 48, .inl (ro 48 td)))]) := by
  refine KM.of (cc := cX6_pump) (maxL := 3) (ret := (some .int)) (by decide) rfl (Nat.le_of_ble_eq_true rfl) ?_
  intro p9 e9 s9 m9 ar9 be9 me9 c9 Q9 A9 ls C0 hN hnm hlk hK hA hret hP hD hS hl
  obtain ⟨hx, hb, hml, hown, hts⟩ := id C0
  have hl : lv_has ls 3 [(0, .ref m0), (1, .int v1), (2, .int v2)] := hl
  obtain ⟨H, hH0⟩ : ∃ H, H = s9.heap := ⟨_, rfl⟩
  obtain ⟨locs, hlc0⟩ : ∃ z : List Loc, z = [] := ⟨_, rfl⟩
  have hP : va_P D vwCl [(m0, .inr (6, [.ref m1, .ref m2, .ref m3, .int (nI k), .ref m4, .int (nI n), .int (nI th), .int (nI ax), .int (nI fa), .int (nI vl), .ref m5, .int (nI tn), .int (nI hg), .int (nI bg)])), (m1, .inl (cI, 118, .inl (ro 118 s))), (m2, .inl (cI, 118, .inl (ro 118 h))), (m3, .inl (cI, 708, .inl (ro 708 (pkF t)))), (m4, .inl (cI, 60, .inl (ro 60 cs))), (m5, .inl (cI, 48, .inl (ro 48 td)))] H := by rw [hH0]; exact hP
  have hD : va_D A9 [(m0, .inr (6, [.ref m1, .ref m2, .ref m3, .int (nI k), .ref m4, .int (nI n), .int (nI th), .int (nI ax), .int (nI fa), .int (nI vl), .ref m5, .int (nI tn), .int (nI hg), .int (nI bg)])), (m1, .inl (cI, 118, .inl (ro 118 s))), (m2, .inl (cI, 118, .inl (ro 118 h))), (m3, .inl (cI, 708, .inl (ro 708 (pkF t)))), (m4, .inl (cI, 60, .inl (ro 60 cs))), (m5, .inl (cI, 48, .inl (ro 48 td)))] := hD
  have hS : va_S A9 s9.heap H locs := by rw [hH0, hlc0]; exact hS
  suffices hgo : W p9 l e9 ({ frames := 1, cells := 0, slots := 0, locals := 22 } : Room) s9 m9 ar9 be9 me9 c9 H locs 0 0 Q9 (F0 m9 0 ls []) by rw [hH0, hlc0] at hgo; exact hgo
  clear hH0 hlc0
  obtain ⟨hI1, hI2, hI3, hI4, hI5, hI6, hI7, hI8, hI9, hI10, hI11⟩ := id hI
  refine lv_aload_n hx hb dX6_pump_0 rfl (lv_at hl 0 rfl) ?_
  refine lv_iconst (v := nI 0) hx hb dX6_pump_1 (by decide +kernel) ?_
  refine va_put (D := D) (ci := 6) (v := .int (nI 0)) (ty := tyX6 6) (C := RX6) (T := TX6) (N := 14) hx hb hts in_X6_pump_bad_X6 tyX6 tyX6_ok nmX6 hown hK hP hD hS 0 rfl rfl 6 (by decide) (hts _ fl_X6_pump_bad_25) (fun _ h9 => h9) rfl (by decide +kernel) rfl rfl (Nat.le_of_ble_eq_true rfl) dX6_pump_2 (fun H locs hP hD hS => ?_)
  have hP : va_P D vwCl [(m0, .inr (6, [.ref m1, .ref m2, .ref m3, .int (nI k), .ref m4, .int (nI n), .int (nI 0), .int (nI ax), .int (nI fa), .int (nI vl), .ref m5, .int (nI tn), .int (nI hg), .int (nI bg)])), (m1, .inl (cI, 118, .inl (ro 118 s))), (m2, .inl (cI, 118, .inl (ro 118 h))), (m3, .inl (cI, 708, .inl (ro 708 (pkF t)))), (m4, .inl (cI, 60, .inl (ro 60 cs))), (m5, .inl (cI, 48, .inl (ro 48 td)))] H := hP
  have hD : va_D A9 [(m0, .inr (6, [.ref m1, .ref m2, .ref m3, .int (nI k), .ref m4, .int (nI n), .int (nI 0), .int (nI ax), .int (nI fa), .int (nI vl), .ref m5, .int (nI tn), .int (nI hg), .int (nI bg)])), (m1, .inl (cI, 118, .inl (ro 118 s))), (m2, .inl (cI, 118, .inl (ro 118 h))), (m3, .inl (cI, 708, .inl (ro 708 (pkF t)))), (m4, .inl (cI, 60, .inl (ro 60 cs))), (m5, .inl (cI, 48, .inl (ro 48 td)))] := hD
  refine lv_iload_n hx hb dX6_pump_5 rfl (lv_at hl 1 rfl) ?_
  refine lv_iconst (v := nI 0) hx hb dX6_pump_6 (by decide +kernel) ?_
  refine lv_iconst (v := nI 1) hx hb dX6_pump_7 (by decide +kernel) ?_
  refine KM.callS (As := [.int v1, .int (nI 0), .int (nI 1)]) (rest := []) C0 hN (k_X6_in l D cI cS cL v1 0 1  (by decide) (by decide)) (va_cwS 3 hts gX6_pump_X6_in rfl rfl rfl (by decide +kernel) ⟨Nat.le_of_ble_eq_true rfl, Nat.le_of_ble_eq_true rfl⟩) hK hP hD hS hA [] rfl (by decide) (fun _ => rfl) rfl hl.1 rfl (Nat.le_of_ble_eq_true rfl) dX6_pump_8 ⟨Nat.le_of_ble_eq_true rfl, Nat.le_of_ble_eq_true rfl⟩ (fun v9 u9 H locs hv hP hD hS => ?_)
  subst hv
  have hP : va_P D vwCl [(m0, .inr (6, [.ref m1, .ref m2, .ref m3, .int (nI k), .ref m4, .int (nI n), .int (nI 0), .int (nI ax), .int (nI fa), .int (nI vl), .ref m5, .int (nI tn), .int (nI hg), .int (nI bg)])), (m1, .inl (cI, 118, .inl (ro 118 s))), (m2, .inl (cI, 118, .inl (ro 118 h))), (m3, .inl (cI, 708, .inl (ro 708 (pkF t)))), (m4, .inl (cI, 60, .inl (ro 60 cs))), (m5, .inl (cI, 48, .inl (ro 48 td)))] H := hP
  have hD : va_D A9 [(m0, .inr (6, [.ref m1, .ref m2, .ref m3, .int (nI k), .ref m4, .int (nI n), .int (nI 0), .int (nI ax), .int (nI fa), .int (nI vl), .ref m5, .int (nI tn), .int (nI hg), .int (nI bg)])), (m1, .inl (cI, 118, .inl (ro 118 s))), (m2, .inl (cI, 118, .inl (ro 118 h))), (m3, .inl (cI, 708, .inl (ro 708 (pkF t)))), (m4, .inl (cI, 60, .inl (ro 60 cs))), (m5, .inl (cI, 48, .inl (ro 48 td)))] := hD
  refine W.eq (g2 := F0 m9 11 ls [.int (nI (bI (inR v1 0 1)))]) rfl ?_
  refine q_fne (tgt := 20) bI_lt hx hb dX6_pump_11 (by decide) (fun c_11 => ?_) (fun c_11 => ?_)
  ·
    have c_11 := bI_nz c_11
    refine lv_iload_n hx hb dX6_pump_20 rfl (lv_at hl 2 rfl) ?_
    refine lv_iconst (v := nI 0) hx hb dX6_pump_21 (by decide +kernel) ?_
    refine lv_sipush (v := nI 2000) hx hb dX6_pump_22 (by decide +kernel) ?_
    refine KM.callS (As := [.int v2, .int (nI 0), .int (nI 2000)]) (rest := []) C0 hN (k_X6_in l D cI cS cL v2 0 2000  (by decide) (by decide)) (va_cwS 3 hts gX6_pump_X6_in rfl rfl rfl (by decide +kernel) ⟨Nat.le_of_ble_eq_true rfl, Nat.le_of_ble_eq_true rfl⟩) hK hP hD hS hA [] rfl (by decide) (fun _ => rfl) rfl hl.1 rfl (Nat.le_of_ble_eq_true rfl) dX6_pump_25 ⟨Nat.le_of_ble_eq_true rfl, Nat.le_of_ble_eq_true rfl⟩ (fun v9 u9 H locs hv hP hD hS => ?_)
    subst hv
    have hP : va_P D vwCl [(m0, .inr (6, [.ref m1, .ref m2, .ref m3, .int (nI k), .ref m4, .int (nI n), .int (nI 0), .int (nI ax), .int (nI fa), .int (nI vl), .ref m5, .int (nI tn), .int (nI hg), .int (nI bg)])), (m1, .inl (cI, 118, .inl (ro 118 s))), (m2, .inl (cI, 118, .inl (ro 118 h))), (m3, .inl (cI, 708, .inl (ro 708 (pkF t)))), (m4, .inl (cI, 60, .inl (ro 60 cs))), (m5, .inl (cI, 48, .inl (ro 48 td)))] H := hP
    have hD : va_D A9 [(m0, .inr (6, [.ref m1, .ref m2, .ref m3, .int (nI k), .ref m4, .int (nI n), .int (nI 0), .int (nI ax), .int (nI fa), .int (nI vl), .ref m5, .int (nI tn), .int (nI hg), .int (nI bg)])), (m1, .inl (cI, 118, .inl (ro 118 s))), (m2, .inl (cI, 118, .inl (ro 118 h))), (m3, .inl (cI, 708, .inl (ro 708 (pkF t)))), (m4, .inl (cI, 60, .inl (ro 60 cs))), (m5, .inl (cI, 48, .inl (ro 48 td)))] := hD
    refine W.eq (g2 := F0 m9 28 ls [.int (nI (bI (inR v2 0 2000)))]) rfl ?_
    refine q_fne (tgt := 37) bI_lt hx hb dX6_pump_28 (by decide) (fun c_28 => ?_) (fun c_28 => ?_)
    ·
      have c_28 := bI_nz c_28
      exfalso; omega
    ·
      have c_28 := bI_z c_28
      refine lv_aload_n hx hb dX6_pump_31 rfl (lv_at hl 0 rfl) ?_
      refine lv_iconst (v := nI 2) hx hb dX6_pump_32 (by decide +kernel) ?_
      refine KM.callV (As := [.int (nI 2)]) (rest := []) C0 hN (k_X6_fails l D cI cS cL m0 m1 m2 m3 m4 m5 k n 0 ax fa vl tn hg bg 2  ) (cwV 1 hts gX6_pump_X6_fails rfl rfl rfl (by decide +kernel) ⟨Nat.le_of_ble_eq_true rfl, Nat.le_of_ble_eq_true rfl⟩) hK hP hD hS hA [0] rfl (by decide) (fun _ => rfl) 0 6 rfl rfl rfl rfl hl.1 rfl (Nat.le_of_ble_eq_true rfl) dX6_pump_33 ⟨Nat.le_of_ble_eq_true rfl, Nat.le_of_ble_eq_true rfl⟩ (fun v9 u9 H locs hv hP hD hS => ?_)
      subst hv
      have hP : va_P D vwCl [(m0, .inr (6, [.ref m1, .ref m2, .ref m3, .int (nI k), .ref m4, .int (nI n), .int (nI 2), .int (nI ax), .int (nI fa), .int (nI vl), .ref m5, .int (nI tn), .int (nI hg), .int (nI bg)])), (m1, .inl (cI, 118, .inl (ro 118 s))), (m2, .inl (cI, 118, .inl (ro 118 h))), (m3, .inl (cI, 708, .inl (ro 708 (pkF t)))), (m4, .inl (cI, 60, .inl (ro 60 cs))), (m5, .inl (cI, 48, .inl (ro 48 td)))] H := hP
      have hD : va_D A9 [(m0, .inr (6, [.ref m1, .ref m2, .ref m3, .int (nI k), .ref m4, .int (nI n), .int (nI 2), .int (nI ax), .int (nI fa), .int (nI vl), .ref m5, .int (nI tn), .int (nI hg), .int (nI bg)])), (m1, .inl (cI, 118, .inl (ro 118 s))), (m2, .inl (cI, 118, .inl (ro 118 h))), (m3, .inl (cI, 708, .inl (ro 708 (pkF t)))), (m4, .inl (cI, 60, .inl (ro 60 cs))), (m5, .inl (cI, 48, .inl (ro 48 td)))] := hD
      refine W.eq (g2 := F0 m9 36 ls [.int (nI 0)]) rfl ?_
      rw [show (if inR v1 0 1 then 2 else 1) = 2 from by (repeat' split) <;> first | rfl | (exfalso; omega)] at hret
      exact hret _ _ _ _ (some (.int (nI 0))) () 36 ls (by decide) (by decide) (by rfl) hP hD hS (ret_i dX6_pump_36)
  ·
    have c_11 := bI_z c_11
    refine lv_aload_n hx hb dX6_pump_14 rfl (lv_at hl 0 rfl) ?_
    refine lv_iconst (v := nI 1) hx hb dX6_pump_15 (by decide +kernel) ?_
    refine KM.callV (As := [.int (nI 1)]) (rest := []) C0 hN (k_X6_fails l D cI cS cL m0 m1 m2 m3 m4 m5 k n 0 ax fa vl tn hg bg 1  ) (cwV 1 hts gX6_pump_X6_fails rfl rfl rfl (by decide +kernel) ⟨Nat.le_of_ble_eq_true rfl, Nat.le_of_ble_eq_true rfl⟩) hK hP hD hS hA [0] rfl (by decide) (fun _ => rfl) 0 6 rfl rfl rfl rfl hl.1 rfl (Nat.le_of_ble_eq_true rfl) dX6_pump_16 ⟨Nat.le_of_ble_eq_true rfl, Nat.le_of_ble_eq_true rfl⟩ (fun v9 u9 H locs hv hP hD hS => ?_)
    subst hv
    have hP : va_P D vwCl [(m0, .inr (6, [.ref m1, .ref m2, .ref m3, .int (nI k), .ref m4, .int (nI n), .int (nI 1), .int (nI ax), .int (nI fa), .int (nI vl), .ref m5, .int (nI tn), .int (nI hg), .int (nI bg)])), (m1, .inl (cI, 118, .inl (ro 118 s))), (m2, .inl (cI, 118, .inl (ro 118 h))), (m3, .inl (cI, 708, .inl (ro 708 (pkF t)))), (m4, .inl (cI, 60, .inl (ro 60 cs))), (m5, .inl (cI, 48, .inl (ro 48 td)))] H := hP
    have hD : va_D A9 [(m0, .inr (6, [.ref m1, .ref m2, .ref m3, .int (nI k), .ref m4, .int (nI n), .int (nI 1), .int (nI ax), .int (nI fa), .int (nI vl), .ref m5, .int (nI tn), .int (nI hg), .int (nI bg)])), (m1, .inl (cI, 118, .inl (ro 118 s))), (m2, .inl (cI, 118, .inl (ro 118 h))), (m3, .inl (cI, 708, .inl (ro 708 (pkF t)))), (m4, .inl (cI, 60, .inl (ro 60 cs))), (m5, .inl (cI, 48, .inl (ro 48 td)))] := hD
    refine W.eq (g2 := F0 m9 19 ls [.int (nI 0)]) rfl ?_
    rw [show (if inR v1 0 1 then 2 else 1) = 1 from by (repeat' split) <;> first | rfl | (exfalso; omega)] at hret
    exact hret _ _ _ _ (some (.int (nI 0))) () 19 ls (by decide) (by decide) (by rfl) hP hD hS (ret_i dX6_pump_19)

theorem in_X6_wind_bad_X6 : ∀ w ∈ wsX60, w ∈ wsX6_wind := by decide +kernel
theorem fl_X6_wind_bad_25 : Cond.fieldLink RX6 25 "FountainCuesModel" "thrown" "I" ∈ wsX6_wind := by decide +kernel
set_option maxHeartbeats 4000000 in
set_option maxRecDepth 100000 in
theorem k_X6_wind_bad (l : Launch) (D : va_G) (cI cS cL : ClassId) (T : Nat) (m0 : Nat) (m1 : Nat) (m2 : Nat) (m3 : Nat) (m4 : Nat) (m5 : Nat) (k : Nat) (n : Nat) (th : Nat) (ax : Nat) (fa : Nat) (vl : Nat) (tn : Nat) (hg : Nat) (bg : Nat) (s : Nat → Nat) (h : Nat → Nat) (t : Nat → Nat → Nat) (cs : Nat → Nat) (td : Nat → Nat) (v1 : Int32) (hI : sI T s) (hT : T ≤ 900000) (hk : k ≤ 6) (hn : n ≤ 60) (hcs : ∀ j, j < n → cs j < 2 ^ 31) (hbad : ¬ (inR v1 0 20)) : KM l D (TY cI cS cL) yX6_wind wsX6_wind ({ frames := 1, cells := 0, slots := 0, locals := 22 } : Room) [(m0, .inr (6, [.ref m1, .ref m2, .ref m3, .int (nI k), .ref m4, .int (nI n), .int (nI th), .int (nI ax), .int (nI fa), .int (nI vl), .ref m5, .int (nI tn), .int (nI hg), .int (nI bg)])), (m1, .inl (cI, 118, .inl (ro 118 s))), (m2, .inl (cI, 118, .inl (ro 118 h))), (m3, .inl (cI, 708, .inl (ro 708 (pkF t)))), (m4, .inl (cI, 60, .inl (ro 60 cs))), (m5, .inl (cI, 48, .inl (ro 48 td)))] [.ref m0, .int v1] (fun (v : Option Value) (_ : Unit) => v = some (.int (nI 0))) (fun _ : Unit => [(m0, .inr (6, [.ref m1, .ref m2, .ref m3, .int (nI k), .ref m4, .int (nI n), .int (nI 1), .int (nI ax), .int (nI fa), .int (nI vl), .ref m5, .int (nI tn), .int (nI hg), .int (nI bg)])), (m1, .inl (cI, 118, .inl (ro 118 s))), (m2, .inl (cI, 118, .inl (ro 118 h))), (m3, .inl (cI, 708, .inl (ro 708 (pkF t)))), (m4, .inl (cI, 60, .inl (ro 60 cs))), (m5, .inl (cI, 48, .inl (ro 48 td)))]) := by
  refine KM.of (cc := cX6_wind) (maxL := 2) (ret := (some .int)) (by decide) rfl (Nat.le_of_ble_eq_true rfl) ?_
  intro p9 e9 s9 m9 ar9 be9 me9 c9 Q9 A9 ls C0 hN hnm hlk hK hA hret hP hD hS hl
  obtain ⟨hx, hb, hml, hown, hts⟩ := id C0
  have hl : lv_has ls 2 [(0, .ref m0), (1, .int v1)] := hl
  obtain ⟨H, hH0⟩ : ∃ H, H = s9.heap := ⟨_, rfl⟩
  obtain ⟨locs, hlc0⟩ : ∃ z : List Loc, z = [] := ⟨_, rfl⟩
  have hP : va_P D vwCl [(m0, .inr (6, [.ref m1, .ref m2, .ref m3, .int (nI k), .ref m4, .int (nI n), .int (nI th), .int (nI ax), .int (nI fa), .int (nI vl), .ref m5, .int (nI tn), .int (nI hg), .int (nI bg)])), (m1, .inl (cI, 118, .inl (ro 118 s))), (m2, .inl (cI, 118, .inl (ro 118 h))), (m3, .inl (cI, 708, .inl (ro 708 (pkF t)))), (m4, .inl (cI, 60, .inl (ro 60 cs))), (m5, .inl (cI, 48, .inl (ro 48 td)))] H := by rw [hH0]; exact hP
  have hD : va_D A9 [(m0, .inr (6, [.ref m1, .ref m2, .ref m3, .int (nI k), .ref m4, .int (nI n), .int (nI th), .int (nI ax), .int (nI fa), .int (nI vl), .ref m5, .int (nI tn), .int (nI hg), .int (nI bg)])), (m1, .inl (cI, 118, .inl (ro 118 s))), (m2, .inl (cI, 118, .inl (ro 118 h))), (m3, .inl (cI, 708, .inl (ro 708 (pkF t)))), (m4, .inl (cI, 60, .inl (ro 60 cs))), (m5, .inl (cI, 48, .inl (ro 48 td)))] := hD
  have hS : va_S A9 s9.heap H locs := by rw [hH0, hlc0]; exact hS
  suffices hgo : W p9 l e9 ({ frames := 1, cells := 0, slots := 0, locals := 22 } : Room) s9 m9 ar9 be9 me9 c9 H locs 0 0 Q9 (F0 m9 0 ls []) by rw [hH0, hlc0] at hgo; exact hgo
  clear hH0 hlc0
  obtain ⟨hI1, hI2, hI3, hI4, hI5, hI6, hI7, hI8, hI9, hI10, hI11⟩ := id hI
  refine lv_aload_n hx hb dX6_wind_0 rfl (lv_at hl 0 rfl) ?_
  refine lv_iconst (v := nI 0) hx hb dX6_wind_1 (by decide +kernel) ?_
  refine va_put (D := D) (ci := 6) (v := .int (nI 0)) (ty := tyX6 6) (C := RX6) (T := TX6) (N := 14) hx hb hts in_X6_wind_bad_X6 tyX6 tyX6_ok nmX6 hown hK hP hD hS 0 rfl rfl 6 (by decide) (hts _ fl_X6_wind_bad_25) (fun _ h9 => h9) rfl (by decide +kernel) rfl rfl (Nat.le_of_ble_eq_true rfl) dX6_wind_2 (fun H locs hP hD hS => ?_)
  have hP : va_P D vwCl [(m0, .inr (6, [.ref m1, .ref m2, .ref m3, .int (nI k), .ref m4, .int (nI n), .int (nI 0), .int (nI ax), .int (nI fa), .int (nI vl), .ref m5, .int (nI tn), .int (nI hg), .int (nI bg)])), (m1, .inl (cI, 118, .inl (ro 118 s))), (m2, .inl (cI, 118, .inl (ro 118 h))), (m3, .inl (cI, 708, .inl (ro 708 (pkF t)))), (m4, .inl (cI, 60, .inl (ro 60 cs))), (m5, .inl (cI, 48, .inl (ro 48 td)))] H := hP
  have hD : va_D A9 [(m0, .inr (6, [.ref m1, .ref m2, .ref m3, .int (nI k), .ref m4, .int (nI n), .int (nI 0), .int (nI ax), .int (nI fa), .int (nI vl), .ref m5, .int (nI tn), .int (nI hg), .int (nI bg)])), (m1, .inl (cI, 118, .inl (ro 118 s))), (m2, .inl (cI, 118, .inl (ro 118 h))), (m3, .inl (cI, 708, .inl (ro 708 (pkF t)))), (m4, .inl (cI, 60, .inl (ro 60 cs))), (m5, .inl (cI, 48, .inl (ro 48 td)))] := hD
  refine lv_iload_n hx hb dX6_wind_5 rfl (lv_at hl 1 rfl) ?_
  refine lv_iconst (v := nI 0) hx hb dX6_wind_6 (by decide +kernel) ?_
  refine lv_bipush (v := nI 20) hx hb dX6_wind_7 (by decide +kernel) ?_
  refine KM.callS (As := [.int v1, .int (nI 0), .int (nI 20)]) (rest := []) C0 hN (k_X6_in l D cI cS cL v1 0 20  (by decide) (by decide)) (va_cwS 3 hts gX6_wind_X6_in rfl rfl rfl (by decide +kernel) ⟨Nat.le_of_ble_eq_true rfl, Nat.le_of_ble_eq_true rfl⟩) hK hP hD hS hA [] rfl (by decide) (fun _ => rfl) rfl hl.1 rfl (Nat.le_of_ble_eq_true rfl) dX6_wind_9 ⟨Nat.le_of_ble_eq_true rfl, Nat.le_of_ble_eq_true rfl⟩ (fun v9 u9 H locs hv hP hD hS => ?_)
  subst hv
  have hP : va_P D vwCl [(m0, .inr (6, [.ref m1, .ref m2, .ref m3, .int (nI k), .ref m4, .int (nI n), .int (nI 0), .int (nI ax), .int (nI fa), .int (nI vl), .ref m5, .int (nI tn), .int (nI hg), .int (nI bg)])), (m1, .inl (cI, 118, .inl (ro 118 s))), (m2, .inl (cI, 118, .inl (ro 118 h))), (m3, .inl (cI, 708, .inl (ro 708 (pkF t)))), (m4, .inl (cI, 60, .inl (ro 60 cs))), (m5, .inl (cI, 48, .inl (ro 48 td)))] H := hP
  have hD : va_D A9 [(m0, .inr (6, [.ref m1, .ref m2, .ref m3, .int (nI k), .ref m4, .int (nI n), .int (nI 0), .int (nI ax), .int (nI fa), .int (nI vl), .ref m5, .int (nI tn), .int (nI hg), .int (nI bg)])), (m1, .inl (cI, 118, .inl (ro 118 s))), (m2, .inl (cI, 118, .inl (ro 118 h))), (m3, .inl (cI, 708, .inl (ro 708 (pkF t)))), (m4, .inl (cI, 60, .inl (ro 60 cs))), (m5, .inl (cI, 48, .inl (ro 48 td)))] := hD
  refine W.eq (g2 := F0 m9 12 ls [.int (nI (bI (inR v1 0 20)))]) rfl ?_
  refine q_fne (tgt := 21) bI_lt hx hb dX6_wind_12 (by decide) (fun c_12 => ?_) (fun c_12 => ?_)
  ·
    have c_12 := bI_nz c_12
    exfalso; omega
  ·
    have c_12 := bI_z c_12
    refine lv_aload_n hx hb dX6_wind_15 rfl (lv_at hl 0 rfl) ?_
    refine lv_iconst (v := nI 1) hx hb dX6_wind_16 (by decide +kernel) ?_
    refine KM.callV (As := [.int (nI 1)]) (rest := []) C0 hN (k_X6_fails l D cI cS cL m0 m1 m2 m3 m4 m5 k n 0 ax fa vl tn hg bg 1  ) (cwV 1 hts gX6_wind_X6_fails rfl rfl rfl (by decide +kernel) ⟨Nat.le_of_ble_eq_true rfl, Nat.le_of_ble_eq_true rfl⟩) hK hP hD hS hA [0] rfl (by decide) (fun _ => rfl) 0 6 rfl rfl rfl rfl hl.1 rfl (Nat.le_of_ble_eq_true rfl) dX6_wind_17 ⟨Nat.le_of_ble_eq_true rfl, Nat.le_of_ble_eq_true rfl⟩ (fun v9 u9 H locs hv hP hD hS => ?_)
    subst hv
    have hP : va_P D vwCl [(m0, .inr (6, [.ref m1, .ref m2, .ref m3, .int (nI k), .ref m4, .int (nI n), .int (nI 1), .int (nI ax), .int (nI fa), .int (nI vl), .ref m5, .int (nI tn), .int (nI hg), .int (nI bg)])), (m1, .inl (cI, 118, .inl (ro 118 s))), (m2, .inl (cI, 118, .inl (ro 118 h))), (m3, .inl (cI, 708, .inl (ro 708 (pkF t)))), (m4, .inl (cI, 60, .inl (ro 60 cs))), (m5, .inl (cI, 48, .inl (ro 48 td)))] H := hP
    have hD : va_D A9 [(m0, .inr (6, [.ref m1, .ref m2, .ref m3, .int (nI k), .ref m4, .int (nI n), .int (nI 1), .int (nI ax), .int (nI fa), .int (nI vl), .ref m5, .int (nI tn), .int (nI hg), .int (nI bg)])), (m1, .inl (cI, 118, .inl (ro 118 s))), (m2, .inl (cI, 118, .inl (ro 118 h))), (m3, .inl (cI, 708, .inl (ro 708 (pkF t)))), (m4, .inl (cI, 60, .inl (ro 60 cs))), (m5, .inl (cI, 48, .inl (ro 48 td)))] := hD
    refine W.eq (g2 := F0 m9 20 ls [.int (nI 0)]) rfl ?_
    exact hret _ _ _ _ (some (.int (nI 0))) () 20 ls (by decide) (by decide) (by rfl) hP hD hS (ret_i dX6_wind_20)

theorem in_X6_play_bad_X6 : ∀ w ∈ wsX60, w ∈ wsX6_play := by decide +kernel
theorem fl_X6_play_bad_25 : Cond.fieldLink RX6 25 "FountainCuesModel" "thrown" "I" ∈ wsX6_play := by decide +kernel
set_option maxHeartbeats 4000000 in
set_option maxRecDepth 100000 in
theorem k_X6_play_bad (l : Launch) (D : va_G) (cI cS cL : ClassId) (T : Nat) (m0 : Nat) (m1 : Nat) (m2 : Nat) (m3 : Nat) (m4 : Nat) (m5 : Nat) (k : Nat) (n : Nat) (th : Nat) (ax : Nat) (fa : Nat) (vl : Nat) (tn : Nat) (hg : Nat) (bg : Nat) (s : Nat → Nat) (h : Nat → Nat) (t : Nat → Nat → Nat) (cs : Nat → Nat) (td : Nat → Nat) (v1 : Int32) (hI : sI T s) (hT : T ≤ 900000) (hk : k ≤ 6) (hn : n ≤ 60) (hcs : ∀ j, j < n → cs j < 2 ^ 31) (hbad : ¬ (inR v1 1 100)) : KM l D (TY cI cS cL) yX6_play wsX6_play ({ frames := 1, cells := 0, slots := 0, locals := 22 } : Room) [(m0, .inr (6, [.ref m1, .ref m2, .ref m3, .int (nI k), .ref m4, .int (nI n), .int (nI th), .int (nI ax), .int (nI fa), .int (nI vl), .ref m5, .int (nI tn), .int (nI hg), .int (nI bg)])), (m1, .inl (cI, 118, .inl (ro 118 s))), (m2, .inl (cI, 118, .inl (ro 118 h))), (m3, .inl (cI, 708, .inl (ro 708 (pkF t)))), (m4, .inl (cI, 60, .inl (ro 60 cs))), (m5, .inl (cI, 48, .inl (ro 48 td)))] [.ref m0, .int v1] (fun (v : Option Value) (_ : Unit) => v = some (.int (nI 0))) (fun _ : Unit => [(m0, .inr (6, [.ref m1, .ref m2, .ref m3, .int (nI k), .ref m4, .int (nI n), .int (nI 1), .int (nI ax), .int (nI fa), .int (nI vl), .ref m5, .int (nI tn), .int (nI hg), .int (nI bg)])), (m1, .inl (cI, 118, .inl (ro 118 s))), (m2, .inl (cI, 118, .inl (ro 118 h))), (m3, .inl (cI, 708, .inl (ro 708 (pkF t)))), (m4, .inl (cI, 60, .inl (ro 60 cs))), (m5, .inl (cI, 48, .inl (ro 48 td)))]) := by
  refine KM.of (cc := cX6_play) (maxL := 4) (ret := (some .int)) (by decide) rfl (Nat.le_of_ble_eq_true rfl) ?_
  intro p9 e9 s9 m9 ar9 be9 me9 c9 Q9 A9 ls C0 hN hnm hlk hK hA hret hP hD hS hl
  obtain ⟨hx, hb, hml, hown, hts⟩ := id C0
  have hl : lv_has ls 4 [(0, .ref m0), (1, .int v1)] := hl
  obtain ⟨H, hH0⟩ : ∃ H, H = s9.heap := ⟨_, rfl⟩
  obtain ⟨locs, hlc0⟩ : ∃ z : List Loc, z = [] := ⟨_, rfl⟩
  have hP : va_P D vwCl [(m0, .inr (6, [.ref m1, .ref m2, .ref m3, .int (nI k), .ref m4, .int (nI n), .int (nI th), .int (nI ax), .int (nI fa), .int (nI vl), .ref m5, .int (nI tn), .int (nI hg), .int (nI bg)])), (m1, .inl (cI, 118, .inl (ro 118 s))), (m2, .inl (cI, 118, .inl (ro 118 h))), (m3, .inl (cI, 708, .inl (ro 708 (pkF t)))), (m4, .inl (cI, 60, .inl (ro 60 cs))), (m5, .inl (cI, 48, .inl (ro 48 td)))] H := by rw [hH0]; exact hP
  have hD : va_D A9 [(m0, .inr (6, [.ref m1, .ref m2, .ref m3, .int (nI k), .ref m4, .int (nI n), .int (nI th), .int (nI ax), .int (nI fa), .int (nI vl), .ref m5, .int (nI tn), .int (nI hg), .int (nI bg)])), (m1, .inl (cI, 118, .inl (ro 118 s))), (m2, .inl (cI, 118, .inl (ro 118 h))), (m3, .inl (cI, 708, .inl (ro 708 (pkF t)))), (m4, .inl (cI, 60, .inl (ro 60 cs))), (m5, .inl (cI, 48, .inl (ro 48 td)))] := hD
  have hS : va_S A9 s9.heap H locs := by rw [hH0, hlc0]; exact hS
  suffices hgo : W p9 l e9 ({ frames := 1, cells := 0, slots := 0, locals := 22 } : Room) s9 m9 ar9 be9 me9 c9 H locs 0 0 Q9 (F0 m9 0 ls []) by rw [hH0, hlc0] at hgo; exact hgo
  clear hH0 hlc0
  obtain ⟨hI1, hI2, hI3, hI4, hI5, hI6, hI7, hI8, hI9, hI10, hI11⟩ := id hI
  refine lv_aload_n hx hb dX6_play_0 rfl (lv_at hl 0 rfl) ?_
  refine lv_iconst (v := nI 0) hx hb dX6_play_1 (by decide +kernel) ?_
  refine va_put (D := D) (ci := 6) (v := .int (nI 0)) (ty := tyX6 6) (C := RX6) (T := TX6) (N := 14) hx hb hts in_X6_play_bad_X6 tyX6 tyX6_ok nmX6 hown hK hP hD hS 0 rfl rfl 6 (by decide) (hts _ fl_X6_play_bad_25) (fun _ h9 => h9) rfl (by decide +kernel) rfl rfl (Nat.le_of_ble_eq_true rfl) dX6_play_2 (fun H locs hP hD hS => ?_)
  have hP : va_P D vwCl [(m0, .inr (6, [.ref m1, .ref m2, .ref m3, .int (nI k), .ref m4, .int (nI n), .int (nI 0), .int (nI ax), .int (nI fa), .int (nI vl), .ref m5, .int (nI tn), .int (nI hg), .int (nI bg)])), (m1, .inl (cI, 118, .inl (ro 118 s))), (m2, .inl (cI, 118, .inl (ro 118 h))), (m3, .inl (cI, 708, .inl (ro 708 (pkF t)))), (m4, .inl (cI, 60, .inl (ro 60 cs))), (m5, .inl (cI, 48, .inl (ro 48 td)))] H := hP
  have hD : va_D A9 [(m0, .inr (6, [.ref m1, .ref m2, .ref m3, .int (nI k), .ref m4, .int (nI n), .int (nI 0), .int (nI ax), .int (nI fa), .int (nI vl), .ref m5, .int (nI tn), .int (nI hg), .int (nI bg)])), (m1, .inl (cI, 118, .inl (ro 118 s))), (m2, .inl (cI, 118, .inl (ro 118 h))), (m3, .inl (cI, 708, .inl (ro 708 (pkF t)))), (m4, .inl (cI, 60, .inl (ro 60 cs))), (m5, .inl (cI, 48, .inl (ro 48 td)))] := hD
  refine lv_iload_n hx hb dX6_play_5 rfl (lv_at hl 1 rfl) ?_
  refine lv_iconst (v := nI 1) hx hb dX6_play_6 (by decide +kernel) ?_
  refine lv_bipush (v := nI 100) hx hb dX6_play_7 (by decide +kernel) ?_
  refine KM.callS (As := [.int v1, .int (nI 1), .int (nI 100)]) (rest := []) C0 hN (k_X6_in l D cI cS cL v1 1 100  (by decide) (by decide)) (va_cwS 3 hts gX6_play_X6_in rfl rfl rfl (by decide +kernel) ⟨Nat.le_of_ble_eq_true rfl, Nat.le_of_ble_eq_true rfl⟩) hK hP hD hS hA [] rfl (by decide) (fun _ => rfl) rfl hl.1 rfl (Nat.le_of_ble_eq_true rfl) dX6_play_9 ⟨Nat.le_of_ble_eq_true rfl, Nat.le_of_ble_eq_true rfl⟩ (fun v9 u9 H locs hv hP hD hS => ?_)
  subst hv
  have hP : va_P D vwCl [(m0, .inr (6, [.ref m1, .ref m2, .ref m3, .int (nI k), .ref m4, .int (nI n), .int (nI 0), .int (nI ax), .int (nI fa), .int (nI vl), .ref m5, .int (nI tn), .int (nI hg), .int (nI bg)])), (m1, .inl (cI, 118, .inl (ro 118 s))), (m2, .inl (cI, 118, .inl (ro 118 h))), (m3, .inl (cI, 708, .inl (ro 708 (pkF t)))), (m4, .inl (cI, 60, .inl (ro 60 cs))), (m5, .inl (cI, 48, .inl (ro 48 td)))] H := hP
  have hD : va_D A9 [(m0, .inr (6, [.ref m1, .ref m2, .ref m3, .int (nI k), .ref m4, .int (nI n), .int (nI 0), .int (nI ax), .int (nI fa), .int (nI vl), .ref m5, .int (nI tn), .int (nI hg), .int (nI bg)])), (m1, .inl (cI, 118, .inl (ro 118 s))), (m2, .inl (cI, 118, .inl (ro 118 h))), (m3, .inl (cI, 708, .inl (ro 708 (pkF t)))), (m4, .inl (cI, 60, .inl (ro 60 cs))), (m5, .inl (cI, 48, .inl (ro 48 td)))] := hD
  refine W.eq (g2 := F0 m9 12 ls [.int (nI (bI (inR v1 1 100)))]) rfl ?_
  refine q_fne (tgt := 21) bI_lt hx hb dX6_play_12 (by decide) (fun c_12 => ?_) (fun c_12 => ?_)
  ·
    have c_12 := bI_nz c_12
    exfalso; omega
  ·
    have c_12 := bI_z c_12
    refine lv_aload_n hx hb dX6_play_15 rfl (lv_at hl 0 rfl) ?_
    refine lv_iconst (v := nI 1) hx hb dX6_play_16 (by decide +kernel) ?_
    refine KM.callV (As := [.int (nI 1)]) (rest := []) C0 hN (k_X6_fails l D cI cS cL m0 m1 m2 m3 m4 m5 k n 0 ax fa vl tn hg bg 1  ) (cwV 1 hts gX6_play_X6_fails rfl rfl rfl (by decide +kernel) ⟨Nat.le_of_ble_eq_true rfl, Nat.le_of_ble_eq_true rfl⟩) hK hP hD hS hA [0] rfl (by decide) (fun _ => rfl) 0 6 rfl rfl rfl rfl hl.1 rfl (Nat.le_of_ble_eq_true rfl) dX6_play_17 ⟨Nat.le_of_ble_eq_true rfl, Nat.le_of_ble_eq_true rfl⟩ (fun v9 u9 H locs hv hP hD hS => ?_)
    subst hv
    have hP : va_P D vwCl [(m0, .inr (6, [.ref m1, .ref m2, .ref m3, .int (nI k), .ref m4, .int (nI n), .int (nI 1), .int (nI ax), .int (nI fa), .int (nI vl), .ref m5, .int (nI tn), .int (nI hg), .int (nI bg)])), (m1, .inl (cI, 118, .inl (ro 118 s))), (m2, .inl (cI, 118, .inl (ro 118 h))), (m3, .inl (cI, 708, .inl (ro 708 (pkF t)))), (m4, .inl (cI, 60, .inl (ro 60 cs))), (m5, .inl (cI, 48, .inl (ro 48 td)))] H := hP
    have hD : va_D A9 [(m0, .inr (6, [.ref m1, .ref m2, .ref m3, .int (nI k), .ref m4, .int (nI n), .int (nI 1), .int (nI ax), .int (nI fa), .int (nI vl), .ref m5, .int (nI tn), .int (nI hg), .int (nI bg)])), (m1, .inl (cI, 118, .inl (ro 118 s))), (m2, .inl (cI, 118, .inl (ro 118 h))), (m3, .inl (cI, 708, .inl (ro 708 (pkF t)))), (m4, .inl (cI, 60, .inl (ro 60 cs))), (m5, .inl (cI, 48, .inl (ro 48 td)))] := hD
    refine W.eq (g2 := F0 m9 20 ls [.int (nI 0)]) rfl ?_
    exact hret _ _ _ _ (some (.int (nI 0))) () 20 ls (by decide) (by decide) (by rfl) hP hD hS (ret_i dX6_play_20)

theorem in_X6_jetOf_bad_X6 : ∀ w ∈ wsX60, w ∈ wsX6_jetOf := by decide +kernel
theorem fl_X6_jetOf_bad_25 : Cond.fieldLink RX6 25 "FountainCuesModel" "thrown" "I" ∈ wsX6_jetOf := by decide +kernel
set_option maxHeartbeats 4000000 in
set_option maxRecDepth 100000 in
theorem k_X6_jetOf_bad (l : Launch) (D : va_G) (cI cS cL : ClassId) (T : Nat) (m0 : Nat) (m1 : Nat) (m2 : Nat) (m3 : Nat) (m4 : Nat) (m5 : Nat) (k : Nat) (n : Nat) (th : Nat) (ax : Nat) (fa : Nat) (vl : Nat) (tn : Nat) (hg : Nat) (bg : Nat) (s : Nat → Nat) (h : Nat → Nat) (t : Nat → Nat → Nat) (cs : Nat → Nat) (td : Nat → Nat) (v1 : Int32) (v2 : Int32) (hI : sI T s) (hT : T ≤ 900000) (hk : k ≤ 6) (hn : n ≤ 60) (hcs : ∀ j, j < n → cs j < 2 ^ 31) (hbad : ¬ (inR v1 0 7 ∧ inR v2 0 7)) : KM l D (TY cI cS cL) yX6_jetOf wsX6_jetOf ({ frames := 2, cells := 0, slots := 0, locals := 42 } : Room) [(m0, .inr (6, [.ref m1, .ref m2, .ref m3, .int (nI k), .ref m4, .int (nI n), .int (nI th), .int (nI ax), .int (nI fa), .int (nI vl), .ref m5, .int (nI tn), .int (nI hg), .int (nI bg)])), (m1, .inl (cI, 118, .inl (ro 118 s))), (m2, .inl (cI, 118, .inl (ro 118 h))), (m3, .inl (cI, 708, .inl (ro 708 (pkF t)))), (m4, .inl (cI, 60, .inl (ro 60 cs))), (m5, .inl (cI, 48, .inl (ro 48 td)))] [.ref m0, .int v1, .int v2] (fun (v : Option Value) (_ : Unit) => v = some (.int (nI 0))) (fun _ : Unit => [(m0, .inr (6, [.ref m1, .ref m2, .ref m3, .int (nI k), .ref m4, .int (nI n), .int (nI (if inR v1 0 7 then 2 else 1)), .int (nI ax), .int (nI fa), .int (nI vl), .ref m5, .int (nI tn), .int (nI hg), .int (nI bg)])), (m1, .inl (cI, 118, .inl (ro 118 s))), (m2, .inl (cI, 118, .inl (ro 118 h))), (m3, .inl (cI, 708, .inl (ro 708 (pkF t)))), (m4, .inl (cI, 60, .inl (ro 60 cs))), (m5, .inl (cI, 48, .inl (ro 48 td)))]) := by
  refine KM.of (cc := cX6_jetOf) (maxL := 3) (ret := (some .int)) (by decide) rfl (Nat.le_of_ble_eq_true rfl) ?_
  intro p9 e9 s9 m9 ar9 be9 me9 c9 Q9 A9 ls C0 hN hnm hlk hK hA hret hP hD hS hl
  obtain ⟨hx, hb, hml, hown, hts⟩ := id C0
  have hl : lv_has ls 3 [(0, .ref m0), (1, .int v1), (2, .int v2)] := hl
  obtain ⟨H, hH0⟩ : ∃ H, H = s9.heap := ⟨_, rfl⟩
  obtain ⟨locs, hlc0⟩ : ∃ z : List Loc, z = [] := ⟨_, rfl⟩
  have hP : va_P D vwCl [(m0, .inr (6, [.ref m1, .ref m2, .ref m3, .int (nI k), .ref m4, .int (nI n), .int (nI th), .int (nI ax), .int (nI fa), .int (nI vl), .ref m5, .int (nI tn), .int (nI hg), .int (nI bg)])), (m1, .inl (cI, 118, .inl (ro 118 s))), (m2, .inl (cI, 118, .inl (ro 118 h))), (m3, .inl (cI, 708, .inl (ro 708 (pkF t)))), (m4, .inl (cI, 60, .inl (ro 60 cs))), (m5, .inl (cI, 48, .inl (ro 48 td)))] H := by rw [hH0]; exact hP
  have hD : va_D A9 [(m0, .inr (6, [.ref m1, .ref m2, .ref m3, .int (nI k), .ref m4, .int (nI n), .int (nI th), .int (nI ax), .int (nI fa), .int (nI vl), .ref m5, .int (nI tn), .int (nI hg), .int (nI bg)])), (m1, .inl (cI, 118, .inl (ro 118 s))), (m2, .inl (cI, 118, .inl (ro 118 h))), (m3, .inl (cI, 708, .inl (ro 708 (pkF t)))), (m4, .inl (cI, 60, .inl (ro 60 cs))), (m5, .inl (cI, 48, .inl (ro 48 td)))] := hD
  have hS : va_S A9 s9.heap H locs := by rw [hH0, hlc0]; exact hS
  suffices hgo : W p9 l e9 ({ frames := 2, cells := 0, slots := 0, locals := 42 } : Room) s9 m9 ar9 be9 me9 c9 H locs 0 0 Q9 (F0 m9 0 ls []) by rw [hH0, hlc0] at hgo; exact hgo
  clear hH0 hlc0
  obtain ⟨hI1, hI2, hI3, hI4, hI5, hI6, hI7, hI8, hI9, hI10, hI11⟩ := id hI
  refine lv_aload_n hx hb dX6_jetOf_0 rfl (lv_at hl 0 rfl) ?_
  refine lv_iconst (v := nI 0) hx hb dX6_jetOf_1 (by decide +kernel) ?_
  refine va_put (D := D) (ci := 6) (v := .int (nI 0)) (ty := tyX6 6) (C := RX6) (T := TX6) (N := 14) hx hb hts in_X6_jetOf_bad_X6 tyX6 tyX6_ok nmX6 hown hK hP hD hS 0 rfl rfl 6 (by decide) (hts _ fl_X6_jetOf_bad_25) (fun _ h9 => h9) rfl (by decide +kernel) rfl rfl (Nat.le_of_ble_eq_true rfl) dX6_jetOf_2 (fun H locs hP hD hS => ?_)
  have hP : va_P D vwCl [(m0, .inr (6, [.ref m1, .ref m2, .ref m3, .int (nI k), .ref m4, .int (nI n), .int (nI 0), .int (nI ax), .int (nI fa), .int (nI vl), .ref m5, .int (nI tn), .int (nI hg), .int (nI bg)])), (m1, .inl (cI, 118, .inl (ro 118 s))), (m2, .inl (cI, 118, .inl (ro 118 h))), (m3, .inl (cI, 708, .inl (ro 708 (pkF t)))), (m4, .inl (cI, 60, .inl (ro 60 cs))), (m5, .inl (cI, 48, .inl (ro 48 td)))] H := hP
  have hD : va_D A9 [(m0, .inr (6, [.ref m1, .ref m2, .ref m3, .int (nI k), .ref m4, .int (nI n), .int (nI 0), .int (nI ax), .int (nI fa), .int (nI vl), .ref m5, .int (nI tn), .int (nI hg), .int (nI bg)])), (m1, .inl (cI, 118, .inl (ro 118 s))), (m2, .inl (cI, 118, .inl (ro 118 h))), (m3, .inl (cI, 708, .inl (ro 708 (pkF t)))), (m4, .inl (cI, 60, .inl (ro 60 cs))), (m5, .inl (cI, 48, .inl (ro 48 td)))] := hD
  refine lv_iload_n hx hb dX6_jetOf_5 rfl (lv_at hl 1 rfl) ?_
  refine KM.callS (As := [.int v1]) (rest := []) C0 hN (k_X6_isJet l D cI cS cL v1  ) (va_cwS 1 hts gX6_jetOf_X6_isJet rfl rfl rfl (by decide +kernel) ⟨Nat.le_of_ble_eq_true rfl, Nat.le_of_ble_eq_true rfl⟩) hK hP hD hS hA [] rfl (by decide) (fun _ => rfl) rfl hl.1 rfl (Nat.le_of_ble_eq_true rfl) dX6_jetOf_6 ⟨Nat.le_of_ble_eq_true rfl, Nat.le_of_ble_eq_true rfl⟩ (fun v9 u9 H locs hv hP hD hS => ?_)
  subst hv
  have hP : va_P D vwCl [(m0, .inr (6, [.ref m1, .ref m2, .ref m3, .int (nI k), .ref m4, .int (nI n), .int (nI 0), .int (nI ax), .int (nI fa), .int (nI vl), .ref m5, .int (nI tn), .int (nI hg), .int (nI bg)])), (m1, .inl (cI, 118, .inl (ro 118 s))), (m2, .inl (cI, 118, .inl (ro 118 h))), (m3, .inl (cI, 708, .inl (ro 708 (pkF t)))), (m4, .inl (cI, 60, .inl (ro 60 cs))), (m5, .inl (cI, 48, .inl (ro 48 td)))] H := hP
  have hD : va_D A9 [(m0, .inr (6, [.ref m1, .ref m2, .ref m3, .int (nI k), .ref m4, .int (nI n), .int (nI 0), .int (nI ax), .int (nI fa), .int (nI vl), .ref m5, .int (nI tn), .int (nI hg), .int (nI bg)])), (m1, .inl (cI, 118, .inl (ro 118 s))), (m2, .inl (cI, 118, .inl (ro 118 h))), (m3, .inl (cI, 708, .inl (ro 708 (pkF t)))), (m4, .inl (cI, 60, .inl (ro 60 cs))), (m5, .inl (cI, 48, .inl (ro 48 td)))] := hD
  refine W.eq (g2 := F0 m9 9 ls [.int (nI (bI (inR v1 0 7)))]) rfl ?_
  refine q_fne (tgt := 18) bI_lt hx hb dX6_jetOf_9 (by decide) (fun c_9 => ?_) (fun c_9 => ?_)
  ·
    have c_9 := bI_nz c_9
    refine lv_iload_n hx hb dX6_jetOf_18 rfl (lv_at hl 2 rfl) ?_
    refine lv_iconst (v := nI 0) hx hb dX6_jetOf_19 (by decide +kernel) ?_
    refine lv_bipush (v := nI 7) hx hb dX6_jetOf_20 (by decide +kernel) ?_
    refine KM.callS (As := [.int v2, .int (nI 0), .int (nI 7)]) (rest := []) C0 hN (k_X6_in l D cI cS cL v2 0 7  (by decide) (by decide)) (va_cwS 3 hts gX6_jetOf_X6_in rfl rfl rfl (by decide +kernel) ⟨Nat.le_of_ble_eq_true rfl, Nat.le_of_ble_eq_true rfl⟩) hK hP hD hS hA [] rfl (by decide) (fun _ => rfl) rfl hl.1 rfl (Nat.le_of_ble_eq_true rfl) dX6_jetOf_22 ⟨Nat.le_of_ble_eq_true rfl, Nat.le_of_ble_eq_true rfl⟩ (fun v9 u9 H locs hv hP hD hS => ?_)
    subst hv
    have hP : va_P D vwCl [(m0, .inr (6, [.ref m1, .ref m2, .ref m3, .int (nI k), .ref m4, .int (nI n), .int (nI 0), .int (nI ax), .int (nI fa), .int (nI vl), .ref m5, .int (nI tn), .int (nI hg), .int (nI bg)])), (m1, .inl (cI, 118, .inl (ro 118 s))), (m2, .inl (cI, 118, .inl (ro 118 h))), (m3, .inl (cI, 708, .inl (ro 708 (pkF t)))), (m4, .inl (cI, 60, .inl (ro 60 cs))), (m5, .inl (cI, 48, .inl (ro 48 td)))] H := hP
    have hD : va_D A9 [(m0, .inr (6, [.ref m1, .ref m2, .ref m3, .int (nI k), .ref m4, .int (nI n), .int (nI 0), .int (nI ax), .int (nI fa), .int (nI vl), .ref m5, .int (nI tn), .int (nI hg), .int (nI bg)])), (m1, .inl (cI, 118, .inl (ro 118 s))), (m2, .inl (cI, 118, .inl (ro 118 h))), (m3, .inl (cI, 708, .inl (ro 708 (pkF t)))), (m4, .inl (cI, 60, .inl (ro 60 cs))), (m5, .inl (cI, 48, .inl (ro 48 td)))] := hD
    refine W.eq (g2 := F0 m9 25 ls [.int (nI (bI (inR v2 0 7)))]) rfl ?_
    refine q_feq (tgt := 37) bI_lt hx hb dX6_jetOf_25 (by decide) (fun c_25 => ?_) (fun c_25 => ?_)
    ·
      have c_25 := bI_z c_25
      refine lv_aload_n hx hb dX6_jetOf_37 rfl (lv_at hl 0 rfl) ?_
      refine lv_iconst (v := nI 2) hx hb dX6_jetOf_38 (by decide +kernel) ?_
      refine KM.callV (As := [.int (nI 2)]) (rest := []) C0 hN (k_X6_fails l D cI cS cL m0 m1 m2 m3 m4 m5 k n 0 ax fa vl tn hg bg 2  ) (cwV 1 hts gX6_jetOf_X6_fails rfl rfl rfl (by decide +kernel) ⟨Nat.le_of_ble_eq_true rfl, Nat.le_of_ble_eq_true rfl⟩) hK hP hD hS hA [0] rfl (by decide) (fun _ => rfl) 0 6 rfl rfl rfl rfl hl.1 rfl (Nat.le_of_ble_eq_true rfl) dX6_jetOf_39 ⟨Nat.le_of_ble_eq_true rfl, Nat.le_of_ble_eq_true rfl⟩ (fun v9 u9 H locs hv hP hD hS => ?_)
      subst hv
      have hP : va_P D vwCl [(m0, .inr (6, [.ref m1, .ref m2, .ref m3, .int (nI k), .ref m4, .int (nI n), .int (nI 2), .int (nI ax), .int (nI fa), .int (nI vl), .ref m5, .int (nI tn), .int (nI hg), .int (nI bg)])), (m1, .inl (cI, 118, .inl (ro 118 s))), (m2, .inl (cI, 118, .inl (ro 118 h))), (m3, .inl (cI, 708, .inl (ro 708 (pkF t)))), (m4, .inl (cI, 60, .inl (ro 60 cs))), (m5, .inl (cI, 48, .inl (ro 48 td)))] H := hP
      have hD : va_D A9 [(m0, .inr (6, [.ref m1, .ref m2, .ref m3, .int (nI k), .ref m4, .int (nI n), .int (nI 2), .int (nI ax), .int (nI fa), .int (nI vl), .ref m5, .int (nI tn), .int (nI hg), .int (nI bg)])), (m1, .inl (cI, 118, .inl (ro 118 s))), (m2, .inl (cI, 118, .inl (ro 118 h))), (m3, .inl (cI, 708, .inl (ro 708 (pkF t)))), (m4, .inl (cI, 60, .inl (ro 60 cs))), (m5, .inl (cI, 48, .inl (ro 48 td)))] := hD
      refine W.eq (g2 := F0 m9 42 ls [.int (nI 0)]) rfl ?_
      rw [show (if inR v1 0 7 then 2 else 1) = 2 from by (repeat' split) <;> first | rfl | (exfalso; omega)] at hret
      exact hret _ _ _ _ (some (.int (nI 0))) () 42 ls (by decide) (by decide) (by rfl) hP hD hS (ret_i dX6_jetOf_42)
    ·
      have c_25 := bI_nz c_25
      exfalso; omega
  ·
    have c_9 := bI_z c_9
    refine lv_aload_n hx hb dX6_jetOf_12 rfl (lv_at hl 0 rfl) ?_
    refine lv_iconst (v := nI 1) hx hb dX6_jetOf_13 (by decide +kernel) ?_
    refine KM.callV (As := [.int (nI 1)]) (rest := []) C0 hN (k_X6_fails l D cI cS cL m0 m1 m2 m3 m4 m5 k n 0 ax fa vl tn hg bg 1  ) (cwV 1 hts gX6_jetOf_X6_fails rfl rfl rfl (by decide +kernel) ⟨Nat.le_of_ble_eq_true rfl, Nat.le_of_ble_eq_true rfl⟩) hK hP hD hS hA [0] rfl (by decide) (fun _ => rfl) 0 6 rfl rfl rfl rfl hl.1 rfl (Nat.le_of_ble_eq_true rfl) dX6_jetOf_14 ⟨Nat.le_of_ble_eq_true rfl, Nat.le_of_ble_eq_true rfl⟩ (fun v9 u9 H locs hv hP hD hS => ?_)
    subst hv
    have hP : va_P D vwCl [(m0, .inr (6, [.ref m1, .ref m2, .ref m3, .int (nI k), .ref m4, .int (nI n), .int (nI 1), .int (nI ax), .int (nI fa), .int (nI vl), .ref m5, .int (nI tn), .int (nI hg), .int (nI bg)])), (m1, .inl (cI, 118, .inl (ro 118 s))), (m2, .inl (cI, 118, .inl (ro 118 h))), (m3, .inl (cI, 708, .inl (ro 708 (pkF t)))), (m4, .inl (cI, 60, .inl (ro 60 cs))), (m5, .inl (cI, 48, .inl (ro 48 td)))] H := hP
    have hD : va_D A9 [(m0, .inr (6, [.ref m1, .ref m2, .ref m3, .int (nI k), .ref m4, .int (nI n), .int (nI 1), .int (nI ax), .int (nI fa), .int (nI vl), .ref m5, .int (nI tn), .int (nI hg), .int (nI bg)])), (m1, .inl (cI, 118, .inl (ro 118 s))), (m2, .inl (cI, 118, .inl (ro 118 h))), (m3, .inl (cI, 708, .inl (ro 708 (pkF t)))), (m4, .inl (cI, 60, .inl (ro 60 cs))), (m5, .inl (cI, 48, .inl (ro 48 td)))] := hD
    refine W.eq (g2 := F0 m9 17 ls [.int (nI 0)]) rfl ?_
    rw [show (if inR v1 0 7 then 2 else 1) = 1 from by (repeat' split) <;> first | rfl | (exfalso; omega)] at hret
    exact hret _ _ _ _ (some (.int (nI 0))) () 17 ls (by decide) (by decide) (by rfl) hP hD hS (ret_i dX6_jetOf_17)

theorem in_X6_pumpOf_bad_X6 : ∀ w ∈ wsX60, w ∈ wsX6_pumpOf := by decide +kernel
theorem fl_X6_pumpOf_bad_25 : Cond.fieldLink RX6 25 "FountainCuesModel" "thrown" "I" ∈ wsX6_pumpOf := by decide +kernel
set_option maxHeartbeats 4000000 in
set_option maxRecDepth 100000 in
theorem k_X6_pumpOf_bad (l : Launch) (D : va_G) (cI cS cL : ClassId) (T : Nat) (m0 : Nat) (m1 : Nat) (m2 : Nat) (m3 : Nat) (m4 : Nat) (m5 : Nat) (k : Nat) (n : Nat) (th : Nat) (ax : Nat) (fa : Nat) (vl : Nat) (tn : Nat) (hg : Nat) (bg : Nat) (s : Nat → Nat) (h : Nat → Nat) (t : Nat → Nat → Nat) (cs : Nat → Nat) (td : Nat → Nat) (v1 : Int32) (v2 : Int32) (hI : sI T s) (hT : T ≤ 900000) (hk : k ≤ 6) (hn : n ≤ 60) (hcs : ∀ j, j < n → cs j < 2 ^ 31) (hbad : ¬ (inR v1 0 1 ∧ inR v2 0 2)) : KM l D (TY cI cS cL) yX6_pumpOf wsX6_pumpOf ({ frames := 1, cells := 0, slots := 0, locals := 22 } : Room) [(m0, .inr (6, [.ref m1, .ref m2, .ref m3, .int (nI k), .ref m4, .int (nI n), .int (nI th), .int (nI ax), .int (nI fa), .int (nI vl), .ref m5, .int (nI tn), .int (nI hg), .int (nI bg)])), (m1, .inl (cI, 118, .inl (ro 118 s))), (m2, .inl (cI, 118, .inl (ro 118 h))), (m3, .inl (cI, 708, .inl (ro 708 (pkF t)))), (m4, .inl (cI, 60, .inl (ro 60 cs))), (m5, .inl (cI, 48, .inl (ro 48 td)))] [.ref m0, .int v1, .int v2] (fun (v : Option Value) (_ : Unit) => v = some (.int (nI 0))) (fun _ : Unit => [(m0, .inr (6, [.ref m1, .ref m2, .ref m3, .int (nI k), .ref m4, .int (nI n), .int (nI (if inR v1 0 1 then 2 else 1)), .int (nI ax), .int (nI fa), .int (nI vl), .ref m5, .int (nI tn), .int (nI hg), .int (nI bg)])), (m1, .inl (cI, 118, .inl (ro 118 s))), (m2, .inl (cI, 118, .inl (ro 118 h))), (m3, .inl (cI, 708, .inl (ro 708 (pkF t)))), (m4, .inl (cI, 60, .inl (ro 60 cs))), (m5, .inl (cI, 48, .inl (ro 48 td)))]) := by
  refine KM.of (cc := cX6_pumpOf) (maxL := 3) (ret := (some .int)) (by decide) rfl (Nat.le_of_ble_eq_true rfl) ?_
  intro p9 e9 s9 m9 ar9 be9 me9 c9 Q9 A9 ls C0 hN hnm hlk hK hA hret hP hD hS hl
  obtain ⟨hx, hb, hml, hown, hts⟩ := id C0
  have hl : lv_has ls 3 [(0, .ref m0), (1, .int v1), (2, .int v2)] := hl
  obtain ⟨H, hH0⟩ : ∃ H, H = s9.heap := ⟨_, rfl⟩
  obtain ⟨locs, hlc0⟩ : ∃ z : List Loc, z = [] := ⟨_, rfl⟩
  have hP : va_P D vwCl [(m0, .inr (6, [.ref m1, .ref m2, .ref m3, .int (nI k), .ref m4, .int (nI n), .int (nI th), .int (nI ax), .int (nI fa), .int (nI vl), .ref m5, .int (nI tn), .int (nI hg), .int (nI bg)])), (m1, .inl (cI, 118, .inl (ro 118 s))), (m2, .inl (cI, 118, .inl (ro 118 h))), (m3, .inl (cI, 708, .inl (ro 708 (pkF t)))), (m4, .inl (cI, 60, .inl (ro 60 cs))), (m5, .inl (cI, 48, .inl (ro 48 td)))] H := by rw [hH0]; exact hP
  have hD : va_D A9 [(m0, .inr (6, [.ref m1, .ref m2, .ref m3, .int (nI k), .ref m4, .int (nI n), .int (nI th), .int (nI ax), .int (nI fa), .int (nI vl), .ref m5, .int (nI tn), .int (nI hg), .int (nI bg)])), (m1, .inl (cI, 118, .inl (ro 118 s))), (m2, .inl (cI, 118, .inl (ro 118 h))), (m3, .inl (cI, 708, .inl (ro 708 (pkF t)))), (m4, .inl (cI, 60, .inl (ro 60 cs))), (m5, .inl (cI, 48, .inl (ro 48 td)))] := hD
  have hS : va_S A9 s9.heap H locs := by rw [hH0, hlc0]; exact hS
  suffices hgo : W p9 l e9 ({ frames := 1, cells := 0, slots := 0, locals := 22 } : Room) s9 m9 ar9 be9 me9 c9 H locs 0 0 Q9 (F0 m9 0 ls []) by rw [hH0, hlc0] at hgo; exact hgo
  clear hH0 hlc0
  obtain ⟨hI1, hI2, hI3, hI4, hI5, hI6, hI7, hI8, hI9, hI10, hI11⟩ := id hI
  refine lv_aload_n hx hb dX6_pumpOf_0 rfl (lv_at hl 0 rfl) ?_
  refine lv_iconst (v := nI 0) hx hb dX6_pumpOf_1 (by decide +kernel) ?_
  refine va_put (D := D) (ci := 6) (v := .int (nI 0)) (ty := tyX6 6) (C := RX6) (T := TX6) (N := 14) hx hb hts in_X6_pumpOf_bad_X6 tyX6 tyX6_ok nmX6 hown hK hP hD hS 0 rfl rfl 6 (by decide) (hts _ fl_X6_pumpOf_bad_25) (fun _ h9 => h9) rfl (by decide +kernel) rfl rfl (Nat.le_of_ble_eq_true rfl) dX6_pumpOf_2 (fun H locs hP hD hS => ?_)
  have hP : va_P D vwCl [(m0, .inr (6, [.ref m1, .ref m2, .ref m3, .int (nI k), .ref m4, .int (nI n), .int (nI 0), .int (nI ax), .int (nI fa), .int (nI vl), .ref m5, .int (nI tn), .int (nI hg), .int (nI bg)])), (m1, .inl (cI, 118, .inl (ro 118 s))), (m2, .inl (cI, 118, .inl (ro 118 h))), (m3, .inl (cI, 708, .inl (ro 708 (pkF t)))), (m4, .inl (cI, 60, .inl (ro 60 cs))), (m5, .inl (cI, 48, .inl (ro 48 td)))] H := hP
  have hD : va_D A9 [(m0, .inr (6, [.ref m1, .ref m2, .ref m3, .int (nI k), .ref m4, .int (nI n), .int (nI 0), .int (nI ax), .int (nI fa), .int (nI vl), .ref m5, .int (nI tn), .int (nI hg), .int (nI bg)])), (m1, .inl (cI, 118, .inl (ro 118 s))), (m2, .inl (cI, 118, .inl (ro 118 h))), (m3, .inl (cI, 708, .inl (ro 708 (pkF t)))), (m4, .inl (cI, 60, .inl (ro 60 cs))), (m5, .inl (cI, 48, .inl (ro 48 td)))] := hD
  refine lv_iload_n hx hb dX6_pumpOf_5 rfl (lv_at hl 1 rfl) ?_
  refine lv_iconst (v := nI 0) hx hb dX6_pumpOf_6 (by decide +kernel) ?_
  refine lv_iconst (v := nI 1) hx hb dX6_pumpOf_7 (by decide +kernel) ?_
  refine KM.callS (As := [.int v1, .int (nI 0), .int (nI 1)]) (rest := []) C0 hN (k_X6_in l D cI cS cL v1 0 1  (by decide) (by decide)) (va_cwS 3 hts gX6_pumpOf_X6_in rfl rfl rfl (by decide +kernel) ⟨Nat.le_of_ble_eq_true rfl, Nat.le_of_ble_eq_true rfl⟩) hK hP hD hS hA [] rfl (by decide) (fun _ => rfl) rfl hl.1 rfl (Nat.le_of_ble_eq_true rfl) dX6_pumpOf_8 ⟨Nat.le_of_ble_eq_true rfl, Nat.le_of_ble_eq_true rfl⟩ (fun v9 u9 H locs hv hP hD hS => ?_)
  subst hv
  have hP : va_P D vwCl [(m0, .inr (6, [.ref m1, .ref m2, .ref m3, .int (nI k), .ref m4, .int (nI n), .int (nI 0), .int (nI ax), .int (nI fa), .int (nI vl), .ref m5, .int (nI tn), .int (nI hg), .int (nI bg)])), (m1, .inl (cI, 118, .inl (ro 118 s))), (m2, .inl (cI, 118, .inl (ro 118 h))), (m3, .inl (cI, 708, .inl (ro 708 (pkF t)))), (m4, .inl (cI, 60, .inl (ro 60 cs))), (m5, .inl (cI, 48, .inl (ro 48 td)))] H := hP
  have hD : va_D A9 [(m0, .inr (6, [.ref m1, .ref m2, .ref m3, .int (nI k), .ref m4, .int (nI n), .int (nI 0), .int (nI ax), .int (nI fa), .int (nI vl), .ref m5, .int (nI tn), .int (nI hg), .int (nI bg)])), (m1, .inl (cI, 118, .inl (ro 118 s))), (m2, .inl (cI, 118, .inl (ro 118 h))), (m3, .inl (cI, 708, .inl (ro 708 (pkF t)))), (m4, .inl (cI, 60, .inl (ro 60 cs))), (m5, .inl (cI, 48, .inl (ro 48 td)))] := hD
  refine W.eq (g2 := F0 m9 11 ls [.int (nI (bI (inR v1 0 1)))]) rfl ?_
  refine q_fne (tgt := 20) bI_lt hx hb dX6_pumpOf_11 (by decide) (fun c_11 => ?_) (fun c_11 => ?_)
  ·
    have c_11 := bI_nz c_11
    refine lv_iload_n hx hb dX6_pumpOf_20 rfl (lv_at hl 2 rfl) ?_
    refine lv_iconst (v := nI 0) hx hb dX6_pumpOf_21 (by decide +kernel) ?_
    refine lv_iconst (v := nI 2) hx hb dX6_pumpOf_22 (by decide +kernel) ?_
    refine KM.callS (As := [.int v2, .int (nI 0), .int (nI 2)]) (rest := []) C0 hN (k_X6_in l D cI cS cL v2 0 2  (by decide) (by decide)) (va_cwS 3 hts gX6_pumpOf_X6_in rfl rfl rfl (by decide +kernel) ⟨Nat.le_of_ble_eq_true rfl, Nat.le_of_ble_eq_true rfl⟩) hK hP hD hS hA [] rfl (by decide) (fun _ => rfl) rfl hl.1 rfl (Nat.le_of_ble_eq_true rfl) dX6_pumpOf_23 ⟨Nat.le_of_ble_eq_true rfl, Nat.le_of_ble_eq_true rfl⟩ (fun v9 u9 H locs hv hP hD hS => ?_)
    subst hv
    have hP : va_P D vwCl [(m0, .inr (6, [.ref m1, .ref m2, .ref m3, .int (nI k), .ref m4, .int (nI n), .int (nI 0), .int (nI ax), .int (nI fa), .int (nI vl), .ref m5, .int (nI tn), .int (nI hg), .int (nI bg)])), (m1, .inl (cI, 118, .inl (ro 118 s))), (m2, .inl (cI, 118, .inl (ro 118 h))), (m3, .inl (cI, 708, .inl (ro 708 (pkF t)))), (m4, .inl (cI, 60, .inl (ro 60 cs))), (m5, .inl (cI, 48, .inl (ro 48 td)))] H := hP
    have hD : va_D A9 [(m0, .inr (6, [.ref m1, .ref m2, .ref m3, .int (nI k), .ref m4, .int (nI n), .int (nI 0), .int (nI ax), .int (nI fa), .int (nI vl), .ref m5, .int (nI tn), .int (nI hg), .int (nI bg)])), (m1, .inl (cI, 118, .inl (ro 118 s))), (m2, .inl (cI, 118, .inl (ro 118 h))), (m3, .inl (cI, 708, .inl (ro 708 (pkF t)))), (m4, .inl (cI, 60, .inl (ro 60 cs))), (m5, .inl (cI, 48, .inl (ro 48 td)))] := hD
    refine W.eq (g2 := F0 m9 26 ls [.int (nI (bI (inR v2 0 2)))]) rfl ?_
    refine q_feq (tgt := 38) bI_lt hx hb dX6_pumpOf_26 (by decide) (fun c_26 => ?_) (fun c_26 => ?_)
    ·
      have c_26 := bI_z c_26
      refine lv_aload_n hx hb dX6_pumpOf_38 rfl (lv_at hl 0 rfl) ?_
      refine lv_iconst (v := nI 2) hx hb dX6_pumpOf_39 (by decide +kernel) ?_
      refine KM.callV (As := [.int (nI 2)]) (rest := []) C0 hN (k_X6_fails l D cI cS cL m0 m1 m2 m3 m4 m5 k n 0 ax fa vl tn hg bg 2  ) (cwV 1 hts gX6_pumpOf_X6_fails rfl rfl rfl (by decide +kernel) ⟨Nat.le_of_ble_eq_true rfl, Nat.le_of_ble_eq_true rfl⟩) hK hP hD hS hA [0] rfl (by decide) (fun _ => rfl) 0 6 rfl rfl rfl rfl hl.1 rfl (Nat.le_of_ble_eq_true rfl) dX6_pumpOf_40 ⟨Nat.le_of_ble_eq_true rfl, Nat.le_of_ble_eq_true rfl⟩ (fun v9 u9 H locs hv hP hD hS => ?_)
      subst hv
      have hP : va_P D vwCl [(m0, .inr (6, [.ref m1, .ref m2, .ref m3, .int (nI k), .ref m4, .int (nI n), .int (nI 2), .int (nI ax), .int (nI fa), .int (nI vl), .ref m5, .int (nI tn), .int (nI hg), .int (nI bg)])), (m1, .inl (cI, 118, .inl (ro 118 s))), (m2, .inl (cI, 118, .inl (ro 118 h))), (m3, .inl (cI, 708, .inl (ro 708 (pkF t)))), (m4, .inl (cI, 60, .inl (ro 60 cs))), (m5, .inl (cI, 48, .inl (ro 48 td)))] H := hP
      have hD : va_D A9 [(m0, .inr (6, [.ref m1, .ref m2, .ref m3, .int (nI k), .ref m4, .int (nI n), .int (nI 2), .int (nI ax), .int (nI fa), .int (nI vl), .ref m5, .int (nI tn), .int (nI hg), .int (nI bg)])), (m1, .inl (cI, 118, .inl (ro 118 s))), (m2, .inl (cI, 118, .inl (ro 118 h))), (m3, .inl (cI, 708, .inl (ro 708 (pkF t)))), (m4, .inl (cI, 60, .inl (ro 60 cs))), (m5, .inl (cI, 48, .inl (ro 48 td)))] := hD
      refine W.eq (g2 := F0 m9 43 ls [.int (nI 0)]) rfl ?_
      rw [show (if inR v1 0 1 then 2 else 1) = 2 from by (repeat' split) <;> first | rfl | (exfalso; omega)] at hret
      exact hret _ _ _ _ (some (.int (nI 0))) () 43 ls (by decide) (by decide) (by rfl) hP hD hS (ret_i dX6_pumpOf_43)
    ·
      have c_26 := bI_nz c_26
      exfalso; omega
  ·
    have c_11 := bI_z c_11
    refine lv_aload_n hx hb dX6_pumpOf_14 rfl (lv_at hl 0 rfl) ?_
    refine lv_iconst (v := nI 1) hx hb dX6_pumpOf_15 (by decide +kernel) ?_
    refine KM.callV (As := [.int (nI 1)]) (rest := []) C0 hN (k_X6_fails l D cI cS cL m0 m1 m2 m3 m4 m5 k n 0 ax fa vl tn hg bg 1  ) (cwV 1 hts gX6_pumpOf_X6_fails rfl rfl rfl (by decide +kernel) ⟨Nat.le_of_ble_eq_true rfl, Nat.le_of_ble_eq_true rfl⟩) hK hP hD hS hA [0] rfl (by decide) (fun _ => rfl) 0 6 rfl rfl rfl rfl hl.1 rfl (Nat.le_of_ble_eq_true rfl) dX6_pumpOf_16 ⟨Nat.le_of_ble_eq_true rfl, Nat.le_of_ble_eq_true rfl⟩ (fun v9 u9 H locs hv hP hD hS => ?_)
    subst hv
    have hP : va_P D vwCl [(m0, .inr (6, [.ref m1, .ref m2, .ref m3, .int (nI k), .ref m4, .int (nI n), .int (nI 1), .int (nI ax), .int (nI fa), .int (nI vl), .ref m5, .int (nI tn), .int (nI hg), .int (nI bg)])), (m1, .inl (cI, 118, .inl (ro 118 s))), (m2, .inl (cI, 118, .inl (ro 118 h))), (m3, .inl (cI, 708, .inl (ro 708 (pkF t)))), (m4, .inl (cI, 60, .inl (ro 60 cs))), (m5, .inl (cI, 48, .inl (ro 48 td)))] H := hP
    have hD : va_D A9 [(m0, .inr (6, [.ref m1, .ref m2, .ref m3, .int (nI k), .ref m4, .int (nI n), .int (nI 1), .int (nI ax), .int (nI fa), .int (nI vl), .ref m5, .int (nI tn), .int (nI hg), .int (nI bg)])), (m1, .inl (cI, 118, .inl (ro 118 s))), (m2, .inl (cI, 118, .inl (ro 118 h))), (m3, .inl (cI, 708, .inl (ro 708 (pkF t)))), (m4, .inl (cI, 60, .inl (ro 60 cs))), (m5, .inl (cI, 48, .inl (ro 48 td)))] := hD
    refine W.eq (g2 := F0 m9 19 ls [.int (nI 0)]) rfl ?_
    rw [show (if inR v1 0 1 then 2 else 1) = 1 from by (repeat' split) <;> first | rfl | (exfalso; omega)] at hret
    exact hret _ _ _ _ (some (.int (nI 0))) () 19 ls (by decide) (by decide) (by rfl) hP hD hS (ret_i dX6_pumpOf_19)

theorem in_X6_count_bad_X6 : ∀ w ∈ wsX60, w ∈ wsX6_count := by decide +kernel
theorem fl_X6_count_bad_25 : Cond.fieldLink RX6 25 "FountainCuesModel" "thrown" "I" ∈ wsX6_count := by decide +kernel
set_option maxHeartbeats 4000000 in
set_option maxRecDepth 100000 in
theorem k_X6_count_bad (l : Launch) (D : va_G) (cI cS cL : ClassId) (T : Nat) (m0 : Nat) (m1 : Nat) (m2 : Nat) (m3 : Nat) (m4 : Nat) (m5 : Nat) (k : Nat) (n : Nat) (th : Nat) (ax : Nat) (fa : Nat) (vl : Nat) (tn : Nat) (hg : Nat) (bg : Nat) (s : Nat → Nat) (h : Nat → Nat) (t : Nat → Nat → Nat) (cs : Nat → Nat) (td : Nat → Nat) (v1 : Int32) (hI : sI T s) (hT : T ≤ 900000) (hk : k ≤ 6) (hn : n ≤ 60) (hcs : ∀ j, j < n → cs j < 2 ^ 31) (hbad : ¬ (inR v1 0 9)) : KM l D (TY cI cS cL) yX6_count wsX6_count ({ frames := 1, cells := 0, slots := 0, locals := 22 } : Room) [(m0, .inr (6, [.ref m1, .ref m2, .ref m3, .int (nI k), .ref m4, .int (nI n), .int (nI th), .int (nI ax), .int (nI fa), .int (nI vl), .ref m5, .int (nI tn), .int (nI hg), .int (nI bg)])), (m1, .inl (cI, 118, .inl (ro 118 s))), (m2, .inl (cI, 118, .inl (ro 118 h))), (m3, .inl (cI, 708, .inl (ro 708 (pkF t)))), (m4, .inl (cI, 60, .inl (ro 60 cs))), (m5, .inl (cI, 48, .inl (ro 48 td)))] [.ref m0, .int v1] (fun (v : Option Value) (_ : Unit) => v = some (.int (nI 0))) (fun _ : Unit => [(m0, .inr (6, [.ref m1, .ref m2, .ref m3, .int (nI k), .ref m4, .int (nI n), .int (nI 1), .int (nI ax), .int (nI fa), .int (nI vl), .ref m5, .int (nI tn), .int (nI hg), .int (nI bg)])), (m1, .inl (cI, 118, .inl (ro 118 s))), (m2, .inl (cI, 118, .inl (ro 118 h))), (m3, .inl (cI, 708, .inl (ro 708 (pkF t)))), (m4, .inl (cI, 60, .inl (ro 60 cs))), (m5, .inl (cI, 48, .inl (ro 48 td)))]) := by
  refine KM.of (cc := cX6_count) (maxL := 2) (ret := (some .int)) (by decide) rfl (Nat.le_of_ble_eq_true rfl) ?_
  intro p9 e9 s9 m9 ar9 be9 me9 c9 Q9 A9 ls C0 hN hnm hlk hK hA hret hP hD hS hl
  obtain ⟨hx, hb, hml, hown, hts⟩ := id C0
  have hl : lv_has ls 2 [(0, .ref m0), (1, .int v1)] := hl
  obtain ⟨H, hH0⟩ : ∃ H, H = s9.heap := ⟨_, rfl⟩
  obtain ⟨locs, hlc0⟩ : ∃ z : List Loc, z = [] := ⟨_, rfl⟩
  have hP : va_P D vwCl [(m0, .inr (6, [.ref m1, .ref m2, .ref m3, .int (nI k), .ref m4, .int (nI n), .int (nI th), .int (nI ax), .int (nI fa), .int (nI vl), .ref m5, .int (nI tn), .int (nI hg), .int (nI bg)])), (m1, .inl (cI, 118, .inl (ro 118 s))), (m2, .inl (cI, 118, .inl (ro 118 h))), (m3, .inl (cI, 708, .inl (ro 708 (pkF t)))), (m4, .inl (cI, 60, .inl (ro 60 cs))), (m5, .inl (cI, 48, .inl (ro 48 td)))] H := by rw [hH0]; exact hP
  have hD : va_D A9 [(m0, .inr (6, [.ref m1, .ref m2, .ref m3, .int (nI k), .ref m4, .int (nI n), .int (nI th), .int (nI ax), .int (nI fa), .int (nI vl), .ref m5, .int (nI tn), .int (nI hg), .int (nI bg)])), (m1, .inl (cI, 118, .inl (ro 118 s))), (m2, .inl (cI, 118, .inl (ro 118 h))), (m3, .inl (cI, 708, .inl (ro 708 (pkF t)))), (m4, .inl (cI, 60, .inl (ro 60 cs))), (m5, .inl (cI, 48, .inl (ro 48 td)))] := hD
  have hS : va_S A9 s9.heap H locs := by rw [hH0, hlc0]; exact hS
  suffices hgo : W p9 l e9 ({ frames := 1, cells := 0, slots := 0, locals := 22 } : Room) s9 m9 ar9 be9 me9 c9 H locs 0 0 Q9 (F0 m9 0 ls []) by rw [hH0, hlc0] at hgo; exact hgo
  clear hH0 hlc0
  obtain ⟨hI1, hI2, hI3, hI4, hI5, hI6, hI7, hI8, hI9, hI10, hI11⟩ := id hI
  refine lv_aload_n hx hb dX6_count_0 rfl (lv_at hl 0 rfl) ?_
  refine lv_iconst (v := nI 0) hx hb dX6_count_1 (by decide +kernel) ?_
  refine va_put (D := D) (ci := 6) (v := .int (nI 0)) (ty := tyX6 6) (C := RX6) (T := TX6) (N := 14) hx hb hts in_X6_count_bad_X6 tyX6 tyX6_ok nmX6 hown hK hP hD hS 0 rfl rfl 6 (by decide) (hts _ fl_X6_count_bad_25) (fun _ h9 => h9) rfl (by decide +kernel) rfl rfl (Nat.le_of_ble_eq_true rfl) dX6_count_2 (fun H locs hP hD hS => ?_)
  have hP : va_P D vwCl [(m0, .inr (6, [.ref m1, .ref m2, .ref m3, .int (nI k), .ref m4, .int (nI n), .int (nI 0), .int (nI ax), .int (nI fa), .int (nI vl), .ref m5, .int (nI tn), .int (nI hg), .int (nI bg)])), (m1, .inl (cI, 118, .inl (ro 118 s))), (m2, .inl (cI, 118, .inl (ro 118 h))), (m3, .inl (cI, 708, .inl (ro 708 (pkF t)))), (m4, .inl (cI, 60, .inl (ro 60 cs))), (m5, .inl (cI, 48, .inl (ro 48 td)))] H := hP
  have hD : va_D A9 [(m0, .inr (6, [.ref m1, .ref m2, .ref m3, .int (nI k), .ref m4, .int (nI n), .int (nI 0), .int (nI ax), .int (nI fa), .int (nI vl), .ref m5, .int (nI tn), .int (nI hg), .int (nI bg)])), (m1, .inl (cI, 118, .inl (ro 118 s))), (m2, .inl (cI, 118, .inl (ro 118 h))), (m3, .inl (cI, 708, .inl (ro 708 (pkF t)))), (m4, .inl (cI, 60, .inl (ro 60 cs))), (m5, .inl (cI, 48, .inl (ro 48 td)))] := hD
  refine lv_iload_n hx hb dX6_count_5 rfl (lv_at hl 1 rfl) ?_
  refine lv_iconst (v := nI 0) hx hb dX6_count_6 (by decide +kernel) ?_
  refine lv_bipush (v := nI 9) hx hb dX6_count_7 (by decide +kernel) ?_
  refine KM.callS (As := [.int v1, .int (nI 0), .int (nI 9)]) (rest := []) C0 hN (k_X6_in l D cI cS cL v1 0 9  (by decide) (by decide)) (va_cwS 3 hts gX6_count_X6_in rfl rfl rfl (by decide +kernel) ⟨Nat.le_of_ble_eq_true rfl, Nat.le_of_ble_eq_true rfl⟩) hK hP hD hS hA [] rfl (by decide) (fun _ => rfl) rfl hl.1 rfl (Nat.le_of_ble_eq_true rfl) dX6_count_9 ⟨Nat.le_of_ble_eq_true rfl, Nat.le_of_ble_eq_true rfl⟩ (fun v9 u9 H locs hv hP hD hS => ?_)
  subst hv
  have hP : va_P D vwCl [(m0, .inr (6, [.ref m1, .ref m2, .ref m3, .int (nI k), .ref m4, .int (nI n), .int (nI 0), .int (nI ax), .int (nI fa), .int (nI vl), .ref m5, .int (nI tn), .int (nI hg), .int (nI bg)])), (m1, .inl (cI, 118, .inl (ro 118 s))), (m2, .inl (cI, 118, .inl (ro 118 h))), (m3, .inl (cI, 708, .inl (ro 708 (pkF t)))), (m4, .inl (cI, 60, .inl (ro 60 cs))), (m5, .inl (cI, 48, .inl (ro 48 td)))] H := hP
  have hD : va_D A9 [(m0, .inr (6, [.ref m1, .ref m2, .ref m3, .int (nI k), .ref m4, .int (nI n), .int (nI 0), .int (nI ax), .int (nI fa), .int (nI vl), .ref m5, .int (nI tn), .int (nI hg), .int (nI bg)])), (m1, .inl (cI, 118, .inl (ro 118 s))), (m2, .inl (cI, 118, .inl (ro 118 h))), (m3, .inl (cI, 708, .inl (ro 708 (pkF t)))), (m4, .inl (cI, 60, .inl (ro 60 cs))), (m5, .inl (cI, 48, .inl (ro 48 td)))] := hD
  refine W.eq (g2 := F0 m9 12 ls [.int (nI (bI (inR v1 0 9)))]) rfl ?_
  refine q_feq (tgt := 23) bI_lt hx hb dX6_count_12 (by decide) (fun c_12 => ?_) (fun c_12 => ?_)
  ·
    have c_12 := bI_z c_12
    refine lv_aload_n hx hb dX6_count_23 rfl (lv_at hl 0 rfl) ?_
    refine lv_iconst (v := nI 1) hx hb dX6_count_24 (by decide +kernel) ?_
    refine KM.callV (As := [.int (nI 1)]) (rest := []) C0 hN (k_X6_fails l D cI cS cL m0 m1 m2 m3 m4 m5 k n 0 ax fa vl tn hg bg 1  ) (cwV 1 hts gX6_count_X6_fails rfl rfl rfl (by decide +kernel) ⟨Nat.le_of_ble_eq_true rfl, Nat.le_of_ble_eq_true rfl⟩) hK hP hD hS hA [0] rfl (by decide) (fun _ => rfl) 0 6 rfl rfl rfl rfl hl.1 rfl (Nat.le_of_ble_eq_true rfl) dX6_count_25 ⟨Nat.le_of_ble_eq_true rfl, Nat.le_of_ble_eq_true rfl⟩ (fun v9 u9 H locs hv hP hD hS => ?_)
    subst hv
    have hP : va_P D vwCl [(m0, .inr (6, [.ref m1, .ref m2, .ref m3, .int (nI k), .ref m4, .int (nI n), .int (nI 1), .int (nI ax), .int (nI fa), .int (nI vl), .ref m5, .int (nI tn), .int (nI hg), .int (nI bg)])), (m1, .inl (cI, 118, .inl (ro 118 s))), (m2, .inl (cI, 118, .inl (ro 118 h))), (m3, .inl (cI, 708, .inl (ro 708 (pkF t)))), (m4, .inl (cI, 60, .inl (ro 60 cs))), (m5, .inl (cI, 48, .inl (ro 48 td)))] H := hP
    have hD : va_D A9 [(m0, .inr (6, [.ref m1, .ref m2, .ref m3, .int (nI k), .ref m4, .int (nI n), .int (nI 1), .int (nI ax), .int (nI fa), .int (nI vl), .ref m5, .int (nI tn), .int (nI hg), .int (nI bg)])), (m1, .inl (cI, 118, .inl (ro 118 s))), (m2, .inl (cI, 118, .inl (ro 118 h))), (m3, .inl (cI, 708, .inl (ro 708 (pkF t)))), (m4, .inl (cI, 60, .inl (ro 60 cs))), (m5, .inl (cI, 48, .inl (ro 48 td)))] := hD
    refine W.eq (g2 := F0 m9 28 ls [.int (nI 0)]) rfl ?_
    exact hret _ _ _ _ (some (.int (nI 0))) () 28 ls (by decide) (by decide) (by rfl) hP hD hS (ret_i dX6_count_28)
  ·
    have c_12 := bI_nz c_12
    exfalso; omega

theorem in_X6_setting_bad_X6 : ∀ w ∈ wsX60, w ∈ wsX6_setting := by decide +kernel
theorem fl_X6_setting_bad_25 : Cond.fieldLink RX6 25 "FountainCuesModel" "thrown" "I" ∈ wsX6_setting := by decide +kernel
set_option maxHeartbeats 4000000 in
set_option maxRecDepth 100000 in
theorem k_X6_setting_bad (l : Launch) (D : va_G) (cI cS cL : ClassId) (T : Nat) (m0 : Nat) (m1 : Nat) (m2 : Nat) (m3 : Nat) (m4 : Nat) (m5 : Nat) (k : Nat) (n : Nat) (th : Nat) (ax : Nat) (fa : Nat) (vl : Nat) (tn : Nat) (hg : Nat) (bg : Nat) (s : Nat → Nat) (h : Nat → Nat) (t : Nat → Nat → Nat) (cs : Nat → Nat) (td : Nat → Nat) (v1 : Int32) (hI : sI T s) (hT : T ≤ 900000) (hk : k ≤ 6) (hn : n ≤ 60) (hcs : ∀ j, j < n → cs j < 2 ^ 31) (hbad : ¬ (inR v1 0 2)) : KM l D (TY cI cS cL) yX6_setting wsX6_setting ({ frames := 1, cells := 0, slots := 0, locals := 22 } : Room) [(m0, .inr (6, [.ref m1, .ref m2, .ref m3, .int (nI k), .ref m4, .int (nI n), .int (nI th), .int (nI ax), .int (nI fa), .int (nI vl), .ref m5, .int (nI tn), .int (nI hg), .int (nI bg)])), (m1, .inl (cI, 118, .inl (ro 118 s))), (m2, .inl (cI, 118, .inl (ro 118 h))), (m3, .inl (cI, 708, .inl (ro 708 (pkF t)))), (m4, .inl (cI, 60, .inl (ro 60 cs))), (m5, .inl (cI, 48, .inl (ro 48 td)))] [.ref m0, .int v1] (fun (v : Option Value) (_ : Unit) => v = some (.int (nI 0))) (fun _ : Unit => [(m0, .inr (6, [.ref m1, .ref m2, .ref m3, .int (nI k), .ref m4, .int (nI n), .int (nI 1), .int (nI ax), .int (nI fa), .int (nI vl), .ref m5, .int (nI tn), .int (nI hg), .int (nI bg)])), (m1, .inl (cI, 118, .inl (ro 118 s))), (m2, .inl (cI, 118, .inl (ro 118 h))), (m3, .inl (cI, 708, .inl (ro 708 (pkF t)))), (m4, .inl (cI, 60, .inl (ro 60 cs))), (m5, .inl (cI, 48, .inl (ro 48 td)))]) := by
  refine KM.of (cc := cX6_setting) (maxL := 2) (ret := (some .int)) (by decide) rfl (Nat.le_of_ble_eq_true rfl) ?_
  intro p9 e9 s9 m9 ar9 be9 me9 c9 Q9 A9 ls C0 hN hnm hlk hK hA hret hP hD hS hl
  obtain ⟨hx, hb, hml, hown, hts⟩ := id C0
  have hl : lv_has ls 2 [(0, .ref m0), (1, .int v1)] := hl
  obtain ⟨H, hH0⟩ : ∃ H, H = s9.heap := ⟨_, rfl⟩
  obtain ⟨locs, hlc0⟩ : ∃ z : List Loc, z = [] := ⟨_, rfl⟩
  have hP : va_P D vwCl [(m0, .inr (6, [.ref m1, .ref m2, .ref m3, .int (nI k), .ref m4, .int (nI n), .int (nI th), .int (nI ax), .int (nI fa), .int (nI vl), .ref m5, .int (nI tn), .int (nI hg), .int (nI bg)])), (m1, .inl (cI, 118, .inl (ro 118 s))), (m2, .inl (cI, 118, .inl (ro 118 h))), (m3, .inl (cI, 708, .inl (ro 708 (pkF t)))), (m4, .inl (cI, 60, .inl (ro 60 cs))), (m5, .inl (cI, 48, .inl (ro 48 td)))] H := by rw [hH0]; exact hP
  have hD : va_D A9 [(m0, .inr (6, [.ref m1, .ref m2, .ref m3, .int (nI k), .ref m4, .int (nI n), .int (nI th), .int (nI ax), .int (nI fa), .int (nI vl), .ref m5, .int (nI tn), .int (nI hg), .int (nI bg)])), (m1, .inl (cI, 118, .inl (ro 118 s))), (m2, .inl (cI, 118, .inl (ro 118 h))), (m3, .inl (cI, 708, .inl (ro 708 (pkF t)))), (m4, .inl (cI, 60, .inl (ro 60 cs))), (m5, .inl (cI, 48, .inl (ro 48 td)))] := hD
  have hS : va_S A9 s9.heap H locs := by rw [hH0, hlc0]; exact hS
  suffices hgo : W p9 l e9 ({ frames := 1, cells := 0, slots := 0, locals := 22 } : Room) s9 m9 ar9 be9 me9 c9 H locs 0 0 Q9 (F0 m9 0 ls []) by rw [hH0, hlc0] at hgo; exact hgo
  clear hH0 hlc0
  obtain ⟨hI1, hI2, hI3, hI4, hI5, hI6, hI7, hI8, hI9, hI10, hI11⟩ := id hI
  refine lv_aload_n hx hb dX6_setting_0 rfl (lv_at hl 0 rfl) ?_
  refine lv_iconst (v := nI 0) hx hb dX6_setting_1 (by decide +kernel) ?_
  refine va_put (D := D) (ci := 6) (v := .int (nI 0)) (ty := tyX6 6) (C := RX6) (T := TX6) (N := 14) hx hb hts in_X6_setting_bad_X6 tyX6 tyX6_ok nmX6 hown hK hP hD hS 0 rfl rfl 6 (by decide) (hts _ fl_X6_setting_bad_25) (fun _ h9 => h9) rfl (by decide +kernel) rfl rfl (Nat.le_of_ble_eq_true rfl) dX6_setting_2 (fun H locs hP hD hS => ?_)
  have hP : va_P D vwCl [(m0, .inr (6, [.ref m1, .ref m2, .ref m3, .int (nI k), .ref m4, .int (nI n), .int (nI 0), .int (nI ax), .int (nI fa), .int (nI vl), .ref m5, .int (nI tn), .int (nI hg), .int (nI bg)])), (m1, .inl (cI, 118, .inl (ro 118 s))), (m2, .inl (cI, 118, .inl (ro 118 h))), (m3, .inl (cI, 708, .inl (ro 708 (pkF t)))), (m4, .inl (cI, 60, .inl (ro 60 cs))), (m5, .inl (cI, 48, .inl (ro 48 td)))] H := hP
  have hD : va_D A9 [(m0, .inr (6, [.ref m1, .ref m2, .ref m3, .int (nI k), .ref m4, .int (nI n), .int (nI 0), .int (nI ax), .int (nI fa), .int (nI vl), .ref m5, .int (nI tn), .int (nI hg), .int (nI bg)])), (m1, .inl (cI, 118, .inl (ro 118 s))), (m2, .inl (cI, 118, .inl (ro 118 h))), (m3, .inl (cI, 708, .inl (ro 708 (pkF t)))), (m4, .inl (cI, 60, .inl (ro 60 cs))), (m5, .inl (cI, 48, .inl (ro 48 td)))] := hD
  refine lv_iload_n hx hb dX6_setting_5 rfl (lv_at hl 1 rfl) ?_
  refine lv_iconst (v := nI 0) hx hb dX6_setting_6 (by decide +kernel) ?_
  refine lv_iconst (v := nI 2) hx hb dX6_setting_7 (by decide +kernel) ?_
  refine KM.callS (As := [.int v1, .int (nI 0), .int (nI 2)]) (rest := []) C0 hN (k_X6_in l D cI cS cL v1 0 2  (by decide) (by decide)) (va_cwS 3 hts gX6_setting_X6_in rfl rfl rfl (by decide +kernel) ⟨Nat.le_of_ble_eq_true rfl, Nat.le_of_ble_eq_true rfl⟩) hK hP hD hS hA [] rfl (by decide) (fun _ => rfl) rfl hl.1 rfl (Nat.le_of_ble_eq_true rfl) dX6_setting_8 ⟨Nat.le_of_ble_eq_true rfl, Nat.le_of_ble_eq_true rfl⟩ (fun v9 u9 H locs hv hP hD hS => ?_)
  subst hv
  have hP : va_P D vwCl [(m0, .inr (6, [.ref m1, .ref m2, .ref m3, .int (nI k), .ref m4, .int (nI n), .int (nI 0), .int (nI ax), .int (nI fa), .int (nI vl), .ref m5, .int (nI tn), .int (nI hg), .int (nI bg)])), (m1, .inl (cI, 118, .inl (ro 118 s))), (m2, .inl (cI, 118, .inl (ro 118 h))), (m3, .inl (cI, 708, .inl (ro 708 (pkF t)))), (m4, .inl (cI, 60, .inl (ro 60 cs))), (m5, .inl (cI, 48, .inl (ro 48 td)))] H := hP
  have hD : va_D A9 [(m0, .inr (6, [.ref m1, .ref m2, .ref m3, .int (nI k), .ref m4, .int (nI n), .int (nI 0), .int (nI ax), .int (nI fa), .int (nI vl), .ref m5, .int (nI tn), .int (nI hg), .int (nI bg)])), (m1, .inl (cI, 118, .inl (ro 118 s))), (m2, .inl (cI, 118, .inl (ro 118 h))), (m3, .inl (cI, 708, .inl (ro 708 (pkF t)))), (m4, .inl (cI, 60, .inl (ro 60 cs))), (m5, .inl (cI, 48, .inl (ro 48 td)))] := hD
  refine W.eq (g2 := F0 m9 11 ls [.int (nI (bI (inR v1 0 2)))]) rfl ?_
  refine q_feq (tgt := 23) bI_lt hx hb dX6_setting_11 (by decide) (fun c_11 => ?_) (fun c_11 => ?_)
  ·
    have c_11 := bI_z c_11
    refine lv_aload_n hx hb dX6_setting_23 rfl (lv_at hl 0 rfl) ?_
    refine lv_iconst (v := nI 1) hx hb dX6_setting_24 (by decide +kernel) ?_
    refine KM.callV (As := [.int (nI 1)]) (rest := []) C0 hN (k_X6_fails l D cI cS cL m0 m1 m2 m3 m4 m5 k n 0 ax fa vl tn hg bg 1  ) (cwV 1 hts gX6_setting_X6_fails rfl rfl rfl (by decide +kernel) ⟨Nat.le_of_ble_eq_true rfl, Nat.le_of_ble_eq_true rfl⟩) hK hP hD hS hA [0] rfl (by decide) (fun _ => rfl) 0 6 rfl rfl rfl rfl hl.1 rfl (Nat.le_of_ble_eq_true rfl) dX6_setting_25 ⟨Nat.le_of_ble_eq_true rfl, Nat.le_of_ble_eq_true rfl⟩ (fun v9 u9 H locs hv hP hD hS => ?_)
    subst hv
    have hP : va_P D vwCl [(m0, .inr (6, [.ref m1, .ref m2, .ref m3, .int (nI k), .ref m4, .int (nI n), .int (nI 1), .int (nI ax), .int (nI fa), .int (nI vl), .ref m5, .int (nI tn), .int (nI hg), .int (nI bg)])), (m1, .inl (cI, 118, .inl (ro 118 s))), (m2, .inl (cI, 118, .inl (ro 118 h))), (m3, .inl (cI, 708, .inl (ro 708 (pkF t)))), (m4, .inl (cI, 60, .inl (ro 60 cs))), (m5, .inl (cI, 48, .inl (ro 48 td)))] H := hP
    have hD : va_D A9 [(m0, .inr (6, [.ref m1, .ref m2, .ref m3, .int (nI k), .ref m4, .int (nI n), .int (nI 1), .int (nI ax), .int (nI fa), .int (nI vl), .ref m5, .int (nI tn), .int (nI hg), .int (nI bg)])), (m1, .inl (cI, 118, .inl (ro 118 s))), (m2, .inl (cI, 118, .inl (ro 118 h))), (m3, .inl (cI, 708, .inl (ro 708 (pkF t)))), (m4, .inl (cI, 60, .inl (ro 60 cs))), (m5, .inl (cI, 48, .inl (ro 48 td)))] := hD
    refine W.eq (g2 := F0 m9 28 ls [.int (nI 0)]) rfl ?_
    exact hret _ _ _ _ (some (.int (nI 0))) () 28 ls (by decide) (by decide) (by rfl) hP hD hS (ret_i dX6_setting_28)
  ·
    have c_11 := bI_nz c_11
    exfalso; omega

theorem in_X6_ifPlayed_bad_X6 : ∀ w ∈ wsX60, w ∈ wsX6_ifPlayed := by decide +kernel
theorem fl_X6_ifPlayed_bad_25 : Cond.fieldLink RX6 25 "FountainCuesModel" "thrown" "I" ∈ wsX6_ifPlayed := by decide +kernel
set_option maxHeartbeats 4000000 in
set_option maxRecDepth 100000 in
theorem k_X6_ifPlayed_bad (l : Launch) (D : va_G) (cI cS cL : ClassId) (T : Nat) (m0 : Nat) (m1 : Nat) (m2 : Nat) (m3 : Nat) (m4 : Nat) (m5 : Nat) (k : Nat) (n : Nat) (th : Nat) (ax : Nat) (fa : Nat) (vl : Nat) (tn : Nat) (hg : Nat) (bg : Nat) (s : Nat → Nat) (h : Nat → Nat) (t : Nat → Nat → Nat) (cs : Nat → Nat) (td : Nat → Nat) (v1 : Int32) (v2 : Int32) (hI : sI T s) (hT : T ≤ 900000) (hk : k ≤ 6) (hn : n ≤ 60) (hcs : ∀ j, j < n → cs j < 2 ^ 31) (hbad : ¬ (inR v1 1 100 ∧ inR v2 0 3)) : KM l D (TY cI cS cL) yX6_ifPlayed wsX6_ifPlayed ({ frames := 1, cells := 0, slots := 0, locals := 22 } : Room) [(m0, .inr (6, [.ref m1, .ref m2, .ref m3, .int (nI k), .ref m4, .int (nI n), .int (nI th), .int (nI ax), .int (nI fa), .int (nI vl), .ref m5, .int (nI tn), .int (nI hg), .int (nI bg)])), (m1, .inl (cI, 118, .inl (ro 118 s))), (m2, .inl (cI, 118, .inl (ro 118 h))), (m3, .inl (cI, 708, .inl (ro 708 (pkF t)))), (m4, .inl (cI, 60, .inl (ro 60 cs))), (m5, .inl (cI, 48, .inl (ro 48 td)))] [.ref m0, .int v1, .int v2] (fun (v : Option Value) (_ : Unit) => v = some (.int (nI 0))) (fun _ : Unit => [(m0, .inr (6, [.ref m1, .ref m2, .ref m3, .int (nI k), .ref m4, .int (nI n), .int (nI 1), .int (nI ax), .int (nI fa), .int (nI vl), .ref m5, .int (nI tn), .int (nI hg), .int (nI bg)])), (m1, .inl (cI, 118, .inl (ro 118 s))), (m2, .inl (cI, 118, .inl (ro 118 h))), (m3, .inl (cI, 708, .inl (ro 708 (pkF t)))), (m4, .inl (cI, 60, .inl (ro 60 cs))), (m5, .inl (cI, 48, .inl (ro 48 td)))]) := by
  refine KM.of (cc := cX6_ifPlayed) (maxL := 3) (ret := (some .int)) (by decide) rfl (Nat.le_of_ble_eq_true rfl) ?_
  intro p9 e9 s9 m9 ar9 be9 me9 c9 Q9 A9 ls C0 hN hnm hlk hK hA hret hP hD hS hl
  obtain ⟨hx, hb, hml, hown, hts⟩ := id C0
  have hl : lv_has ls 3 [(0, .ref m0), (1, .int v1), (2, .int v2)] := hl
  obtain ⟨H, hH0⟩ : ∃ H, H = s9.heap := ⟨_, rfl⟩
  obtain ⟨locs, hlc0⟩ : ∃ z : List Loc, z = [] := ⟨_, rfl⟩
  have hP : va_P D vwCl [(m0, .inr (6, [.ref m1, .ref m2, .ref m3, .int (nI k), .ref m4, .int (nI n), .int (nI th), .int (nI ax), .int (nI fa), .int (nI vl), .ref m5, .int (nI tn), .int (nI hg), .int (nI bg)])), (m1, .inl (cI, 118, .inl (ro 118 s))), (m2, .inl (cI, 118, .inl (ro 118 h))), (m3, .inl (cI, 708, .inl (ro 708 (pkF t)))), (m4, .inl (cI, 60, .inl (ro 60 cs))), (m5, .inl (cI, 48, .inl (ro 48 td)))] H := by rw [hH0]; exact hP
  have hD : va_D A9 [(m0, .inr (6, [.ref m1, .ref m2, .ref m3, .int (nI k), .ref m4, .int (nI n), .int (nI th), .int (nI ax), .int (nI fa), .int (nI vl), .ref m5, .int (nI tn), .int (nI hg), .int (nI bg)])), (m1, .inl (cI, 118, .inl (ro 118 s))), (m2, .inl (cI, 118, .inl (ro 118 h))), (m3, .inl (cI, 708, .inl (ro 708 (pkF t)))), (m4, .inl (cI, 60, .inl (ro 60 cs))), (m5, .inl (cI, 48, .inl (ro 48 td)))] := hD
  have hS : va_S A9 s9.heap H locs := by rw [hH0, hlc0]; exact hS
  suffices hgo : W p9 l e9 ({ frames := 1, cells := 0, slots := 0, locals := 22 } : Room) s9 m9 ar9 be9 me9 c9 H locs 0 0 Q9 (F0 m9 0 ls []) by rw [hH0, hlc0] at hgo; exact hgo
  clear hH0 hlc0
  obtain ⟨hI1, hI2, hI3, hI4, hI5, hI6, hI7, hI8, hI9, hI10, hI11⟩ := id hI
  refine lv_aload_n hx hb dX6_ifPlayed_0 rfl (lv_at hl 0 rfl) ?_
  refine lv_iconst (v := nI 0) hx hb dX6_ifPlayed_1 (by decide +kernel) ?_
  refine va_put (D := D) (ci := 6) (v := .int (nI 0)) (ty := tyX6 6) (C := RX6) (T := TX6) (N := 14) hx hb hts in_X6_ifPlayed_bad_X6 tyX6 tyX6_ok nmX6 hown hK hP hD hS 0 rfl rfl 6 (by decide) (hts _ fl_X6_ifPlayed_bad_25) (fun _ h9 => h9) rfl (by decide +kernel) rfl rfl (Nat.le_of_ble_eq_true rfl) dX6_ifPlayed_2 (fun H locs hP hD hS => ?_)
  have hP : va_P D vwCl [(m0, .inr (6, [.ref m1, .ref m2, .ref m3, .int (nI k), .ref m4, .int (nI n), .int (nI 0), .int (nI ax), .int (nI fa), .int (nI vl), .ref m5, .int (nI tn), .int (nI hg), .int (nI bg)])), (m1, .inl (cI, 118, .inl (ro 118 s))), (m2, .inl (cI, 118, .inl (ro 118 h))), (m3, .inl (cI, 708, .inl (ro 708 (pkF t)))), (m4, .inl (cI, 60, .inl (ro 60 cs))), (m5, .inl (cI, 48, .inl (ro 48 td)))] H := hP
  have hD : va_D A9 [(m0, .inr (6, [.ref m1, .ref m2, .ref m3, .int (nI k), .ref m4, .int (nI n), .int (nI 0), .int (nI ax), .int (nI fa), .int (nI vl), .ref m5, .int (nI tn), .int (nI hg), .int (nI bg)])), (m1, .inl (cI, 118, .inl (ro 118 s))), (m2, .inl (cI, 118, .inl (ro 118 h))), (m3, .inl (cI, 708, .inl (ro 708 (pkF t)))), (m4, .inl (cI, 60, .inl (ro 60 cs))), (m5, .inl (cI, 48, .inl (ro 48 td)))] := hD
  refine lv_iload_n hx hb dX6_ifPlayed_5 rfl (lv_at hl 1 rfl) ?_
  refine lv_iconst (v := nI 1) hx hb dX6_ifPlayed_6 (by decide +kernel) ?_
  refine lv_bipush (v := nI 100) hx hb dX6_ifPlayed_7 (by decide +kernel) ?_
  refine KM.callS (As := [.int v1, .int (nI 1), .int (nI 100)]) (rest := []) C0 hN (k_X6_in l D cI cS cL v1 1 100  (by decide) (by decide)) (va_cwS 3 hts gX6_ifPlayed_X6_in rfl rfl rfl (by decide +kernel) ⟨Nat.le_of_ble_eq_true rfl, Nat.le_of_ble_eq_true rfl⟩) hK hP hD hS hA [] rfl (by decide) (fun _ => rfl) rfl hl.1 rfl (Nat.le_of_ble_eq_true rfl) dX6_ifPlayed_9 ⟨Nat.le_of_ble_eq_true rfl, Nat.le_of_ble_eq_true rfl⟩ (fun v9 u9 H locs hv hP hD hS => ?_)
  subst hv
  have hP : va_P D vwCl [(m0, .inr (6, [.ref m1, .ref m2, .ref m3, .int (nI k), .ref m4, .int (nI n), .int (nI 0), .int (nI ax), .int (nI fa), .int (nI vl), .ref m5, .int (nI tn), .int (nI hg), .int (nI bg)])), (m1, .inl (cI, 118, .inl (ro 118 s))), (m2, .inl (cI, 118, .inl (ro 118 h))), (m3, .inl (cI, 708, .inl (ro 708 (pkF t)))), (m4, .inl (cI, 60, .inl (ro 60 cs))), (m5, .inl (cI, 48, .inl (ro 48 td)))] H := hP
  have hD : va_D A9 [(m0, .inr (6, [.ref m1, .ref m2, .ref m3, .int (nI k), .ref m4, .int (nI n), .int (nI 0), .int (nI ax), .int (nI fa), .int (nI vl), .ref m5, .int (nI tn), .int (nI hg), .int (nI bg)])), (m1, .inl (cI, 118, .inl (ro 118 s))), (m2, .inl (cI, 118, .inl (ro 118 h))), (m3, .inl (cI, 708, .inl (ro 708 (pkF t)))), (m4, .inl (cI, 60, .inl (ro 60 cs))), (m5, .inl (cI, 48, .inl (ro 48 td)))] := hD
  refine W.eq (g2 := F0 m9 12 ls [.int (nI (bI (inR v1 1 100)))]) rfl ?_
  refine q_feq (tgt := 33) bI_lt hx hb dX6_ifPlayed_12 (by decide) (fun c_12 => ?_) (fun c_12 => ?_)
  ·
    have c_12 := bI_z c_12
    refine lv_aload_n hx hb dX6_ifPlayed_33 rfl (lv_at hl 0 rfl) ?_
    refine lv_iconst (v := nI 1) hx hb dX6_ifPlayed_34 (by decide +kernel) ?_
    refine KM.callV (As := [.int (nI 1)]) (rest := []) C0 hN (k_X6_fails l D cI cS cL m0 m1 m2 m3 m4 m5 k n 0 ax fa vl tn hg bg 1  ) (cwV 1 hts gX6_ifPlayed_X6_fails rfl rfl rfl (by decide +kernel) ⟨Nat.le_of_ble_eq_true rfl, Nat.le_of_ble_eq_true rfl⟩) hK hP hD hS hA [0] rfl (by decide) (fun _ => rfl) 0 6 rfl rfl rfl rfl hl.1 rfl (Nat.le_of_ble_eq_true rfl) dX6_ifPlayed_35 ⟨Nat.le_of_ble_eq_true rfl, Nat.le_of_ble_eq_true rfl⟩ (fun v9 u9 H locs hv hP hD hS => ?_)
    subst hv
    have hP : va_P D vwCl [(m0, .inr (6, [.ref m1, .ref m2, .ref m3, .int (nI k), .ref m4, .int (nI n), .int (nI 1), .int (nI ax), .int (nI fa), .int (nI vl), .ref m5, .int (nI tn), .int (nI hg), .int (nI bg)])), (m1, .inl (cI, 118, .inl (ro 118 s))), (m2, .inl (cI, 118, .inl (ro 118 h))), (m3, .inl (cI, 708, .inl (ro 708 (pkF t)))), (m4, .inl (cI, 60, .inl (ro 60 cs))), (m5, .inl (cI, 48, .inl (ro 48 td)))] H := hP
    have hD : va_D A9 [(m0, .inr (6, [.ref m1, .ref m2, .ref m3, .int (nI k), .ref m4, .int (nI n), .int (nI 1), .int (nI ax), .int (nI fa), .int (nI vl), .ref m5, .int (nI tn), .int (nI hg), .int (nI bg)])), (m1, .inl (cI, 118, .inl (ro 118 s))), (m2, .inl (cI, 118, .inl (ro 118 h))), (m3, .inl (cI, 708, .inl (ro 708 (pkF t)))), (m4, .inl (cI, 60, .inl (ro 60 cs))), (m5, .inl (cI, 48, .inl (ro 48 td)))] := hD
    refine W.eq (g2 := F0 m9 38 ls [.int (nI 0)]) rfl ?_
    exact hret _ _ _ _ (some (.int (nI 0))) () 38 ls (by decide) (by decide) (by rfl) hP hD hS (ret_i dX6_ifPlayed_38)
  ·
    have c_12 := bI_nz c_12
    refine lv_iload_n hx hb dX6_ifPlayed_15 rfl (lv_at hl 2 rfl) ?_
    refine lv_iconst (v := nI 0) hx hb dX6_ifPlayed_16 (by decide +kernel) ?_
    refine lv_iconst (v := nI 3) hx hb dX6_ifPlayed_17 (by decide +kernel) ?_
    refine KM.callS (As := [.int v2, .int (nI 0), .int (nI 3)]) (rest := []) C0 hN (k_X6_in l D cI cS cL v2 0 3  (by decide) (by decide)) (va_cwS 3 hts gX6_ifPlayed_X6_in rfl rfl rfl (by decide +kernel) ⟨Nat.le_of_ble_eq_true rfl, Nat.le_of_ble_eq_true rfl⟩) hK hP hD hS hA [] rfl (by decide) (fun _ => rfl) rfl hl.1 rfl (Nat.le_of_ble_eq_true rfl) dX6_ifPlayed_18 ⟨Nat.le_of_ble_eq_true rfl, Nat.le_of_ble_eq_true rfl⟩ (fun v9 u9 H locs hv hP hD hS => ?_)
    subst hv
    have hP : va_P D vwCl [(m0, .inr (6, [.ref m1, .ref m2, .ref m3, .int (nI k), .ref m4, .int (nI n), .int (nI 0), .int (nI ax), .int (nI fa), .int (nI vl), .ref m5, .int (nI tn), .int (nI hg), .int (nI bg)])), (m1, .inl (cI, 118, .inl (ro 118 s))), (m2, .inl (cI, 118, .inl (ro 118 h))), (m3, .inl (cI, 708, .inl (ro 708 (pkF t)))), (m4, .inl (cI, 60, .inl (ro 60 cs))), (m5, .inl (cI, 48, .inl (ro 48 td)))] H := hP
    have hD : va_D A9 [(m0, .inr (6, [.ref m1, .ref m2, .ref m3, .int (nI k), .ref m4, .int (nI n), .int (nI 0), .int (nI ax), .int (nI fa), .int (nI vl), .ref m5, .int (nI tn), .int (nI hg), .int (nI bg)])), (m1, .inl (cI, 118, .inl (ro 118 s))), (m2, .inl (cI, 118, .inl (ro 118 h))), (m3, .inl (cI, 708, .inl (ro 708 (pkF t)))), (m4, .inl (cI, 60, .inl (ro 60 cs))), (m5, .inl (cI, 48, .inl (ro 48 td)))] := hD
    refine W.eq (g2 := F0 m9 21 ls [.int (nI (bI (inR v2 0 3)))]) rfl ?_
    refine q_feq (tgt := 33) bI_lt hx hb dX6_ifPlayed_21 (by decide) (fun c_21 => ?_) (fun c_21 => ?_)
    ·
      have c_21 := bI_z c_21
      refine lv_aload_n hx hb dX6_ifPlayed_33 rfl (lv_at hl 0 rfl) ?_
      refine lv_iconst (v := nI 1) hx hb dX6_ifPlayed_34 (by decide +kernel) ?_
      refine KM.callV (As := [.int (nI 1)]) (rest := []) C0 hN (k_X6_fails l D cI cS cL m0 m1 m2 m3 m4 m5 k n 0 ax fa vl tn hg bg 1  ) (cwV 1 hts gX6_ifPlayed_X6_fails rfl rfl rfl (by decide +kernel) ⟨Nat.le_of_ble_eq_true rfl, Nat.le_of_ble_eq_true rfl⟩) hK hP hD hS hA [0] rfl (by decide) (fun _ => rfl) 0 6 rfl rfl rfl rfl hl.1 rfl (Nat.le_of_ble_eq_true rfl) dX6_ifPlayed_35 ⟨Nat.le_of_ble_eq_true rfl, Nat.le_of_ble_eq_true rfl⟩ (fun v9 u9 H locs hv hP hD hS => ?_)
      subst hv
      have hP : va_P D vwCl [(m0, .inr (6, [.ref m1, .ref m2, .ref m3, .int (nI k), .ref m4, .int (nI n), .int (nI 1), .int (nI ax), .int (nI fa), .int (nI vl), .ref m5, .int (nI tn), .int (nI hg), .int (nI bg)])), (m1, .inl (cI, 118, .inl (ro 118 s))), (m2, .inl (cI, 118, .inl (ro 118 h))), (m3, .inl (cI, 708, .inl (ro 708 (pkF t)))), (m4, .inl (cI, 60, .inl (ro 60 cs))), (m5, .inl (cI, 48, .inl (ro 48 td)))] H := hP
      have hD : va_D A9 [(m0, .inr (6, [.ref m1, .ref m2, .ref m3, .int (nI k), .ref m4, .int (nI n), .int (nI 1), .int (nI ax), .int (nI fa), .int (nI vl), .ref m5, .int (nI tn), .int (nI hg), .int (nI bg)])), (m1, .inl (cI, 118, .inl (ro 118 s))), (m2, .inl (cI, 118, .inl (ro 118 h))), (m3, .inl (cI, 708, .inl (ro 708 (pkF t)))), (m4, .inl (cI, 60, .inl (ro 60 cs))), (m5, .inl (cI, 48, .inl (ro 48 td)))] := hD
      refine W.eq (g2 := F0 m9 38 ls [.int (nI 0)]) rfl ?_
      exact hret _ _ _ _ (some (.int (nI 0))) () 38 ls (by decide) (by decide) (by rfl) hP hD hS (ret_i dX6_ifPlayed_38)
    ·
      have c_21 := bI_nz c_21
      exfalso; omega

theorem in_X6_refusal_bad_X6 : ∀ w ∈ wsX60, w ∈ wsX6_refusal := by decide +kernel
theorem fl_X6_refusal_bad_25 : Cond.fieldLink RX6 25 "FountainCuesModel" "thrown" "I" ∈ wsX6_refusal := by decide +kernel
set_option maxHeartbeats 4000000 in
set_option maxRecDepth 100000 in
theorem k_X6_refusal_bad (l : Launch) (D : va_G) (cI cS cL : ClassId) (T : Nat) (m0 : Nat) (m1 : Nat) (m2 : Nat) (m3 : Nat) (m4 : Nat) (m5 : Nat) (k : Nat) (n : Nat) (th : Nat) (ax : Nat) (fa : Nat) (vl : Nat) (tn : Nat) (hg : Nat) (bg : Nat) (s : Nat → Nat) (h : Nat → Nat) (t : Nat → Nat → Nat) (cs : Nat → Nat) (td : Nat → Nat) (v1 : Int32) (v2 : Int32) (v3 : Int32) (hI : sI T s) (hT : T ≤ 900000) (hk : k ≤ 6) (hn : n ≤ 60) (hcs : ∀ j, j < n → cs j < 2 ^ 31) (hbad : ¬ (inR v2 0 7 ∧ inR v1 0 999 ∧ inR v3 0 10)) : KM l D (TY cI cS cL) yX6_refusal wsX6_refusal ({ frames := 2, cells := 0, slots := 0, locals := 42 } : Room) [(m0, .inr (6, [.ref m1, .ref m2, .ref m3, .int (nI k), .ref m4, .int (nI n), .int (nI th), .int (nI ax), .int (nI fa), .int (nI vl), .ref m5, .int (nI tn), .int (nI hg), .int (nI bg)])), (m1, .inl (cI, 118, .inl (ro 118 s))), (m2, .inl (cI, 118, .inl (ro 118 h))), (m3, .inl (cI, 708, .inl (ro 708 (pkF t)))), (m4, .inl (cI, 60, .inl (ro 60 cs))), (m5, .inl (cI, 48, .inl (ro 48 td)))] [.ref m0, .int v1, .int v2, .int v3] (fun (v : Option Value) (_ : Unit) => v = some (.int (nI 0))) (fun _ : Unit => [(m0, .inr (6, [.ref m1, .ref m2, .ref m3, .int (nI k), .ref m4, .int (nI n), .int (nI (if inR v2 0 7 then 2 else 1)), .int (nI ax), .int (nI fa), .int (nI vl), .ref m5, .int (nI tn), .int (nI hg), .int (nI bg)])), (m1, .inl (cI, 118, .inl (ro 118 s))), (m2, .inl (cI, 118, .inl (ro 118 h))), (m3, .inl (cI, 708, .inl (ro 708 (pkF t)))), (m4, .inl (cI, 60, .inl (ro 60 cs))), (m5, .inl (cI, 48, .inl (ro 48 td)))]) := by
  refine KM.of (cc := cX6_refusal) (maxL := 4) (ret := (some .int)) (by decide) rfl (Nat.le_of_ble_eq_true rfl) ?_
  intro p9 e9 s9 m9 ar9 be9 me9 c9 Q9 A9 ls C0 hN hnm hlk hK hA hret hP hD hS hl
  obtain ⟨hx, hb, hml, hown, hts⟩ := id C0
  have hl : lv_has ls 4 [(0, .ref m0), (1, .int v1), (2, .int v2), (3, .int v3)] := hl
  obtain ⟨H, hH0⟩ : ∃ H, H = s9.heap := ⟨_, rfl⟩
  obtain ⟨locs, hlc0⟩ : ∃ z : List Loc, z = [] := ⟨_, rfl⟩
  have hP : va_P D vwCl [(m0, .inr (6, [.ref m1, .ref m2, .ref m3, .int (nI k), .ref m4, .int (nI n), .int (nI th), .int (nI ax), .int (nI fa), .int (nI vl), .ref m5, .int (nI tn), .int (nI hg), .int (nI bg)])), (m1, .inl (cI, 118, .inl (ro 118 s))), (m2, .inl (cI, 118, .inl (ro 118 h))), (m3, .inl (cI, 708, .inl (ro 708 (pkF t)))), (m4, .inl (cI, 60, .inl (ro 60 cs))), (m5, .inl (cI, 48, .inl (ro 48 td)))] H := by rw [hH0]; exact hP
  have hD : va_D A9 [(m0, .inr (6, [.ref m1, .ref m2, .ref m3, .int (nI k), .ref m4, .int (nI n), .int (nI th), .int (nI ax), .int (nI fa), .int (nI vl), .ref m5, .int (nI tn), .int (nI hg), .int (nI bg)])), (m1, .inl (cI, 118, .inl (ro 118 s))), (m2, .inl (cI, 118, .inl (ro 118 h))), (m3, .inl (cI, 708, .inl (ro 708 (pkF t)))), (m4, .inl (cI, 60, .inl (ro 60 cs))), (m5, .inl (cI, 48, .inl (ro 48 td)))] := hD
  have hS : va_S A9 s9.heap H locs := by rw [hH0, hlc0]; exact hS
  suffices hgo : W p9 l e9 ({ frames := 2, cells := 0, slots := 0, locals := 42 } : Room) s9 m9 ar9 be9 me9 c9 H locs 0 0 Q9 (F0 m9 0 ls []) by rw [hH0, hlc0] at hgo; exact hgo
  clear hH0 hlc0
  obtain ⟨hI1, hI2, hI3, hI4, hI5, hI6, hI7, hI8, hI9, hI10, hI11⟩ := id hI
  refine lv_aload_n hx hb dX6_refusal_0 rfl (lv_at hl 0 rfl) ?_
  refine lv_iconst (v := nI 0) hx hb dX6_refusal_1 (by decide +kernel) ?_
  refine va_put (D := D) (ci := 6) (v := .int (nI 0)) (ty := tyX6 6) (C := RX6) (T := TX6) (N := 14) hx hb hts in_X6_refusal_bad_X6 tyX6 tyX6_ok nmX6 hown hK hP hD hS 0 rfl rfl 6 (by decide) (hts _ fl_X6_refusal_bad_25) (fun _ h9 => h9) rfl (by decide +kernel) rfl rfl (Nat.le_of_ble_eq_true rfl) dX6_refusal_2 (fun H locs hP hD hS => ?_)
  have hP : va_P D vwCl [(m0, .inr (6, [.ref m1, .ref m2, .ref m3, .int (nI k), .ref m4, .int (nI n), .int (nI 0), .int (nI ax), .int (nI fa), .int (nI vl), .ref m5, .int (nI tn), .int (nI hg), .int (nI bg)])), (m1, .inl (cI, 118, .inl (ro 118 s))), (m2, .inl (cI, 118, .inl (ro 118 h))), (m3, .inl (cI, 708, .inl (ro 708 (pkF t)))), (m4, .inl (cI, 60, .inl (ro 60 cs))), (m5, .inl (cI, 48, .inl (ro 48 td)))] H := hP
  have hD : va_D A9 [(m0, .inr (6, [.ref m1, .ref m2, .ref m3, .int (nI k), .ref m4, .int (nI n), .int (nI 0), .int (nI ax), .int (nI fa), .int (nI vl), .ref m5, .int (nI tn), .int (nI hg), .int (nI bg)])), (m1, .inl (cI, 118, .inl (ro 118 s))), (m2, .inl (cI, 118, .inl (ro 118 h))), (m3, .inl (cI, 708, .inl (ro 708 (pkF t)))), (m4, .inl (cI, 60, .inl (ro 60 cs))), (m5, .inl (cI, 48, .inl (ro 48 td)))] := hD
  refine lv_iload_n hx hb dX6_refusal_5 rfl (lv_at hl 2 rfl) ?_
  refine KM.callS (As := [.int v2]) (rest := []) C0 hN (k_X6_isJet l D cI cS cL v2  ) (va_cwS 1 hts gX6_refusal_X6_isJet rfl rfl rfl (by decide +kernel) ⟨Nat.le_of_ble_eq_true rfl, Nat.le_of_ble_eq_true rfl⟩) hK hP hD hS hA [] rfl (by decide) (fun _ => rfl) rfl hl.1 rfl (Nat.le_of_ble_eq_true rfl) dX6_refusal_6 ⟨Nat.le_of_ble_eq_true rfl, Nat.le_of_ble_eq_true rfl⟩ (fun v9 u9 H locs hv hP hD hS => ?_)
  subst hv
  have hP : va_P D vwCl [(m0, .inr (6, [.ref m1, .ref m2, .ref m3, .int (nI k), .ref m4, .int (nI n), .int (nI 0), .int (nI ax), .int (nI fa), .int (nI vl), .ref m5, .int (nI tn), .int (nI hg), .int (nI bg)])), (m1, .inl (cI, 118, .inl (ro 118 s))), (m2, .inl (cI, 118, .inl (ro 118 h))), (m3, .inl (cI, 708, .inl (ro 708 (pkF t)))), (m4, .inl (cI, 60, .inl (ro 60 cs))), (m5, .inl (cI, 48, .inl (ro 48 td)))] H := hP
  have hD : va_D A9 [(m0, .inr (6, [.ref m1, .ref m2, .ref m3, .int (nI k), .ref m4, .int (nI n), .int (nI 0), .int (nI ax), .int (nI fa), .int (nI vl), .ref m5, .int (nI tn), .int (nI hg), .int (nI bg)])), (m1, .inl (cI, 118, .inl (ro 118 s))), (m2, .inl (cI, 118, .inl (ro 118 h))), (m3, .inl (cI, 708, .inl (ro 708 (pkF t)))), (m4, .inl (cI, 60, .inl (ro 60 cs))), (m5, .inl (cI, 48, .inl (ro 48 td)))] := hD
  refine W.eq (g2 := F0 m9 9 ls [.int (nI (bI (inR v2 0 7)))]) rfl ?_
  refine q_fne (tgt := 18) bI_lt hx hb dX6_refusal_9 (by decide) (fun c_9 => ?_) (fun c_9 => ?_)
  ·
    have c_9 := bI_nz c_9
    refine lv_iload_n hx hb dX6_refusal_18 rfl (lv_at hl 1 rfl) ?_
    refine KM.callS (As := [.int v1]) (rest := []) C0 hN (k_X6_isTick l D cI cS cL v1  ) (va_cwS 1 hts gX6_refusal_X6_isTick rfl rfl rfl (by decide +kernel) ⟨Nat.le_of_ble_eq_true rfl, Nat.le_of_ble_eq_true rfl⟩) hK hP hD hS hA [] rfl (by decide) (fun _ => rfl) rfl hl.1 rfl (Nat.le_of_ble_eq_true rfl) dX6_refusal_19 ⟨Nat.le_of_ble_eq_true rfl, Nat.le_of_ble_eq_true rfl⟩ (fun v9 u9 H locs hv hP hD hS => ?_)
    subst hv
    have hP : va_P D vwCl [(m0, .inr (6, [.ref m1, .ref m2, .ref m3, .int (nI k), .ref m4, .int (nI n), .int (nI 0), .int (nI ax), .int (nI fa), .int (nI vl), .ref m5, .int (nI tn), .int (nI hg), .int (nI bg)])), (m1, .inl (cI, 118, .inl (ro 118 s))), (m2, .inl (cI, 118, .inl (ro 118 h))), (m3, .inl (cI, 708, .inl (ro 708 (pkF t)))), (m4, .inl (cI, 60, .inl (ro 60 cs))), (m5, .inl (cI, 48, .inl (ro 48 td)))] H := hP
    have hD : va_D A9 [(m0, .inr (6, [.ref m1, .ref m2, .ref m3, .int (nI k), .ref m4, .int (nI n), .int (nI 0), .int (nI ax), .int (nI fa), .int (nI vl), .ref m5, .int (nI tn), .int (nI hg), .int (nI bg)])), (m1, .inl (cI, 118, .inl (ro 118 s))), (m2, .inl (cI, 118, .inl (ro 118 h))), (m3, .inl (cI, 708, .inl (ro 708 (pkF t)))), (m4, .inl (cI, 60, .inl (ro 60 cs))), (m5, .inl (cI, 48, .inl (ro 48 td)))] := hD
    refine W.eq (g2 := F0 m9 22 ls [.int (nI (bI (inR v1 0 999)))]) rfl ?_
    refine q_feq (tgt := 45) bI_lt hx hb dX6_refusal_22 (by decide) (fun c_22 => ?_) (fun c_22 => ?_)
    ·
      have c_22 := bI_z c_22
      refine lv_aload_n hx hb dX6_refusal_45 rfl (lv_at hl 0 rfl) ?_
      refine lv_iconst (v := nI 2) hx hb dX6_refusal_46 (by decide +kernel) ?_
      refine KM.callV (As := [.int (nI 2)]) (rest := []) C0 hN (k_X6_fails l D cI cS cL m0 m1 m2 m3 m4 m5 k n 0 ax fa vl tn hg bg 2  ) (cwV 1 hts gX6_refusal_X6_fails rfl rfl rfl (by decide +kernel) ⟨Nat.le_of_ble_eq_true rfl, Nat.le_of_ble_eq_true rfl⟩) hK hP hD hS hA [0] rfl (by decide) (fun _ => rfl) 0 6 rfl rfl rfl rfl hl.1 rfl (Nat.le_of_ble_eq_true rfl) dX6_refusal_47 ⟨Nat.le_of_ble_eq_true rfl, Nat.le_of_ble_eq_true rfl⟩ (fun v9 u9 H locs hv hP hD hS => ?_)
      subst hv
      have hP : va_P D vwCl [(m0, .inr (6, [.ref m1, .ref m2, .ref m3, .int (nI k), .ref m4, .int (nI n), .int (nI 2), .int (nI ax), .int (nI fa), .int (nI vl), .ref m5, .int (nI tn), .int (nI hg), .int (nI bg)])), (m1, .inl (cI, 118, .inl (ro 118 s))), (m2, .inl (cI, 118, .inl (ro 118 h))), (m3, .inl (cI, 708, .inl (ro 708 (pkF t)))), (m4, .inl (cI, 60, .inl (ro 60 cs))), (m5, .inl (cI, 48, .inl (ro 48 td)))] H := hP
      have hD : va_D A9 [(m0, .inr (6, [.ref m1, .ref m2, .ref m3, .int (nI k), .ref m4, .int (nI n), .int (nI 2), .int (nI ax), .int (nI fa), .int (nI vl), .ref m5, .int (nI tn), .int (nI hg), .int (nI bg)])), (m1, .inl (cI, 118, .inl (ro 118 s))), (m2, .inl (cI, 118, .inl (ro 118 h))), (m3, .inl (cI, 708, .inl (ro 708 (pkF t)))), (m4, .inl (cI, 60, .inl (ro 60 cs))), (m5, .inl (cI, 48, .inl (ro 48 td)))] := hD
      refine W.eq (g2 := F0 m9 50 ls [.int (nI 0)]) rfl ?_
      rw [show (if inR v2 0 7 then 2 else 1) = 2 from by (repeat' split) <;> first | rfl | (exfalso; omega)] at hret
      exact hret _ _ _ _ (some (.int (nI 0))) () 50 ls (by decide) (by decide) (by rfl) hP hD hS (ret_i dX6_refusal_50)
    ·
      have c_22 := bI_nz c_22
      refine lv_iload_n hx hb dX6_refusal_25 rfl (lv_at hl 3 rfl) ?_
      refine lv_iconst (v := nI 0) hx hb dX6_refusal_26 (by decide +kernel) ?_
      refine lv_bipush (v := nI 10) hx hb dX6_refusal_27 (by decide +kernel) ?_
      refine KM.callS (As := [.int v3, .int (nI 0), .int (nI 10)]) (rest := []) C0 hN (k_X6_in l D cI cS cL v3 0 10  (by decide) (by decide)) (va_cwS 3 hts gX6_refusal_X6_in rfl rfl rfl (by decide +kernel) ⟨Nat.le_of_ble_eq_true rfl, Nat.le_of_ble_eq_true rfl⟩) hK hP hD hS hA [] rfl (by decide) (fun _ => rfl) rfl hl.1 rfl (Nat.le_of_ble_eq_true rfl) dX6_refusal_29 ⟨Nat.le_of_ble_eq_true rfl, Nat.le_of_ble_eq_true rfl⟩ (fun v9 u9 H locs hv hP hD hS => ?_)
      subst hv
      have hP : va_P D vwCl [(m0, .inr (6, [.ref m1, .ref m2, .ref m3, .int (nI k), .ref m4, .int (nI n), .int (nI 0), .int (nI ax), .int (nI fa), .int (nI vl), .ref m5, .int (nI tn), .int (nI hg), .int (nI bg)])), (m1, .inl (cI, 118, .inl (ro 118 s))), (m2, .inl (cI, 118, .inl (ro 118 h))), (m3, .inl (cI, 708, .inl (ro 708 (pkF t)))), (m4, .inl (cI, 60, .inl (ro 60 cs))), (m5, .inl (cI, 48, .inl (ro 48 td)))] H := hP
      have hD : va_D A9 [(m0, .inr (6, [.ref m1, .ref m2, .ref m3, .int (nI k), .ref m4, .int (nI n), .int (nI 0), .int (nI ax), .int (nI fa), .int (nI vl), .ref m5, .int (nI tn), .int (nI hg), .int (nI bg)])), (m1, .inl (cI, 118, .inl (ro 118 s))), (m2, .inl (cI, 118, .inl (ro 118 h))), (m3, .inl (cI, 708, .inl (ro 708 (pkF t)))), (m4, .inl (cI, 60, .inl (ro 60 cs))), (m5, .inl (cI, 48, .inl (ro 48 td)))] := hD
      refine W.eq (g2 := F0 m9 32 ls [.int (nI (bI (inR v3 0 10)))]) rfl ?_
      refine q_feq (tgt := 45) bI_lt hx hb dX6_refusal_32 (by decide) (fun c_32 => ?_) (fun c_32 => ?_)
      ·
        have c_32 := bI_z c_32
        refine lv_aload_n hx hb dX6_refusal_45 rfl (lv_at hl 0 rfl) ?_
        refine lv_iconst (v := nI 2) hx hb dX6_refusal_46 (by decide +kernel) ?_
        refine KM.callV (As := [.int (nI 2)]) (rest := []) C0 hN (k_X6_fails l D cI cS cL m0 m1 m2 m3 m4 m5 k n 0 ax fa vl tn hg bg 2  ) (cwV 1 hts gX6_refusal_X6_fails rfl rfl rfl (by decide +kernel) ⟨Nat.le_of_ble_eq_true rfl, Nat.le_of_ble_eq_true rfl⟩) hK hP hD hS hA [0] rfl (by decide) (fun _ => rfl) 0 6 rfl rfl rfl rfl hl.1 rfl (Nat.le_of_ble_eq_true rfl) dX6_refusal_47 ⟨Nat.le_of_ble_eq_true rfl, Nat.le_of_ble_eq_true rfl⟩ (fun v9 u9 H locs hv hP hD hS => ?_)
        subst hv
        have hP : va_P D vwCl [(m0, .inr (6, [.ref m1, .ref m2, .ref m3, .int (nI k), .ref m4, .int (nI n), .int (nI 2), .int (nI ax), .int (nI fa), .int (nI vl), .ref m5, .int (nI tn), .int (nI hg), .int (nI bg)])), (m1, .inl (cI, 118, .inl (ro 118 s))), (m2, .inl (cI, 118, .inl (ro 118 h))), (m3, .inl (cI, 708, .inl (ro 708 (pkF t)))), (m4, .inl (cI, 60, .inl (ro 60 cs))), (m5, .inl (cI, 48, .inl (ro 48 td)))] H := hP
        have hD : va_D A9 [(m0, .inr (6, [.ref m1, .ref m2, .ref m3, .int (nI k), .ref m4, .int (nI n), .int (nI 2), .int (nI ax), .int (nI fa), .int (nI vl), .ref m5, .int (nI tn), .int (nI hg), .int (nI bg)])), (m1, .inl (cI, 118, .inl (ro 118 s))), (m2, .inl (cI, 118, .inl (ro 118 h))), (m3, .inl (cI, 708, .inl (ro 708 (pkF t)))), (m4, .inl (cI, 60, .inl (ro 60 cs))), (m5, .inl (cI, 48, .inl (ro 48 td)))] := hD
        refine W.eq (g2 := F0 m9 50 ls [.int (nI 0)]) rfl ?_
        rw [show (if inR v2 0 7 then 2 else 1) = 2 from by (repeat' split) <;> first | rfl | (exfalso; omega)] at hret
        exact hret _ _ _ _ (some (.int (nI 0))) () 50 ls (by decide) (by decide) (by rfl) hP hD hS (ret_i dX6_refusal_50)
      ·
        have c_32 := bI_nz c_32
        exfalso; omega
  ·
    have c_9 := bI_z c_9
    refine lv_aload_n hx hb dX6_refusal_12 rfl (lv_at hl 0 rfl) ?_
    refine lv_iconst (v := nI 1) hx hb dX6_refusal_13 (by decide +kernel) ?_
    refine KM.callV (As := [.int (nI 1)]) (rest := []) C0 hN (k_X6_fails l D cI cS cL m0 m1 m2 m3 m4 m5 k n 0 ax fa vl tn hg bg 1  ) (cwV 1 hts gX6_refusal_X6_fails rfl rfl rfl (by decide +kernel) ⟨Nat.le_of_ble_eq_true rfl, Nat.le_of_ble_eq_true rfl⟩) hK hP hD hS hA [0] rfl (by decide) (fun _ => rfl) 0 6 rfl rfl rfl rfl hl.1 rfl (Nat.le_of_ble_eq_true rfl) dX6_refusal_14 ⟨Nat.le_of_ble_eq_true rfl, Nat.le_of_ble_eq_true rfl⟩ (fun v9 u9 H locs hv hP hD hS => ?_)
    subst hv
    have hP : va_P D vwCl [(m0, .inr (6, [.ref m1, .ref m2, .ref m3, .int (nI k), .ref m4, .int (nI n), .int (nI 1), .int (nI ax), .int (nI fa), .int (nI vl), .ref m5, .int (nI tn), .int (nI hg), .int (nI bg)])), (m1, .inl (cI, 118, .inl (ro 118 s))), (m2, .inl (cI, 118, .inl (ro 118 h))), (m3, .inl (cI, 708, .inl (ro 708 (pkF t)))), (m4, .inl (cI, 60, .inl (ro 60 cs))), (m5, .inl (cI, 48, .inl (ro 48 td)))] H := hP
    have hD : va_D A9 [(m0, .inr (6, [.ref m1, .ref m2, .ref m3, .int (nI k), .ref m4, .int (nI n), .int (nI 1), .int (nI ax), .int (nI fa), .int (nI vl), .ref m5, .int (nI tn), .int (nI hg), .int (nI bg)])), (m1, .inl (cI, 118, .inl (ro 118 s))), (m2, .inl (cI, 118, .inl (ro 118 h))), (m3, .inl (cI, 708, .inl (ro 708 (pkF t)))), (m4, .inl (cI, 60, .inl (ro 60 cs))), (m5, .inl (cI, 48, .inl (ro 48 td)))] := hD
    refine W.eq (g2 := F0 m9 17 ls [.int (nI 0)]) rfl ?_
    rw [show (if inR v2 0 7 then 2 else 1) = 1 from by (repeat' split) <;> first | rfl | (exfalso; omega)] at hret
    exact hret _ _ _ _ (some (.int (nI 0))) () 17 ls (by decide) (by decide) (by rfl) hP hD hS (ret_i dX6_refusal_17)

theorem in_X6_mostAim_bad_X6 : ∀ w ∈ wsX60, w ∈ wsX6_mostAim := by decide +kernel
theorem fl_X6_mostAim_bad_25 : Cond.fieldLink RX6 25 "FountainCuesModel" "thrown" "I" ∈ wsX6_mostAim := by decide +kernel
set_option maxHeartbeats 4000000 in
set_option maxRecDepth 100000 in
theorem k_X6_mostAim_bad (l : Launch) (D : va_G) (cI cS cL : ClassId) (T : Nat) (m0 : Nat) (m1 : Nat) (m2 : Nat) (m3 : Nat) (m4 : Nat) (m5 : Nat) (k : Nat) (n : Nat) (th : Nat) (ax : Nat) (fa : Nat) (vl : Nat) (tn : Nat) (hg : Nat) (bg : Nat) (s : Nat → Nat) (h : Nat → Nat) (t : Nat → Nat → Nat) (cs : Nat → Nat) (td : Nat → Nat) (v1 : Int32) (v2 : Int32) (hI : sI T s) (hT : T ≤ 900000) (hk : k ≤ 6) (hn : n ≤ 60) (hcs : ∀ j, j < n → cs j < 2 ^ 31) (hbad : ¬ (inR v2 0 7 ∧ inR v1 0 999)) : KM l D (TY cI cS cL) yX6_mostAim wsX6_mostAim ({ frames := 2, cells := 0, slots := 0, locals := 42 } : Room) [(m0, .inr (6, [.ref m1, .ref m2, .ref m3, .int (nI k), .ref m4, .int (nI n), .int (nI th), .int (nI ax), .int (nI fa), .int (nI vl), .ref m5, .int (nI tn), .int (nI hg), .int (nI bg)])), (m1, .inl (cI, 118, .inl (ro 118 s))), (m2, .inl (cI, 118, .inl (ro 118 h))), (m3, .inl (cI, 708, .inl (ro 708 (pkF t)))), (m4, .inl (cI, 60, .inl (ro 60 cs))), (m5, .inl (cI, 48, .inl (ro 48 td)))] [.ref m0, .int v1, .int v2] (fun (v : Option Value) (_ : Unit) => v = some (.int (nI 0))) (fun _ : Unit => [(m0, .inr (6, [.ref m1, .ref m2, .ref m3, .int (nI k), .ref m4, .int (nI n), .int (nI (if inR v2 0 7 then 2 else 1)), .int (nI ax), .int (nI fa), .int (nI vl), .ref m5, .int (nI tn), .int (nI hg), .int (nI bg)])), (m1, .inl (cI, 118, .inl (ro 118 s))), (m2, .inl (cI, 118, .inl (ro 118 h))), (m3, .inl (cI, 708, .inl (ro 708 (pkF t)))), (m4, .inl (cI, 60, .inl (ro 60 cs))), (m5, .inl (cI, 48, .inl (ro 48 td)))]) := by
  refine KM.of (cc := cX6_mostAim) (maxL := 3) (ret := (some .int)) (by decide) rfl (Nat.le_of_ble_eq_true rfl) ?_
  intro p9 e9 s9 m9 ar9 be9 me9 c9 Q9 A9 ls C0 hN hnm hlk hK hA hret hP hD hS hl
  obtain ⟨hx, hb, hml, hown, hts⟩ := id C0
  have hl : lv_has ls 3 [(0, .ref m0), (1, .int v1), (2, .int v2)] := hl
  obtain ⟨H, hH0⟩ : ∃ H, H = s9.heap := ⟨_, rfl⟩
  obtain ⟨locs, hlc0⟩ : ∃ z : List Loc, z = [] := ⟨_, rfl⟩
  have hP : va_P D vwCl [(m0, .inr (6, [.ref m1, .ref m2, .ref m3, .int (nI k), .ref m4, .int (nI n), .int (nI th), .int (nI ax), .int (nI fa), .int (nI vl), .ref m5, .int (nI tn), .int (nI hg), .int (nI bg)])), (m1, .inl (cI, 118, .inl (ro 118 s))), (m2, .inl (cI, 118, .inl (ro 118 h))), (m3, .inl (cI, 708, .inl (ro 708 (pkF t)))), (m4, .inl (cI, 60, .inl (ro 60 cs))), (m5, .inl (cI, 48, .inl (ro 48 td)))] H := by rw [hH0]; exact hP
  have hD : va_D A9 [(m0, .inr (6, [.ref m1, .ref m2, .ref m3, .int (nI k), .ref m4, .int (nI n), .int (nI th), .int (nI ax), .int (nI fa), .int (nI vl), .ref m5, .int (nI tn), .int (nI hg), .int (nI bg)])), (m1, .inl (cI, 118, .inl (ro 118 s))), (m2, .inl (cI, 118, .inl (ro 118 h))), (m3, .inl (cI, 708, .inl (ro 708 (pkF t)))), (m4, .inl (cI, 60, .inl (ro 60 cs))), (m5, .inl (cI, 48, .inl (ro 48 td)))] := hD
  have hS : va_S A9 s9.heap H locs := by rw [hH0, hlc0]; exact hS
  suffices hgo : W p9 l e9 ({ frames := 2, cells := 0, slots := 0, locals := 42 } : Room) s9 m9 ar9 be9 me9 c9 H locs 0 0 Q9 (F0 m9 0 ls []) by rw [hH0, hlc0] at hgo; exact hgo
  clear hH0 hlc0
  obtain ⟨hI1, hI2, hI3, hI4, hI5, hI6, hI7, hI8, hI9, hI10, hI11⟩ := id hI
  refine lv_aload_n hx hb dX6_mostAim_0 rfl (lv_at hl 0 rfl) ?_
  refine lv_iconst (v := nI 0) hx hb dX6_mostAim_1 (by decide +kernel) ?_
  refine va_put (D := D) (ci := 6) (v := .int (nI 0)) (ty := tyX6 6) (C := RX6) (T := TX6) (N := 14) hx hb hts in_X6_mostAim_bad_X6 tyX6 tyX6_ok nmX6 hown hK hP hD hS 0 rfl rfl 6 (by decide) (hts _ fl_X6_mostAim_bad_25) (fun _ h9 => h9) rfl (by decide +kernel) rfl rfl (Nat.le_of_ble_eq_true rfl) dX6_mostAim_2 (fun H locs hP hD hS => ?_)
  have hP : va_P D vwCl [(m0, .inr (6, [.ref m1, .ref m2, .ref m3, .int (nI k), .ref m4, .int (nI n), .int (nI 0), .int (nI ax), .int (nI fa), .int (nI vl), .ref m5, .int (nI tn), .int (nI hg), .int (nI bg)])), (m1, .inl (cI, 118, .inl (ro 118 s))), (m2, .inl (cI, 118, .inl (ro 118 h))), (m3, .inl (cI, 708, .inl (ro 708 (pkF t)))), (m4, .inl (cI, 60, .inl (ro 60 cs))), (m5, .inl (cI, 48, .inl (ro 48 td)))] H := hP
  have hD : va_D A9 [(m0, .inr (6, [.ref m1, .ref m2, .ref m3, .int (nI k), .ref m4, .int (nI n), .int (nI 0), .int (nI ax), .int (nI fa), .int (nI vl), .ref m5, .int (nI tn), .int (nI hg), .int (nI bg)])), (m1, .inl (cI, 118, .inl (ro 118 s))), (m2, .inl (cI, 118, .inl (ro 118 h))), (m3, .inl (cI, 708, .inl (ro 708 (pkF t)))), (m4, .inl (cI, 60, .inl (ro 60 cs))), (m5, .inl (cI, 48, .inl (ro 48 td)))] := hD
  refine lv_iload_n hx hb dX6_mostAim_5 rfl (lv_at hl 2 rfl) ?_
  refine KM.callS (As := [.int v2]) (rest := []) C0 hN (k_X6_isJet l D cI cS cL v2  ) (va_cwS 1 hts gX6_mostAim_X6_isJet rfl rfl rfl (by decide +kernel) ⟨Nat.le_of_ble_eq_true rfl, Nat.le_of_ble_eq_true rfl⟩) hK hP hD hS hA [] rfl (by decide) (fun _ => rfl) rfl hl.1 rfl (Nat.le_of_ble_eq_true rfl) dX6_mostAim_6 ⟨Nat.le_of_ble_eq_true rfl, Nat.le_of_ble_eq_true rfl⟩ (fun v9 u9 H locs hv hP hD hS => ?_)
  subst hv
  have hP : va_P D vwCl [(m0, .inr (6, [.ref m1, .ref m2, .ref m3, .int (nI k), .ref m4, .int (nI n), .int (nI 0), .int (nI ax), .int (nI fa), .int (nI vl), .ref m5, .int (nI tn), .int (nI hg), .int (nI bg)])), (m1, .inl (cI, 118, .inl (ro 118 s))), (m2, .inl (cI, 118, .inl (ro 118 h))), (m3, .inl (cI, 708, .inl (ro 708 (pkF t)))), (m4, .inl (cI, 60, .inl (ro 60 cs))), (m5, .inl (cI, 48, .inl (ro 48 td)))] H := hP
  have hD : va_D A9 [(m0, .inr (6, [.ref m1, .ref m2, .ref m3, .int (nI k), .ref m4, .int (nI n), .int (nI 0), .int (nI ax), .int (nI fa), .int (nI vl), .ref m5, .int (nI tn), .int (nI hg), .int (nI bg)])), (m1, .inl (cI, 118, .inl (ro 118 s))), (m2, .inl (cI, 118, .inl (ro 118 h))), (m3, .inl (cI, 708, .inl (ro 708 (pkF t)))), (m4, .inl (cI, 60, .inl (ro 60 cs))), (m5, .inl (cI, 48, .inl (ro 48 td)))] := hD
  refine W.eq (g2 := F0 m9 9 ls [.int (nI (bI (inR v2 0 7)))]) rfl ?_
  refine q_fne (tgt := 18) bI_lt hx hb dX6_mostAim_9 (by decide) (fun c_9 => ?_) (fun c_9 => ?_)
  ·
    have c_9 := bI_nz c_9
    refine lv_iload_n hx hb dX6_mostAim_18 rfl (lv_at hl 1 rfl) ?_
    refine KM.callS (As := [.int v1]) (rest := []) C0 hN (k_X6_isTick l D cI cS cL v1  ) (va_cwS 1 hts gX6_mostAim_X6_isTick rfl rfl rfl (by decide +kernel) ⟨Nat.le_of_ble_eq_true rfl, Nat.le_of_ble_eq_true rfl⟩) hK hP hD hS hA [] rfl (by decide) (fun _ => rfl) rfl hl.1 rfl (Nat.le_of_ble_eq_true rfl) dX6_mostAim_19 ⟨Nat.le_of_ble_eq_true rfl, Nat.le_of_ble_eq_true rfl⟩ (fun v9 u9 H locs hv hP hD hS => ?_)
    subst hv
    have hP : va_P D vwCl [(m0, .inr (6, [.ref m1, .ref m2, .ref m3, .int (nI k), .ref m4, .int (nI n), .int (nI 0), .int (nI ax), .int (nI fa), .int (nI vl), .ref m5, .int (nI tn), .int (nI hg), .int (nI bg)])), (m1, .inl (cI, 118, .inl (ro 118 s))), (m2, .inl (cI, 118, .inl (ro 118 h))), (m3, .inl (cI, 708, .inl (ro 708 (pkF t)))), (m4, .inl (cI, 60, .inl (ro 60 cs))), (m5, .inl (cI, 48, .inl (ro 48 td)))] H := hP
    have hD : va_D A9 [(m0, .inr (6, [.ref m1, .ref m2, .ref m3, .int (nI k), .ref m4, .int (nI n), .int (nI 0), .int (nI ax), .int (nI fa), .int (nI vl), .ref m5, .int (nI tn), .int (nI hg), .int (nI bg)])), (m1, .inl (cI, 118, .inl (ro 118 s))), (m2, .inl (cI, 118, .inl (ro 118 h))), (m3, .inl (cI, 708, .inl (ro 708 (pkF t)))), (m4, .inl (cI, 60, .inl (ro 60 cs))), (m5, .inl (cI, 48, .inl (ro 48 td)))] := hD
    refine W.eq (g2 := F0 m9 22 ls [.int (nI (bI (inR v1 0 999)))]) rfl ?_
    refine q_feq (tgt := 34) bI_lt hx hb dX6_mostAim_22 (by decide) (fun c_22 => ?_) (fun c_22 => ?_)
    ·
      have c_22 := bI_z c_22
      refine lv_aload_n hx hb dX6_mostAim_34 rfl (lv_at hl 0 rfl) ?_
      refine lv_iconst (v := nI 2) hx hb dX6_mostAim_35 (by decide +kernel) ?_
      refine KM.callV (As := [.int (nI 2)]) (rest := []) C0 hN (k_X6_fails l D cI cS cL m0 m1 m2 m3 m4 m5 k n 0 ax fa vl tn hg bg 2  ) (cwV 1 hts gX6_mostAim_X6_fails rfl rfl rfl (by decide +kernel) ⟨Nat.le_of_ble_eq_true rfl, Nat.le_of_ble_eq_true rfl⟩) hK hP hD hS hA [0] rfl (by decide) (fun _ => rfl) 0 6 rfl rfl rfl rfl hl.1 rfl (Nat.le_of_ble_eq_true rfl) dX6_mostAim_36 ⟨Nat.le_of_ble_eq_true rfl, Nat.le_of_ble_eq_true rfl⟩ (fun v9 u9 H locs hv hP hD hS => ?_)
      subst hv
      have hP : va_P D vwCl [(m0, .inr (6, [.ref m1, .ref m2, .ref m3, .int (nI k), .ref m4, .int (nI n), .int (nI 2), .int (nI ax), .int (nI fa), .int (nI vl), .ref m5, .int (nI tn), .int (nI hg), .int (nI bg)])), (m1, .inl (cI, 118, .inl (ro 118 s))), (m2, .inl (cI, 118, .inl (ro 118 h))), (m3, .inl (cI, 708, .inl (ro 708 (pkF t)))), (m4, .inl (cI, 60, .inl (ro 60 cs))), (m5, .inl (cI, 48, .inl (ro 48 td)))] H := hP
      have hD : va_D A9 [(m0, .inr (6, [.ref m1, .ref m2, .ref m3, .int (nI k), .ref m4, .int (nI n), .int (nI 2), .int (nI ax), .int (nI fa), .int (nI vl), .ref m5, .int (nI tn), .int (nI hg), .int (nI bg)])), (m1, .inl (cI, 118, .inl (ro 118 s))), (m2, .inl (cI, 118, .inl (ro 118 h))), (m3, .inl (cI, 708, .inl (ro 708 (pkF t)))), (m4, .inl (cI, 60, .inl (ro 60 cs))), (m5, .inl (cI, 48, .inl (ro 48 td)))] := hD
      refine W.eq (g2 := F0 m9 39 ls [.int (nI 0)]) rfl ?_
      rw [show (if inR v2 0 7 then 2 else 1) = 2 from by (repeat' split) <;> first | rfl | (exfalso; omega)] at hret
      exact hret _ _ _ _ (some (.int (nI 0))) () 39 ls (by decide) (by decide) (by rfl) hP hD hS (ret_i dX6_mostAim_39)
    ·
      have c_22 := bI_nz c_22
      exfalso; omega
  ·
    have c_9 := bI_z c_9
    refine lv_aload_n hx hb dX6_mostAim_12 rfl (lv_at hl 0 rfl) ?_
    refine lv_iconst (v := nI 1) hx hb dX6_mostAim_13 (by decide +kernel) ?_
    refine KM.callV (As := [.int (nI 1)]) (rest := []) C0 hN (k_X6_fails l D cI cS cL m0 m1 m2 m3 m4 m5 k n 0 ax fa vl tn hg bg 1  ) (cwV 1 hts gX6_mostAim_X6_fails rfl rfl rfl (by decide +kernel) ⟨Nat.le_of_ble_eq_true rfl, Nat.le_of_ble_eq_true rfl⟩) hK hP hD hS hA [0] rfl (by decide) (fun _ => rfl) 0 6 rfl rfl rfl rfl hl.1 rfl (Nat.le_of_ble_eq_true rfl) dX6_mostAim_14 ⟨Nat.le_of_ble_eq_true rfl, Nat.le_of_ble_eq_true rfl⟩ (fun v9 u9 H locs hv hP hD hS => ?_)
    subst hv
    have hP : va_P D vwCl [(m0, .inr (6, [.ref m1, .ref m2, .ref m3, .int (nI k), .ref m4, .int (nI n), .int (nI 1), .int (nI ax), .int (nI fa), .int (nI vl), .ref m5, .int (nI tn), .int (nI hg), .int (nI bg)])), (m1, .inl (cI, 118, .inl (ro 118 s))), (m2, .inl (cI, 118, .inl (ro 118 h))), (m3, .inl (cI, 708, .inl (ro 708 (pkF t)))), (m4, .inl (cI, 60, .inl (ro 60 cs))), (m5, .inl (cI, 48, .inl (ro 48 td)))] H := hP
    have hD : va_D A9 [(m0, .inr (6, [.ref m1, .ref m2, .ref m3, .int (nI k), .ref m4, .int (nI n), .int (nI 1), .int (nI ax), .int (nI fa), .int (nI vl), .ref m5, .int (nI tn), .int (nI hg), .int (nI bg)])), (m1, .inl (cI, 118, .inl (ro 118 s))), (m2, .inl (cI, 118, .inl (ro 118 h))), (m3, .inl (cI, 708, .inl (ro 708 (pkF t)))), (m4, .inl (cI, 60, .inl (ro 60 cs))), (m5, .inl (cI, 48, .inl (ro 48 td)))] := hD
    refine W.eq (g2 := F0 m9 17 ls [.int (nI 0)]) rfl ?_
    rw [show (if inR v2 0 7 then 2 else 1) = 1 from by (repeat' split) <;> first | rfl | (exfalso; omega)] at hret
    exact hret _ _ _ _ (some (.int (nI 0))) () 17 ls (by decide) (by decide) (by rfl) hP hD hS (ret_i dX6_mostAim_17)

theorem in_X6_fits_bad_X6 : ∀ w ∈ wsX60, w ∈ wsX6_fits := by decide +kernel
theorem fl_X6_fits_bad_25 : Cond.fieldLink RX6 25 "FountainCuesModel" "thrown" "I" ∈ wsX6_fits := by decide +kernel
set_option maxHeartbeats 4000000 in
set_option maxRecDepth 100000 in
theorem k_X6_fits_bad (l : Launch) (D : va_G) (cI cS cL : ClassId) (T : Nat) (m0 : Nat) (m1 : Nat) (m2 : Nat) (m3 : Nat) (m4 : Nat) (m5 : Nat) (k : Nat) (n : Nat) (th : Nat) (ax : Nat) (fa : Nat) (vl : Nat) (tn : Nat) (hg : Nat) (bg : Nat) (s : Nat → Nat) (h : Nat → Nat) (t : Nat → Nat → Nat) (cs : Nat → Nat) (td : Nat → Nat) (v1 : Int32) (v2 : Int32) (v3 : Int32) (hI : sI T s) (hT : T ≤ 900000) (hk : k ≤ 6) (hn : n ≤ 60) (hcs : ∀ j, j < n → cs j < 2 ^ 31) (hbad : ¬ (inR v2 0 7 ∧ inR v1 0 999 ∧ inR v3 0 10)) : KM l D (TY cI cS cL) yX6_fits wsX6_fits ({ frames := 2, cells := 0, slots := 0, locals := 42 } : Room) [(m0, .inr (6, [.ref m1, .ref m2, .ref m3, .int (nI k), .ref m4, .int (nI n), .int (nI th), .int (nI ax), .int (nI fa), .int (nI vl), .ref m5, .int (nI tn), .int (nI hg), .int (nI bg)])), (m1, .inl (cI, 118, .inl (ro 118 s))), (m2, .inl (cI, 118, .inl (ro 118 h))), (m3, .inl (cI, 708, .inl (ro 708 (pkF t)))), (m4, .inl (cI, 60, .inl (ro 60 cs))), (m5, .inl (cI, 48, .inl (ro 48 td)))] [.ref m0, .int v1, .int v2, .int v3] (fun (v : Option Value) (_ : Unit) => v = some (.int (nI 0))) (fun _ : Unit => [(m0, .inr (6, [.ref m1, .ref m2, .ref m3, .int (nI k), .ref m4, .int (nI n), .int (nI (if inR v2 0 7 then 2 else 1)), .int (nI ax), .int (nI fa), .int (nI vl), .ref m5, .int (nI tn), .int (nI hg), .int (nI bg)])), (m1, .inl (cI, 118, .inl (ro 118 s))), (m2, .inl (cI, 118, .inl (ro 118 h))), (m3, .inl (cI, 708, .inl (ro 708 (pkF t)))), (m4, .inl (cI, 60, .inl (ro 60 cs))), (m5, .inl (cI, 48, .inl (ro 48 td)))]) := by
  refine KM.of (cc := cX6_fits) (maxL := 4) (ret := (some .int)) (by decide) rfl (Nat.le_of_ble_eq_true rfl) ?_
  intro p9 e9 s9 m9 ar9 be9 me9 c9 Q9 A9 ls C0 hN hnm hlk hK hA hret hP hD hS hl
  obtain ⟨hx, hb, hml, hown, hts⟩ := id C0
  have hl : lv_has ls 4 [(0, .ref m0), (1, .int v1), (2, .int v2), (3, .int v3)] := hl
  obtain ⟨H, hH0⟩ : ∃ H, H = s9.heap := ⟨_, rfl⟩
  obtain ⟨locs, hlc0⟩ : ∃ z : List Loc, z = [] := ⟨_, rfl⟩
  have hP : va_P D vwCl [(m0, .inr (6, [.ref m1, .ref m2, .ref m3, .int (nI k), .ref m4, .int (nI n), .int (nI th), .int (nI ax), .int (nI fa), .int (nI vl), .ref m5, .int (nI tn), .int (nI hg), .int (nI bg)])), (m1, .inl (cI, 118, .inl (ro 118 s))), (m2, .inl (cI, 118, .inl (ro 118 h))), (m3, .inl (cI, 708, .inl (ro 708 (pkF t)))), (m4, .inl (cI, 60, .inl (ro 60 cs))), (m5, .inl (cI, 48, .inl (ro 48 td)))] H := by rw [hH0]; exact hP
  have hD : va_D A9 [(m0, .inr (6, [.ref m1, .ref m2, .ref m3, .int (nI k), .ref m4, .int (nI n), .int (nI th), .int (nI ax), .int (nI fa), .int (nI vl), .ref m5, .int (nI tn), .int (nI hg), .int (nI bg)])), (m1, .inl (cI, 118, .inl (ro 118 s))), (m2, .inl (cI, 118, .inl (ro 118 h))), (m3, .inl (cI, 708, .inl (ro 708 (pkF t)))), (m4, .inl (cI, 60, .inl (ro 60 cs))), (m5, .inl (cI, 48, .inl (ro 48 td)))] := hD
  have hS : va_S A9 s9.heap H locs := by rw [hH0, hlc0]; exact hS
  suffices hgo : W p9 l e9 ({ frames := 2, cells := 0, slots := 0, locals := 42 } : Room) s9 m9 ar9 be9 me9 c9 H locs 0 0 Q9 (F0 m9 0 ls []) by rw [hH0, hlc0] at hgo; exact hgo
  clear hH0 hlc0
  obtain ⟨hI1, hI2, hI3, hI4, hI5, hI6, hI7, hI8, hI9, hI10, hI11⟩ := id hI
  refine lv_aload_n hx hb dX6_fits_0 rfl (lv_at hl 0 rfl) ?_
  refine lv_iconst (v := nI 0) hx hb dX6_fits_1 (by decide +kernel) ?_
  refine va_put (D := D) (ci := 6) (v := .int (nI 0)) (ty := tyX6 6) (C := RX6) (T := TX6) (N := 14) hx hb hts in_X6_fits_bad_X6 tyX6 tyX6_ok nmX6 hown hK hP hD hS 0 rfl rfl 6 (by decide) (hts _ fl_X6_fits_bad_25) (fun _ h9 => h9) rfl (by decide +kernel) rfl rfl (Nat.le_of_ble_eq_true rfl) dX6_fits_2 (fun H locs hP hD hS => ?_)
  have hP : va_P D vwCl [(m0, .inr (6, [.ref m1, .ref m2, .ref m3, .int (nI k), .ref m4, .int (nI n), .int (nI 0), .int (nI ax), .int (nI fa), .int (nI vl), .ref m5, .int (nI tn), .int (nI hg), .int (nI bg)])), (m1, .inl (cI, 118, .inl (ro 118 s))), (m2, .inl (cI, 118, .inl (ro 118 h))), (m3, .inl (cI, 708, .inl (ro 708 (pkF t)))), (m4, .inl (cI, 60, .inl (ro 60 cs))), (m5, .inl (cI, 48, .inl (ro 48 td)))] H := hP
  have hD : va_D A9 [(m0, .inr (6, [.ref m1, .ref m2, .ref m3, .int (nI k), .ref m4, .int (nI n), .int (nI 0), .int (nI ax), .int (nI fa), .int (nI vl), .ref m5, .int (nI tn), .int (nI hg), .int (nI bg)])), (m1, .inl (cI, 118, .inl (ro 118 s))), (m2, .inl (cI, 118, .inl (ro 118 h))), (m3, .inl (cI, 708, .inl (ro 708 (pkF t)))), (m4, .inl (cI, 60, .inl (ro 60 cs))), (m5, .inl (cI, 48, .inl (ro 48 td)))] := hD
  refine lv_iload_n hx hb dX6_fits_5 rfl (lv_at hl 2 rfl) ?_
  refine KM.callS (As := [.int v2]) (rest := []) C0 hN (k_X6_isJet l D cI cS cL v2  ) (va_cwS 1 hts gX6_fits_X6_isJet rfl rfl rfl (by decide +kernel) ⟨Nat.le_of_ble_eq_true rfl, Nat.le_of_ble_eq_true rfl⟩) hK hP hD hS hA [] rfl (by decide) (fun _ => rfl) rfl hl.1 rfl (Nat.le_of_ble_eq_true rfl) dX6_fits_6 ⟨Nat.le_of_ble_eq_true rfl, Nat.le_of_ble_eq_true rfl⟩ (fun v9 u9 H locs hv hP hD hS => ?_)
  subst hv
  have hP : va_P D vwCl [(m0, .inr (6, [.ref m1, .ref m2, .ref m3, .int (nI k), .ref m4, .int (nI n), .int (nI 0), .int (nI ax), .int (nI fa), .int (nI vl), .ref m5, .int (nI tn), .int (nI hg), .int (nI bg)])), (m1, .inl (cI, 118, .inl (ro 118 s))), (m2, .inl (cI, 118, .inl (ro 118 h))), (m3, .inl (cI, 708, .inl (ro 708 (pkF t)))), (m4, .inl (cI, 60, .inl (ro 60 cs))), (m5, .inl (cI, 48, .inl (ro 48 td)))] H := hP
  have hD : va_D A9 [(m0, .inr (6, [.ref m1, .ref m2, .ref m3, .int (nI k), .ref m4, .int (nI n), .int (nI 0), .int (nI ax), .int (nI fa), .int (nI vl), .ref m5, .int (nI tn), .int (nI hg), .int (nI bg)])), (m1, .inl (cI, 118, .inl (ro 118 s))), (m2, .inl (cI, 118, .inl (ro 118 h))), (m3, .inl (cI, 708, .inl (ro 708 (pkF t)))), (m4, .inl (cI, 60, .inl (ro 60 cs))), (m5, .inl (cI, 48, .inl (ro 48 td)))] := hD
  refine W.eq (g2 := F0 m9 9 ls [.int (nI (bI (inR v2 0 7)))]) rfl ?_
  refine q_fne (tgt := 18) bI_lt hx hb dX6_fits_9 (by decide) (fun c_9 => ?_) (fun c_9 => ?_)
  ·
    have c_9 := bI_nz c_9
    refine lv_iload_n hx hb dX6_fits_18 rfl (lv_at hl 1 rfl) ?_
    refine KM.callS (As := [.int v1]) (rest := []) C0 hN (k_X6_isTick l D cI cS cL v1  ) (va_cwS 1 hts gX6_fits_X6_isTick rfl rfl rfl (by decide +kernel) ⟨Nat.le_of_ble_eq_true rfl, Nat.le_of_ble_eq_true rfl⟩) hK hP hD hS hA [] rfl (by decide) (fun _ => rfl) rfl hl.1 rfl (Nat.le_of_ble_eq_true rfl) dX6_fits_19 ⟨Nat.le_of_ble_eq_true rfl, Nat.le_of_ble_eq_true rfl⟩ (fun v9 u9 H locs hv hP hD hS => ?_)
    subst hv
    have hP : va_P D vwCl [(m0, .inr (6, [.ref m1, .ref m2, .ref m3, .int (nI k), .ref m4, .int (nI n), .int (nI 0), .int (nI ax), .int (nI fa), .int (nI vl), .ref m5, .int (nI tn), .int (nI hg), .int (nI bg)])), (m1, .inl (cI, 118, .inl (ro 118 s))), (m2, .inl (cI, 118, .inl (ro 118 h))), (m3, .inl (cI, 708, .inl (ro 708 (pkF t)))), (m4, .inl (cI, 60, .inl (ro 60 cs))), (m5, .inl (cI, 48, .inl (ro 48 td)))] H := hP
    have hD : va_D A9 [(m0, .inr (6, [.ref m1, .ref m2, .ref m3, .int (nI k), .ref m4, .int (nI n), .int (nI 0), .int (nI ax), .int (nI fa), .int (nI vl), .ref m5, .int (nI tn), .int (nI hg), .int (nI bg)])), (m1, .inl (cI, 118, .inl (ro 118 s))), (m2, .inl (cI, 118, .inl (ro 118 h))), (m3, .inl (cI, 708, .inl (ro 708 (pkF t)))), (m4, .inl (cI, 60, .inl (ro 60 cs))), (m5, .inl (cI, 48, .inl (ro 48 td)))] := hD
    refine W.eq (g2 := F0 m9 22 ls [.int (nI (bI (inR v1 0 999)))]) rfl ?_
    refine q_feq (tgt := 45) bI_lt hx hb dX6_fits_22 (by decide) (fun c_22 => ?_) (fun c_22 => ?_)
    ·
      have c_22 := bI_z c_22
      refine lv_aload_n hx hb dX6_fits_45 rfl (lv_at hl 0 rfl) ?_
      refine lv_iconst (v := nI 2) hx hb dX6_fits_46 (by decide +kernel) ?_
      refine KM.callV (As := [.int (nI 2)]) (rest := []) C0 hN (k_X6_fails l D cI cS cL m0 m1 m2 m3 m4 m5 k n 0 ax fa vl tn hg bg 2  ) (cwV 1 hts gX6_fits_X6_fails rfl rfl rfl (by decide +kernel) ⟨Nat.le_of_ble_eq_true rfl, Nat.le_of_ble_eq_true rfl⟩) hK hP hD hS hA [0] rfl (by decide) (fun _ => rfl) 0 6 rfl rfl rfl rfl hl.1 rfl (Nat.le_of_ble_eq_true rfl) dX6_fits_47 ⟨Nat.le_of_ble_eq_true rfl, Nat.le_of_ble_eq_true rfl⟩ (fun v9 u9 H locs hv hP hD hS => ?_)
      subst hv
      have hP : va_P D vwCl [(m0, .inr (6, [.ref m1, .ref m2, .ref m3, .int (nI k), .ref m4, .int (nI n), .int (nI 2), .int (nI ax), .int (nI fa), .int (nI vl), .ref m5, .int (nI tn), .int (nI hg), .int (nI bg)])), (m1, .inl (cI, 118, .inl (ro 118 s))), (m2, .inl (cI, 118, .inl (ro 118 h))), (m3, .inl (cI, 708, .inl (ro 708 (pkF t)))), (m4, .inl (cI, 60, .inl (ro 60 cs))), (m5, .inl (cI, 48, .inl (ro 48 td)))] H := hP
      have hD : va_D A9 [(m0, .inr (6, [.ref m1, .ref m2, .ref m3, .int (nI k), .ref m4, .int (nI n), .int (nI 2), .int (nI ax), .int (nI fa), .int (nI vl), .ref m5, .int (nI tn), .int (nI hg), .int (nI bg)])), (m1, .inl (cI, 118, .inl (ro 118 s))), (m2, .inl (cI, 118, .inl (ro 118 h))), (m3, .inl (cI, 708, .inl (ro 708 (pkF t)))), (m4, .inl (cI, 60, .inl (ro 60 cs))), (m5, .inl (cI, 48, .inl (ro 48 td)))] := hD
      refine W.eq (g2 := F0 m9 50 ls [.int (nI 0)]) rfl ?_
      rw [show (if inR v2 0 7 then 2 else 1) = 2 from by (repeat' split) <;> first | rfl | (exfalso; omega)] at hret
      exact hret _ _ _ _ (some (.int (nI 0))) () 50 ls (by decide) (by decide) (by rfl) hP hD hS (ret_i dX6_fits_50)
    ·
      have c_22 := bI_nz c_22
      refine lv_iload_n hx hb dX6_fits_25 rfl (lv_at hl 3 rfl) ?_
      refine lv_iconst (v := nI 0) hx hb dX6_fits_26 (by decide +kernel) ?_
      refine lv_bipush (v := nI 10) hx hb dX6_fits_27 (by decide +kernel) ?_
      refine KM.callS (As := [.int v3, .int (nI 0), .int (nI 10)]) (rest := []) C0 hN (k_X6_in l D cI cS cL v3 0 10  (by decide) (by decide)) (va_cwS 3 hts gX6_fits_X6_in rfl rfl rfl (by decide +kernel) ⟨Nat.le_of_ble_eq_true rfl, Nat.le_of_ble_eq_true rfl⟩) hK hP hD hS hA [] rfl (by decide) (fun _ => rfl) rfl hl.1 rfl (Nat.le_of_ble_eq_true rfl) dX6_fits_29 ⟨Nat.le_of_ble_eq_true rfl, Nat.le_of_ble_eq_true rfl⟩ (fun v9 u9 H locs hv hP hD hS => ?_)
      subst hv
      have hP : va_P D vwCl [(m0, .inr (6, [.ref m1, .ref m2, .ref m3, .int (nI k), .ref m4, .int (nI n), .int (nI 0), .int (nI ax), .int (nI fa), .int (nI vl), .ref m5, .int (nI tn), .int (nI hg), .int (nI bg)])), (m1, .inl (cI, 118, .inl (ro 118 s))), (m2, .inl (cI, 118, .inl (ro 118 h))), (m3, .inl (cI, 708, .inl (ro 708 (pkF t)))), (m4, .inl (cI, 60, .inl (ro 60 cs))), (m5, .inl (cI, 48, .inl (ro 48 td)))] H := hP
      have hD : va_D A9 [(m0, .inr (6, [.ref m1, .ref m2, .ref m3, .int (nI k), .ref m4, .int (nI n), .int (nI 0), .int (nI ax), .int (nI fa), .int (nI vl), .ref m5, .int (nI tn), .int (nI hg), .int (nI bg)])), (m1, .inl (cI, 118, .inl (ro 118 s))), (m2, .inl (cI, 118, .inl (ro 118 h))), (m3, .inl (cI, 708, .inl (ro 708 (pkF t)))), (m4, .inl (cI, 60, .inl (ro 60 cs))), (m5, .inl (cI, 48, .inl (ro 48 td)))] := hD
      refine W.eq (g2 := F0 m9 32 ls [.int (nI (bI (inR v3 0 10)))]) rfl ?_
      refine q_feq (tgt := 45) bI_lt hx hb dX6_fits_32 (by decide) (fun c_32 => ?_) (fun c_32 => ?_)
      ·
        have c_32 := bI_z c_32
        refine lv_aload_n hx hb dX6_fits_45 rfl (lv_at hl 0 rfl) ?_
        refine lv_iconst (v := nI 2) hx hb dX6_fits_46 (by decide +kernel) ?_
        refine KM.callV (As := [.int (nI 2)]) (rest := []) C0 hN (k_X6_fails l D cI cS cL m0 m1 m2 m3 m4 m5 k n 0 ax fa vl tn hg bg 2  ) (cwV 1 hts gX6_fits_X6_fails rfl rfl rfl (by decide +kernel) ⟨Nat.le_of_ble_eq_true rfl, Nat.le_of_ble_eq_true rfl⟩) hK hP hD hS hA [0] rfl (by decide) (fun _ => rfl) 0 6 rfl rfl rfl rfl hl.1 rfl (Nat.le_of_ble_eq_true rfl) dX6_fits_47 ⟨Nat.le_of_ble_eq_true rfl, Nat.le_of_ble_eq_true rfl⟩ (fun v9 u9 H locs hv hP hD hS => ?_)
        subst hv
        have hP : va_P D vwCl [(m0, .inr (6, [.ref m1, .ref m2, .ref m3, .int (nI k), .ref m4, .int (nI n), .int (nI 2), .int (nI ax), .int (nI fa), .int (nI vl), .ref m5, .int (nI tn), .int (nI hg), .int (nI bg)])), (m1, .inl (cI, 118, .inl (ro 118 s))), (m2, .inl (cI, 118, .inl (ro 118 h))), (m3, .inl (cI, 708, .inl (ro 708 (pkF t)))), (m4, .inl (cI, 60, .inl (ro 60 cs))), (m5, .inl (cI, 48, .inl (ro 48 td)))] H := hP
        have hD : va_D A9 [(m0, .inr (6, [.ref m1, .ref m2, .ref m3, .int (nI k), .ref m4, .int (nI n), .int (nI 2), .int (nI ax), .int (nI fa), .int (nI vl), .ref m5, .int (nI tn), .int (nI hg), .int (nI bg)])), (m1, .inl (cI, 118, .inl (ro 118 s))), (m2, .inl (cI, 118, .inl (ro 118 h))), (m3, .inl (cI, 708, .inl (ro 708 (pkF t)))), (m4, .inl (cI, 60, .inl (ro 60 cs))), (m5, .inl (cI, 48, .inl (ro 48 td)))] := hD
        refine W.eq (g2 := F0 m9 50 ls [.int (nI 0)]) rfl ?_
        rw [show (if inR v2 0 7 then 2 else 1) = 2 from by (repeat' split) <;> first | rfl | (exfalso; omega)] at hret
        exact hret _ _ _ _ (some (.int (nI 0))) () 50 ls (by decide) (by decide) (by rfl) hP hD hS (ret_i dX6_fits_50)
      ·
        have c_32 := bI_nz c_32
        exfalso; omega
  ·
    have c_9 := bI_z c_9
    refine lv_aload_n hx hb dX6_fits_12 rfl (lv_at hl 0 rfl) ?_
    refine lv_iconst (v := nI 1) hx hb dX6_fits_13 (by decide +kernel) ?_
    refine KM.callV (As := [.int (nI 1)]) (rest := []) C0 hN (k_X6_fails l D cI cS cL m0 m1 m2 m3 m4 m5 k n 0 ax fa vl tn hg bg 1  ) (cwV 1 hts gX6_fits_X6_fails rfl rfl rfl (by decide +kernel) ⟨Nat.le_of_ble_eq_true rfl, Nat.le_of_ble_eq_true rfl⟩) hK hP hD hS hA [0] rfl (by decide) (fun _ => rfl) 0 6 rfl rfl rfl rfl hl.1 rfl (Nat.le_of_ble_eq_true rfl) dX6_fits_14 ⟨Nat.le_of_ble_eq_true rfl, Nat.le_of_ble_eq_true rfl⟩ (fun v9 u9 H locs hv hP hD hS => ?_)
    subst hv
    have hP : va_P D vwCl [(m0, .inr (6, [.ref m1, .ref m2, .ref m3, .int (nI k), .ref m4, .int (nI n), .int (nI 1), .int (nI ax), .int (nI fa), .int (nI vl), .ref m5, .int (nI tn), .int (nI hg), .int (nI bg)])), (m1, .inl (cI, 118, .inl (ro 118 s))), (m2, .inl (cI, 118, .inl (ro 118 h))), (m3, .inl (cI, 708, .inl (ro 708 (pkF t)))), (m4, .inl (cI, 60, .inl (ro 60 cs))), (m5, .inl (cI, 48, .inl (ro 48 td)))] H := hP
    have hD : va_D A9 [(m0, .inr (6, [.ref m1, .ref m2, .ref m3, .int (nI k), .ref m4, .int (nI n), .int (nI 1), .int (nI ax), .int (nI fa), .int (nI vl), .ref m5, .int (nI tn), .int (nI hg), .int (nI bg)])), (m1, .inl (cI, 118, .inl (ro 118 s))), (m2, .inl (cI, 118, .inl (ro 118 h))), (m3, .inl (cI, 708, .inl (ro 708 (pkF t)))), (m4, .inl (cI, 60, .inl (ro 60 cs))), (m5, .inl (cI, 48, .inl (ro 48 td)))] := hD
    refine W.eq (g2 := F0 m9 17 ls [.int (nI 0)]) rfl ?_
    rw [show (if inR v2 0 7 then 2 else 1) = 1 from by (repeat' split) <;> first | rfl | (exfalso; omega)] at hret
    exact hret _ _ _ _ (some (.int (nI 0))) () 17 ls (by decide) (by decide) (by rfl) hP hD hS (ret_i dX6_fits_17)

theorem in_X6_fill_bad_X6 : ∀ w ∈ wsX60, w ∈ wsX6_fill := by decide +kernel
theorem fl_X6_fill_bad_25 : Cond.fieldLink RX6 25 "FountainCuesModel" "thrown" "I" ∈ wsX6_fill := by decide +kernel
theorem fl_X6_fill_bad_7 : Cond.fieldLink RX6 7 "FountainCuesModel" "now" "[I" ∈ wsX6_fill := by decide +kernel
set_option maxHeartbeats 4000000 in
set_option maxRecDepth 100000 in
theorem k_X6_fill_bad (l : Launch) (D : va_G) (cI cS cL : ClassId) (T : Nat) (m0 : Nat) (m1 : Nat) (m2 : Nat) (m3 : Nat) (m4 : Nat) (m5 : Nat) (k : Nat) (n : Nat) (th : Nat) (ax : Nat) (fa : Nat) (vl : Nat) (tn : Nat) (hg : Nat) (bg : Nat) (s : Nat → Nat) (h : Nat → Nat) (t : Nat → Nat → Nat) (cs : Nat → Nat) (td : Nat → Nat) (v1 : Int32) (hI : sI T s) (hT : T ≤ 900000) (hk : k ≤ 6) (hn : n ≤ 60) (hcs : ∀ j, j < n → cs j < 2 ^ 31) (hbad : ¬ (inR v1 1 9999 ∧ s 6 + iN v1 ≤ 99999)) : KM l D (TY cI cS cL) yX6_fill wsX6_fill ({ frames := 1, cells := 0, slots := 0, locals := 22 } : Room) [(m0, .inr (6, [.ref m1, .ref m2, .ref m3, .int (nI k), .ref m4, .int (nI n), .int (nI th), .int (nI ax), .int (nI fa), .int (nI vl), .ref m5, .int (nI tn), .int (nI hg), .int (nI bg)])), (m1, .inl (cI, 118, .inl (ro 118 s))), (m2, .inl (cI, 118, .inl (ro 118 h))), (m3, .inl (cI, 708, .inl (ro 708 (pkF t)))), (m4, .inl (cI, 60, .inl (ro 60 cs))), (m5, .inl (cI, 48, .inl (ro 48 td)))] [.ref m0, .int v1] (fun (v : Option Value) (_ : Unit) => v = some (.int (nI 0))) (fun _ : Unit => [(m0, .inr (6, [.ref m1, .ref m2, .ref m3, .int (nI k), .ref m4, .int (nI n), .int (nI (if inR v1 1 9999 then 2 else 1)), .int (nI ax), .int (nI fa), .int (nI vl), .ref m5, .int (nI tn), .int (nI hg), .int (nI bg)])), (m1, .inl (cI, 118, .inl (ro 118 s))), (m2, .inl (cI, 118, .inl (ro 118 h))), (m3, .inl (cI, 708, .inl (ro 708 (pkF t)))), (m4, .inl (cI, 60, .inl (ro 60 cs))), (m5, .inl (cI, 48, .inl (ro 48 td)))]) := by
  refine KM.of (cc := cX6_fill) (maxL := 2) (ret := (some .int)) (by decide) rfl (Nat.le_of_ble_eq_true rfl) ?_
  intro p9 e9 s9 m9 ar9 be9 me9 c9 Q9 A9 ls C0 hN hnm hlk hK hA hret hP hD hS hl
  obtain ⟨hx, hb, hml, hown, hts⟩ := id C0
  have hl : lv_has ls 2 [(0, .ref m0), (1, .int v1)] := hl
  obtain ⟨H, hH0⟩ : ∃ H, H = s9.heap := ⟨_, rfl⟩
  obtain ⟨locs, hlc0⟩ : ∃ z : List Loc, z = [] := ⟨_, rfl⟩
  have hP : va_P D vwCl [(m0, .inr (6, [.ref m1, .ref m2, .ref m3, .int (nI k), .ref m4, .int (nI n), .int (nI th), .int (nI ax), .int (nI fa), .int (nI vl), .ref m5, .int (nI tn), .int (nI hg), .int (nI bg)])), (m1, .inl (cI, 118, .inl (ro 118 s))), (m2, .inl (cI, 118, .inl (ro 118 h))), (m3, .inl (cI, 708, .inl (ro 708 (pkF t)))), (m4, .inl (cI, 60, .inl (ro 60 cs))), (m5, .inl (cI, 48, .inl (ro 48 td)))] H := by rw [hH0]; exact hP
  have hD : va_D A9 [(m0, .inr (6, [.ref m1, .ref m2, .ref m3, .int (nI k), .ref m4, .int (nI n), .int (nI th), .int (nI ax), .int (nI fa), .int (nI vl), .ref m5, .int (nI tn), .int (nI hg), .int (nI bg)])), (m1, .inl (cI, 118, .inl (ro 118 s))), (m2, .inl (cI, 118, .inl (ro 118 h))), (m3, .inl (cI, 708, .inl (ro 708 (pkF t)))), (m4, .inl (cI, 60, .inl (ro 60 cs))), (m5, .inl (cI, 48, .inl (ro 48 td)))] := hD
  have hS : va_S A9 s9.heap H locs := by rw [hH0, hlc0]; exact hS
  suffices hgo : W p9 l e9 ({ frames := 1, cells := 0, slots := 0, locals := 22 } : Room) s9 m9 ar9 be9 me9 c9 H locs 0 0 Q9 (F0 m9 0 ls []) by rw [hH0, hlc0] at hgo; exact hgo
  clear hH0 hlc0
  obtain ⟨hI1, hI2, hI3, hI4, hI5, hI6, hI7, hI8, hI9, hI10, hI11⟩ := id hI
  refine lv_aload_n hx hb dX6_fill_0 rfl (lv_at hl 0 rfl) ?_
  refine lv_iconst (v := nI 0) hx hb dX6_fill_1 (by decide +kernel) ?_
  refine va_put (D := D) (ci := 6) (v := .int (nI 0)) (ty := tyX6 6) (C := RX6) (T := TX6) (N := 14) hx hb hts in_X6_fill_bad_X6 tyX6 tyX6_ok nmX6 hown hK hP hD hS 0 rfl rfl 6 (by decide) (hts _ fl_X6_fill_bad_25) (fun _ h9 => h9) rfl (by decide +kernel) rfl rfl (Nat.le_of_ble_eq_true rfl) dX6_fill_2 (fun H locs hP hD hS => ?_)
  have hP : va_P D vwCl [(m0, .inr (6, [.ref m1, .ref m2, .ref m3, .int (nI k), .ref m4, .int (nI n), .int (nI 0), .int (nI ax), .int (nI fa), .int (nI vl), .ref m5, .int (nI tn), .int (nI hg), .int (nI bg)])), (m1, .inl (cI, 118, .inl (ro 118 s))), (m2, .inl (cI, 118, .inl (ro 118 h))), (m3, .inl (cI, 708, .inl (ro 708 (pkF t)))), (m4, .inl (cI, 60, .inl (ro 60 cs))), (m5, .inl (cI, 48, .inl (ro 48 td)))] H := hP
  have hD : va_D A9 [(m0, .inr (6, [.ref m1, .ref m2, .ref m3, .int (nI k), .ref m4, .int (nI n), .int (nI 0), .int (nI ax), .int (nI fa), .int (nI vl), .ref m5, .int (nI tn), .int (nI hg), .int (nI bg)])), (m1, .inl (cI, 118, .inl (ro 118 s))), (m2, .inl (cI, 118, .inl (ro 118 h))), (m3, .inl (cI, 708, .inl (ro 708 (pkF t)))), (m4, .inl (cI, 60, .inl (ro 60 cs))), (m5, .inl (cI, 48, .inl (ro 48 td)))] := hD
  refine lv_iload_n hx hb dX6_fill_5 rfl (lv_at hl 1 rfl) ?_
  refine lv_iconst (v := nI 1) hx hb dX6_fill_6 (by decide +kernel) ?_
  refine lv_sipush (v := nI 9999) hx hb dX6_fill_7 (by decide +kernel) ?_
  refine KM.callS (As := [.int v1, .int (nI 1), .int (nI 9999)]) (rest := []) C0 hN (k_X6_in l D cI cS cL v1 1 9999  (by decide) (by decide)) (va_cwS 3 hts gX6_fill_X6_in rfl rfl rfl (by decide +kernel) ⟨Nat.le_of_ble_eq_true rfl, Nat.le_of_ble_eq_true rfl⟩) hK hP hD hS hA [] rfl (by decide) (fun _ => rfl) rfl hl.1 rfl (Nat.le_of_ble_eq_true rfl) dX6_fill_10 ⟨Nat.le_of_ble_eq_true rfl, Nat.le_of_ble_eq_true rfl⟩ (fun v9 u9 H locs hv hP hD hS => ?_)
  subst hv
  have hP : va_P D vwCl [(m0, .inr (6, [.ref m1, .ref m2, .ref m3, .int (nI k), .ref m4, .int (nI n), .int (nI 0), .int (nI ax), .int (nI fa), .int (nI vl), .ref m5, .int (nI tn), .int (nI hg), .int (nI bg)])), (m1, .inl (cI, 118, .inl (ro 118 s))), (m2, .inl (cI, 118, .inl (ro 118 h))), (m3, .inl (cI, 708, .inl (ro 708 (pkF t)))), (m4, .inl (cI, 60, .inl (ro 60 cs))), (m5, .inl (cI, 48, .inl (ro 48 td)))] H := hP
  have hD : va_D A9 [(m0, .inr (6, [.ref m1, .ref m2, .ref m3, .int (nI k), .ref m4, .int (nI n), .int (nI 0), .int (nI ax), .int (nI fa), .int (nI vl), .ref m5, .int (nI tn), .int (nI hg), .int (nI bg)])), (m1, .inl (cI, 118, .inl (ro 118 s))), (m2, .inl (cI, 118, .inl (ro 118 h))), (m3, .inl (cI, 708, .inl (ro 708 (pkF t)))), (m4, .inl (cI, 60, .inl (ro 60 cs))), (m5, .inl (cI, 48, .inl (ro 48 td)))] := hD
  refine W.eq (g2 := F0 m9 13 ls [.int (nI (bI (inR v1 1 9999)))]) rfl ?_
  refine q_fne (tgt := 22) bI_lt hx hb dX6_fill_13 (by decide) (fun c_13 => ?_) (fun c_13 => ?_)
  ·
    have c_13 := bI_nz c_13
    obtain ⟨j, hja, hjb, hjc⟩ := inR_ex (show inR v1 1 9999 by first | assumption | omega)
    subst hjc
    have hl : lv_has ls 2 [(0, .ref m0), (1, .int (nI j))] := hl
    refine lv_aload_n hx hb dX6_fill_22 rfl (lv_at hl 0 rfl) ?_
    refine va_get (D := D) (ci := 6) (v := .ref m1) (C := RX6) (T := TX6) (N := 14) hx hb hts in_X6_fill_bad_X6 hown hK hP 0 rfl rfl 0 (by decide) (hts _ fl_X6_fill_bad_7) (fun _ h9 => h9) rfl dX6_fill_23 ?_
    refine lv_bipush (v := nI 6) hx hb dX6_fill_26 (by decide +kernel) ?_
    refine q_iald 1 0 (by omega) (by omega) hx hb hK hP rfl rfl dX6_fill_28 ?_
    refine lv_iload_n hx hb dX6_fill_29 rfl (lv_at hl 1 rfl) ?_
    refine q_iadd hx hb dX6_fill_30 ?_
    refine lv_ldc (v := nI 99999) hx hb hown (hts (.constant RX6 89 (nI 99999)) (by decide +kernel)) dX6_fill_31 ?_
    refine q_ile (tgt := 42) (by omega) (by omega) hx hb dX6_fill_33 (by decide) (fun c_33 => ?_) (fun c_33 => ?_)
    ·
      exact absurd ⟨(inR_nI (by omega)).mpr ⟨by omega, by omega⟩, by rw [iN_nI (by omega)]; omega⟩ hbad
    ·
      refine lv_aload_n hx hb dX6_fill_36 rfl (lv_at hl 0 rfl) ?_
      refine lv_iconst (v := nI 2) hx hb dX6_fill_37 (by decide +kernel) ?_
      refine KM.callV (As := [.int (nI 2)]) (rest := []) C0 hN (k_X6_fails l D cI cS cL m0 m1 m2 m3 m4 m5 k n 0 ax fa vl tn hg bg 2  ) (cwV 1 hts gX6_fill_X6_fails rfl rfl rfl (by decide +kernel) ⟨Nat.le_of_ble_eq_true rfl, Nat.le_of_ble_eq_true rfl⟩) hK hP hD hS hA [0] rfl (by decide) (fun _ => rfl) 0 6 rfl rfl rfl rfl hl.1 rfl (Nat.le_of_ble_eq_true rfl) dX6_fill_38 ⟨Nat.le_of_ble_eq_true rfl, Nat.le_of_ble_eq_true rfl⟩ (fun v9 u9 H locs hv hP hD hS => ?_)
      subst hv
      have hP : va_P D vwCl [(m0, .inr (6, [.ref m1, .ref m2, .ref m3, .int (nI k), .ref m4, .int (nI n), .int (nI 2), .int (nI ax), .int (nI fa), .int (nI vl), .ref m5, .int (nI tn), .int (nI hg), .int (nI bg)])), (m1, .inl (cI, 118, .inl (ro 118 s))), (m2, .inl (cI, 118, .inl (ro 118 h))), (m3, .inl (cI, 708, .inl (ro 708 (pkF t)))), (m4, .inl (cI, 60, .inl (ro 60 cs))), (m5, .inl (cI, 48, .inl (ro 48 td)))] H := hP
      have hD : va_D A9 [(m0, .inr (6, [.ref m1, .ref m2, .ref m3, .int (nI k), .ref m4, .int (nI n), .int (nI 2), .int (nI ax), .int (nI fa), .int (nI vl), .ref m5, .int (nI tn), .int (nI hg), .int (nI bg)])), (m1, .inl (cI, 118, .inl (ro 118 s))), (m2, .inl (cI, 118, .inl (ro 118 h))), (m3, .inl (cI, 708, .inl (ro 708 (pkF t)))), (m4, .inl (cI, 60, .inl (ro 60 cs))), (m5, .inl (cI, 48, .inl (ro 48 td)))] := hD
      refine W.eq (g2 := F0 m9 41 ls [.int (nI 0)]) rfl ?_
      rw [show (if inR (nI j) 1 9999 then 2 else 1) = 2 from by (repeat' split) <;> first | rfl | (exfalso; omega)] at hret
      exact hret _ _ _ _ (some (.int (nI 0))) () 41 ls (by decide) (by decide) (by rfl) hP hD hS (ret_i dX6_fill_41)
  ·
    have c_13 := bI_z c_13
    refine lv_aload_n hx hb dX6_fill_16 rfl (lv_at hl 0 rfl) ?_
    refine lv_iconst (v := nI 1) hx hb dX6_fill_17 (by decide +kernel) ?_
    refine KM.callV (As := [.int (nI 1)]) (rest := []) C0 hN (k_X6_fails l D cI cS cL m0 m1 m2 m3 m4 m5 k n 0 ax fa vl tn hg bg 1  ) (cwV 1 hts gX6_fill_X6_fails rfl rfl rfl (by decide +kernel) ⟨Nat.le_of_ble_eq_true rfl, Nat.le_of_ble_eq_true rfl⟩) hK hP hD hS hA [0] rfl (by decide) (fun _ => rfl) 0 6 rfl rfl rfl rfl hl.1 rfl (Nat.le_of_ble_eq_true rfl) dX6_fill_18 ⟨Nat.le_of_ble_eq_true rfl, Nat.le_of_ble_eq_true rfl⟩ (fun v9 u9 H locs hv hP hD hS => ?_)
    subst hv
    have hP : va_P D vwCl [(m0, .inr (6, [.ref m1, .ref m2, .ref m3, .int (nI k), .ref m4, .int (nI n), .int (nI 1), .int (nI ax), .int (nI fa), .int (nI vl), .ref m5, .int (nI tn), .int (nI hg), .int (nI bg)])), (m1, .inl (cI, 118, .inl (ro 118 s))), (m2, .inl (cI, 118, .inl (ro 118 h))), (m3, .inl (cI, 708, .inl (ro 708 (pkF t)))), (m4, .inl (cI, 60, .inl (ro 60 cs))), (m5, .inl (cI, 48, .inl (ro 48 td)))] H := hP
    have hD : va_D A9 [(m0, .inr (6, [.ref m1, .ref m2, .ref m3, .int (nI k), .ref m4, .int (nI n), .int (nI 1), .int (nI ax), .int (nI fa), .int (nI vl), .ref m5, .int (nI tn), .int (nI hg), .int (nI bg)])), (m1, .inl (cI, 118, .inl (ro 118 s))), (m2, .inl (cI, 118, .inl (ro 118 h))), (m3, .inl (cI, 708, .inl (ro 708 (pkF t)))), (m4, .inl (cI, 60, .inl (ro 60 cs))), (m5, .inl (cI, 48, .inl (ro 48 td)))] := hD
    refine W.eq (g2 := F0 m9 21 ls [.int (nI 0)]) rfl ?_
    rw [show (if inR v1 1 9999 then 2 else 1) = 1 from by (repeat' split) <;> first | rfl | (exfalso; omega)] at hret
    exact hret _ _ _ _ (some (.int (nI 0))) () 21 ls (by decide) (by decide) (by rfl) hP hD hS (ret_i dX6_fill_21)

theorem in_X6_cue_bad_X6 : ∀ w ∈ wsX60, w ∈ wsX6_cue := by decide +kernel
theorem fl_X6_cue_bad_25 : Cond.fieldLink RX6 25 "FountainCuesModel" "thrown" "I" ∈ wsX6_cue := by decide +kernel
set_option maxHeartbeats 4000000 in
set_option maxRecDepth 100000 in
theorem k_X6_cue_bad (l : Launch) (D : va_G) (cI cS cL : ClassId) (T : Nat) (m0 : Nat) (m1 : Nat) (m2 : Nat) (m3 : Nat) (m4 : Nat) (m5 : Nat) (k : Nat) (n : Nat) (th : Nat) (ax : Nat) (fa : Nat) (vl : Nat) (tn : Nat) (hg : Nat) (bg : Nat) (s : Nat → Nat) (h : Nat → Nat) (t : Nat → Nat → Nat) (cs : Nat → Nat) (td : Nat → Nat) (v1 : Int32) (v2 : Int32) (v3 : Int32) (hI : sI T s) (hT : T ≤ 900000) (hk : k ≤ 6) (hn : n ≤ 60) (hcs : ∀ j, j < n → cs j < 2 ^ 31) (hbad : ¬ (inR v2 0 7 ∧ inR v1 0 999 ∧ inR v3 0 10 ∧ rS s (iN v1) (iN v2) (iN v3) = 0)) : KM l D (TY cI cS cL) yX6_cue wsX6_cue ({ frames := 3, cells := 0, slots := 0, locals := 71 } : Room) [(m0, .inr (6, [.ref m1, .ref m2, .ref m3, .int (nI k), .ref m4, .int (nI n), .int (nI th), .int (nI ax), .int (nI fa), .int (nI vl), .ref m5, .int (nI tn), .int (nI hg), .int (nI bg)])), (m1, .inl (cI, 118, .inl (ro 118 s))), (m2, .inl (cI, 118, .inl (ro 118 h))), (m3, .inl (cI, 708, .inl (ro 708 (pkF t)))), (m4, .inl (cI, 60, .inl (ro 60 cs))), (m5, .inl (cI, 48, .inl (ro 48 td)))] [.ref m0, .int v1, .int v2, .int v3] (fun (v : Option Value) (_ : Unit) => v = some (.int (nI 0))) (fun _ : Unit => [(m0, .inr (6, [.ref m1, .ref m2, .ref m3, .int (nI k), .ref m4, .int (nI n), .int (nI (if inR v2 0 7 then (if inR v1 0 999 ∧ inR v3 0 10 then 3 else 2) else 1)), .int (nI ax), .int (nI fa), .int (nI vl), .ref m5, .int (nI tn), .int (nI hg), .int (nI bg)])), (m1, .inl (cI, 118, .inl (ro 118 s))), (m2, .inl (cI, 118, .inl (ro 118 h))), (m3, .inl (cI, 708, .inl (ro 708 (pkF t)))), (m4, .inl (cI, 60, .inl (ro 60 cs))), (m5, .inl (cI, 48, .inl (ro 48 td)))]) := by
  refine KM.of (cc := cX6_cue) (maxL := 4) (ret := (some .int)) (by decide) rfl (Nat.le_of_ble_eq_true rfl) ?_
  intro p9 e9 s9 m9 ar9 be9 me9 c9 Q9 A9 ls C0 hN hnm hlk hK hA hret hP hD hS hl
  obtain ⟨hx, hb, hml, hown, hts⟩ := id C0
  have hl : lv_has ls 4 [(0, .ref m0), (1, .int v1), (2, .int v2), (3, .int v3)] := hl
  obtain ⟨H, hH0⟩ : ∃ H, H = s9.heap := ⟨_, rfl⟩
  obtain ⟨locs, hlc0⟩ : ∃ z : List Loc, z = [] := ⟨_, rfl⟩
  have hP : va_P D vwCl [(m0, .inr (6, [.ref m1, .ref m2, .ref m3, .int (nI k), .ref m4, .int (nI n), .int (nI th), .int (nI ax), .int (nI fa), .int (nI vl), .ref m5, .int (nI tn), .int (nI hg), .int (nI bg)])), (m1, .inl (cI, 118, .inl (ro 118 s))), (m2, .inl (cI, 118, .inl (ro 118 h))), (m3, .inl (cI, 708, .inl (ro 708 (pkF t)))), (m4, .inl (cI, 60, .inl (ro 60 cs))), (m5, .inl (cI, 48, .inl (ro 48 td)))] H := by rw [hH0]; exact hP
  have hD : va_D A9 [(m0, .inr (6, [.ref m1, .ref m2, .ref m3, .int (nI k), .ref m4, .int (nI n), .int (nI th), .int (nI ax), .int (nI fa), .int (nI vl), .ref m5, .int (nI tn), .int (nI hg), .int (nI bg)])), (m1, .inl (cI, 118, .inl (ro 118 s))), (m2, .inl (cI, 118, .inl (ro 118 h))), (m3, .inl (cI, 708, .inl (ro 708 (pkF t)))), (m4, .inl (cI, 60, .inl (ro 60 cs))), (m5, .inl (cI, 48, .inl (ro 48 td)))] := hD
  have hS : va_S A9 s9.heap H locs := by rw [hH0, hlc0]; exact hS
  suffices hgo : W p9 l e9 ({ frames := 3, cells := 0, slots := 0, locals := 71 } : Room) s9 m9 ar9 be9 me9 c9 H locs 0 0 Q9 (F0 m9 0 ls []) by rw [hH0, hlc0] at hgo; exact hgo
  clear hH0 hlc0
  obtain ⟨hI1, hI2, hI3, hI4, hI5, hI6, hI7, hI8, hI9, hI10, hI11⟩ := id hI
  refine lv_aload_n hx hb dX6_cue_0 rfl (lv_at hl 0 rfl) ?_
  refine lv_iconst (v := nI 0) hx hb dX6_cue_1 (by decide +kernel) ?_
  refine va_put (D := D) (ci := 6) (v := .int (nI 0)) (ty := tyX6 6) (C := RX6) (T := TX6) (N := 14) hx hb hts in_X6_cue_bad_X6 tyX6 tyX6_ok nmX6 hown hK hP hD hS 0 rfl rfl 6 (by decide) (hts _ fl_X6_cue_bad_25) (fun _ h9 => h9) rfl (by decide +kernel) rfl rfl (Nat.le_of_ble_eq_true rfl) dX6_cue_2 (fun H locs hP hD hS => ?_)
  have hP : va_P D vwCl [(m0, .inr (6, [.ref m1, .ref m2, .ref m3, .int (nI k), .ref m4, .int (nI n), .int (nI 0), .int (nI ax), .int (nI fa), .int (nI vl), .ref m5, .int (nI tn), .int (nI hg), .int (nI bg)])), (m1, .inl (cI, 118, .inl (ro 118 s))), (m2, .inl (cI, 118, .inl (ro 118 h))), (m3, .inl (cI, 708, .inl (ro 708 (pkF t)))), (m4, .inl (cI, 60, .inl (ro 60 cs))), (m5, .inl (cI, 48, .inl (ro 48 td)))] H := hP
  have hD : va_D A9 [(m0, .inr (6, [.ref m1, .ref m2, .ref m3, .int (nI k), .ref m4, .int (nI n), .int (nI 0), .int (nI ax), .int (nI fa), .int (nI vl), .ref m5, .int (nI tn), .int (nI hg), .int (nI bg)])), (m1, .inl (cI, 118, .inl (ro 118 s))), (m2, .inl (cI, 118, .inl (ro 118 h))), (m3, .inl (cI, 708, .inl (ro 708 (pkF t)))), (m4, .inl (cI, 60, .inl (ro 60 cs))), (m5, .inl (cI, 48, .inl (ro 48 td)))] := hD
  refine lv_iload_n hx hb dX6_cue_5 rfl (lv_at hl 2 rfl) ?_
  refine KM.callS (As := [.int v2]) (rest := []) C0 hN (k_X6_isJet l D cI cS cL v2  ) (va_cwS 1 hts gX6_cue_X6_isJet rfl rfl rfl (by decide +kernel) ⟨Nat.le_of_ble_eq_true rfl, Nat.le_of_ble_eq_true rfl⟩) hK hP hD hS hA [] rfl (by decide) (fun _ => rfl) rfl hl.1 rfl (Nat.le_of_ble_eq_true rfl) dX6_cue_6 ⟨Nat.le_of_ble_eq_true rfl, Nat.le_of_ble_eq_true rfl⟩ (fun v9 u9 H locs hv hP hD hS => ?_)
  subst hv
  have hP : va_P D vwCl [(m0, .inr (6, [.ref m1, .ref m2, .ref m3, .int (nI k), .ref m4, .int (nI n), .int (nI 0), .int (nI ax), .int (nI fa), .int (nI vl), .ref m5, .int (nI tn), .int (nI hg), .int (nI bg)])), (m1, .inl (cI, 118, .inl (ro 118 s))), (m2, .inl (cI, 118, .inl (ro 118 h))), (m3, .inl (cI, 708, .inl (ro 708 (pkF t)))), (m4, .inl (cI, 60, .inl (ro 60 cs))), (m5, .inl (cI, 48, .inl (ro 48 td)))] H := hP
  have hD : va_D A9 [(m0, .inr (6, [.ref m1, .ref m2, .ref m3, .int (nI k), .ref m4, .int (nI n), .int (nI 0), .int (nI ax), .int (nI fa), .int (nI vl), .ref m5, .int (nI tn), .int (nI hg), .int (nI bg)])), (m1, .inl (cI, 118, .inl (ro 118 s))), (m2, .inl (cI, 118, .inl (ro 118 h))), (m3, .inl (cI, 708, .inl (ro 708 (pkF t)))), (m4, .inl (cI, 60, .inl (ro 60 cs))), (m5, .inl (cI, 48, .inl (ro 48 td)))] := hD
  refine W.eq (g2 := F0 m9 9 ls [.int (nI (bI (inR v2 0 7)))]) rfl ?_
  refine q_fne (tgt := 18) bI_lt hx hb dX6_cue_9 (by decide) (fun c_9 => ?_) (fun c_9 => ?_)
  ·
    have c_9 := bI_nz c_9
    refine lv_iload_n hx hb dX6_cue_18 rfl (lv_at hl 1 rfl) ?_
    refine KM.callS (As := [.int v1]) (rest := []) C0 hN (k_X6_isTick l D cI cS cL v1  ) (va_cwS 1 hts gX6_cue_X6_isTick rfl rfl rfl (by decide +kernel) ⟨Nat.le_of_ble_eq_true rfl, Nat.le_of_ble_eq_true rfl⟩) hK hP hD hS hA [] rfl (by decide) (fun _ => rfl) rfl hl.1 rfl (Nat.le_of_ble_eq_true rfl) dX6_cue_19 ⟨Nat.le_of_ble_eq_true rfl, Nat.le_of_ble_eq_true rfl⟩ (fun v9 u9 H locs hv hP hD hS => ?_)
    subst hv
    have hP : va_P D vwCl [(m0, .inr (6, [.ref m1, .ref m2, .ref m3, .int (nI k), .ref m4, .int (nI n), .int (nI 0), .int (nI ax), .int (nI fa), .int (nI vl), .ref m5, .int (nI tn), .int (nI hg), .int (nI bg)])), (m1, .inl (cI, 118, .inl (ro 118 s))), (m2, .inl (cI, 118, .inl (ro 118 h))), (m3, .inl (cI, 708, .inl (ro 708 (pkF t)))), (m4, .inl (cI, 60, .inl (ro 60 cs))), (m5, .inl (cI, 48, .inl (ro 48 td)))] H := hP
    have hD : va_D A9 [(m0, .inr (6, [.ref m1, .ref m2, .ref m3, .int (nI k), .ref m4, .int (nI n), .int (nI 0), .int (nI ax), .int (nI fa), .int (nI vl), .ref m5, .int (nI tn), .int (nI hg), .int (nI bg)])), (m1, .inl (cI, 118, .inl (ro 118 s))), (m2, .inl (cI, 118, .inl (ro 118 h))), (m3, .inl (cI, 708, .inl (ro 708 (pkF t)))), (m4, .inl (cI, 60, .inl (ro 60 cs))), (m5, .inl (cI, 48, .inl (ro 48 td)))] := hD
    refine W.eq (g2 := F0 m9 22 ls [.int (nI (bI (inR v1 0 999)))]) rfl ?_
    refine q_feq (tgt := 35) bI_lt hx hb dX6_cue_22 (by decide) (fun c_22 => ?_) (fun c_22 => ?_)
    ·
      have c_22 := bI_z c_22
      refine lv_aload_n hx hb dX6_cue_35 rfl (lv_at hl 0 rfl) ?_
      refine lv_iconst (v := nI 2) hx hb dX6_cue_36 (by decide +kernel) ?_
      refine KM.callV (As := [.int (nI 2)]) (rest := []) C0 hN (k_X6_fails l D cI cS cL m0 m1 m2 m3 m4 m5 k n 0 ax fa vl tn hg bg 2  ) (cwV 1 hts gX6_cue_X6_fails rfl rfl rfl (by decide +kernel) ⟨Nat.le_of_ble_eq_true rfl, Nat.le_of_ble_eq_true rfl⟩) hK hP hD hS hA [0] rfl (by decide) (fun _ => rfl) 0 6 rfl rfl rfl rfl hl.1 rfl (Nat.le_of_ble_eq_true rfl) dX6_cue_37 ⟨Nat.le_of_ble_eq_true rfl, Nat.le_of_ble_eq_true rfl⟩ (fun v9 u9 H locs hv hP hD hS => ?_)
      subst hv
      have hP : va_P D vwCl [(m0, .inr (6, [.ref m1, .ref m2, .ref m3, .int (nI k), .ref m4, .int (nI n), .int (nI 2), .int (nI ax), .int (nI fa), .int (nI vl), .ref m5, .int (nI tn), .int (nI hg), .int (nI bg)])), (m1, .inl (cI, 118, .inl (ro 118 s))), (m2, .inl (cI, 118, .inl (ro 118 h))), (m3, .inl (cI, 708, .inl (ro 708 (pkF t)))), (m4, .inl (cI, 60, .inl (ro 60 cs))), (m5, .inl (cI, 48, .inl (ro 48 td)))] H := hP
      have hD : va_D A9 [(m0, .inr (6, [.ref m1, .ref m2, .ref m3, .int (nI k), .ref m4, .int (nI n), .int (nI 2), .int (nI ax), .int (nI fa), .int (nI vl), .ref m5, .int (nI tn), .int (nI hg), .int (nI bg)])), (m1, .inl (cI, 118, .inl (ro 118 s))), (m2, .inl (cI, 118, .inl (ro 118 h))), (m3, .inl (cI, 708, .inl (ro 708 (pkF t)))), (m4, .inl (cI, 60, .inl (ro 60 cs))), (m5, .inl (cI, 48, .inl (ro 48 td)))] := hD
      refine W.eq (g2 := F0 m9 40 ls [.int (nI 0)]) rfl ?_
      rw [show (if inR v2 0 7 then (if inR v1 0 999 ∧ inR v3 0 10 then 3 else 2) else 1) = 2 from by (repeat' split) <;> first | rfl | (exfalso; omega)] at hret
      exact hret _ _ _ _ (some (.int (nI 0))) () 40 ls (by decide) (by decide) (by rfl) hP hD hS (ret_i dX6_cue_40)
    ·
      have c_22 := bI_nz c_22
      refine lv_iload_n hx hb dX6_cue_25 rfl (lv_at hl 3 rfl) ?_
      refine lv_iconst (v := nI 0) hx hb dX6_cue_26 (by decide +kernel) ?_
      refine lv_bipush (v := nI 10) hx hb dX6_cue_27 (by decide +kernel) ?_
      refine KM.callS (As := [.int v3, .int (nI 0), .int (nI 10)]) (rest := []) C0 hN (k_X6_in l D cI cS cL v3 0 10  (by decide) (by decide)) (va_cwS 3 hts gX6_cue_X6_in rfl rfl rfl (by decide +kernel) ⟨Nat.le_of_ble_eq_true rfl, Nat.le_of_ble_eq_true rfl⟩) hK hP hD hS hA [] rfl (by decide) (fun _ => rfl) rfl hl.1 rfl (Nat.le_of_ble_eq_true rfl) dX6_cue_29 ⟨Nat.le_of_ble_eq_true rfl, Nat.le_of_ble_eq_true rfl⟩ (fun v9 u9 H locs hv hP hD hS => ?_)
      subst hv
      have hP : va_P D vwCl [(m0, .inr (6, [.ref m1, .ref m2, .ref m3, .int (nI k), .ref m4, .int (nI n), .int (nI 0), .int (nI ax), .int (nI fa), .int (nI vl), .ref m5, .int (nI tn), .int (nI hg), .int (nI bg)])), (m1, .inl (cI, 118, .inl (ro 118 s))), (m2, .inl (cI, 118, .inl (ro 118 h))), (m3, .inl (cI, 708, .inl (ro 708 (pkF t)))), (m4, .inl (cI, 60, .inl (ro 60 cs))), (m5, .inl (cI, 48, .inl (ro 48 td)))] H := hP
      have hD : va_D A9 [(m0, .inr (6, [.ref m1, .ref m2, .ref m3, .int (nI k), .ref m4, .int (nI n), .int (nI 0), .int (nI ax), .int (nI fa), .int (nI vl), .ref m5, .int (nI tn), .int (nI hg), .int (nI bg)])), (m1, .inl (cI, 118, .inl (ro 118 s))), (m2, .inl (cI, 118, .inl (ro 118 h))), (m3, .inl (cI, 708, .inl (ro 708 (pkF t)))), (m4, .inl (cI, 60, .inl (ro 60 cs))), (m5, .inl (cI, 48, .inl (ro 48 td)))] := hD
      refine W.eq (g2 := F0 m9 32 ls [.int (nI (bI (inR v3 0 10)))]) rfl ?_
      refine q_fne (tgt := 41) bI_lt hx hb dX6_cue_32 (by decide) (fun c_32 => ?_) (fun c_32 => ?_)
      ·
        have c_32 := bI_nz c_32
        obtain ⟨j1, hj1a, hj1b, hj1c⟩ := inR_ex (show inR v1 0 999 by first | assumption | omega)
        subst hj1c
        obtain ⟨j2, hj2a, hj2b, hj2c⟩ := inR_ex (show inR v2 0 7 by first | assumption | omega)
        subst hj2c
        obtain ⟨j3, hj3a, hj3b, hj3c⟩ := inR_ex (show inR v3 0 10 by first | assumption | omega)
        subst hj3c
        have hl : lv_has ls 4 [(0, .ref m0), (1, .int (nI j1)), (2, .int (nI j2)), (3, .int (nI j3))] := hl
        refine lv_aload_n hx hb dX6_cue_41 rfl (lv_at hl 0 rfl) ?_
        refine lv_iload_n hx hb dX6_cue_42 rfl (lv_at hl 1 rfl) ?_
        refine lv_iload_n hx hb dX6_cue_43 rfl (lv_at hl 2 rfl) ?_
        refine lv_iload_n hx hb dX6_cue_44 rfl (lv_at hl 3 rfl) ?_
        refine KM.callV (As := [.int (nI j1), .int (nI j2), .int (nI j3)]) (rest := []) C0 hN (k_X6_reason l D cI cS cL T m0 m1 m2 m3 m4 m5 k n 0 ax fa vl tn hg bg s j1 j2 j3  (by first | with_reducible assumption | omega) (by omega) (by first | with_reducible assumption | omega) (by first | with_reducible assumption | omega) (by first | with_reducible assumption | omega)) (cwV 3 hts gX6_cue_X6_reason rfl rfl rfl (by decide +kernel) ⟨Nat.le_of_ble_eq_true rfl, Nat.le_of_ble_eq_true rfl⟩) hK hP hD hS hA [0, 1] rfl (by decide) (fun _ => rfl) 0 6 rfl rfl rfl rfl hl.1 rfl (Nat.le_of_ble_eq_true rfl) dX6_cue_45 ⟨Nat.le_of_ble_eq_true rfl, Nat.le_of_ble_eq_true rfl⟩ (fun v9 u9 H locs hv hP hD hS => ?_)
        subst hv
        have hP : va_P D vwCl [(m0, .inr (6, [.ref m1, .ref m2, .ref m3, .int (nI k), .ref m4, .int (nI n), .int (nI 0), .int (nI ax), .int (nI fa), .int (nI vl), .ref m5, .int (nI tn), .int (nI hg), .int (nI bg)])), (m1, .inl (cI, 118, .inl (ro 118 s))), (m2, .inl (cI, 118, .inl (ro 118 h))), (m3, .inl (cI, 708, .inl (ro 708 (pkF t)))), (m4, .inl (cI, 60, .inl (ro 60 cs))), (m5, .inl (cI, 48, .inl (ro 48 td)))] H := hP
        have hD : va_D A9 [(m0, .inr (6, [.ref m1, .ref m2, .ref m3, .int (nI k), .ref m4, .int (nI n), .int (nI 0), .int (nI ax), .int (nI fa), .int (nI vl), .ref m5, .int (nI tn), .int (nI hg), .int (nI bg)])), (m1, .inl (cI, 118, .inl (ro 118 s))), (m2, .inl (cI, 118, .inl (ro 118 h))), (m3, .inl (cI, 708, .inl (ro 708 (pkF t)))), (m4, .inl (cI, 60, .inl (ro 60 cs))), (m5, .inl (cI, 48, .inl (ro 48 td)))] := hD
        refine W.eq (g2 := F0 m9 48 ls [.int (nI (rS s j1 j2 j3))]) rfl ?_
        have hr8 : rS s j1 j2 j3 < 2 ^ 31 := rS_lt
        refine q_feq (tgt := 57) (by omega) hx hb dX6_cue_48 (by decide) (fun c_48 => ?_) (fun c_48 => ?_)
        ·
          exact absurd ⟨(inR_nI (by omega)).mpr ⟨by omega, by omega⟩, (inR_nI (by omega)).mpr ⟨by omega, by omega⟩, (inR_nI (by omega)).mpr ⟨by omega, by omega⟩, by rw [iN_nI (by omega), iN_nI (by omega), iN_nI (by omega)]; exact c_48⟩ hbad
        ·
          refine lv_aload_n hx hb dX6_cue_51 rfl (lv_at hl 0 rfl) ?_
          refine lv_iconst (v := nI 3) hx hb dX6_cue_52 (by decide +kernel) ?_
          refine KM.callV (As := [.int (nI 3)]) (rest := []) C0 hN (k_X6_fails l D cI cS cL m0 m1 m2 m3 m4 m5 k n 0 ax fa vl tn hg bg 3  ) (cwV 1 hts gX6_cue_X6_fails rfl rfl rfl (by decide +kernel) ⟨Nat.le_of_ble_eq_true rfl, Nat.le_of_ble_eq_true rfl⟩) hK hP hD hS hA [0] rfl (by decide) (fun _ => rfl) 0 6 rfl rfl rfl rfl hl.1 rfl (Nat.le_of_ble_eq_true rfl) dX6_cue_53 ⟨Nat.le_of_ble_eq_true rfl, Nat.le_of_ble_eq_true rfl⟩ (fun v9 u9 H locs hv hP hD hS => ?_)
          subst hv
          have hP : va_P D vwCl [(m0, .inr (6, [.ref m1, .ref m2, .ref m3, .int (nI k), .ref m4, .int (nI n), .int (nI 3), .int (nI ax), .int (nI fa), .int (nI vl), .ref m5, .int (nI tn), .int (nI hg), .int (nI bg)])), (m1, .inl (cI, 118, .inl (ro 118 s))), (m2, .inl (cI, 118, .inl (ro 118 h))), (m3, .inl (cI, 708, .inl (ro 708 (pkF t)))), (m4, .inl (cI, 60, .inl (ro 60 cs))), (m5, .inl (cI, 48, .inl (ro 48 td)))] H := hP
          have hD : va_D A9 [(m0, .inr (6, [.ref m1, .ref m2, .ref m3, .int (nI k), .ref m4, .int (nI n), .int (nI 3), .int (nI ax), .int (nI fa), .int (nI vl), .ref m5, .int (nI tn), .int (nI hg), .int (nI bg)])), (m1, .inl (cI, 118, .inl (ro 118 s))), (m2, .inl (cI, 118, .inl (ro 118 h))), (m3, .inl (cI, 708, .inl (ro 708 (pkF t)))), (m4, .inl (cI, 60, .inl (ro 60 cs))), (m5, .inl (cI, 48, .inl (ro 48 td)))] := hD
          refine W.eq (g2 := F0 m9 56 ls [.int (nI 0)]) rfl ?_
          rw [show (if inR (nI j2) 0 7 then (if inR (nI j1) 0 999 ∧ inR (nI j3) 0 10 then 3 else 2) else 1) = 3 from by (repeat' split) <;> first | rfl | (exfalso; omega)] at hret
          exact hret _ _ _ _ (some (.int (nI 0))) () 56 ls (by decide) (by decide) (by rfl) hP hD hS (ret_i dX6_cue_56)
      ·
        have c_32 := bI_z c_32
        refine lv_aload_n hx hb dX6_cue_35 rfl (lv_at hl 0 rfl) ?_
        refine lv_iconst (v := nI 2) hx hb dX6_cue_36 (by decide +kernel) ?_
        refine KM.callV (As := [.int (nI 2)]) (rest := []) C0 hN (k_X6_fails l D cI cS cL m0 m1 m2 m3 m4 m5 k n 0 ax fa vl tn hg bg 2  ) (cwV 1 hts gX6_cue_X6_fails rfl rfl rfl (by decide +kernel) ⟨Nat.le_of_ble_eq_true rfl, Nat.le_of_ble_eq_true rfl⟩) hK hP hD hS hA [0] rfl (by decide) (fun _ => rfl) 0 6 rfl rfl rfl rfl hl.1 rfl (Nat.le_of_ble_eq_true rfl) dX6_cue_37 ⟨Nat.le_of_ble_eq_true rfl, Nat.le_of_ble_eq_true rfl⟩ (fun v9 u9 H locs hv hP hD hS => ?_)
        subst hv
        have hP : va_P D vwCl [(m0, .inr (6, [.ref m1, .ref m2, .ref m3, .int (nI k), .ref m4, .int (nI n), .int (nI 2), .int (nI ax), .int (nI fa), .int (nI vl), .ref m5, .int (nI tn), .int (nI hg), .int (nI bg)])), (m1, .inl (cI, 118, .inl (ro 118 s))), (m2, .inl (cI, 118, .inl (ro 118 h))), (m3, .inl (cI, 708, .inl (ro 708 (pkF t)))), (m4, .inl (cI, 60, .inl (ro 60 cs))), (m5, .inl (cI, 48, .inl (ro 48 td)))] H := hP
        have hD : va_D A9 [(m0, .inr (6, [.ref m1, .ref m2, .ref m3, .int (nI k), .ref m4, .int (nI n), .int (nI 2), .int (nI ax), .int (nI fa), .int (nI vl), .ref m5, .int (nI tn), .int (nI hg), .int (nI bg)])), (m1, .inl (cI, 118, .inl (ro 118 s))), (m2, .inl (cI, 118, .inl (ro 118 h))), (m3, .inl (cI, 708, .inl (ro 708 (pkF t)))), (m4, .inl (cI, 60, .inl (ro 60 cs))), (m5, .inl (cI, 48, .inl (ro 48 td)))] := hD
        refine W.eq (g2 := F0 m9 40 ls [.int (nI 0)]) rfl ?_
        rw [show (if inR v2 0 7 then (if inR v1 0 999 ∧ inR v3 0 10 then 3 else 2) else 1) = 2 from by (repeat' split) <;> first | rfl | (exfalso; omega)] at hret
        exact hret _ _ _ _ (some (.int (nI 0))) () 40 ls (by decide) (by decide) (by rfl) hP hD hS (ret_i dX6_cue_40)
  ·
    have c_9 := bI_z c_9
    refine lv_aload_n hx hb dX6_cue_12 rfl (lv_at hl 0 rfl) ?_
    refine lv_iconst (v := nI 1) hx hb dX6_cue_13 (by decide +kernel) ?_
    refine KM.callV (As := [.int (nI 1)]) (rest := []) C0 hN (k_X6_fails l D cI cS cL m0 m1 m2 m3 m4 m5 k n 0 ax fa vl tn hg bg 1  ) (cwV 1 hts gX6_cue_X6_fails rfl rfl rfl (by decide +kernel) ⟨Nat.le_of_ble_eq_true rfl, Nat.le_of_ble_eq_true rfl⟩) hK hP hD hS hA [0] rfl (by decide) (fun _ => rfl) 0 6 rfl rfl rfl rfl hl.1 rfl (Nat.le_of_ble_eq_true rfl) dX6_cue_14 ⟨Nat.le_of_ble_eq_true rfl, Nat.le_of_ble_eq_true rfl⟩ (fun v9 u9 H locs hv hP hD hS => ?_)
    subst hv
    have hP : va_P D vwCl [(m0, .inr (6, [.ref m1, .ref m2, .ref m3, .int (nI k), .ref m4, .int (nI n), .int (nI 1), .int (nI ax), .int (nI fa), .int (nI vl), .ref m5, .int (nI tn), .int (nI hg), .int (nI bg)])), (m1, .inl (cI, 118, .inl (ro 118 s))), (m2, .inl (cI, 118, .inl (ro 118 h))), (m3, .inl (cI, 708, .inl (ro 708 (pkF t)))), (m4, .inl (cI, 60, .inl (ro 60 cs))), (m5, .inl (cI, 48, .inl (ro 48 td)))] H := hP
    have hD : va_D A9 [(m0, .inr (6, [.ref m1, .ref m2, .ref m3, .int (nI k), .ref m4, .int (nI n), .int (nI 1), .int (nI ax), .int (nI fa), .int (nI vl), .ref m5, .int (nI tn), .int (nI hg), .int (nI bg)])), (m1, .inl (cI, 118, .inl (ro 118 s))), (m2, .inl (cI, 118, .inl (ro 118 h))), (m3, .inl (cI, 708, .inl (ro 708 (pkF t)))), (m4, .inl (cI, 60, .inl (ro 60 cs))), (m5, .inl (cI, 48, .inl (ro 48 td)))] := hD
    refine W.eq (g2 := F0 m9 17 ls [.int (nI 0)]) rfl ?_
    rw [show (if inR v2 0 7 then (if inR v1 0 999 ∧ inR v3 0 10 then 3 else 2) else 1) = 1 from by (repeat' split) <;> first | rfl | (exfalso; omega)] at hret
    exact hret _ _ _ _ (some (.int (nI 0))) () 17 ls (by decide) (by decide) (by rfl) hP hD hS (ret_i dX6_cue_17)

theorem in_X6_drop_bad_X6 : ∀ w ∈ wsX60, w ∈ wsX6_drop := by decide +kernel
theorem fl_X6_drop_bad_25 : Cond.fieldLink RX6 25 "FountainCuesModel" "thrown" "I" ∈ wsX6_drop := by decide +kernel
theorem fl_X6_drop_bad_7 : Cond.fieldLink RX6 7 "FountainCuesModel" "now" "[I" ∈ wsX6_drop := by decide +kernel
set_option maxHeartbeats 4000000 in
set_option maxRecDepth 100000 in
theorem k_X6_drop_bad (l : Launch) (D : va_G) (cI cS cL : ClassId) (T : Nat) (m0 : Nat) (m1 : Nat) (m2 : Nat) (m3 : Nat) (m4 : Nat) (m5 : Nat) (k : Nat) (n : Nat) (th : Nat) (ax : Nat) (fa : Nat) (vl : Nat) (tn : Nat) (hg : Nat) (bg : Nat) (s : Nat → Nat) (h : Nat → Nat) (t : Nat → Nat → Nat) (cs : Nat → Nat) (td : Nat → Nat) (v1 : Int32) (hI : sI T s) (hT : T ≤ 900000) (hk : k ≤ 6) (hn : n ≤ 60) (hcs : ∀ j, j < n → cs j < 2 ^ 31) (hbad : ∀ p, p < s 8 → nI (nuF s p) ≠ v1) : KM l D (TY cI cS cL) yX6_drop wsX6_drop ({ frames := 1, cells := 0, slots := 0, locals := 22 } : Room) [(m0, .inr (6, [.ref m1, .ref m2, .ref m3, .int (nI k), .ref m4, .int (nI n), .int (nI th), .int (nI ax), .int (nI fa), .int (nI vl), .ref m5, .int (nI tn), .int (nI hg), .int (nI bg)])), (m1, .inl (cI, 118, .inl (ro 118 s))), (m2, .inl (cI, 118, .inl (ro 118 h))), (m3, .inl (cI, 708, .inl (ro 708 (pkF t)))), (m4, .inl (cI, 60, .inl (ro 60 cs))), (m5, .inl (cI, 48, .inl (ro 48 td)))] [.ref m0, .int v1] (fun (v : Option Value) (_ : Unit) => v = some (.int (nI 0))) (fun _ : Unit => [(m0, .inr (6, [.ref m1, .ref m2, .ref m3, .int (nI k), .ref m4, .int (nI n), .int (nI 1), .int (nI ax), .int (nI fa), .int (nI vl), .ref m5, .int (nI tn), .int (nI hg), .int (nI bg)])), (m1, .inl (cI, 118, .inl (ro 118 s))), (m2, .inl (cI, 118, .inl (ro 118 h))), (m3, .inl (cI, 708, .inl (ro 708 (pkF t)))), (m4, .inl (cI, 60, .inl (ro 60 cs))), (m5, .inl (cI, 48, .inl (ro 48 td)))]) := by
  refine KM.of (cc := cX6_drop) (maxL := 4) (ret := (some .int)) (by decide) rfl (Nat.le_of_ble_eq_true rfl) ?_
  intro p9 e9 s9 m9 ar9 be9 me9 c9 Q9 A9 ls C0 hN hnm hlk hK hA hret hP hD hS hl
  obtain ⟨hx, hb, hml, hown, hts⟩ := id C0
  have hl : lv_has ls 4 [(0, .ref m0), (1, .int v1)] := hl
  obtain ⟨H, hH0⟩ : ∃ H, H = s9.heap := ⟨_, rfl⟩
  obtain ⟨locs, hlc0⟩ : ∃ z : List Loc, z = [] := ⟨_, rfl⟩
  have hP : va_P D vwCl [(m0, .inr (6, [.ref m1, .ref m2, .ref m3, .int (nI k), .ref m4, .int (nI n), .int (nI th), .int (nI ax), .int (nI fa), .int (nI vl), .ref m5, .int (nI tn), .int (nI hg), .int (nI bg)])), (m1, .inl (cI, 118, .inl (ro 118 s))), (m2, .inl (cI, 118, .inl (ro 118 h))), (m3, .inl (cI, 708, .inl (ro 708 (pkF t)))), (m4, .inl (cI, 60, .inl (ro 60 cs))), (m5, .inl (cI, 48, .inl (ro 48 td)))] H := by rw [hH0]; exact hP
  have hD : va_D A9 [(m0, .inr (6, [.ref m1, .ref m2, .ref m3, .int (nI k), .ref m4, .int (nI n), .int (nI th), .int (nI ax), .int (nI fa), .int (nI vl), .ref m5, .int (nI tn), .int (nI hg), .int (nI bg)])), (m1, .inl (cI, 118, .inl (ro 118 s))), (m2, .inl (cI, 118, .inl (ro 118 h))), (m3, .inl (cI, 708, .inl (ro 708 (pkF t)))), (m4, .inl (cI, 60, .inl (ro 60 cs))), (m5, .inl (cI, 48, .inl (ro 48 td)))] := hD
  have hS : va_S A9 s9.heap H locs := by rw [hH0, hlc0]; exact hS
  suffices hgo : W p9 l e9 ({ frames := 1, cells := 0, slots := 0, locals := 22 } : Room) s9 m9 ar9 be9 me9 c9 H locs 0 0 Q9 (F0 m9 0 ls []) by rw [hH0, hlc0] at hgo; exact hgo
  clear hH0 hlc0
  obtain ⟨hI1, hI2, hI3, hI4, hI5, hI6, hI7, hI8, hI9, hI10, hI11⟩ := id hI
  refine lv_aload_n hx hb dX6_drop_0 rfl (lv_at hl 0 rfl) ?_
  refine lv_iconst (v := nI 0) hx hb dX6_drop_1 (by decide +kernel) ?_
  refine va_put (D := D) (ci := 6) (v := .int (nI 0)) (ty := tyX6 6) (C := RX6) (T := TX6) (N := 14) hx hb hts in_X6_drop_bad_X6 tyX6 tyX6_ok nmX6 hown hK hP hD hS 0 rfl rfl 6 (by decide) (hts _ fl_X6_drop_bad_25) (fun _ h9 => h9) rfl (by decide +kernel) rfl rfl (Nat.le_of_ble_eq_true rfl) dX6_drop_2 (fun H locs hP hD hS => ?_)
  have hP : va_P D vwCl [(m0, .inr (6, [.ref m1, .ref m2, .ref m3, .int (nI k), .ref m4, .int (nI n), .int (nI 0), .int (nI ax), .int (nI fa), .int (nI vl), .ref m5, .int (nI tn), .int (nI hg), .int (nI bg)])), (m1, .inl (cI, 118, .inl (ro 118 s))), (m2, .inl (cI, 118, .inl (ro 118 h))), (m3, .inl (cI, 708, .inl (ro 708 (pkF t)))), (m4, .inl (cI, 60, .inl (ro 60 cs))), (m5, .inl (cI, 48, .inl (ro 48 td)))] H := hP
  have hD : va_D A9 [(m0, .inr (6, [.ref m1, .ref m2, .ref m3, .int (nI k), .ref m4, .int (nI n), .int (nI 0), .int (nI ax), .int (nI fa), .int (nI vl), .ref m5, .int (nI tn), .int (nI hg), .int (nI bg)])), (m1, .inl (cI, 118, .inl (ro 118 s))), (m2, .inl (cI, 118, .inl (ro 118 h))), (m3, .inl (cI, 708, .inl (ro 708 (pkF t)))), (m4, .inl (cI, 60, .inl (ro 60 cs))), (m5, .inl (cI, 48, .inl (ro 48 td)))] := hD
  refine lv_iconst (v := (-1)) hx hb dX6_drop_5 (by decide +kernel) ?_
  refine lv_istore_n (lv' := [(2, .int (-1)), (0, .ref m0), (1, .int v1)]) hx hb dX6_drop_6 rfl hl (by decide) rfl (fun ls hl => ?_)
  refine lv_iconst (v := nI 0) hx hb dX6_drop_7 (by decide +kernel) ?_
  refine lv_istore_n (lv' := [(3, .int (nI 0)), (2, .int (-1)), (0, .ref m0), (1, .int v1)]) hx hb dX6_drop_8 rfl hl (by decide) rfl (fun ls hl => ?_)
  have L9 : ∀ (fuel : Nat) (i : Nat) (H : Heap) (locs : List Loc) (ls : Array Slot), (i ≤ s 8) → (s 8 - i < fuel) → va_P D vwCl [(m0, .inr (6, [.ref m1, .ref m2, .ref m3, .int (nI k), .ref m4, .int (nI n), .int (nI 0), .int (nI ax), .int (nI fa), .int (nI vl), .ref m5, .int (nI tn), .int (nI hg), .int (nI bg)])), (m1, .inl (cI, 118, .inl (ro 118 s))), (m2, .inl (cI, 118, .inl (ro 118 h))), (m3, .inl (cI, 708, .inl (ro 708 (pkF t)))), (m4, .inl (cI, 60, .inl (ro 60 cs))), (m5, .inl (cI, 48, .inl (ro 48 td)))] H → va_D A9 [(m0, .inr (6, [.ref m1, .ref m2, .ref m3, .int (nI k), .ref m4, .int (nI n), .int (nI 0), .int (nI ax), .int (nI fa), .int (nI vl), .ref m5, .int (nI tn), .int (nI hg), .int (nI bg)])), (m1, .inl (cI, 118, .inl (ro 118 s))), (m2, .inl (cI, 118, .inl (ro 118 h))), (m3, .inl (cI, 708, .inl (ro 708 (pkF t)))), (m4, .inl (cI, 60, .inl (ro 60 cs))), (m5, .inl (cI, 48, .inl (ro 48 td)))] → va_S A9 s9.heap H locs → lv_has ls 4 [(0, .ref m0), (1, .int v1), (2, .int (-1)), (3, .int (nI i))] → W p9 l e9 ({ frames := 1, cells := 0, slots := 0, locals := 22 } : Room) s9 m9 ar9 be9 me9 c9 H locs 0 0 Q9 (F0 m9 9 ls []) := by
    intro fuel
    induction fuel with
    | zero => intro i H locs ls hi hfu; exact absurd hfu (Nat.not_lt_zero _)
    | succ fuel ih9 =>
      intro i H locs ls hi hfu hP hD hS hl
      refine lv_iload_n hx hb dX6_drop_9 rfl (lv_at hl 3 rfl) ?_
      refine lv_aload_n hx hb dX6_drop_10 rfl (lv_at hl 0 rfl) ?_
      refine va_get (D := D) (ci := 6) (v := .ref m1) (C := RX6) (T := TX6) (N := 14) hx hb hts in_X6_drop_bad_X6 hown hK hP 0 rfl rfl 0 (by decide) (hts _ fl_X6_drop_bad_7) (fun _ h9 => h9) rfl dX6_drop_11 ?_
      refine lv_bipush (v := nI 8) hx hb dX6_drop_14 (by decide +kernel) ?_
      refine q_iald 1 0 (by omega) (by omega) hx hb hK hP rfl rfl dX6_drop_16 ?_
      refine q_ige (tgt := 45) (by omega) (by omega) hx hb dX6_drop_17 (by decide) (fun c_17 => ?_) (fun c_17 => ?_)
      ·
        refine lv_iload_n hx hb dX6_drop_45 rfl (lv_at hl 2 rfl) ?_
        refine lv_iconst (v := (-1)) hx hb dX6_drop_46 (by decide +kernel) ?_
        refine lv_icmp_ne (tgt := 56) hx hb dX6_drop_47 (by decide) (fun c_47 => ?_) (fun c_47 => ?_)
        · exact absurd rfl c_47
        ·
          refine lv_aload_n hx hb dX6_drop_50 rfl (lv_at hl 0 rfl) ?_
          refine lv_iconst (v := nI 1) hx hb dX6_drop_51 (by decide +kernel) ?_
          refine KM.callV (As := [.int (nI 1)]) (rest := []) C0 hN (k_X6_fails l D cI cS cL m0 m1 m2 m3 m4 m5 k n 0 ax fa vl tn hg bg 1  ) (cwV 1 hts gX6_drop_X6_fails rfl rfl rfl (by decide +kernel) ⟨Nat.le_of_ble_eq_true rfl, Nat.le_of_ble_eq_true rfl⟩) hK hP hD hS hA [0] rfl (by decide) (fun _ => rfl) 0 6 rfl rfl rfl rfl hl.1 rfl (Nat.le_of_ble_eq_true rfl) dX6_drop_52 ⟨Nat.le_of_ble_eq_true rfl, Nat.le_of_ble_eq_true rfl⟩ (fun v9 u9 H locs hv hP hD hS => ?_)
          subst hv
          have hP : va_P D vwCl [(m0, .inr (6, [.ref m1, .ref m2, .ref m3, .int (nI k), .ref m4, .int (nI n), .int (nI 1), .int (nI ax), .int (nI fa), .int (nI vl), .ref m5, .int (nI tn), .int (nI hg), .int (nI bg)])), (m1, .inl (cI, 118, .inl (ro 118 s))), (m2, .inl (cI, 118, .inl (ro 118 h))), (m3, .inl (cI, 708, .inl (ro 708 (pkF t)))), (m4, .inl (cI, 60, .inl (ro 60 cs))), (m5, .inl (cI, 48, .inl (ro 48 td)))] H := hP
          have hD : va_D A9 [(m0, .inr (6, [.ref m1, .ref m2, .ref m3, .int (nI k), .ref m4, .int (nI n), .int (nI 1), .int (nI ax), .int (nI fa), .int (nI vl), .ref m5, .int (nI tn), .int (nI hg), .int (nI bg)])), (m1, .inl (cI, 118, .inl (ro 118 s))), (m2, .inl (cI, 118, .inl (ro 118 h))), (m3, .inl (cI, 708, .inl (ro 708 (pkF t)))), (m4, .inl (cI, 60, .inl (ro 60 cs))), (m5, .inl (cI, 48, .inl (ro 48 td)))] := hD
          refine W.eq (g2 := F0 m9 55 ls [.int (nI 0)]) rfl ?_
          exact hret _ _ _ _ (some (.int (nI 0))) () 55 ls (by decide) (by decide) (by rfl) hP hD hS (ret_i dX6_drop_55)
      ·
        refine lv_aload_n hx hb dX6_drop_20 rfl (lv_at hl 0 rfl) ?_
        refine va_get (D := D) (ci := 6) (v := .ref m1) (C := RX6) (T := TX6) (N := 14) hx hb hts in_X6_drop_bad_X6 hown hK hP 0 rfl rfl 0 (by decide) (hts _ fl_X6_drop_bad_7) (fun _ h9 => h9) rfl dX6_drop_21 ?_
        refine lv_iload_n hx hb dX6_drop_24 rfl (lv_at hl 3 rfl) ?_
        refine lv_iconst (v := nI 0) hx hb dX6_drop_25 (by decide +kernel) ?_
        refine KM.callS (As := [.ref m1, .int (nI i), .int (nI 0)]) (rest := []) C0 hN (k_X6_by_0 l D cI cS cL m1 s i  (by first | with_reducible assumption | omega)) (va_cwS 3 hts gX6_drop_X6_by rfl rfl rfl (by decide +kernel) ⟨Nat.le_of_ble_eq_true rfl, Nat.le_of_ble_eq_true rfl⟩) hK hP hD hS hA [1] rfl (by decide) (fun _ => rfl) rfl hl.1 rfl (Nat.le_of_ble_eq_true rfl) dX6_drop_26 ⟨Nat.le_of_ble_eq_true rfl, Nat.le_of_ble_eq_true rfl⟩ (fun v9 u9 H locs hv hP hD hS => ?_)
        subst hv
        have hP : va_P D vwCl [(m0, .inr (6, [.ref m1, .ref m2, .ref m3, .int (nI k), .ref m4, .int (nI n), .int (nI 0), .int (nI ax), .int (nI fa), .int (nI vl), .ref m5, .int (nI tn), .int (nI hg), .int (nI bg)])), (m1, .inl (cI, 118, .inl (ro 118 s))), (m2, .inl (cI, 118, .inl (ro 118 h))), (m3, .inl (cI, 708, .inl (ro 708 (pkF t)))), (m4, .inl (cI, 60, .inl (ro 60 cs))), (m5, .inl (cI, 48, .inl (ro 48 td)))] H := hP
        have hD : va_D A9 [(m0, .inr (6, [.ref m1, .ref m2, .ref m3, .int (nI k), .ref m4, .int (nI n), .int (nI 0), .int (nI ax), .int (nI fa), .int (nI vl), .ref m5, .int (nI tn), .int (nI hg), .int (nI bg)])), (m1, .inl (cI, 118, .inl (ro 118 s))), (m2, .inl (cI, 118, .inl (ro 118 h))), (m3, .inl (cI, 708, .inl (ro 708 (pkF t)))), (m4, .inl (cI, 60, .inl (ro 60 cs))), (m5, .inl (cI, 48, .inl (ro 48 td)))] := hD
        refine W.eq (g2 := F0 m9 29 ls [.int (nI (nuF s i))]) rfl ?_
        refine lv_iload_n hx hb dX6_drop_29 rfl (lv_at hl 1 rfl) ?_
        refine lv_icmp_ne (tgt := 37) hx hb dX6_drop_30 (by decide) (fun c_30 => ?_) (fun c_30 => ?_)
        ·
          refine lv_iload_n hx hb dX6_drop_37 rfl (lv_at hl 2 rfl) ?_
          refine lv_istore_n (lv' := [(2, .int (-1)), (0, .ref m0), (1, .int v1), (3, .int (nI i))]) hx hb dX6_drop_38 rfl hl (by decide) rfl (fun ls hl => ?_)
          refine lv_iinc (v := (nI (i + 1))) (lv' := [(3, .int (nI (i + 1))), (2, .int (-1)), (0, .ref m0), (1, .int v1)]) hx hb dX6_drop_39 hl (k := 3) rfl (nI_add i 1) (by decide) rfl (fun ls hl => ?_)
          refine lv_goto (tgt := 9) hx hb dX6_drop_42 (by decide) ?_
          exact ih9  (i + 1) _ _ ls (by first | with_reducible assumption | omega) (by omega) hP hD hS (lv_sub hl [2, 3, 1, 0] rfl)
        · exact absurd c_30 (hbad i (by omega))
  exact L9 (s 8 - 0 + 1) 0 _ _ ls (by first | with_reducible assumption | omega) (by omega) hP hD hS (lv_sub hl [2, 3, 1, 0] rfl)

theorem in_X6_append_bad_X6 : ∀ w ∈ wsX60, w ∈ wsX6_append := by decide +kernel
theorem fl_X6_append_bad_25 : Cond.fieldLink RX6 25 "FountainCuesModel" "thrown" "I" ∈ wsX6_append := by decide +kernel
theorem fl_X6_append_bad_111 : Cond.fieldLink RX6 111 "FountainCuesModel" "typed" "I" ∈ wsX6_append := by decide +kernel
set_option maxHeartbeats 4000000 in
set_option maxRecDepth 100000 in
theorem k_X6_append_bad (l : Launch) (D : va_G) (cI cS cL : ClassId) (T : Nat) (m0 : Nat) (m1 : Nat) (m2 : Nat) (m3 : Nat) (m4 : Nat) (m5 : Nat) (k : Nat) (n : Nat) (th : Nat) (ax : Nat) (fa : Nat) (vl : Nat) (tn : Nat) (hg : Nat) (bg : Nat) (s : Nat → Nat) (h : Nat → Nat) (t : Nat → Nat → Nat) (cs : Nat → Nat) (td : Nat → Nat) (v1 : Int32) (hI : sI T s) (hT : T ≤ 900000) (hk : k ≤ 6) (hn : n ≤ 60) (hcs : ∀ j, j < n → cs j < 2 ^ 31) (hbad : ¬ (inR v1 33 126 ∧ n < 60)) : KM l D (TY cI cS cL) yX6_append wsX6_append ({ frames := 1, cells := 0, slots := 0, locals := 22 } : Room) [(m0, .inr (6, [.ref m1, .ref m2, .ref m3, .int (nI k), .ref m4, .int (nI n), .int (nI th), .int (nI ax), .int (nI fa), .int (nI vl), .ref m5, .int (nI tn), .int (nI hg), .int (nI bg)])), (m1, .inl (cI, 118, .inl (ro 118 s))), (m2, .inl (cI, 118, .inl (ro 118 h))), (m3, .inl (cI, 708, .inl (ro 708 (pkF t)))), (m4, .inl (cI, 60, .inl (ro 60 cs))), (m5, .inl (cI, 48, .inl (ro 48 td)))] [.ref m0, .int v1] (fun (v : Option Value) (_ : Unit) => v = some (.int (nI 0))) (fun _ : Unit => [(m0, .inr (6, [.ref m1, .ref m2, .ref m3, .int (nI k), .ref m4, .int (nI n), .int (nI (if inR v1 33 126 then 2 else 1)), .int (nI ax), .int (nI fa), .int (nI vl), .ref m5, .int (nI tn), .int (nI hg), .int (nI bg)])), (m1, .inl (cI, 118, .inl (ro 118 s))), (m2, .inl (cI, 118, .inl (ro 118 h))), (m3, .inl (cI, 708, .inl (ro 708 (pkF t)))), (m4, .inl (cI, 60, .inl (ro 60 cs))), (m5, .inl (cI, 48, .inl (ro 48 td)))]) := by
  refine KM.of (cc := cX6_append) (maxL := 2) (ret := (some .int)) (by decide) rfl (Nat.le_of_ble_eq_true rfl) ?_
  intro p9 e9 s9 m9 ar9 be9 me9 c9 Q9 A9 ls C0 hN hnm hlk hK hA hret hP hD hS hl
  obtain ⟨hx, hb, hml, hown, hts⟩ := id C0
  have hl : lv_has ls 2 [(0, .ref m0), (1, .int v1)] := hl
  obtain ⟨H, hH0⟩ : ∃ H, H = s9.heap := ⟨_, rfl⟩
  obtain ⟨locs, hlc0⟩ : ∃ z : List Loc, z = [] := ⟨_, rfl⟩
  have hP : va_P D vwCl [(m0, .inr (6, [.ref m1, .ref m2, .ref m3, .int (nI k), .ref m4, .int (nI n), .int (nI th), .int (nI ax), .int (nI fa), .int (nI vl), .ref m5, .int (nI tn), .int (nI hg), .int (nI bg)])), (m1, .inl (cI, 118, .inl (ro 118 s))), (m2, .inl (cI, 118, .inl (ro 118 h))), (m3, .inl (cI, 708, .inl (ro 708 (pkF t)))), (m4, .inl (cI, 60, .inl (ro 60 cs))), (m5, .inl (cI, 48, .inl (ro 48 td)))] H := by rw [hH0]; exact hP
  have hD : va_D A9 [(m0, .inr (6, [.ref m1, .ref m2, .ref m3, .int (nI k), .ref m4, .int (nI n), .int (nI th), .int (nI ax), .int (nI fa), .int (nI vl), .ref m5, .int (nI tn), .int (nI hg), .int (nI bg)])), (m1, .inl (cI, 118, .inl (ro 118 s))), (m2, .inl (cI, 118, .inl (ro 118 h))), (m3, .inl (cI, 708, .inl (ro 708 (pkF t)))), (m4, .inl (cI, 60, .inl (ro 60 cs))), (m5, .inl (cI, 48, .inl (ro 48 td)))] := hD
  have hS : va_S A9 s9.heap H locs := by rw [hH0, hlc0]; exact hS
  suffices hgo : W p9 l e9 ({ frames := 1, cells := 0, slots := 0, locals := 22 } : Room) s9 m9 ar9 be9 me9 c9 H locs 0 0 Q9 (F0 m9 0 ls []) by rw [hH0, hlc0] at hgo; exact hgo
  clear hH0 hlc0
  obtain ⟨hI1, hI2, hI3, hI4, hI5, hI6, hI7, hI8, hI9, hI10, hI11⟩ := id hI
  refine lv_aload_n hx hb dX6_append_0 rfl (lv_at hl 0 rfl) ?_
  refine lv_iconst (v := nI 0) hx hb dX6_append_1 (by decide +kernel) ?_
  refine va_put (D := D) (ci := 6) (v := .int (nI 0)) (ty := tyX6 6) (C := RX6) (T := TX6) (N := 14) hx hb hts in_X6_append_bad_X6 tyX6 tyX6_ok nmX6 hown hK hP hD hS 0 rfl rfl 6 (by decide) (hts _ fl_X6_append_bad_25) (fun _ h9 => h9) rfl (by decide +kernel) rfl rfl (Nat.le_of_ble_eq_true rfl) dX6_append_2 (fun H locs hP hD hS => ?_)
  have hP : va_P D vwCl [(m0, .inr (6, [.ref m1, .ref m2, .ref m3, .int (nI k), .ref m4, .int (nI n), .int (nI 0), .int (nI ax), .int (nI fa), .int (nI vl), .ref m5, .int (nI tn), .int (nI hg), .int (nI bg)])), (m1, .inl (cI, 118, .inl (ro 118 s))), (m2, .inl (cI, 118, .inl (ro 118 h))), (m3, .inl (cI, 708, .inl (ro 708 (pkF t)))), (m4, .inl (cI, 60, .inl (ro 60 cs))), (m5, .inl (cI, 48, .inl (ro 48 td)))] H := hP
  have hD : va_D A9 [(m0, .inr (6, [.ref m1, .ref m2, .ref m3, .int (nI k), .ref m4, .int (nI n), .int (nI 0), .int (nI ax), .int (nI fa), .int (nI vl), .ref m5, .int (nI tn), .int (nI hg), .int (nI bg)])), (m1, .inl (cI, 118, .inl (ro 118 s))), (m2, .inl (cI, 118, .inl (ro 118 h))), (m3, .inl (cI, 708, .inl (ro 708 (pkF t)))), (m4, .inl (cI, 60, .inl (ro 60 cs))), (m5, .inl (cI, 48, .inl (ro 48 td)))] := hD
  refine lv_iload_n hx hb dX6_append_5 rfl (lv_at hl 1 rfl) ?_
  refine lv_bipush (v := nI 33) hx hb dX6_append_6 (by decide +kernel) ?_
  refine lv_bipush (v := nI 126) hx hb dX6_append_8 (by decide +kernel) ?_
  refine KM.callS (As := [.int v1, .int (nI 33), .int (nI 126)]) (rest := []) C0 hN (k_X6_in l D cI cS cL v1 33 126  (by decide) (by decide)) (va_cwS 3 hts gX6_append_X6_in rfl rfl rfl (by decide +kernel) ⟨Nat.le_of_ble_eq_true rfl, Nat.le_of_ble_eq_true rfl⟩) hK hP hD hS hA [] rfl (by decide) (fun _ => rfl) rfl hl.1 rfl (Nat.le_of_ble_eq_true rfl) dX6_append_10 ⟨Nat.le_of_ble_eq_true rfl, Nat.le_of_ble_eq_true rfl⟩ (fun v9 u9 H locs hv hP hD hS => ?_)
  subst hv
  have hP : va_P D vwCl [(m0, .inr (6, [.ref m1, .ref m2, .ref m3, .int (nI k), .ref m4, .int (nI n), .int (nI 0), .int (nI ax), .int (nI fa), .int (nI vl), .ref m5, .int (nI tn), .int (nI hg), .int (nI bg)])), (m1, .inl (cI, 118, .inl (ro 118 s))), (m2, .inl (cI, 118, .inl (ro 118 h))), (m3, .inl (cI, 708, .inl (ro 708 (pkF t)))), (m4, .inl (cI, 60, .inl (ro 60 cs))), (m5, .inl (cI, 48, .inl (ro 48 td)))] H := hP
  have hD : va_D A9 [(m0, .inr (6, [.ref m1, .ref m2, .ref m3, .int (nI k), .ref m4, .int (nI n), .int (nI 0), .int (nI ax), .int (nI fa), .int (nI vl), .ref m5, .int (nI tn), .int (nI hg), .int (nI bg)])), (m1, .inl (cI, 118, .inl (ro 118 s))), (m2, .inl (cI, 118, .inl (ro 118 h))), (m3, .inl (cI, 708, .inl (ro 708 (pkF t)))), (m4, .inl (cI, 60, .inl (ro 60 cs))), (m5, .inl (cI, 48, .inl (ro 48 td)))] := hD
  refine W.eq (g2 := F0 m9 13 ls [.int (nI (bI (inR v1 33 126)))]) rfl ?_
  refine q_fne (tgt := 22) bI_lt hx hb dX6_append_13 (by decide) (fun c_13 => ?_) (fun c_13 => ?_)
  ·
    have c_13 := bI_nz c_13
    refine lv_aload_n hx hb dX6_append_22 rfl (lv_at hl 0 rfl) ?_
    refine va_get (D := D) (ci := 6) (v := .int (nI n)) (C := RX6) (T := TX6) (N := 14) hx hb hts in_X6_append_bad_X6 hown hK hP 0 rfl rfl 5 (by decide) (hts _ fl_X6_append_bad_111) (fun _ h9 => h9) rfl dX6_append_23 ?_
    refine lv_bipush (v := nI 60) hx hb dX6_append_26 (by decide +kernel) ?_
    refine q_ine (tgt := 37) (by omega) (by omega) hx hb dX6_append_28 (by decide) (fun c_28 => ?_) (fun c_28 => ?_)
    ·
      exfalso; omega
    ·
      refine lv_aload_n hx hb dX6_append_31 rfl (lv_at hl 0 rfl) ?_
      refine lv_iconst (v := nI 2) hx hb dX6_append_32 (by decide +kernel) ?_
      refine KM.callV (As := [.int (nI 2)]) (rest := []) C0 hN (k_X6_fails l D cI cS cL m0 m1 m2 m3 m4 m5 k n 0 ax fa vl tn hg bg 2  ) (cwV 1 hts gX6_append_X6_fails rfl rfl rfl (by decide +kernel) ⟨Nat.le_of_ble_eq_true rfl, Nat.le_of_ble_eq_true rfl⟩) hK hP hD hS hA [0] rfl (by decide) (fun _ => rfl) 0 6 rfl rfl rfl rfl hl.1 rfl (Nat.le_of_ble_eq_true rfl) dX6_append_33 ⟨Nat.le_of_ble_eq_true rfl, Nat.le_of_ble_eq_true rfl⟩ (fun v9 u9 H locs hv hP hD hS => ?_)
      subst hv
      have hP : va_P D vwCl [(m0, .inr (6, [.ref m1, .ref m2, .ref m3, .int (nI k), .ref m4, .int (nI n), .int (nI 2), .int (nI ax), .int (nI fa), .int (nI vl), .ref m5, .int (nI tn), .int (nI hg), .int (nI bg)])), (m1, .inl (cI, 118, .inl (ro 118 s))), (m2, .inl (cI, 118, .inl (ro 118 h))), (m3, .inl (cI, 708, .inl (ro 708 (pkF t)))), (m4, .inl (cI, 60, .inl (ro 60 cs))), (m5, .inl (cI, 48, .inl (ro 48 td)))] H := hP
      have hD : va_D A9 [(m0, .inr (6, [.ref m1, .ref m2, .ref m3, .int (nI k), .ref m4, .int (nI n), .int (nI 2), .int (nI ax), .int (nI fa), .int (nI vl), .ref m5, .int (nI tn), .int (nI hg), .int (nI bg)])), (m1, .inl (cI, 118, .inl (ro 118 s))), (m2, .inl (cI, 118, .inl (ro 118 h))), (m3, .inl (cI, 708, .inl (ro 708 (pkF t)))), (m4, .inl (cI, 60, .inl (ro 60 cs))), (m5, .inl (cI, 48, .inl (ro 48 td)))] := hD
      refine W.eq (g2 := F0 m9 36 ls [.int (nI 0)]) rfl ?_
      rw [show (if inR v1 33 126 then 2 else 1) = 2 from by (repeat' split) <;> first | rfl | (exfalso; omega)] at hret
      exact hret _ _ _ _ (some (.int (nI 0))) () 36 ls (by decide) (by decide) (by rfl) hP hD hS (ret_i dX6_append_36)
  ·
    have c_13 := bI_z c_13
    refine lv_aload_n hx hb dX6_append_16 rfl (lv_at hl 0 rfl) ?_
    refine lv_iconst (v := nI 1) hx hb dX6_append_17 (by decide +kernel) ?_
    refine KM.callV (As := [.int (nI 1)]) (rest := []) C0 hN (k_X6_fails l D cI cS cL m0 m1 m2 m3 m4 m5 k n 0 ax fa vl tn hg bg 1  ) (cwV 1 hts gX6_append_X6_fails rfl rfl rfl (by decide +kernel) ⟨Nat.le_of_ble_eq_true rfl, Nat.le_of_ble_eq_true rfl⟩) hK hP hD hS hA [0] rfl (by decide) (fun _ => rfl) 0 6 rfl rfl rfl rfl hl.1 rfl (Nat.le_of_ble_eq_true rfl) dX6_append_18 ⟨Nat.le_of_ble_eq_true rfl, Nat.le_of_ble_eq_true rfl⟩ (fun v9 u9 H locs hv hP hD hS => ?_)
    subst hv
    have hP : va_P D vwCl [(m0, .inr (6, [.ref m1, .ref m2, .ref m3, .int (nI k), .ref m4, .int (nI n), .int (nI 1), .int (nI ax), .int (nI fa), .int (nI vl), .ref m5, .int (nI tn), .int (nI hg), .int (nI bg)])), (m1, .inl (cI, 118, .inl (ro 118 s))), (m2, .inl (cI, 118, .inl (ro 118 h))), (m3, .inl (cI, 708, .inl (ro 708 (pkF t)))), (m4, .inl (cI, 60, .inl (ro 60 cs))), (m5, .inl (cI, 48, .inl (ro 48 td)))] H := hP
    have hD : va_D A9 [(m0, .inr (6, [.ref m1, .ref m2, .ref m3, .int (nI k), .ref m4, .int (nI n), .int (nI 1), .int (nI ax), .int (nI fa), .int (nI vl), .ref m5, .int (nI tn), .int (nI hg), .int (nI bg)])), (m1, .inl (cI, 118, .inl (ro 118 s))), (m2, .inl (cI, 118, .inl (ro 118 h))), (m3, .inl (cI, 708, .inl (ro 708 (pkF t)))), (m4, .inl (cI, 60, .inl (ro 60 cs))), (m5, .inl (cI, 48, .inl (ro 48 td)))] := hD
    refine W.eq (g2 := F0 m9 21 ls [.int (nI 0)]) rfl ?_
    rw [show (if inR v1 33 126 then 2 else 1) = 1 from by (repeat' split) <;> first | rfl | (exfalso; omega)] at hret
    exact hret _ _ _ _ (some (.int (nI 0))) () 21 ls (by decide) (by decide) (by rfl) hP hD hS (ret_i dX6_append_21)

theorem in_X6_undo_bad_X6 : ∀ w ∈ wsX60, w ∈ wsX6_undo := by decide +kernel
theorem fl_X6_undo_bad_25 : Cond.fieldLink RX6 25 "FountainCuesModel" "thrown" "I" ∈ wsX6_undo := by decide +kernel
theorem fl_X6_undo_bad_33 : Cond.fieldLink RX6 33 "FountainCuesModel" "kept" "I" ∈ wsX6_undo := by decide +kernel
set_option maxHeartbeats 4000000 in
set_option maxRecDepth 100000 in
theorem k_X6_undo_bad (l : Launch) (D : va_G) (cI cS cL : ClassId) (T : Nat) (m0 : Nat) (m1 : Nat) (m2 : Nat) (m3 : Nat) (m4 : Nat) (m5 : Nat) (k : Nat) (n : Nat) (th : Nat) (ax : Nat) (fa : Nat) (vl : Nat) (tn : Nat) (hg : Nat) (bg : Nat) (s : Nat → Nat) (h : Nat → Nat) (t : Nat → Nat → Nat) (cs : Nat → Nat) (td : Nat → Nat) (hI : sI T s) (hT : T ≤ 900000) (hk : k ≤ 6) (hn : n ≤ 60) (hcs : ∀ j, j < n → cs j < 2 ^ 31) (hbad : k = 0) : KM l D (TY cI cS cL) yX6_undo wsX6_undo ({ frames := 1, cells := 0, slots := 0, locals := 21 } : Room) [(m0, .inr (6, [.ref m1, .ref m2, .ref m3, .int (nI k), .ref m4, .int (nI n), .int (nI th), .int (nI ax), .int (nI fa), .int (nI vl), .ref m5, .int (nI tn), .int (nI hg), .int (nI bg)])), (m1, .inl (cI, 118, .inl (ro 118 s))), (m2, .inl (cI, 118, .inl (ro 118 h))), (m3, .inl (cI, 708, .inl (ro 708 (pkF t)))), (m4, .inl (cI, 60, .inl (ro 60 cs))), (m5, .inl (cI, 48, .inl (ro 48 td)))] [.ref m0] (fun (v : Option Value) (_ : Unit) => v = some (.int (nI 0))) (fun _ : Unit => [(m0, .inr (6, [.ref m1, .ref m2, .ref m3, .int (nI k), .ref m4, .int (nI n), .int (nI 1), .int (nI ax), .int (nI fa), .int (nI vl), .ref m5, .int (nI tn), .int (nI hg), .int (nI bg)])), (m1, .inl (cI, 118, .inl (ro 118 s))), (m2, .inl (cI, 118, .inl (ro 118 h))), (m3, .inl (cI, 708, .inl (ro 708 (pkF t)))), (m4, .inl (cI, 60, .inl (ro 60 cs))), (m5, .inl (cI, 48, .inl (ro 48 td)))]) := by
  refine KM.of (cc := cX6_undo) (maxL := 1) (ret := (some .int)) (by decide) rfl (Nat.le_of_ble_eq_true rfl) ?_
  intro p9 e9 s9 m9 ar9 be9 me9 c9 Q9 A9 ls C0 hN hnm hlk hK hA hret hP hD hS hl
  obtain ⟨hx, hb, hml, hown, hts⟩ := id C0
  have hl : lv_has ls 1 [(0, .ref m0)] := hl
  obtain ⟨H, hH0⟩ : ∃ H, H = s9.heap := ⟨_, rfl⟩
  obtain ⟨locs, hlc0⟩ : ∃ z : List Loc, z = [] := ⟨_, rfl⟩
  have hP : va_P D vwCl [(m0, .inr (6, [.ref m1, .ref m2, .ref m3, .int (nI k), .ref m4, .int (nI n), .int (nI th), .int (nI ax), .int (nI fa), .int (nI vl), .ref m5, .int (nI tn), .int (nI hg), .int (nI bg)])), (m1, .inl (cI, 118, .inl (ro 118 s))), (m2, .inl (cI, 118, .inl (ro 118 h))), (m3, .inl (cI, 708, .inl (ro 708 (pkF t)))), (m4, .inl (cI, 60, .inl (ro 60 cs))), (m5, .inl (cI, 48, .inl (ro 48 td)))] H := by rw [hH0]; exact hP
  have hD : va_D A9 [(m0, .inr (6, [.ref m1, .ref m2, .ref m3, .int (nI k), .ref m4, .int (nI n), .int (nI th), .int (nI ax), .int (nI fa), .int (nI vl), .ref m5, .int (nI tn), .int (nI hg), .int (nI bg)])), (m1, .inl (cI, 118, .inl (ro 118 s))), (m2, .inl (cI, 118, .inl (ro 118 h))), (m3, .inl (cI, 708, .inl (ro 708 (pkF t)))), (m4, .inl (cI, 60, .inl (ro 60 cs))), (m5, .inl (cI, 48, .inl (ro 48 td)))] := hD
  have hS : va_S A9 s9.heap H locs := by rw [hH0, hlc0]; exact hS
  suffices hgo : W p9 l e9 ({ frames := 1, cells := 0, slots := 0, locals := 21 } : Room) s9 m9 ar9 be9 me9 c9 H locs 0 0 Q9 (F0 m9 0 ls []) by rw [hH0, hlc0] at hgo; exact hgo
  clear hH0 hlc0
  obtain ⟨hI1, hI2, hI3, hI4, hI5, hI6, hI7, hI8, hI9, hI10, hI11⟩ := id hI
  refine lv_aload_n hx hb dX6_undo_0 rfl (lv_at hl 0 rfl) ?_
  refine lv_iconst (v := nI 0) hx hb dX6_undo_1 (by decide +kernel) ?_
  refine va_put (D := D) (ci := 6) (v := .int (nI 0)) (ty := tyX6 6) (C := RX6) (T := TX6) (N := 14) hx hb hts in_X6_undo_bad_X6 tyX6 tyX6_ok nmX6 hown hK hP hD hS 0 rfl rfl 6 (by decide) (hts _ fl_X6_undo_bad_25) (fun _ h9 => h9) rfl (by decide +kernel) rfl rfl (Nat.le_of_ble_eq_true rfl) dX6_undo_2 (fun H locs hP hD hS => ?_)
  have hP : va_P D vwCl [(m0, .inr (6, [.ref m1, .ref m2, .ref m3, .int (nI k), .ref m4, .int (nI n), .int (nI 0), .int (nI ax), .int (nI fa), .int (nI vl), .ref m5, .int (nI tn), .int (nI hg), .int (nI bg)])), (m1, .inl (cI, 118, .inl (ro 118 s))), (m2, .inl (cI, 118, .inl (ro 118 h))), (m3, .inl (cI, 708, .inl (ro 708 (pkF t)))), (m4, .inl (cI, 60, .inl (ro 60 cs))), (m5, .inl (cI, 48, .inl (ro 48 td)))] H := hP
  have hD : va_D A9 [(m0, .inr (6, [.ref m1, .ref m2, .ref m3, .int (nI k), .ref m4, .int (nI n), .int (nI 0), .int (nI ax), .int (nI fa), .int (nI vl), .ref m5, .int (nI tn), .int (nI hg), .int (nI bg)])), (m1, .inl (cI, 118, .inl (ro 118 s))), (m2, .inl (cI, 118, .inl (ro 118 h))), (m3, .inl (cI, 708, .inl (ro 708 (pkF t)))), (m4, .inl (cI, 60, .inl (ro 60 cs))), (m5, .inl (cI, 48, .inl (ro 48 td)))] := hD
  refine lv_aload_n hx hb dX6_undo_5 rfl (lv_at hl 0 rfl) ?_
  refine va_get (D := D) (ci := 6) (v := .int (nI k)) (C := RX6) (T := TX6) (N := 14) hx hb hts in_X6_undo_bad_X6 hown hK hP 0 rfl rfl 3 (by decide) (hts _ fl_X6_undo_bad_33) (fun _ h9 => h9) rfl dX6_undo_6 ?_
  refine q_fne (tgt := 18) (by omega) hx hb dX6_undo_9 (by decide) (fun c_9 => ?_) (fun c_9 => ?_)
  · exact absurd True.intro (by omega)
  ·
    refine lv_aload_n hx hb dX6_undo_12 rfl (lv_at hl 0 rfl) ?_
    refine lv_iconst (v := nI 1) hx hb dX6_undo_13 (by decide +kernel) ?_
    refine KM.callV (As := [.int (nI 1)]) (rest := []) C0 hN (k_X6_fails l D cI cS cL m0 m1 m2 m3 m4 m5 k n 0 ax fa vl tn hg bg 1  ) (cwV 1 hts gX6_undo_X6_fails rfl rfl rfl (by decide +kernel) ⟨Nat.le_of_ble_eq_true rfl, Nat.le_of_ble_eq_true rfl⟩) hK hP hD hS hA [0] rfl (by decide) (fun _ => rfl) 0 6 rfl rfl rfl rfl hl.1 rfl (Nat.le_of_ble_eq_true rfl) dX6_undo_14 ⟨Nat.le_of_ble_eq_true rfl, Nat.le_of_ble_eq_true rfl⟩ (fun v9 u9 H locs hv hP hD hS => ?_)
    subst hv
    have hP : va_P D vwCl [(m0, .inr (6, [.ref m1, .ref m2, .ref m3, .int (nI k), .ref m4, .int (nI n), .int (nI 1), .int (nI ax), .int (nI fa), .int (nI vl), .ref m5, .int (nI tn), .int (nI hg), .int (nI bg)])), (m1, .inl (cI, 118, .inl (ro 118 s))), (m2, .inl (cI, 118, .inl (ro 118 h))), (m3, .inl (cI, 708, .inl (ro 708 (pkF t)))), (m4, .inl (cI, 60, .inl (ro 60 cs))), (m5, .inl (cI, 48, .inl (ro 48 td)))] H := hP
    have hD : va_D A9 [(m0, .inr (6, [.ref m1, .ref m2, .ref m3, .int (nI k), .ref m4, .int (nI n), .int (nI 1), .int (nI ax), .int (nI fa), .int (nI vl), .ref m5, .int (nI tn), .int (nI hg), .int (nI bg)])), (m1, .inl (cI, 118, .inl (ro 118 s))), (m2, .inl (cI, 118, .inl (ro 118 h))), (m3, .inl (cI, 708, .inl (ro 708 (pkF t)))), (m4, .inl (cI, 60, .inl (ro 60 cs))), (m5, .inl (cI, 48, .inl (ro 48 td)))] := hD
    refine W.eq (g2 := F0 m9 17 ls [.int (nI 0)]) rfl ?_
    exact hret _ _ _ _ (some (.int (nI 0))) () 17 ls (by decide) (by decide) (by rfl) hP hD hS (ret_i dX6_undo_17)

theorem in_X6_cueOf_bad_X6 : ∀ w ∈ wsX60, w ∈ wsX6_cueOf := by decide +kernel
theorem fl_X6_cueOf_bad_25 : Cond.fieldLink RX6 25 "FountainCuesModel" "thrown" "I" ∈ wsX6_cueOf := by decide +kernel
set_option maxHeartbeats 4000000 in
set_option maxRecDepth 100000 in
theorem k_X6_cueOf_bad (l : Launch) (D : va_G) (cI cS cL : ClassId) (T : Nat) (m0 : Nat) (m1 : Nat) (m2 : Nat) (m3 : Nat) (m4 : Nat) (m5 : Nat) (k : Nat) (n : Nat) (th : Nat) (ax : Nat) (fa : Nat) (vl : Nat) (tn : Nat) (hg : Nat) (bg : Nat) (s : Nat → Nat) (h : Nat → Nat) (t : Nat → Nat → Nat) (cs : Nat → Nat) (td : Nat → Nat) (v1 : Int32) (v2 : Int32) (hI : sI T s) (hT : T ≤ 900000) (hk : k ≤ 6) (hn : n ≤ 60) (hcs : ∀ j, j < n → cs j < 2 ^ 31) (hbad : ¬ (0 ≤ v1.toInt ∧ inR v2 0 3)) : KM l D (TY cI cS cL) yX6_cueOf wsX6_cueOf ({ frames := 1, cells := 0, slots := 0, locals := 22 } : Room) [(m0, .inr (6, [.ref m1, .ref m2, .ref m3, .int (nI k), .ref m4, .int (nI n), .int (nI th), .int (nI ax), .int (nI fa), .int (nI vl), .ref m5, .int (nI tn), .int (nI hg), .int (nI bg)])), (m1, .inl (cI, 118, .inl (ro 118 s))), (m2, .inl (cI, 118, .inl (ro 118 h))), (m3, .inl (cI, 708, .inl (ro 708 (pkF t)))), (m4, .inl (cI, 60, .inl (ro 60 cs))), (m5, .inl (cI, 48, .inl (ro 48 td)))] [.ref m0, .int v1, .int v2] (fun (v : Option Value) (_ : Unit) => v = some (.int (nI 0))) (fun _ : Unit => [(m0, .inr (6, [.ref m1, .ref m2, .ref m3, .int (nI k), .ref m4, .int (nI n), .int (nI 1), .int (nI ax), .int (nI fa), .int (nI vl), .ref m5, .int (nI tn), .int (nI hg), .int (nI bg)])), (m1, .inl (cI, 118, .inl (ro 118 s))), (m2, .inl (cI, 118, .inl (ro 118 h))), (m3, .inl (cI, 708, .inl (ro 708 (pkF t)))), (m4, .inl (cI, 60, .inl (ro 60 cs))), (m5, .inl (cI, 48, .inl (ro 48 td)))]) := by
  refine KM.of (cc := cX6_cueOf) (maxL := 3) (ret := (some .int)) (by decide) rfl (Nat.le_of_ble_eq_true rfl) ?_
  intro p9 e9 s9 m9 ar9 be9 me9 c9 Q9 A9 ls C0 hN hnm hlk hK hA hret hP hD hS hl
  obtain ⟨hx, hb, hml, hown, hts⟩ := id C0
  have hl : lv_has ls 3 [(0, .ref m0), (1, .int v1), (2, .int v2)] := hl
  obtain ⟨H, hH0⟩ : ∃ H, H = s9.heap := ⟨_, rfl⟩
  obtain ⟨locs, hlc0⟩ : ∃ z : List Loc, z = [] := ⟨_, rfl⟩
  have hP : va_P D vwCl [(m0, .inr (6, [.ref m1, .ref m2, .ref m3, .int (nI k), .ref m4, .int (nI n), .int (nI th), .int (nI ax), .int (nI fa), .int (nI vl), .ref m5, .int (nI tn), .int (nI hg), .int (nI bg)])), (m1, .inl (cI, 118, .inl (ro 118 s))), (m2, .inl (cI, 118, .inl (ro 118 h))), (m3, .inl (cI, 708, .inl (ro 708 (pkF t)))), (m4, .inl (cI, 60, .inl (ro 60 cs))), (m5, .inl (cI, 48, .inl (ro 48 td)))] H := by rw [hH0]; exact hP
  have hD : va_D A9 [(m0, .inr (6, [.ref m1, .ref m2, .ref m3, .int (nI k), .ref m4, .int (nI n), .int (nI th), .int (nI ax), .int (nI fa), .int (nI vl), .ref m5, .int (nI tn), .int (nI hg), .int (nI bg)])), (m1, .inl (cI, 118, .inl (ro 118 s))), (m2, .inl (cI, 118, .inl (ro 118 h))), (m3, .inl (cI, 708, .inl (ro 708 (pkF t)))), (m4, .inl (cI, 60, .inl (ro 60 cs))), (m5, .inl (cI, 48, .inl (ro 48 td)))] := hD
  have hS : va_S A9 s9.heap H locs := by rw [hH0, hlc0]; exact hS
  suffices hgo : W p9 l e9 ({ frames := 1, cells := 0, slots := 0, locals := 22 } : Room) s9 m9 ar9 be9 me9 c9 H locs 0 0 Q9 (F0 m9 0 ls []) by rw [hH0, hlc0] at hgo; exact hgo
  clear hH0 hlc0
  obtain ⟨hI1, hI2, hI3, hI4, hI5, hI6, hI7, hI8, hI9, hI10, hI11⟩ := id hI
  refine lv_aload_n hx hb dX6_cueOf_0 rfl (lv_at hl 0 rfl) ?_
  refine lv_iconst (v := nI 0) hx hb dX6_cueOf_1 (by decide +kernel) ?_
  refine va_put (D := D) (ci := 6) (v := .int (nI 0)) (ty := tyX6 6) (C := RX6) (T := TX6) (N := 14) hx hb hts in_X6_cueOf_bad_X6 tyX6 tyX6_ok nmX6 hown hK hP hD hS 0 rfl rfl 6 (by decide) (hts _ fl_X6_cueOf_bad_25) (fun _ h9 => h9) rfl (by decide +kernel) rfl rfl (Nat.le_of_ble_eq_true rfl) dX6_cueOf_2 (fun H locs hP hD hS => ?_)
  have hP : va_P D vwCl [(m0, .inr (6, [.ref m1, .ref m2, .ref m3, .int (nI k), .ref m4, .int (nI n), .int (nI 0), .int (nI ax), .int (nI fa), .int (nI vl), .ref m5, .int (nI tn), .int (nI hg), .int (nI bg)])), (m1, .inl (cI, 118, .inl (ro 118 s))), (m2, .inl (cI, 118, .inl (ro 118 h))), (m3, .inl (cI, 708, .inl (ro 708 (pkF t)))), (m4, .inl (cI, 60, .inl (ro 60 cs))), (m5, .inl (cI, 48, .inl (ro 48 td)))] H := hP
  have hD : va_D A9 [(m0, .inr (6, [.ref m1, .ref m2, .ref m3, .int (nI k), .ref m4, .int (nI n), .int (nI 0), .int (nI ax), .int (nI fa), .int (nI vl), .ref m5, .int (nI tn), .int (nI hg), .int (nI bg)])), (m1, .inl (cI, 118, .inl (ro 118 s))), (m2, .inl (cI, 118, .inl (ro 118 h))), (m3, .inl (cI, 708, .inl (ro 708 (pkF t)))), (m4, .inl (cI, 60, .inl (ro 60 cs))), (m5, .inl (cI, 48, .inl (ro 48 td)))] := hD
  refine lv_iload_n hx hb dX6_cueOf_5 rfl (lv_at hl 1 rfl) ?_
  refine lv_if_lt (tgt := 18) hx hb dX6_cueOf_6 (by decide) (fun c_6 => ?_) (fun c_6 => ?_)
  ·
    refine lv_aload_n hx hb dX6_cueOf_18 rfl (lv_at hl 0 rfl) ?_
    refine lv_iconst (v := nI 1) hx hb dX6_cueOf_19 (by decide +kernel) ?_
    refine KM.callV (As := [.int (nI 1)]) (rest := []) C0 hN (k_X6_fails l D cI cS cL m0 m1 m2 m3 m4 m5 k n 0 ax fa vl tn hg bg 1  ) (cwV 1 hts gX6_cueOf_X6_fails rfl rfl rfl (by decide +kernel) ⟨Nat.le_of_ble_eq_true rfl, Nat.le_of_ble_eq_true rfl⟩) hK hP hD hS hA [0] rfl (by decide) (fun _ => rfl) 0 6 rfl rfl rfl rfl hl.1 rfl (Nat.le_of_ble_eq_true rfl) dX6_cueOf_20 ⟨Nat.le_of_ble_eq_true rfl, Nat.le_of_ble_eq_true rfl⟩ (fun v9 u9 H locs hv hP hD hS => ?_)
    subst hv
    have hP : va_P D vwCl [(m0, .inr (6, [.ref m1, .ref m2, .ref m3, .int (nI k), .ref m4, .int (nI n), .int (nI 1), .int (nI ax), .int (nI fa), .int (nI vl), .ref m5, .int (nI tn), .int (nI hg), .int (nI bg)])), (m1, .inl (cI, 118, .inl (ro 118 s))), (m2, .inl (cI, 118, .inl (ro 118 h))), (m3, .inl (cI, 708, .inl (ro 708 (pkF t)))), (m4, .inl (cI, 60, .inl (ro 60 cs))), (m5, .inl (cI, 48, .inl (ro 48 td)))] H := hP
    have hD : va_D A9 [(m0, .inr (6, [.ref m1, .ref m2, .ref m3, .int (nI k), .ref m4, .int (nI n), .int (nI 1), .int (nI ax), .int (nI fa), .int (nI vl), .ref m5, .int (nI tn), .int (nI hg), .int (nI bg)])), (m1, .inl (cI, 118, .inl (ro 118 s))), (m2, .inl (cI, 118, .inl (ro 118 h))), (m3, .inl (cI, 708, .inl (ro 708 (pkF t)))), (m4, .inl (cI, 60, .inl (ro 60 cs))), (m5, .inl (cI, 48, .inl (ro 48 td)))] := hD
    refine W.eq (g2 := F0 m9 23 ls [.int (nI 0)]) rfl ?_
    exact hret _ _ _ _ (some (.int (nI 0))) () 23 ls (by decide) (by decide) (by rfl) hP hD hS (ret_i dX6_cueOf_23)
  ·
    refine lv_iload_n hx hb dX6_cueOf_9 rfl (lv_at hl 2 rfl) ?_
    refine lv_iconst (v := nI 0) hx hb dX6_cueOf_10 (by decide +kernel) ?_
    refine lv_iconst (v := nI 3) hx hb dX6_cueOf_11 (by decide +kernel) ?_
    refine KM.callS (As := [.int v2, .int (nI 0), .int (nI 3)]) (rest := []) C0 hN (k_X6_in l D cI cS cL v2 0 3  (by decide) (by decide)) (va_cwS 3 hts gX6_cueOf_X6_in rfl rfl rfl (by decide +kernel) ⟨Nat.le_of_ble_eq_true rfl, Nat.le_of_ble_eq_true rfl⟩) hK hP hD hS hA [] rfl (by decide) (fun _ => rfl) rfl hl.1 rfl (Nat.le_of_ble_eq_true rfl) dX6_cueOf_12 ⟨Nat.le_of_ble_eq_true rfl, Nat.le_of_ble_eq_true rfl⟩ (fun v9 u9 H locs hv hP hD hS => ?_)
    subst hv
    have hP : va_P D vwCl [(m0, .inr (6, [.ref m1, .ref m2, .ref m3, .int (nI k), .ref m4, .int (nI n), .int (nI 0), .int (nI ax), .int (nI fa), .int (nI vl), .ref m5, .int (nI tn), .int (nI hg), .int (nI bg)])), (m1, .inl (cI, 118, .inl (ro 118 s))), (m2, .inl (cI, 118, .inl (ro 118 h))), (m3, .inl (cI, 708, .inl (ro 708 (pkF t)))), (m4, .inl (cI, 60, .inl (ro 60 cs))), (m5, .inl (cI, 48, .inl (ro 48 td)))] H := hP
    have hD : va_D A9 [(m0, .inr (6, [.ref m1, .ref m2, .ref m3, .int (nI k), .ref m4, .int (nI n), .int (nI 0), .int (nI ax), .int (nI fa), .int (nI vl), .ref m5, .int (nI tn), .int (nI hg), .int (nI bg)])), (m1, .inl (cI, 118, .inl (ro 118 s))), (m2, .inl (cI, 118, .inl (ro 118 h))), (m3, .inl (cI, 708, .inl (ro 708 (pkF t)))), (m4, .inl (cI, 60, .inl (ro 60 cs))), (m5, .inl (cI, 48, .inl (ro 48 td)))] := hD
    refine W.eq (g2 := F0 m9 15 ls [.int (nI (bI (inR v2 0 3)))]) rfl ?_
    refine q_fne (tgt := 24) bI_lt hx hb dX6_cueOf_15 (by decide) (fun c_15 => ?_) (fun c_15 => ?_)
    ·
      have c_15 := bI_nz c_15
      exact absurd ⟨by rw [Int32.lt_iff_toInt_lt] at c_6; simp at c_6; omega, by assumption⟩ hbad
    ·
      have c_15 := bI_z c_15
      refine lv_aload_n hx hb dX6_cueOf_18 rfl (lv_at hl 0 rfl) ?_
      refine lv_iconst (v := nI 1) hx hb dX6_cueOf_19 (by decide +kernel) ?_
      refine KM.callV (As := [.int (nI 1)]) (rest := []) C0 hN (k_X6_fails l D cI cS cL m0 m1 m2 m3 m4 m5 k n 0 ax fa vl tn hg bg 1  ) (cwV 1 hts gX6_cueOf_X6_fails rfl rfl rfl (by decide +kernel) ⟨Nat.le_of_ble_eq_true rfl, Nat.le_of_ble_eq_true rfl⟩) hK hP hD hS hA [0] rfl (by decide) (fun _ => rfl) 0 6 rfl rfl rfl rfl hl.1 rfl (Nat.le_of_ble_eq_true rfl) dX6_cueOf_20 ⟨Nat.le_of_ble_eq_true rfl, Nat.le_of_ble_eq_true rfl⟩ (fun v9 u9 H locs hv hP hD hS => ?_)
      subst hv
      have hP : va_P D vwCl [(m0, .inr (6, [.ref m1, .ref m2, .ref m3, .int (nI k), .ref m4, .int (nI n), .int (nI 1), .int (nI ax), .int (nI fa), .int (nI vl), .ref m5, .int (nI tn), .int (nI hg), .int (nI bg)])), (m1, .inl (cI, 118, .inl (ro 118 s))), (m2, .inl (cI, 118, .inl (ro 118 h))), (m3, .inl (cI, 708, .inl (ro 708 (pkF t)))), (m4, .inl (cI, 60, .inl (ro 60 cs))), (m5, .inl (cI, 48, .inl (ro 48 td)))] H := hP
      have hD : va_D A9 [(m0, .inr (6, [.ref m1, .ref m2, .ref m3, .int (nI k), .ref m4, .int (nI n), .int (nI 1), .int (nI ax), .int (nI fa), .int (nI vl), .ref m5, .int (nI tn), .int (nI hg), .int (nI bg)])), (m1, .inl (cI, 118, .inl (ro 118 s))), (m2, .inl (cI, 118, .inl (ro 118 h))), (m3, .inl (cI, 708, .inl (ro 708 (pkF t)))), (m4, .inl (cI, 60, .inl (ro 60 cs))), (m5, .inl (cI, 48, .inl (ro 48 td)))] := hD
      refine W.eq (g2 := F0 m9 23 ls [.int (nI 0)]) rfl ?_
      exact hret _ _ _ _ (some (.int (nI 0))) () 23 ls (by decide) (by decide) (by rfl) hP hD hS (ret_i dX6_cueOf_23)

theorem in_X6_set_bad_X6 : ∀ w ∈ wsX60, w ∈ wsX6_set := by decide +kernel
theorem fl_X6_set_bad_25 : Cond.fieldLink RX6 25 "FountainCuesModel" "thrown" "I" ∈ wsX6_set := by decide +kernel
set_option maxHeartbeats 4000000 in
set_option maxRecDepth 100000 in
theorem k_X6_set_bad (l : Launch) (D : va_G) (cI cS cL : ClassId) (T : Nat) (m0 : Nat) (m1 : Nat) (m2 : Nat) (m3 : Nat) (m4 : Nat) (m5 : Nat) (k : Nat) (n : Nat) (th : Nat) (ax : Nat) (fa : Nat) (vl : Nat) (tn : Nat) (hg : Nat) (bg : Nat) (s : Nat → Nat) (h : Nat → Nat) (t : Nat → Nat → Nat) (cs : Nat → Nat) (td : Nat → Nat) (v1 : Int32) (v2 : Int32) (hI : sI T s) (hT : T ≤ 900000) (hk : k ≤ 6) (hn : n ≤ 60) (hcs : ∀ j, j < n → cs j < 2 ^ 31) (hbad : ¬ (inR v1 0 2 ∧ inR v2 (leF (iN v1)) (moF (iN v1)))) : KM l D (TY cI cS cL) yX6_set wsX6_set ({ frames := 1, cells := 0, slots := 0, locals := 22 } : Room) [(m0, .inr (6, [.ref m1, .ref m2, .ref m3, .int (nI k), .ref m4, .int (nI n), .int (nI th), .int (nI ax), .int (nI fa), .int (nI vl), .ref m5, .int (nI tn), .int (nI hg), .int (nI bg)])), (m1, .inl (cI, 118, .inl (ro 118 s))), (m2, .inl (cI, 118, .inl (ro 118 h))), (m3, .inl (cI, 708, .inl (ro 708 (pkF t)))), (m4, .inl (cI, 60, .inl (ro 60 cs))), (m5, .inl (cI, 48, .inl (ro 48 td)))] [.ref m0, .int v1, .int v2] (fun (v : Option Value) (_ : Unit) => v = some (.int (nI 0))) (fun _ : Unit => [(m0, .inr (6, [.ref m1, .ref m2, .ref m3, .int (nI k), .ref m4, .int (nI n), .int (nI (if inR v1 0 2 then 2 else 1)), .int (nI ax), .int (nI fa), .int (nI vl), .ref m5, .int (nI tn), .int (nI hg), .int (nI bg)])), (m1, .inl (cI, 118, .inl (ro 118 s))), (m2, .inl (cI, 118, .inl (ro 118 h))), (m3, .inl (cI, 708, .inl (ro 708 (pkF t)))), (m4, .inl (cI, 60, .inl (ro 60 cs))), (m5, .inl (cI, 48, .inl (ro 48 td)))]) := by
  refine KM.of (cc := cX6_set) (maxL := 3) (ret := (some .int)) (by decide) rfl (Nat.le_of_ble_eq_true rfl) ?_
  intro p9 e9 s9 m9 ar9 be9 me9 c9 Q9 A9 ls C0 hN hnm hlk hK hA hret hP hD hS hl
  obtain ⟨hx, hb, hml, hown, hts⟩ := id C0
  have hl : lv_has ls 3 [(0, .ref m0), (1, .int v1), (2, .int v2)] := hl
  obtain ⟨H, hH0⟩ : ∃ H, H = s9.heap := ⟨_, rfl⟩
  obtain ⟨locs, hlc0⟩ : ∃ z : List Loc, z = [] := ⟨_, rfl⟩
  have hP : va_P D vwCl [(m0, .inr (6, [.ref m1, .ref m2, .ref m3, .int (nI k), .ref m4, .int (nI n), .int (nI th), .int (nI ax), .int (nI fa), .int (nI vl), .ref m5, .int (nI tn), .int (nI hg), .int (nI bg)])), (m1, .inl (cI, 118, .inl (ro 118 s))), (m2, .inl (cI, 118, .inl (ro 118 h))), (m3, .inl (cI, 708, .inl (ro 708 (pkF t)))), (m4, .inl (cI, 60, .inl (ro 60 cs))), (m5, .inl (cI, 48, .inl (ro 48 td)))] H := by rw [hH0]; exact hP
  have hD : va_D A9 [(m0, .inr (6, [.ref m1, .ref m2, .ref m3, .int (nI k), .ref m4, .int (nI n), .int (nI th), .int (nI ax), .int (nI fa), .int (nI vl), .ref m5, .int (nI tn), .int (nI hg), .int (nI bg)])), (m1, .inl (cI, 118, .inl (ro 118 s))), (m2, .inl (cI, 118, .inl (ro 118 h))), (m3, .inl (cI, 708, .inl (ro 708 (pkF t)))), (m4, .inl (cI, 60, .inl (ro 60 cs))), (m5, .inl (cI, 48, .inl (ro 48 td)))] := hD
  have hS : va_S A9 s9.heap H locs := by rw [hH0, hlc0]; exact hS
  suffices hgo : W p9 l e9 ({ frames := 1, cells := 0, slots := 0, locals := 22 } : Room) s9 m9 ar9 be9 me9 c9 H locs 0 0 Q9 (F0 m9 0 ls []) by rw [hH0, hlc0] at hgo; exact hgo
  clear hH0 hlc0
  obtain ⟨hI1, hI2, hI3, hI4, hI5, hI6, hI7, hI8, hI9, hI10, hI11⟩ := id hI
  refine lv_aload_n hx hb dX6_set_0 rfl (lv_at hl 0 rfl) ?_
  refine lv_iconst (v := nI 0) hx hb dX6_set_1 (by decide +kernel) ?_
  refine va_put (D := D) (ci := 6) (v := .int (nI 0)) (ty := tyX6 6) (C := RX6) (T := TX6) (N := 14) hx hb hts in_X6_set_bad_X6 tyX6 tyX6_ok nmX6 hown hK hP hD hS 0 rfl rfl 6 (by decide) (hts _ fl_X6_set_bad_25) (fun _ h9 => h9) rfl (by decide +kernel) rfl rfl (Nat.le_of_ble_eq_true rfl) dX6_set_2 (fun H locs hP hD hS => ?_)
  have hP : va_P D vwCl [(m0, .inr (6, [.ref m1, .ref m2, .ref m3, .int (nI k), .ref m4, .int (nI n), .int (nI 0), .int (nI ax), .int (nI fa), .int (nI vl), .ref m5, .int (nI tn), .int (nI hg), .int (nI bg)])), (m1, .inl (cI, 118, .inl (ro 118 s))), (m2, .inl (cI, 118, .inl (ro 118 h))), (m3, .inl (cI, 708, .inl (ro 708 (pkF t)))), (m4, .inl (cI, 60, .inl (ro 60 cs))), (m5, .inl (cI, 48, .inl (ro 48 td)))] H := hP
  have hD : va_D A9 [(m0, .inr (6, [.ref m1, .ref m2, .ref m3, .int (nI k), .ref m4, .int (nI n), .int (nI 0), .int (nI ax), .int (nI fa), .int (nI vl), .ref m5, .int (nI tn), .int (nI hg), .int (nI bg)])), (m1, .inl (cI, 118, .inl (ro 118 s))), (m2, .inl (cI, 118, .inl (ro 118 h))), (m3, .inl (cI, 708, .inl (ro 708 (pkF t)))), (m4, .inl (cI, 60, .inl (ro 60 cs))), (m5, .inl (cI, 48, .inl (ro 48 td)))] := hD
  refine lv_iload_n hx hb dX6_set_5 rfl (lv_at hl 1 rfl) ?_
  refine lv_iconst (v := nI 0) hx hb dX6_set_6 (by decide +kernel) ?_
  refine lv_iconst (v := nI 2) hx hb dX6_set_7 (by decide +kernel) ?_
  refine KM.callS (As := [.int v1, .int (nI 0), .int (nI 2)]) (rest := []) C0 hN (k_X6_in l D cI cS cL v1 0 2  (by decide) (by decide)) (va_cwS 3 hts gX6_set_X6_in rfl rfl rfl (by decide +kernel) ⟨Nat.le_of_ble_eq_true rfl, Nat.le_of_ble_eq_true rfl⟩) hK hP hD hS hA [] rfl (by decide) (fun _ => rfl) rfl hl.1 rfl (Nat.le_of_ble_eq_true rfl) dX6_set_8 ⟨Nat.le_of_ble_eq_true rfl, Nat.le_of_ble_eq_true rfl⟩ (fun v9 u9 H locs hv hP hD hS => ?_)
  subst hv
  have hP : va_P D vwCl [(m0, .inr (6, [.ref m1, .ref m2, .ref m3, .int (nI k), .ref m4, .int (nI n), .int (nI 0), .int (nI ax), .int (nI fa), .int (nI vl), .ref m5, .int (nI tn), .int (nI hg), .int (nI bg)])), (m1, .inl (cI, 118, .inl (ro 118 s))), (m2, .inl (cI, 118, .inl (ro 118 h))), (m3, .inl (cI, 708, .inl (ro 708 (pkF t)))), (m4, .inl (cI, 60, .inl (ro 60 cs))), (m5, .inl (cI, 48, .inl (ro 48 td)))] H := hP
  have hD : va_D A9 [(m0, .inr (6, [.ref m1, .ref m2, .ref m3, .int (nI k), .ref m4, .int (nI n), .int (nI 0), .int (nI ax), .int (nI fa), .int (nI vl), .ref m5, .int (nI tn), .int (nI hg), .int (nI bg)])), (m1, .inl (cI, 118, .inl (ro 118 s))), (m2, .inl (cI, 118, .inl (ro 118 h))), (m3, .inl (cI, 708, .inl (ro 708 (pkF t)))), (m4, .inl (cI, 60, .inl (ro 60 cs))), (m5, .inl (cI, 48, .inl (ro 48 td)))] := hD
  refine W.eq (g2 := F0 m9 11 ls [.int (nI (bI (inR v1 0 2)))]) rfl ?_
  refine q_fne (tgt := 20) bI_lt hx hb dX6_set_11 (by decide) (fun c_11 => ?_) (fun c_11 => ?_)
  ·
    have c_11 := bI_nz c_11
    obtain ⟨j, hja, hjb, hjc⟩ := inR_ex (show inR v1 0 2 by first | assumption | omega)
    subst hjc
    have hl : lv_has ls 3 [(0, .ref m0), (1, .int (nI j)), (2, .int v2)] := hl
    refine lv_iload_n hx hb dX6_set_20 rfl (lv_at hl 2 rfl) ?_
    refine lv_iload_n hx hb dX6_set_21 rfl (lv_at hl 1 rfl) ?_
    refine lv_iconst (v := nI 2) hx hb dX6_set_22 (by decide +kernel) ?_
    refine q_ine (tgt := 30) (by omega) (by omega) hx hb dX6_set_23 (by decide) (fun c_23 => ?_) (fun c_23 => ?_)
    ·
      refine lv_iconst (v := nI 0) hx hb dX6_set_30 (by decide +kernel) ?_
      refine lv_iload_n hx hb dX6_set_31 rfl (lv_at hl 1 rfl) ?_
      refine q_fne (tgt := 40) (by omega) hx hb dX6_set_32 (by decide) (fun c_32 => ?_) (fun c_32 => ?_)
      ·
        refine lv_iload_n hx hb dX6_set_40 rfl (lv_at hl 1 rfl) ?_
        refine lv_iconst (v := nI 1) hx hb dX6_set_41 (by decide +kernel) ?_
        refine q_ine (tgt := 50) (by omega) (by omega) hx hb dX6_set_42 (by decide) (fun c_42 => ?_) (fun c_42 => ?_)
        ·
          refine lv_bipush (v := nI 10) hx hb dX6_set_50 (by decide +kernel) ?_
          refine KM.callS (As := [.int v2, .int (nI 0), .int (nI 10)]) (rest := []) C0 hN (k_X6_in l D cI cS cL v2 0 10  (by decide) (by decide)) (va_cwS 3 hts gX6_set_X6_in rfl rfl rfl (by decide +kernel) ⟨Nat.le_of_ble_eq_true rfl, Nat.le_of_ble_eq_true rfl⟩) hK hP hD hS hA [] rfl (by decide) (fun _ => rfl) rfl hl.1 rfl (Nat.le_of_ble_eq_true rfl) dX6_set_52 ⟨Nat.le_of_ble_eq_true rfl, Nat.le_of_ble_eq_true rfl⟩ (fun v9 u9 H locs hv hP hD hS => ?_)
          subst hv
          have hP : va_P D vwCl [(m0, .inr (6, [.ref m1, .ref m2, .ref m3, .int (nI k), .ref m4, .int (nI n), .int (nI 0), .int (nI ax), .int (nI fa), .int (nI vl), .ref m5, .int (nI tn), .int (nI hg), .int (nI bg)])), (m1, .inl (cI, 118, .inl (ro 118 s))), (m2, .inl (cI, 118, .inl (ro 118 h))), (m3, .inl (cI, 708, .inl (ro 708 (pkF t)))), (m4, .inl (cI, 60, .inl (ro 60 cs))), (m5, .inl (cI, 48, .inl (ro 48 td)))] H := hP
          have hD : va_D A9 [(m0, .inr (6, [.ref m1, .ref m2, .ref m3, .int (nI k), .ref m4, .int (nI n), .int (nI 0), .int (nI ax), .int (nI fa), .int (nI vl), .ref m5, .int (nI tn), .int (nI hg), .int (nI bg)])), (m1, .inl (cI, 118, .inl (ro 118 s))), (m2, .inl (cI, 118, .inl (ro 118 h))), (m3, .inl (cI, 708, .inl (ro 708 (pkF t)))), (m4, .inl (cI, 60, .inl (ro 60 cs))), (m5, .inl (cI, 48, .inl (ro 48 td)))] := hD
          refine W.eq (g2 := F0 m9 55 ls [.int (nI (bI (inR v2 0 10)))]) rfl ?_
          refine q_fne (tgt := 64) bI_lt hx hb dX6_set_55 (by decide) (fun c_55 => ?_) (fun c_55 => ?_)
          ·
            have c_55 := bI_nz c_55
            exact absurd ⟨(inR_nI (by omega)).mpr ⟨by omega, by omega⟩, by rw [iN_nI (by omega)]; unfold leF moF; (repeat' split) <;> first | assumption | (exfalso; omega)⟩ hbad
          ·
            have c_55 := bI_z c_55
            refine lv_aload_n hx hb dX6_set_58 rfl (lv_at hl 0 rfl) ?_
            refine lv_iconst (v := nI 2) hx hb dX6_set_59 (by decide +kernel) ?_
            refine KM.callV (As := [.int (nI 2)]) (rest := []) C0 hN (k_X6_fails l D cI cS cL m0 m1 m2 m3 m4 m5 k n 0 ax fa vl tn hg bg 2  ) (cwV 1 hts gX6_set_X6_fails rfl rfl rfl (by decide +kernel) ⟨Nat.le_of_ble_eq_true rfl, Nat.le_of_ble_eq_true rfl⟩) hK hP hD hS hA [0] rfl (by decide) (fun _ => rfl) 0 6 rfl rfl rfl rfl hl.1 rfl (Nat.le_of_ble_eq_true rfl) dX6_set_60 ⟨Nat.le_of_ble_eq_true rfl, Nat.le_of_ble_eq_true rfl⟩ (fun v9 u9 H locs hv hP hD hS => ?_)
            subst hv
            have hP : va_P D vwCl [(m0, .inr (6, [.ref m1, .ref m2, .ref m3, .int (nI k), .ref m4, .int (nI n), .int (nI 2), .int (nI ax), .int (nI fa), .int (nI vl), .ref m5, .int (nI tn), .int (nI hg), .int (nI bg)])), (m1, .inl (cI, 118, .inl (ro 118 s))), (m2, .inl (cI, 118, .inl (ro 118 h))), (m3, .inl (cI, 708, .inl (ro 708 (pkF t)))), (m4, .inl (cI, 60, .inl (ro 60 cs))), (m5, .inl (cI, 48, .inl (ro 48 td)))] H := hP
            have hD : va_D A9 [(m0, .inr (6, [.ref m1, .ref m2, .ref m3, .int (nI k), .ref m4, .int (nI n), .int (nI 2), .int (nI ax), .int (nI fa), .int (nI vl), .ref m5, .int (nI tn), .int (nI hg), .int (nI bg)])), (m1, .inl (cI, 118, .inl (ro 118 s))), (m2, .inl (cI, 118, .inl (ro 118 h))), (m3, .inl (cI, 708, .inl (ro 708 (pkF t)))), (m4, .inl (cI, 60, .inl (ro 60 cs))), (m5, .inl (cI, 48, .inl (ro 48 td)))] := hD
            refine W.eq (g2 := F0 m9 63 ls [.int (nI 0)]) rfl ?_
            rw [show (if inR (nI j) 0 2 then 2 else 1) = 2 from by (repeat' split) <;> first | rfl | (exfalso; omega)] at hret
            exact hret _ _ _ _ (some (.int (nI 0))) () 63 ls (by decide) (by decide) (by rfl) hP hD hS (ret_i dX6_set_63)
        ·
          refine lv_bipush (v := nI 50) hx hb dX6_set_45 (by decide +kernel) ?_
          refine lv_goto (tgt := 52) hx hb dX6_set_47 (by decide) ?_
          refine KM.callS (As := [.int v2, .int (nI 0), .int (nI 50)]) (rest := []) C0 hN (k_X6_in l D cI cS cL v2 0 50  (by decide) (by decide)) (va_cwS 3 hts gX6_set_X6_in rfl rfl rfl (by decide +kernel) ⟨Nat.le_of_ble_eq_true rfl, Nat.le_of_ble_eq_true rfl⟩) hK hP hD hS hA [] rfl (by decide) (fun _ => rfl) rfl hl.1 rfl (Nat.le_of_ble_eq_true rfl) dX6_set_52 ⟨Nat.le_of_ble_eq_true rfl, Nat.le_of_ble_eq_true rfl⟩ (fun v9 u9 H locs hv hP hD hS => ?_)
          subst hv
          have hP : va_P D vwCl [(m0, .inr (6, [.ref m1, .ref m2, .ref m3, .int (nI k), .ref m4, .int (nI n), .int (nI 0), .int (nI ax), .int (nI fa), .int (nI vl), .ref m5, .int (nI tn), .int (nI hg), .int (nI bg)])), (m1, .inl (cI, 118, .inl (ro 118 s))), (m2, .inl (cI, 118, .inl (ro 118 h))), (m3, .inl (cI, 708, .inl (ro 708 (pkF t)))), (m4, .inl (cI, 60, .inl (ro 60 cs))), (m5, .inl (cI, 48, .inl (ro 48 td)))] H := hP
          have hD : va_D A9 [(m0, .inr (6, [.ref m1, .ref m2, .ref m3, .int (nI k), .ref m4, .int (nI n), .int (nI 0), .int (nI ax), .int (nI fa), .int (nI vl), .ref m5, .int (nI tn), .int (nI hg), .int (nI bg)])), (m1, .inl (cI, 118, .inl (ro 118 s))), (m2, .inl (cI, 118, .inl (ro 118 h))), (m3, .inl (cI, 708, .inl (ro 708 (pkF t)))), (m4, .inl (cI, 60, .inl (ro 60 cs))), (m5, .inl (cI, 48, .inl (ro 48 td)))] := hD
          refine W.eq (g2 := F0 m9 55 ls [.int (nI (bI (inR v2 0 50)))]) rfl ?_
          refine q_fne (tgt := 64) bI_lt hx hb dX6_set_55 (by decide) (fun c_55 => ?_) (fun c_55 => ?_)
          ·
            have c_55 := bI_nz c_55
            exact absurd ⟨(inR_nI (by omega)).mpr ⟨by omega, by omega⟩, by rw [iN_nI (by omega)]; unfold leF moF; (repeat' split) <;> first | assumption | (exfalso; omega)⟩ hbad
          ·
            have c_55 := bI_z c_55
            refine lv_aload_n hx hb dX6_set_58 rfl (lv_at hl 0 rfl) ?_
            refine lv_iconst (v := nI 2) hx hb dX6_set_59 (by decide +kernel) ?_
            refine KM.callV (As := [.int (nI 2)]) (rest := []) C0 hN (k_X6_fails l D cI cS cL m0 m1 m2 m3 m4 m5 k n 0 ax fa vl tn hg bg 2  ) (cwV 1 hts gX6_set_X6_fails rfl rfl rfl (by decide +kernel) ⟨Nat.le_of_ble_eq_true rfl, Nat.le_of_ble_eq_true rfl⟩) hK hP hD hS hA [0] rfl (by decide) (fun _ => rfl) 0 6 rfl rfl rfl rfl hl.1 rfl (Nat.le_of_ble_eq_true rfl) dX6_set_60 ⟨Nat.le_of_ble_eq_true rfl, Nat.le_of_ble_eq_true rfl⟩ (fun v9 u9 H locs hv hP hD hS => ?_)
            subst hv
            have hP : va_P D vwCl [(m0, .inr (6, [.ref m1, .ref m2, .ref m3, .int (nI k), .ref m4, .int (nI n), .int (nI 2), .int (nI ax), .int (nI fa), .int (nI vl), .ref m5, .int (nI tn), .int (nI hg), .int (nI bg)])), (m1, .inl (cI, 118, .inl (ro 118 s))), (m2, .inl (cI, 118, .inl (ro 118 h))), (m3, .inl (cI, 708, .inl (ro 708 (pkF t)))), (m4, .inl (cI, 60, .inl (ro 60 cs))), (m5, .inl (cI, 48, .inl (ro 48 td)))] H := hP
            have hD : va_D A9 [(m0, .inr (6, [.ref m1, .ref m2, .ref m3, .int (nI k), .ref m4, .int (nI n), .int (nI 2), .int (nI ax), .int (nI fa), .int (nI vl), .ref m5, .int (nI tn), .int (nI hg), .int (nI bg)])), (m1, .inl (cI, 118, .inl (ro 118 s))), (m2, .inl (cI, 118, .inl (ro 118 h))), (m3, .inl (cI, 708, .inl (ro 708 (pkF t)))), (m4, .inl (cI, 60, .inl (ro 60 cs))), (m5, .inl (cI, 48, .inl (ro 48 td)))] := hD
            refine W.eq (g2 := F0 m9 63 ls [.int (nI 0)]) rfl ?_
            rw [show (if inR (nI j) 0 2 then 2 else 1) = 2 from by (repeat' split) <;> first | rfl | (exfalso; omega)] at hret
            exact hret _ _ _ _ (some (.int (nI 0))) () 63 ls (by decide) (by decide) (by rfl) hP hD hS (ret_i dX6_set_63)
      ·
        refine lv_bipush (v := nI 20) hx hb dX6_set_35 (by decide +kernel) ?_
        refine lv_goto (tgt := 52) hx hb dX6_set_37 (by decide) ?_
        refine KM.callS (As := [.int v2, .int (nI 0), .int (nI 20)]) (rest := []) C0 hN (k_X6_in l D cI cS cL v2 0 20  (by decide) (by decide)) (va_cwS 3 hts gX6_set_X6_in rfl rfl rfl (by decide +kernel) ⟨Nat.le_of_ble_eq_true rfl, Nat.le_of_ble_eq_true rfl⟩) hK hP hD hS hA [] rfl (by decide) (fun _ => rfl) rfl hl.1 rfl (Nat.le_of_ble_eq_true rfl) dX6_set_52 ⟨Nat.le_of_ble_eq_true rfl, Nat.le_of_ble_eq_true rfl⟩ (fun v9 u9 H locs hv hP hD hS => ?_)
        subst hv
        have hP : va_P D vwCl [(m0, .inr (6, [.ref m1, .ref m2, .ref m3, .int (nI k), .ref m4, .int (nI n), .int (nI 0), .int (nI ax), .int (nI fa), .int (nI vl), .ref m5, .int (nI tn), .int (nI hg), .int (nI bg)])), (m1, .inl (cI, 118, .inl (ro 118 s))), (m2, .inl (cI, 118, .inl (ro 118 h))), (m3, .inl (cI, 708, .inl (ro 708 (pkF t)))), (m4, .inl (cI, 60, .inl (ro 60 cs))), (m5, .inl (cI, 48, .inl (ro 48 td)))] H := hP
        have hD : va_D A9 [(m0, .inr (6, [.ref m1, .ref m2, .ref m3, .int (nI k), .ref m4, .int (nI n), .int (nI 0), .int (nI ax), .int (nI fa), .int (nI vl), .ref m5, .int (nI tn), .int (nI hg), .int (nI bg)])), (m1, .inl (cI, 118, .inl (ro 118 s))), (m2, .inl (cI, 118, .inl (ro 118 h))), (m3, .inl (cI, 708, .inl (ro 708 (pkF t)))), (m4, .inl (cI, 60, .inl (ro 60 cs))), (m5, .inl (cI, 48, .inl (ro 48 td)))] := hD
        refine W.eq (g2 := F0 m9 55 ls [.int (nI (bI (inR v2 0 20)))]) rfl ?_
        refine q_fne (tgt := 64) bI_lt hx hb dX6_set_55 (by decide) (fun c_55 => ?_) (fun c_55 => ?_)
        ·
          have c_55 := bI_nz c_55
          exact absurd ⟨(inR_nI (by omega)).mpr ⟨by omega, by omega⟩, by rw [iN_nI (by omega)]; unfold leF moF; (repeat' split) <;> first | assumption | (exfalso; omega)⟩ hbad
        ·
          have c_55 := bI_z c_55
          refine lv_aload_n hx hb dX6_set_58 rfl (lv_at hl 0 rfl) ?_
          refine lv_iconst (v := nI 2) hx hb dX6_set_59 (by decide +kernel) ?_
          refine KM.callV (As := [.int (nI 2)]) (rest := []) C0 hN (k_X6_fails l D cI cS cL m0 m1 m2 m3 m4 m5 k n 0 ax fa vl tn hg bg 2  ) (cwV 1 hts gX6_set_X6_fails rfl rfl rfl (by decide +kernel) ⟨Nat.le_of_ble_eq_true rfl, Nat.le_of_ble_eq_true rfl⟩) hK hP hD hS hA [0] rfl (by decide) (fun _ => rfl) 0 6 rfl rfl rfl rfl hl.1 rfl (Nat.le_of_ble_eq_true rfl) dX6_set_60 ⟨Nat.le_of_ble_eq_true rfl, Nat.le_of_ble_eq_true rfl⟩ (fun v9 u9 H locs hv hP hD hS => ?_)
          subst hv
          have hP : va_P D vwCl [(m0, .inr (6, [.ref m1, .ref m2, .ref m3, .int (nI k), .ref m4, .int (nI n), .int (nI 2), .int (nI ax), .int (nI fa), .int (nI vl), .ref m5, .int (nI tn), .int (nI hg), .int (nI bg)])), (m1, .inl (cI, 118, .inl (ro 118 s))), (m2, .inl (cI, 118, .inl (ro 118 h))), (m3, .inl (cI, 708, .inl (ro 708 (pkF t)))), (m4, .inl (cI, 60, .inl (ro 60 cs))), (m5, .inl (cI, 48, .inl (ro 48 td)))] H := hP
          have hD : va_D A9 [(m0, .inr (6, [.ref m1, .ref m2, .ref m3, .int (nI k), .ref m4, .int (nI n), .int (nI 2), .int (nI ax), .int (nI fa), .int (nI vl), .ref m5, .int (nI tn), .int (nI hg), .int (nI bg)])), (m1, .inl (cI, 118, .inl (ro 118 s))), (m2, .inl (cI, 118, .inl (ro 118 h))), (m3, .inl (cI, 708, .inl (ro 708 (pkF t)))), (m4, .inl (cI, 60, .inl (ro 60 cs))), (m5, .inl (cI, 48, .inl (ro 48 td)))] := hD
          refine W.eq (g2 := F0 m9 63 ls [.int (nI 0)]) rfl ?_
          rw [show (if inR (nI j) 0 2 then 2 else 1) = 2 from by (repeat' split) <;> first | rfl | (exfalso; omega)] at hret
          exact hret _ _ _ _ (some (.int (nI 0))) () 63 ls (by decide) (by decide) (by rfl) hP hD hS (ret_i dX6_set_63)
    ·
      refine lv_iconst (v := nI 1) hx hb dX6_set_26 (by decide +kernel) ?_
      refine lv_goto (tgt := 31) hx hb dX6_set_27 (by decide) ?_
      refine lv_iload_n hx hb dX6_set_31 rfl (lv_at hl 1 rfl) ?_
      refine q_fne (tgt := 40) (by omega) hx hb dX6_set_32 (by decide) (fun c_32 => ?_) (fun c_32 => ?_)
      ·
        refine lv_iload_n hx hb dX6_set_40 rfl (lv_at hl 1 rfl) ?_
        refine lv_iconst (v := nI 1) hx hb dX6_set_41 (by decide +kernel) ?_
        refine q_ine (tgt := 50) (by omega) (by omega) hx hb dX6_set_42 (by decide) (fun c_42 => ?_) (fun c_42 => ?_)
        ·
          refine lv_bipush (v := nI 10) hx hb dX6_set_50 (by decide +kernel) ?_
          refine KM.callS (As := [.int v2, .int (nI 1), .int (nI 10)]) (rest := []) C0 hN (k_X6_in l D cI cS cL v2 1 10  (by decide) (by decide)) (va_cwS 3 hts gX6_set_X6_in rfl rfl rfl (by decide +kernel) ⟨Nat.le_of_ble_eq_true rfl, Nat.le_of_ble_eq_true rfl⟩) hK hP hD hS hA [] rfl (by decide) (fun _ => rfl) rfl hl.1 rfl (Nat.le_of_ble_eq_true rfl) dX6_set_52 ⟨Nat.le_of_ble_eq_true rfl, Nat.le_of_ble_eq_true rfl⟩ (fun v9 u9 H locs hv hP hD hS => ?_)
          subst hv
          have hP : va_P D vwCl [(m0, .inr (6, [.ref m1, .ref m2, .ref m3, .int (nI k), .ref m4, .int (nI n), .int (nI 0), .int (nI ax), .int (nI fa), .int (nI vl), .ref m5, .int (nI tn), .int (nI hg), .int (nI bg)])), (m1, .inl (cI, 118, .inl (ro 118 s))), (m2, .inl (cI, 118, .inl (ro 118 h))), (m3, .inl (cI, 708, .inl (ro 708 (pkF t)))), (m4, .inl (cI, 60, .inl (ro 60 cs))), (m5, .inl (cI, 48, .inl (ro 48 td)))] H := hP
          have hD : va_D A9 [(m0, .inr (6, [.ref m1, .ref m2, .ref m3, .int (nI k), .ref m4, .int (nI n), .int (nI 0), .int (nI ax), .int (nI fa), .int (nI vl), .ref m5, .int (nI tn), .int (nI hg), .int (nI bg)])), (m1, .inl (cI, 118, .inl (ro 118 s))), (m2, .inl (cI, 118, .inl (ro 118 h))), (m3, .inl (cI, 708, .inl (ro 708 (pkF t)))), (m4, .inl (cI, 60, .inl (ro 60 cs))), (m5, .inl (cI, 48, .inl (ro 48 td)))] := hD
          refine W.eq (g2 := F0 m9 55 ls [.int (nI (bI (inR v2 1 10)))]) rfl ?_
          refine q_fne (tgt := 64) bI_lt hx hb dX6_set_55 (by decide) (fun c_55 => ?_) (fun c_55 => ?_)
          ·
            have c_55 := bI_nz c_55
            exact absurd ⟨(inR_nI (by omega)).mpr ⟨by omega, by omega⟩, by rw [iN_nI (by omega)]; unfold leF moF; (repeat' split) <;> first | assumption | (exfalso; omega)⟩ hbad
          ·
            have c_55 := bI_z c_55
            refine lv_aload_n hx hb dX6_set_58 rfl (lv_at hl 0 rfl) ?_
            refine lv_iconst (v := nI 2) hx hb dX6_set_59 (by decide +kernel) ?_
            refine KM.callV (As := [.int (nI 2)]) (rest := []) C0 hN (k_X6_fails l D cI cS cL m0 m1 m2 m3 m4 m5 k n 0 ax fa vl tn hg bg 2  ) (cwV 1 hts gX6_set_X6_fails rfl rfl rfl (by decide +kernel) ⟨Nat.le_of_ble_eq_true rfl, Nat.le_of_ble_eq_true rfl⟩) hK hP hD hS hA [0] rfl (by decide) (fun _ => rfl) 0 6 rfl rfl rfl rfl hl.1 rfl (Nat.le_of_ble_eq_true rfl) dX6_set_60 ⟨Nat.le_of_ble_eq_true rfl, Nat.le_of_ble_eq_true rfl⟩ (fun v9 u9 H locs hv hP hD hS => ?_)
            subst hv
            have hP : va_P D vwCl [(m0, .inr (6, [.ref m1, .ref m2, .ref m3, .int (nI k), .ref m4, .int (nI n), .int (nI 2), .int (nI ax), .int (nI fa), .int (nI vl), .ref m5, .int (nI tn), .int (nI hg), .int (nI bg)])), (m1, .inl (cI, 118, .inl (ro 118 s))), (m2, .inl (cI, 118, .inl (ro 118 h))), (m3, .inl (cI, 708, .inl (ro 708 (pkF t)))), (m4, .inl (cI, 60, .inl (ro 60 cs))), (m5, .inl (cI, 48, .inl (ro 48 td)))] H := hP
            have hD : va_D A9 [(m0, .inr (6, [.ref m1, .ref m2, .ref m3, .int (nI k), .ref m4, .int (nI n), .int (nI 2), .int (nI ax), .int (nI fa), .int (nI vl), .ref m5, .int (nI tn), .int (nI hg), .int (nI bg)])), (m1, .inl (cI, 118, .inl (ro 118 s))), (m2, .inl (cI, 118, .inl (ro 118 h))), (m3, .inl (cI, 708, .inl (ro 708 (pkF t)))), (m4, .inl (cI, 60, .inl (ro 60 cs))), (m5, .inl (cI, 48, .inl (ro 48 td)))] := hD
            refine W.eq (g2 := F0 m9 63 ls [.int (nI 0)]) rfl ?_
            rw [show (if inR (nI j) 0 2 then 2 else 1) = 2 from by (repeat' split) <;> first | rfl | (exfalso; omega)] at hret
            exact hret _ _ _ _ (some (.int (nI 0))) () 63 ls (by decide) (by decide) (by rfl) hP hD hS (ret_i dX6_set_63)
        ·
          refine lv_bipush (v := nI 50) hx hb dX6_set_45 (by decide +kernel) ?_
          refine lv_goto (tgt := 52) hx hb dX6_set_47 (by decide) ?_
          refine KM.callS (As := [.int v2, .int (nI 1), .int (nI 50)]) (rest := []) C0 hN (k_X6_in l D cI cS cL v2 1 50  (by decide) (by decide)) (va_cwS 3 hts gX6_set_X6_in rfl rfl rfl (by decide +kernel) ⟨Nat.le_of_ble_eq_true rfl, Nat.le_of_ble_eq_true rfl⟩) hK hP hD hS hA [] rfl (by decide) (fun _ => rfl) rfl hl.1 rfl (Nat.le_of_ble_eq_true rfl) dX6_set_52 ⟨Nat.le_of_ble_eq_true rfl, Nat.le_of_ble_eq_true rfl⟩ (fun v9 u9 H locs hv hP hD hS => ?_)
          subst hv
          have hP : va_P D vwCl [(m0, .inr (6, [.ref m1, .ref m2, .ref m3, .int (nI k), .ref m4, .int (nI n), .int (nI 0), .int (nI ax), .int (nI fa), .int (nI vl), .ref m5, .int (nI tn), .int (nI hg), .int (nI bg)])), (m1, .inl (cI, 118, .inl (ro 118 s))), (m2, .inl (cI, 118, .inl (ro 118 h))), (m3, .inl (cI, 708, .inl (ro 708 (pkF t)))), (m4, .inl (cI, 60, .inl (ro 60 cs))), (m5, .inl (cI, 48, .inl (ro 48 td)))] H := hP
          have hD : va_D A9 [(m0, .inr (6, [.ref m1, .ref m2, .ref m3, .int (nI k), .ref m4, .int (nI n), .int (nI 0), .int (nI ax), .int (nI fa), .int (nI vl), .ref m5, .int (nI tn), .int (nI hg), .int (nI bg)])), (m1, .inl (cI, 118, .inl (ro 118 s))), (m2, .inl (cI, 118, .inl (ro 118 h))), (m3, .inl (cI, 708, .inl (ro 708 (pkF t)))), (m4, .inl (cI, 60, .inl (ro 60 cs))), (m5, .inl (cI, 48, .inl (ro 48 td)))] := hD
          refine W.eq (g2 := F0 m9 55 ls [.int (nI (bI (inR v2 1 50)))]) rfl ?_
          refine q_fne (tgt := 64) bI_lt hx hb dX6_set_55 (by decide) (fun c_55 => ?_) (fun c_55 => ?_)
          ·
            have c_55 := bI_nz c_55
            exact absurd ⟨(inR_nI (by omega)).mpr ⟨by omega, by omega⟩, by rw [iN_nI (by omega)]; unfold leF moF; (repeat' split) <;> first | assumption | (exfalso; omega)⟩ hbad
          ·
            have c_55 := bI_z c_55
            refine lv_aload_n hx hb dX6_set_58 rfl (lv_at hl 0 rfl) ?_
            refine lv_iconst (v := nI 2) hx hb dX6_set_59 (by decide +kernel) ?_
            refine KM.callV (As := [.int (nI 2)]) (rest := []) C0 hN (k_X6_fails l D cI cS cL m0 m1 m2 m3 m4 m5 k n 0 ax fa vl tn hg bg 2  ) (cwV 1 hts gX6_set_X6_fails rfl rfl rfl (by decide +kernel) ⟨Nat.le_of_ble_eq_true rfl, Nat.le_of_ble_eq_true rfl⟩) hK hP hD hS hA [0] rfl (by decide) (fun _ => rfl) 0 6 rfl rfl rfl rfl hl.1 rfl (Nat.le_of_ble_eq_true rfl) dX6_set_60 ⟨Nat.le_of_ble_eq_true rfl, Nat.le_of_ble_eq_true rfl⟩ (fun v9 u9 H locs hv hP hD hS => ?_)
            subst hv
            have hP : va_P D vwCl [(m0, .inr (6, [.ref m1, .ref m2, .ref m3, .int (nI k), .ref m4, .int (nI n), .int (nI 2), .int (nI ax), .int (nI fa), .int (nI vl), .ref m5, .int (nI tn), .int (nI hg), .int (nI bg)])), (m1, .inl (cI, 118, .inl (ro 118 s))), (m2, .inl (cI, 118, .inl (ro 118 h))), (m3, .inl (cI, 708, .inl (ro 708 (pkF t)))), (m4, .inl (cI, 60, .inl (ro 60 cs))), (m5, .inl (cI, 48, .inl (ro 48 td)))] H := hP
            have hD : va_D A9 [(m0, .inr (6, [.ref m1, .ref m2, .ref m3, .int (nI k), .ref m4, .int (nI n), .int (nI 2), .int (nI ax), .int (nI fa), .int (nI vl), .ref m5, .int (nI tn), .int (nI hg), .int (nI bg)])), (m1, .inl (cI, 118, .inl (ro 118 s))), (m2, .inl (cI, 118, .inl (ro 118 h))), (m3, .inl (cI, 708, .inl (ro 708 (pkF t)))), (m4, .inl (cI, 60, .inl (ro 60 cs))), (m5, .inl (cI, 48, .inl (ro 48 td)))] := hD
            refine W.eq (g2 := F0 m9 63 ls [.int (nI 0)]) rfl ?_
            rw [show (if inR (nI j) 0 2 then 2 else 1) = 2 from by (repeat' split) <;> first | rfl | (exfalso; omega)] at hret
            exact hret _ _ _ _ (some (.int (nI 0))) () 63 ls (by decide) (by decide) (by rfl) hP hD hS (ret_i dX6_set_63)
      ·
        refine lv_bipush (v := nI 20) hx hb dX6_set_35 (by decide +kernel) ?_
        refine lv_goto (tgt := 52) hx hb dX6_set_37 (by decide) ?_
        refine KM.callS (As := [.int v2, .int (nI 1), .int (nI 20)]) (rest := []) C0 hN (k_X6_in l D cI cS cL v2 1 20  (by decide) (by decide)) (va_cwS 3 hts gX6_set_X6_in rfl rfl rfl (by decide +kernel) ⟨Nat.le_of_ble_eq_true rfl, Nat.le_of_ble_eq_true rfl⟩) hK hP hD hS hA [] rfl (by decide) (fun _ => rfl) rfl hl.1 rfl (Nat.le_of_ble_eq_true rfl) dX6_set_52 ⟨Nat.le_of_ble_eq_true rfl, Nat.le_of_ble_eq_true rfl⟩ (fun v9 u9 H locs hv hP hD hS => ?_)
        subst hv
        have hP : va_P D vwCl [(m0, .inr (6, [.ref m1, .ref m2, .ref m3, .int (nI k), .ref m4, .int (nI n), .int (nI 0), .int (nI ax), .int (nI fa), .int (nI vl), .ref m5, .int (nI tn), .int (nI hg), .int (nI bg)])), (m1, .inl (cI, 118, .inl (ro 118 s))), (m2, .inl (cI, 118, .inl (ro 118 h))), (m3, .inl (cI, 708, .inl (ro 708 (pkF t)))), (m4, .inl (cI, 60, .inl (ro 60 cs))), (m5, .inl (cI, 48, .inl (ro 48 td)))] H := hP
        have hD : va_D A9 [(m0, .inr (6, [.ref m1, .ref m2, .ref m3, .int (nI k), .ref m4, .int (nI n), .int (nI 0), .int (nI ax), .int (nI fa), .int (nI vl), .ref m5, .int (nI tn), .int (nI hg), .int (nI bg)])), (m1, .inl (cI, 118, .inl (ro 118 s))), (m2, .inl (cI, 118, .inl (ro 118 h))), (m3, .inl (cI, 708, .inl (ro 708 (pkF t)))), (m4, .inl (cI, 60, .inl (ro 60 cs))), (m5, .inl (cI, 48, .inl (ro 48 td)))] := hD
        refine W.eq (g2 := F0 m9 55 ls [.int (nI (bI (inR v2 1 20)))]) rfl ?_
        refine q_fne (tgt := 64) bI_lt hx hb dX6_set_55 (by decide) (fun c_55 => ?_) (fun c_55 => ?_)
        ·
          have c_55 := bI_nz c_55
          exact absurd ⟨(inR_nI (by omega)).mpr ⟨by omega, by omega⟩, by rw [iN_nI (by omega)]; unfold leF moF; (repeat' split) <;> first | assumption | (exfalso; omega)⟩ hbad
        ·
          have c_55 := bI_z c_55
          refine lv_aload_n hx hb dX6_set_58 rfl (lv_at hl 0 rfl) ?_
          refine lv_iconst (v := nI 2) hx hb dX6_set_59 (by decide +kernel) ?_
          refine KM.callV (As := [.int (nI 2)]) (rest := []) C0 hN (k_X6_fails l D cI cS cL m0 m1 m2 m3 m4 m5 k n 0 ax fa vl tn hg bg 2  ) (cwV 1 hts gX6_set_X6_fails rfl rfl rfl (by decide +kernel) ⟨Nat.le_of_ble_eq_true rfl, Nat.le_of_ble_eq_true rfl⟩) hK hP hD hS hA [0] rfl (by decide) (fun _ => rfl) 0 6 rfl rfl rfl rfl hl.1 rfl (Nat.le_of_ble_eq_true rfl) dX6_set_60 ⟨Nat.le_of_ble_eq_true rfl, Nat.le_of_ble_eq_true rfl⟩ (fun v9 u9 H locs hv hP hD hS => ?_)
          subst hv
          have hP : va_P D vwCl [(m0, .inr (6, [.ref m1, .ref m2, .ref m3, .int (nI k), .ref m4, .int (nI n), .int (nI 2), .int (nI ax), .int (nI fa), .int (nI vl), .ref m5, .int (nI tn), .int (nI hg), .int (nI bg)])), (m1, .inl (cI, 118, .inl (ro 118 s))), (m2, .inl (cI, 118, .inl (ro 118 h))), (m3, .inl (cI, 708, .inl (ro 708 (pkF t)))), (m4, .inl (cI, 60, .inl (ro 60 cs))), (m5, .inl (cI, 48, .inl (ro 48 td)))] H := hP
          have hD : va_D A9 [(m0, .inr (6, [.ref m1, .ref m2, .ref m3, .int (nI k), .ref m4, .int (nI n), .int (nI 2), .int (nI ax), .int (nI fa), .int (nI vl), .ref m5, .int (nI tn), .int (nI hg), .int (nI bg)])), (m1, .inl (cI, 118, .inl (ro 118 s))), (m2, .inl (cI, 118, .inl (ro 118 h))), (m3, .inl (cI, 708, .inl (ro 708 (pkF t)))), (m4, .inl (cI, 60, .inl (ro 60 cs))), (m5, .inl (cI, 48, .inl (ro 48 td)))] := hD
          refine W.eq (g2 := F0 m9 63 ls [.int (nI 0)]) rfl ?_
          rw [show (if inR (nI j) 0 2 then 2 else 1) = 2 from by (repeat' split) <;> first | rfl | (exfalso; omega)] at hret
          exact hret _ _ _ _ (some (.int (nI 0))) () 63 ls (by decide) (by decide) (by rfl) hP hD hS (ret_i dX6_set_63)
  ·
    have c_11 := bI_z c_11
    refine lv_aload_n hx hb dX6_set_14 rfl (lv_at hl 0 rfl) ?_
    refine lv_iconst (v := nI 1) hx hb dX6_set_15 (by decide +kernel) ?_
    refine KM.callV (As := [.int (nI 1)]) (rest := []) C0 hN (k_X6_fails l D cI cS cL m0 m1 m2 m3 m4 m5 k n 0 ax fa vl tn hg bg 1  ) (cwV 1 hts gX6_set_X6_fails rfl rfl rfl (by decide +kernel) ⟨Nat.le_of_ble_eq_true rfl, Nat.le_of_ble_eq_true rfl⟩) hK hP hD hS hA [0] rfl (by decide) (fun _ => rfl) 0 6 rfl rfl rfl rfl hl.1 rfl (Nat.le_of_ble_eq_true rfl) dX6_set_16 ⟨Nat.le_of_ble_eq_true rfl, Nat.le_of_ble_eq_true rfl⟩ (fun v9 u9 H locs hv hP hD hS => ?_)
    subst hv
    have hP : va_P D vwCl [(m0, .inr (6, [.ref m1, .ref m2, .ref m3, .int (nI k), .ref m4, .int (nI n), .int (nI 1), .int (nI ax), .int (nI fa), .int (nI vl), .ref m5, .int (nI tn), .int (nI hg), .int (nI bg)])), (m1, .inl (cI, 118, .inl (ro 118 s))), (m2, .inl (cI, 118, .inl (ro 118 h))), (m3, .inl (cI, 708, .inl (ro 708 (pkF t)))), (m4, .inl (cI, 60, .inl (ro 60 cs))), (m5, .inl (cI, 48, .inl (ro 48 td)))] H := hP
    have hD : va_D A9 [(m0, .inr (6, [.ref m1, .ref m2, .ref m3, .int (nI k), .ref m4, .int (nI n), .int (nI 1), .int (nI ax), .int (nI fa), .int (nI vl), .ref m5, .int (nI tn), .int (nI hg), .int (nI bg)])), (m1, .inl (cI, 118, .inl (ro 118 s))), (m2, .inl (cI, 118, .inl (ro 118 h))), (m3, .inl (cI, 708, .inl (ro 708 (pkF t)))), (m4, .inl (cI, 60, .inl (ro 60 cs))), (m5, .inl (cI, 48, .inl (ro 48 td)))] := hD
    refine W.eq (g2 := F0 m9 19 ls [.int (nI 0)]) rfl ?_
    rw [show (if inR v1 0 2 then 2 else 1) = 1 from by (repeat' split) <;> first | rfl | (exfalso; omega)] at hret
    exact hret _ _ _ _ (some (.int (nI 0))) () 19 ls (by decide) (by decide) (by rfl) hP hD hS (ret_i dX6_set_19)
