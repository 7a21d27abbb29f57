theorem in_X2_copyFrom_X2 : ∀ w ∈ wsX20, w ∈ wsX2_copyFrom := by decide +kernel
theorem fl_X2_copyFrom_9 : Cond.fieldLink RX2 9 "FountainCues$Fountain" "sizes" "[I" ∈ wsX2_copyFrom := by decide +kernel
theorem fl_X2_copyFrom_15 : Cond.fieldLink RX2 15 "FountainCues$Fountain" "colours" "[I" ∈ wsX2_copyFrom := by decide +kernel
theorem fl_X2_copyFrom_18 : Cond.fieldLink RX2 18 "FountainCues$Fountain" "valves" "[I" ∈ wsX2_copyFrom := by decide +kernel
theorem fl_X2_copyFrom_21 : Cond.fieldLink RX2 21 "FountainCues$Fountain" "aims" "[I" ∈ wsX2_copyFrom := by decide +kernel
theorem fl_X2_copyFrom_24 : Cond.fieldLink RX2 24 "FountainCues$Fountain" "limits" "[I" ∈ wsX2_copyFrom := by decide +kernel
theorem fl_X2_copyFrom_27 : Cond.fieldLink RX2 27 "FountainCues$Fountain" "settings" "[I" ∈ wsX2_copyFrom := by decide +kernel
theorem fl_X2_copyFrom_34 : Cond.fieldLink RX2 34 "FountainCues$Fountain" "wind" "I" ∈ wsX2_copyFrom := by decide +kernel
set_option maxHeartbeats 4000000 in
set_option maxRecDepth 100000 in
theorem k_X2_copyFrom (l : Launch) (D : va_G) (cI cS cL : ClassId) (a0 : Nat) (a1 : Nat) (a2 : Nat) (a3 : Nat) (a4 : Nat) (a5 : Nat) (a6 : Nat) (sz : Nat → Nat) (co : Nat → Nat) (va : Nat → Nat) (am : Nat → Nat) (li : Nat → Nat) (se : Nat → Nat) (w : Nat) (b0 : Nat) (b1 : Nat) (b2 : Nat) (b3 : Nat) (b4 : Nat) (b5 : Nat) (b6 : Nat) (sz2 : Nat → Nat) (co2 : Nat → Nat) (va2 : Nat → Nat) (am2 : Nat → Nat) (li2 : Nat → Nat) (se2 : Nat → Nat) (w2 : Nat)  : KM l D (TY cI cS cL) yX2_copyFrom wsX2_copyFrom ({ frames := 1, cells := 0, slots := 0, locals := 22 } : Room) [(a0, .inr (2, [.ref a1, .ref a2, .ref a3, .ref a4, .ref a5, .ref a6, .int (nI w)])), (a1, .inl (cI, 8, .inl (ro 8 sz))), (a2, .inl (cI, 8, .inl (ro 8 co))), (a3, .inl (cI, 8, .inl (ro 8 va))), (a4, .inl (cI, 8, .inl (ro 8 am))), (a5, .inl (cI, 2, .inl (ro 2 li))), (a6, .inl (cI, 3, .inl (ro 3 se))), (b0, .inr (2, [.ref b1, .ref b2, .ref b3, .ref b4, .ref b5, .ref b6, .int (nI w2)])), (b1, .inl (cI, 8, .inl (ro 8 sz2))), (b2, .inl (cI, 8, .inl (ro 8 co2))), (b3, .inl (cI, 8, .inl (ro 8 va2))), (b4, .inl (cI, 8, .inl (ro 8 am2))), (b5, .inl (cI, 2, .inl (ro 2 li2))), (b6, .inl (cI, 3, .inl (ro 3 se2)))] [.ref a0, .ref b0] (fun (v : Option Value) (_ : Unit) => v = none) (fun _ : Unit => [(a0, .inr (2, [.ref a1, .ref a2, .ref a3, .ref a4, .ref a5, .ref a6, .int (nI w2)])), (a1, .inl (cI, 8, .inl (ro 8 sz2))), (a2, .inl (cI, 8, .inl (ro 8 co2))), (a3, .inl (cI, 8, .inl (ro 8 va2))), (a4, .inl (cI, 8, .inl (ro 8 am2))), (a5, .inl (cI, 2, .inl (ro 2 li2))), (a6, .inl (cI, 3, .inl (ro 3 se2))), (b0, .inr (2, [.ref b1, .ref b2, .ref b3, .ref b4, .ref b5, .ref b6, .int (nI w2)])), (b1, .inl (cI, 8, .inl (ro 8 sz2))), (b2, .inl (cI, 8, .inl (ro 8 co2))), (b3, .inl (cI, 8, .inl (ro 8 va2))), (b4, .inl (cI, 8, .inl (ro 8 am2))), (b5, .inl (cI, 2, .inl (ro 2 li2))), (b6, .inl (cI, 3, .inl (ro 3 se2)))]) := by
  refine KM.of (cc := cX2_copyFrom) (maxL := 2) (ret := none) (by decide) rfl (Nat.le_of_ble_eq_true rfl) ?_
  intro p9 e9 s9 m9 ar9 be9 me9 c9 Q9 A9 ls C0 hN hnm hlk hK hA hret hP hD hS hl
  obtain ⟨hx, hb, hml, hown, hts⟩ := id C0
  have hl : lv_has ls 2 [(0, .ref a0), (1, .ref b0)] := hl
  obtain ⟨H, hH0⟩ : ∃ H, H = s9.heap := ⟨_, rfl⟩
  obtain ⟨locs, hlc0⟩ : ∃ z : List Loc, z = [] := ⟨_, rfl⟩
  have hP : va_P D vwCl [(a0, .inr (2, [.ref a1, .ref a2, .ref a3, .ref a4, .ref a5, .ref a6, .int (nI w)])), (a1, .inl (cI, 8, .inl (ro 8 sz))), (a2, .inl (cI, 8, .inl (ro 8 co))), (a3, .inl (cI, 8, .inl (ro 8 va))), (a4, .inl (cI, 8, .inl (ro 8 am))), (a5, .inl (cI, 2, .inl (ro 2 li))), (a6, .inl (cI, 3, .inl (ro 3 se))), (b0, .inr (2, [.ref b1, .ref b2, .ref b3, .ref b4, .ref b5, .ref b6, .int (nI w2)])), (b1, .inl (cI, 8, .inl (ro 8 sz2))), (b2, .inl (cI, 8, .inl (ro 8 co2))), (b3, .inl (cI, 8, .inl (ro 8 va2))), (b4, .inl (cI, 8, .inl (ro 8 am2))), (b5, .inl (cI, 2, .inl (ro 2 li2))), (b6, .inl (cI, 3, .inl (ro 3 se2)))] H := by rw [hH0]; exact hP
  have hD : va_D A9 [(a0, .inr (2, [.ref a1, .ref a2, .ref a3, .ref a4, .ref a5, .ref a6, .int (nI w)])), (a1, .inl (cI, 8, .inl (ro 8 sz))), (a2, .inl (cI, 8, .inl (ro 8 co))), (a3, .inl (cI, 8, .inl (ro 8 va))), (a4, .inl (cI, 8, .inl (ro 8 am))), (a5, .inl (cI, 2, .inl (ro 2 li))), (a6, .inl (cI, 3, .inl (ro 3 se))), (b0, .inr (2, [.ref b1, .ref b2, .ref b3, .ref b4, .ref b5, .ref b6, .int (nI w2)])), (b1, .inl (cI, 8, .inl (ro 8 sz2))), (b2, .inl (cI, 8, .inl (ro 8 co2))), (b3, .inl (cI, 8, .inl (ro 8 va2))), (b4, .inl (cI, 8, .inl (ro 8 am2))), (b5, .inl (cI, 2, .inl (ro 2 li2))), (b6, .inl (cI, 3, .inl (ro 3 se2)))] := hD
  have hS : va_S A9 s9.heap H locs := by rw [hH0, hlc0]; exact hS
  suffices hgo : W p9 l e9 ({ frames := 1, cells := 0, slots := 0, locals := 22 } : Room) s9 m9 ar9 be9 me9 c9 H locs 0 0 Q9 (F0 m9 0 ls []) by rw [hH0, hlc0] at hgo; exact hgo
  clear hH0 hlc0
  refine lv_aload_n hx hb dX2_copyFrom_0 rfl (lv_at hl 1 rfl) ?_
  refine va_get (D := D) (ci := 2) (v := .ref b1) (C := RX2) (T := TX2) (N := 7) hx hb hts in_X2_copyFrom_X2 hown hK hP 7 rfl rfl 0 (by decide) (hts _ fl_X2_copyFrom_9) (fun _ h9 => h9) rfl dX2_copyFrom_1 ?_
  refine lv_aload_n hx hb dX2_copyFrom_4 rfl (lv_at hl 0 rfl) ?_
  refine va_get (D := D) (ci := 2) (v := .ref a1) (C := RX2) (T := TX2) (N := 7) hx hb hts in_X2_copyFrom_X2 hown hK hP 0 rfl rfl 0 (by decide) (hts _ fl_X2_copyFrom_9) (fun _ h9 => h9) rfl dX2_copyFrom_5 ?_
  refine KM.callSN (As := [.ref b1, .ref a1]) (rest := []) C0 hN (k_X5_copyRow l D cI cS cL b1 a1 8 sz2 sz  (by first | with_reducible assumption | omega)) ⟨va_cnB 2 hts gX2_copyFrom_X5_copyRow_n30 rfl rfl rfl (hN.1 (RX2, 30, yX5_copyRow, RX5) (by decide +kernel)) (hts (.initialized RX5) (by decide +kernel)) (by decide +kernel) ⟨Nat.le_of_ble_eq_true rfl, Nat.le_of_ble_eq_true rfl⟩, (hts (.static yX5_copyRow) (by decide +kernel)), trivial⟩ hK hP hD hS hA [8, 1] rfl (by decide) (fun _ => rfl) rfl hl.1 rfl (Nat.le_of_ble_eq_true rfl) dX2_copyFrom_8 ⟨Nat.le_of_ble_eq_true rfl, Nat.le_of_ble_eq_true rfl⟩ (fun v9 u9 H locs hv hP hD hS => ?_)
  subst hv
  have hP : va_P D vwCl [(a0, .inr (2, [.ref a1, .ref a2, .ref a3, .ref a4, .ref a5, .ref a6, .int (nI w)])), (a1, .inl (cI, 8, .inl (ro 8 sz2))), (a2, .inl (cI, 8, .inl (ro 8 co))), (a3, .inl (cI, 8, .inl (ro 8 va))), (a4, .inl (cI, 8, .inl (ro 8 am))), (a5, .inl (cI, 2, .inl (ro 2 li))), (a6, .inl (cI, 3, .inl (ro 3 se))), (b0, .inr (2, [.ref b1, .ref b2, .ref b3, .ref b4, .ref b5, .ref b6, .int (nI w2)])), (b1, .inl (cI, 8, .inl (ro 8 sz2))), (b2, .inl (cI, 8, .inl (ro 8 co2))), (b3, .inl (cI, 8, .inl (ro 8 va2))), (b4, .inl (cI, 8, .inl (ro 8 am2))), (b5, .inl (cI, 2, .inl (ro 2 li2))), (b6, .inl (cI, 3, .inl (ro 3 se2)))] H := hP
  have hD : va_D A9 [(a0, .inr (2, [.ref a1, .ref a2, .ref a3, .ref a4, .ref a5, .ref a6, .int (nI w)])), (a1, .inl (cI, 8, .inl (ro 8 sz2))), (a2, .inl (cI, 8, .inl (ro 8 co))), (a3, .inl (cI, 8, .inl (ro 8 va))), (a4, .inl (cI, 8, .inl (ro 8 am))), (a5, .inl (cI, 2, .inl (ro 2 li))), (a6, .inl (cI, 3, .inl (ro 3 se))), (b0, .inr (2, [.ref b1, .ref b2, .ref b3, .ref b4, .ref b5, .ref b6, .int (nI w2)])), (b1, .inl (cI, 8, .inl (ro 8 sz2))), (b2, .inl (cI, 8, .inl (ro 8 co2))), (b3, .inl (cI, 8, .inl (ro 8 va2))), (b4, .inl (cI, 8, .inl (ro 8 am2))), (b5, .inl (cI, 2, .inl (ro 2 li2))), (b6, .inl (cI, 3, .inl (ro 3 se2)))] := hD
  refine W.eq (g2 := F0 m9 11 ls []) rfl ?_
  refine lv_aload_n hx hb dX2_copyFrom_11 rfl (lv_at hl 1 rfl) ?_
  refine va_get (D := D) (ci := 2) (v := .ref b2) (C := RX2) (T := TX2) (N := 7) hx hb hts in_X2_copyFrom_X2 hown hK hP 7 rfl rfl 1 (by decide) (hts _ fl_X2_copyFrom_15) (fun _ h9 => h9) rfl dX2_copyFrom_12 ?_
  refine lv_aload_n hx hb dX2_copyFrom_15 rfl (lv_at hl 0 rfl) ?_
  refine va_get (D := D) (ci := 2) (v := .ref a2) (C := RX2) (T := TX2) (N := 7) hx hb hts in_X2_copyFrom_X2 hown hK hP 0 rfl rfl 1 (by decide) (hts _ fl_X2_copyFrom_15) (fun _ h9 => h9) rfl dX2_copyFrom_16 ?_
  refine KM.callSN (As := [.ref b2, .ref a2]) (rest := []) C0 hN (k_X5_copyRow l D cI cS cL b2 a2 8 co2 co  (by first | with_reducible assumption | omega)) ⟨va_cnB 2 hts gX2_copyFrom_X5_copyRow_n30 rfl rfl rfl (hN.1 (RX2, 30, yX5_copyRow, RX5) (by decide +kernel)) (hts (.initialized RX5) (by decide +kernel)) (by decide +kernel) ⟨Nat.le_of_ble_eq_true rfl, Nat.le_of_ble_eq_true rfl⟩, (hts (.static yX5_copyRow) (by decide +kernel)), trivial⟩ hK hP hD hS hA [9, 2] rfl (by decide) (fun _ => rfl) rfl hl.1 rfl (Nat.le_of_ble_eq_true rfl) dX2_copyFrom_19 ⟨Nat.le_of_ble_eq_true rfl, Nat.le_of_ble_eq_true rfl⟩ (fun v9 u9 H locs hv hP hD hS => ?_)
  subst hv
  have hP : va_P D vwCl [(a0, .inr (2, [.ref a1, .ref a2, .ref a3, .ref a4, .ref a5, .ref a6, .int (nI w)])), (a1, .inl (cI, 8, .inl (ro 8 sz2))), (a2, .inl (cI, 8, .inl (ro 8 co2))), (a3, .inl (cI, 8, .inl (ro 8 va))), (a4, .inl (cI, 8, .inl (ro 8 am))), (a5, .inl (cI, 2, .inl (ro 2 li))), (a6, .inl (cI, 3, .inl (ro 3 se))), (b0, .inr (2, [.ref b1, .ref b2, .ref b3, .ref b4, .ref b5, .ref b6, .int (nI w2)])), (b1, .inl (cI, 8, .inl (ro 8 sz2))), (b2, .inl (cI, 8, .inl (ro 8 co2))), (b3, .inl (cI, 8, .inl (ro 8 va2))), (b4, .inl (cI, 8, .inl (ro 8 am2))), (b5, .inl (cI, 2, .inl (ro 2 li2))), (b6, .inl (cI, 3, .inl (ro 3 se2)))] H := hP
  have hD : va_D A9 [(a0, .inr (2, [.ref a1, .ref a2, .ref a3, .ref a4, .ref a5, .ref a6, .int (nI w)])), (a1, .inl (cI, 8, .inl (ro 8 sz2))), (a2, .inl (cI, 8, .inl (ro 8 co2))), (a3, .inl (cI, 8, .inl (ro 8 va))), (a4, .inl (cI, 8, .inl (ro 8 am))), (a5, .inl (cI, 2, .inl (ro 2 li))), (a6, .inl (cI, 3, .inl (ro 3 se))), (b0, .inr (2, [.ref b1, .ref b2, .ref b3, .ref b4, .ref b5, .ref b6, .int (nI w2)])), (b1, .inl (cI, 8, .inl (ro 8 sz2))), (b2, .inl (cI, 8, .inl (ro 8 co2))), (b3, .inl (cI, 8, .inl (ro 8 va2))), (b4, .inl (cI, 8, .inl (ro 8 am2))), (b5, .inl (cI, 2, .inl (ro 2 li2))), (b6, .inl (cI, 3, .inl (ro 3 se2)))] := hD
  refine W.eq (g2 := F0 m9 22 ls []) rfl ?_
  refine lv_aload_n hx hb dX2_copyFrom_22 rfl (lv_at hl 1 rfl) ?_
  refine va_get (D := D) (ci := 2) (v := .ref b3) (C := RX2) (T := TX2) (N := 7) hx hb hts in_X2_copyFrom_X2 hown hK hP 7 rfl rfl 2 (by decide) (hts _ fl_X2_copyFrom_18) (fun _ h9 => h9) rfl dX2_copyFrom_23 ?_
  refine lv_aload_n hx hb dX2_copyFrom_26 rfl (lv_at hl 0 rfl) ?_
  refine va_get (D := D) (ci := 2) (v := .ref a3) (C := RX2) (T := TX2) (N := 7) hx hb hts in_X2_copyFrom_X2 hown hK hP 0 rfl rfl 2 (by decide) (hts _ fl_X2_copyFrom_18) (fun _ h9 => h9) rfl dX2_copyFrom_27 ?_
  refine KM.callSN (As := [.ref b3, .ref a3]) (rest := []) C0 hN (k_X5_copyRow l D cI cS cL b3 a3 8 va2 va  (by first | with_reducible assumption | omega)) ⟨va_cnB 2 hts gX2_copyFrom_X5_copyRow_n30 rfl rfl rfl (hN.1 (RX2, 30, yX5_copyRow, RX5) (by decide +kernel)) (hts (.initialized RX5) (by decide +kernel)) (by decide +kernel) ⟨Nat.le_of_ble_eq_true rfl, Nat.le_of_ble_eq_true rfl⟩, (hts (.static yX5_copyRow) (by decide +kernel)), trivial⟩ hK hP hD hS hA [10, 3] rfl (by decide) (fun _ => rfl) rfl hl.1 rfl (Nat.le_of_ble_eq_true rfl) dX2_copyFrom_30 ⟨Nat.le_of_ble_eq_true rfl, Nat.le_of_ble_eq_true rfl⟩ (fun v9 u9 H locs hv hP hD hS => ?_)
  subst hv
  have hP : va_P D vwCl [(a0, .inr (2, [.ref a1, .ref a2, .ref a3, .ref a4, .ref a5, .ref a6, .int (nI w)])), (a1, .inl (cI, 8, .inl (ro 8 sz2))), (a2, .inl (cI, 8, .inl (ro 8 co2))), (a3, .inl (cI, 8, .inl (ro 8 va2))), (a4, .inl (cI, 8, .inl (ro 8 am))), (a5, .inl (cI, 2, .inl (ro 2 li))), (a6, .inl (cI, 3, .inl (ro 3 se))), (b0, .inr (2, [.ref b1, .ref b2, .ref b3, .ref b4, .ref b5, .ref b6, .int (nI w2)])), (b1, .inl (cI, 8, .inl (ro 8 sz2))), (b2, .inl (cI, 8, .inl (ro 8 co2))), (b3, .inl (cI, 8, .inl (ro 8 va2))), (b4, .inl (cI, 8, .inl (ro 8 am2))), (b5, .inl (cI, 2, .inl (ro 2 li2))), (b6, .inl (cI, 3, .inl (ro 3 se2)))] H := hP
  have hD : va_D A9 [(a0, .inr (2, [.ref a1, .ref a2, .ref a3, .ref a4, .ref a5, .ref a6, .int (nI w)])), (a1, .inl (cI, 8, .inl (ro 8 sz2))), (a2, .inl (cI, 8, .inl (ro 8 co2))), (a3, .inl (cI, 8, .inl (ro 8 va2))), (a4, .inl (cI, 8, .inl (ro 8 am))), (a5, .inl (cI, 2, .inl (ro 2 li))), (a6, .inl (cI, 3, .inl (ro 3 se))), (b0, .inr (2, [.ref b1, .ref b2, .ref b3, .ref b4, .ref b5, .ref b6, .int (nI w2)])), (b1, .inl (cI, 8, .inl (ro 8 sz2))), (b2, .inl (cI, 8, .inl (ro 8 co2))), (b3, .inl (cI, 8, .inl (ro 8 va2))), (b4, .inl (cI, 8, .inl (ro 8 am2))), (b5, .inl (cI, 2, .inl (ro 2 li2))), (b6, .inl (cI, 3, .inl (ro 3 se2)))] := hD
  refine W.eq (g2 := F0 m9 33 ls []) rfl ?_
  refine lv_aload_n hx hb dX2_copyFrom_33 rfl (lv_at hl 1 rfl) ?_
  refine va_get (D := D) (ci := 2) (v := .ref b4) (C := RX2) (T := TX2) (N := 7) hx hb hts in_X2_copyFrom_X2 hown hK hP 7 rfl rfl 3 (by decide) (hts _ fl_X2_copyFrom_21) (fun _ h9 => h9) rfl dX2_copyFrom_34 ?_
  refine lv_aload_n hx hb dX2_copyFrom_37 rfl (lv_at hl 0 rfl) ?_
  refine va_get (D := D) (ci := 2) (v := .ref a4) (C := RX2) (T := TX2) (N := 7) hx hb hts in_X2_copyFrom_X2 hown hK hP 0 rfl rfl 3 (by decide) (hts _ fl_X2_copyFrom_21) (fun _ h9 => h9) rfl dX2_copyFrom_38 ?_
  refine KM.callSN (As := [.ref b4, .ref a4]) (rest := []) C0 hN (k_X5_copyRow l D cI cS cL b4 a4 8 am2 am  (by first | with_reducible assumption | omega)) ⟨va_cnB 2 hts gX2_copyFrom_X5_copyRow_n30 rfl rfl rfl (hN.1 (RX2, 30, yX5_copyRow, RX5) (by decide +kernel)) (hts (.initialized RX5) (by decide +kernel)) (by decide +kernel) ⟨Nat.le_of_ble_eq_true rfl, Nat.le_of_ble_eq_true rfl⟩, (hts (.static yX5_copyRow) (by decide +kernel)), trivial⟩ hK hP hD hS hA [11, 4] rfl (by decide) (fun _ => rfl) rfl hl.1 rfl (Nat.le_of_ble_eq_true rfl) dX2_copyFrom_41 ⟨Nat.le_of_ble_eq_true rfl, Nat.le_of_ble_eq_true rfl⟩ (fun v9 u9 H locs hv hP hD hS => ?_)
  subst hv
  have hP : va_P D vwCl [(a0, .inr (2, [.ref a1, .ref a2, .ref a3, .ref a4, .ref a5, .ref a6, .int (nI w)])), (a1, .inl (cI, 8, .inl (ro 8 sz2))), (a2, .inl (cI, 8, .inl (ro 8 co2))), (a3, .inl (cI, 8, .inl (ro 8 va2))), (a4, .inl (cI, 8, .inl (ro 8 am2))), (a5, .inl (cI, 2, .inl (ro 2 li))), (a6, .inl (cI, 3, .inl (ro 3 se))), (b0, .inr (2, [.ref b1, .ref b2, .ref b3, .ref b4, .ref b5, .ref b6, .int (nI w2)])), (b1, .inl (cI, 8, .inl (ro 8 sz2))), (b2, .inl (cI, 8, .inl (ro 8 co2))), (b3, .inl (cI, 8, .inl (ro 8 va2))), (b4, .inl (cI, 8, .inl (ro 8 am2))), (b5, .inl (cI, 2, .inl (ro 2 li2))), (b6, .inl (cI, 3, .inl (ro 3 se2)))] H := hP
  have hD : va_D A9 [(a0, .inr (2, [.ref a1, .ref a2, .ref a3, .ref a4, .ref a5, .ref a6, .int (nI w)])), (a1, .inl (cI, 8, .inl (ro 8 sz2))), (a2, .inl (cI, 8, .inl (ro 8 co2))), (a3, .inl (cI, 8, .inl (ro 8 va2))), (a4, .inl (cI, 8, .inl (ro 8 am2))), (a5, .inl (cI, 2, .inl (ro 2 li))), (a6, .inl (cI, 3, .inl (ro 3 se))), (b0, .inr (2, [.ref b1, .ref b2, .ref b3, .ref b4, .ref b5, .ref b6, .int (nI w2)])), (b1, .inl (cI, 8, .inl (ro 8 sz2))), (b2, .inl (cI, 8, .inl (ro 8 co2))), (b3, .inl (cI, 8, .inl (ro 8 va2))), (b4, .inl (cI, 8, .inl (ro 8 am2))), (b5, .inl (cI, 2, .inl (ro 2 li2))), (b6, .inl (cI, 3, .inl (ro 3 se2)))] := hD
  refine W.eq (g2 := F0 m9 44 ls []) rfl ?_
  refine lv_aload_n hx hb dX2_copyFrom_44 rfl (lv_at hl 1 rfl) ?_
  refine va_get (D := D) (ci := 2) (v := .ref b5) (C := RX2) (T := TX2) (N := 7) hx hb hts in_X2_copyFrom_X2 hown hK hP 7 rfl rfl 4 (by decide) (hts _ fl_X2_copyFrom_24) (fun _ h9 => h9) rfl dX2_copyFrom_45 ?_
  refine lv_aload_n hx hb dX2_copyFrom_48 rfl (lv_at hl 0 rfl) ?_
  refine va_get (D := D) (ci := 2) (v := .ref a5) (C := RX2) (T := TX2) (N := 7) hx hb hts in_X2_copyFrom_X2 hown hK hP 0 rfl rfl 4 (by decide) (hts _ fl_X2_copyFrom_24) (fun _ h9 => h9) rfl dX2_copyFrom_49 ?_
  refine KM.callSN (As := [.ref b5, .ref a5]) (rest := []) C0 hN (k_X5_copyRow l D cI cS cL b5 a5 2 li2 li  (by first | with_reducible assumption | omega)) ⟨va_cnB 2 hts gX2_copyFrom_X5_copyRow_n30 rfl rfl rfl (hN.1 (RX2, 30, yX5_copyRow, RX5) (by decide +kernel)) (hts (.initialized RX5) (by decide +kernel)) (by decide +kernel) ⟨Nat.le_of_ble_eq_true rfl, Nat.le_of_ble_eq_true rfl⟩, (hts (.static yX5_copyRow) (by decide +kernel)), trivial⟩ hK hP hD hS hA [12, 5] rfl (by decide) (fun _ => rfl) rfl hl.1 rfl (Nat.le_of_ble_eq_true rfl) dX2_copyFrom_52 ⟨Nat.le_of_ble_eq_true rfl, Nat.le_of_ble_eq_true rfl⟩ (fun v9 u9 H locs hv hP hD hS => ?_)
  subst hv
  have hP : va_P D vwCl [(a0, .inr (2, [.ref a1, .ref a2, .ref a3, .ref a4, .ref a5, .ref a6, .int (nI w)])), (a1, .inl (cI, 8, .inl (ro 8 sz2))), (a2, .inl (cI, 8, .inl (ro 8 co2))), (a3, .inl (cI, 8, .inl (ro 8 va2))), (a4, .inl (cI, 8, .inl (ro 8 am2))), (a5, .inl (cI, 2, .inl (ro 2 li2))), (a6, .inl (cI, 3, .inl (ro 3 se))), (b0, .inr (2, [.ref b1, .ref b2, .ref b3, .ref b4, .ref b5, .ref b6, .int (nI w2)])), (b1, .inl (cI, 8, .inl (ro 8 sz2))), (b2, .inl (cI, 8, .inl (ro 8 co2))), (b3, .inl (cI, 8, .inl (ro 8 va2))), (b4, .inl (cI, 8, .inl (ro 8 am2))), (b5, .inl (cI, 2, .inl (ro 2 li2))), (b6, .inl (cI, 3, .inl (ro 3 se2)))] H := hP
  have hD : va_D A9 [(a0, .inr (2, [.ref a1, .ref a2, .ref a3, .ref a4, .ref a5, .ref a6, .int (nI w)])), (a1, .inl (cI, 8, .inl (ro 8 sz2))), (a2, .inl (cI, 8, .inl (ro 8 co2))), (a3, .inl (cI, 8, .inl (ro 8 va2))), (a4, .inl (cI, 8, .inl (ro 8 am2))), (a5, .inl (cI, 2, .inl (ro 2 li2))), (a6, .inl (cI, 3, .inl (ro 3 se))), (b0, .inr (2, [.ref b1, .ref b2, .ref b3, .ref b4, .ref b5, .ref b6, .int (nI w2)])), (b1, .inl (cI, 8, .inl (ro 8 sz2))), (b2, .inl (cI, 8, .inl (ro 8 co2))), (b3, .inl (cI, 8, .inl (ro 8 va2))), (b4, .inl (cI, 8, .inl (ro 8 am2))), (b5, .inl (cI, 2, .inl (ro 2 li2))), (b6, .inl (cI, 3, .inl (ro 3 se2)))] := hD
  refine W.eq (g2 := F0 m9 55 ls []) rfl ?_
  refine lv_aload_n hx hb dX2_copyFrom_55 rfl (lv_at hl 1 rfl) ?_
  refine va_get (D := D) (ci := 2) (v := .ref b6) (C := RX2) (T := TX2) (N := 7) hx hb hts in_X2_copyFrom_X2 hown hK hP 7 rfl rfl 5 (by decide) (hts _ fl_X2_copyFrom_27) (fun _ h9 => h9) rfl dX2_copyFrom_56 ?_
  refine lv_aload_n hx hb dX2_copyFrom_59 rfl (lv_at hl 0 rfl) ?_
  refine va_get (D := D) (ci := 2) (v := .ref a6) (C := RX2) (T := TX2) (N := 7) hx hb hts in_X2_copyFrom_X2 hown hK hP 0 rfl rfl 5 (by decide) (hts _ fl_X2_copyFrom_27) (fun _ h9 => h9) rfl dX2_copyFrom_60 ?_
  refine KM.callSN (As := [.ref b6, .ref a6]) (rest := []) C0 hN (k_X5_copyRow l D cI cS cL b6 a6 3 se2 se  (by first | with_reducible assumption | omega)) ⟨va_cnB 2 hts gX2_copyFrom_X5_copyRow_n30 rfl rfl rfl (hN.1 (RX2, 30, yX5_copyRow, RX5) (by decide +kernel)) (hts (.initialized RX5) (by decide +kernel)) (by decide +kernel) ⟨Nat.le_of_ble_eq_true rfl, Nat.le_of_ble_eq_true rfl⟩, (hts (.static yX5_copyRow) (by decide +kernel)), trivial⟩ hK hP hD hS hA [13, 6] rfl (by decide) (fun _ => rfl) rfl hl.1 rfl (Nat.le_of_ble_eq_true rfl) dX2_copyFrom_63 ⟨Nat.le_of_ble_eq_true rfl, Nat.le_of_ble_eq_true rfl⟩ (fun v9 u9 H locs hv hP hD hS => ?_)
  subst hv
  have hP : va_P D vwCl [(a0, .inr (2, [.ref a1, .ref a2, .ref a3, .ref a4, .ref a5, .ref a6, .int (nI w)])), (a1, .inl (cI, 8, .inl (ro 8 sz2))), (a2, .inl (cI, 8, .inl (ro 8 co2))), (a3, .inl (cI, 8, .inl (ro 8 va2))), (a4, .inl (cI, 8, .inl (ro 8 am2))), (a5, .inl (cI, 2, .inl (ro 2 li2))), (a6, .inl (cI, 3, .inl (ro 3 se2))), (b0, .inr (2, [.ref b1, .ref b2, .ref b3, .ref b4, .ref b5, .ref b6, .int (nI w2)])), (b1, .inl (cI, 8, .inl (ro 8 sz2))), (b2, .inl (cI, 8, .inl (ro 8 co2))), (b3, .inl (cI, 8, .inl (ro 8 va2))), (b4, .inl (cI, 8, .inl (ro 8 am2))), (b5, .inl (cI, 2, .inl (ro 2 li2))), (b6, .inl (cI, 3, .inl (ro 3 se2)))] H := hP
  have hD : va_D A9 [(a0, .inr (2, [.ref a1, .ref a2, .ref a3, .ref a4, .ref a5, .ref a6, .int (nI w)])), (a1, .inl (cI, 8, .inl (ro 8 sz2))), (a2, .inl (cI, 8, .inl (ro 8 co2))), (a3, .inl (cI, 8, .inl (ro 8 va2))), (a4, .inl (cI, 8, .inl (ro 8 am2))), (a5, .inl (cI, 2, .inl (ro 2 li2))), (a6, .inl (cI, 3, .inl (ro 3 se2))), (b0, .inr (2, [.ref b1, .ref b2, .ref b3, .ref b4, .ref b5, .ref b6, .int (nI w2)])), (b1, .inl (cI, 8, .inl (ro 8 sz2))), (b2, .inl (cI, 8, .inl (ro 8 co2))), (b3, .inl (cI, 8, .inl (ro 8 va2))), (b4, .inl (cI, 8, .inl (ro 8 am2))), (b5, .inl (cI, 2, .inl (ro 2 li2))), (b6, .inl (cI, 3, .inl (ro 3 se2)))] := hD
  refine W.eq (g2 := F0 m9 66 ls []) rfl ?_
  refine lv_aload_n hx hb dX2_copyFrom_66 rfl (lv_at hl 0 rfl) ?_
  refine lv_aload_n hx hb dX2_copyFrom_67 rfl (lv_at hl 1 rfl) ?_
  refine va_get (D := D) (ci := 2) (v := .int (nI w2)) (C := RX2) (T := TX2) (N := 7) hx hb hts in_X2_copyFrom_X2 hown hK hP 7 rfl rfl 6 (by decide) (hts _ fl_X2_copyFrom_34) (fun _ h9 => h9) rfl dX2_copyFrom_68 ?_
  refine va_put (D := D) (ci := 2) (v := .int (nI w2)) (ty := tyX2 6) (C := RX2) (T := TX2) (N := 7) hx hb hts in_X2_copyFrom_X2 tyX2 tyX2_ok nmX2 hown hK hP hD hS 0 rfl rfl 6 (by decide) (hts _ fl_X2_copyFrom_34) (fun _ h9 => h9) rfl (by decide +kernel) rfl rfl (Nat.le_of_ble_eq_true rfl) dX2_copyFrom_71 (fun H locs hP hD hS => ?_)
  have hP : va_P D vwCl [(a0, .inr (2, [.ref a1, .ref a2, .ref a3, .ref a4, .ref a5, .ref a6, .int (nI w2)])), (a1, .inl (cI, 8, .inl (ro 8 sz2))), (a2, .inl (cI, 8, .inl (ro 8 co2))), (a3, .inl (cI, 8, .inl (ro 8 va2))), (a4, .inl (cI, 8, .inl (ro 8 am2))), (a5, .inl (cI, 2, .inl (ro 2 li2))), (a6, .inl (cI, 3, .inl (ro 3 se2))), (b0, .inr (2, [.ref b1, .ref b2, .ref b3, .ref b4, .ref b5, .ref b6, .int (nI w2)])), (b1, .inl (cI, 8, .inl (ro 8 sz2))), (b2, .inl (cI, 8, .inl (ro 8 co2))), (b3, .inl (cI, 8, .inl (ro 8 va2))), (b4, .inl (cI, 8, .inl (ro 8 am2))), (b5, .inl (cI, 2, .inl (ro 2 li2))), (b6, .inl (cI, 3, .inl (ro 3 se2)))] H := hP
  have hD : va_D A9 [(a0, .inr (2, [.ref a1, .ref a2, .ref a3, .ref a4, .ref a5, .ref a6, .int (nI w2)])), (a1, .inl (cI, 8, .inl (ro 8 sz2))), (a2, .inl (cI, 8, .inl (ro 8 co2))), (a3, .inl (cI, 8, .inl (ro 8 va2))), (a4, .inl (cI, 8, .inl (ro 8 am2))), (a5, .inl (cI, 2, .inl (ro 2 li2))), (a6, .inl (cI, 3, .inl (ro 3 se2))), (b0, .inr (2, [.ref b1, .ref b2, .ref b3, .ref b4, .ref b5, .ref b6, .int (nI w2)])), (b1, .inl (cI, 8, .inl (ro 8 sz2))), (b2, .inl (cI, 8, .inl (ro 8 co2))), (b3, .inl (cI, 8, .inl (ro 8 va2))), (b4, .inl (cI, 8, .inl (ro 8 am2))), (b5, .inl (cI, 2, .inl (ro 2 li2))), (b6, .inl (cI, 3, .inl (ro 3 se2)))] := hD
  exact hret _ _ _ _ none () 74 ls (by decide) (by decide) (by rfl) hP hD hS (ret_v dX2_copyFrom_74)

theorem in_X1_copyFrom_X1 : ∀ w ∈ wsX10, w ∈ wsX1_copyFrom := by decide +kernel
theorem fl_X1_copyFrom_9 : Cond.fieldLink RX1 9 "FountainCues$Cues" "numbers" "[I" ∈ wsX1_copyFrom := by decide +kernel
theorem fl_X1_copyFrom_15 : Cond.fieldLink RX1 15 "FountainCues$Cues" "ticks" "[I" ∈ wsX1_copyFrom := by decide +kernel
theorem fl_X1_copyFrom_18 : Cond.fieldLink RX1 18 "FountainCues$Cues" "jets" "[I" ∈ wsX1_copyFrom := by decide +kernel
theorem fl_X1_copyFrom_21 : Cond.fieldLink RX1 21 "FountainCues$Cues" "aims" "[I" ∈ wsX1_copyFrom := by decide +kernel
theorem fl_X1_copyFrom_28 : Cond.fieldLink RX1 28 "FountainCues$Cues" "size" "I" ∈ wsX1_copyFrom := by decide +kernel
theorem fl_X1_copyFrom_32 : Cond.fieldLink RX1 32 "FountainCues$Cues" "nextNumber" "I" ∈ wsX1_copyFrom := by decide +kernel
set_option maxHeartbeats 4000000 in
set_option maxRecDepth 100000 in
theorem k_X1_copyFrom (l : Launch) (D : va_G) (cI cS cL : ClassId) (a0 : Nat) (a1 : Nat) (a2 : Nat) (a3 : Nat) (a4 : Nat) (nu : Nat → Nat) (ti : Nat → Nat) (je : Nat → Nat) (ac : Nat → Nat) (n : Nat) (g : Nat) (b0 : Nat) (b1 : Nat) (b2 : Nat) (b3 : Nat) (b4 : Nat) (nu2 : Nat → Nat) (ti2 : Nat → Nat) (je2 : Nat → Nat) (ac2 : Nat → Nat) (n2 : Nat) (g2 : Nat)  : KM l D (TY cI cS cL) yX1_copyFrom wsX1_copyFrom ({ frames := 1, cells := 0, slots := 0, locals := 22 } : Room) [(a0, .inr (1, [.ref a1, .ref a2, .ref a3, .ref a4, .int (nI n), .int (nI g)])), (a1, .inl (cI, 16, .inl (ro 16 nu))), (a2, .inl (cI, 16, .inl (ro 16 ti))), (a3, .inl (cI, 16, .inl (ro 16 je))), (a4, .inl (cI, 16, .inl (ro 16 ac))), (b0, .inr (1, [.ref b1, .ref b2, .ref b3, .ref b4, .int (nI n2), .int (nI g2)])), (b1, .inl (cI, 16, .inl (ro 16 nu2))), (b2, .inl (cI, 16, .inl (ro 16 ti2))), (b3, .inl (cI, 16, .inl (ro 16 je2))), (b4, .inl (cI, 16, .inl (ro 16 ac2)))] [.ref a0, .ref b0] (fun (v : Option Value) (_ : Unit) => v = none) (fun _ : Unit => [(a0, .inr (1, [.ref a1, .ref a2, .ref a3, .ref a4, .int (nI n2), .int (nI g2)])), (a1, .inl (cI, 16, .inl (ro 16 nu2))), (a2, .inl (cI, 16, .inl (ro 16 ti2))), (a3, .inl (cI, 16, .inl (ro 16 je2))), (a4, .inl (cI, 16, .inl (ro 16 ac2))), (b0, .inr (1, [.ref b1, .ref b2, .ref b3, .ref b4, .int (nI n2), .int (nI g2)])), (b1, .inl (cI, 16, .inl (ro 16 nu2))), (b2, .inl (cI, 16, .inl (ro 16 ti2))), (b3, .inl (cI, 16, .inl (ro 16 je2))), (b4, .inl (cI, 16, .inl (ro 16 ac2)))]) := by
  refine KM.of (cc := cX1_copyFrom) (maxL := 2) (ret := none) (by decide) rfl (Nat.le_of_ble_eq_true rfl) ?_
  intro p9 e9 s9 m9 ar9 be9 me9 c9 Q9 A9 ls C0 hN hnm hlk hK hA hret hP hD hS hl
  obtain ⟨hx, hb, hml, hown, hts⟩ := id C0
  have hl : lv_has ls 2 [(0, .ref a0), (1, .ref b0)] := hl
  obtain ⟨H, hH0⟩ : ∃ H, H = s9.heap := ⟨_, rfl⟩
  obtain ⟨locs, hlc0⟩ : ∃ z : List Loc, z = [] := ⟨_, rfl⟩
  have hP : va_P D vwCl [(a0, .inr (1, [.ref a1, .ref a2, .ref a3, .ref a4, .int (nI n), .int (nI g)])), (a1, .inl (cI, 16, .inl (ro 16 nu))), (a2, .inl (cI, 16, .inl (ro 16 ti))), (a3, .inl (cI, 16, .inl (ro 16 je))), (a4, .inl (cI, 16, .inl (ro 16 ac))), (b0, .inr (1, [.ref b1, .ref b2, .ref b3, .ref b4, .int (nI n2), .int (nI g2)])), (b1, .inl (cI, 16, .inl (ro 16 nu2))), (b2, .inl (cI, 16, .inl (ro 16 ti2))), (b3, .inl (cI, 16, .inl (ro 16 je2))), (b4, .inl (cI, 16, .inl (ro 16 ac2)))] H := by rw [hH0]; exact hP
  have hD : va_D A9 [(a0, .inr (1, [.ref a1, .ref a2, .ref a3, .ref a4, .int (nI n), .int (nI g)])), (a1, .inl (cI, 16, .inl (ro 16 nu))), (a2, .inl (cI, 16, .inl (ro 16 ti))), (a3, .inl (cI, 16, .inl (ro 16 je))), (a4, .inl (cI, 16, .inl (ro 16 ac))), (b0, .inr (1, [.ref b1, .ref b2, .ref b3, .ref b4, .int (nI n2), .int (nI g2)])), (b1, .inl (cI, 16, .inl (ro 16 nu2))), (b2, .inl (cI, 16, .inl (ro 16 ti2))), (b3, .inl (cI, 16, .inl (ro 16 je2))), (b4, .inl (cI, 16, .inl (ro 16 ac2)))] := hD
  have hS : va_S A9 s9.heap H locs := by rw [hH0, hlc0]; exact hS
  suffices hgo : W p9 l e9 ({ frames := 1, cells := 0, slots := 0, locals := 22 } : Room) s9 m9 ar9 be9 me9 c9 H locs 0 0 Q9 (F0 m9 0 ls []) by rw [hH0, hlc0] at hgo; exact hgo
  clear hH0 hlc0
  refine lv_aload_n hx hb dX1_copyFrom_0 rfl (lv_at hl 1 rfl) ?_
  refine va_get (D := D) (ci := 1) (v := .ref b1) (C := RX1) (T := TX1) (N := 6) hx hb hts in_X1_copyFrom_X1 hown hK hP 5 rfl rfl 0 (by decide) (hts _ fl_X1_copyFrom_9) (fun _ h9 => h9) rfl dX1_copyFrom_1 ?_
  refine lv_aload_n hx hb dX1_copyFrom_4 rfl (lv_at hl 0 rfl) ?_
  refine va_get (D := D) (ci := 1) (v := .ref a1) (C := RX1) (T := TX1) (N := 6) hx hb hts in_X1_copyFrom_X1 hown hK hP 0 rfl rfl 0 (by decide) (hts _ fl_X1_copyFrom_9) (fun _ h9 => h9) rfl dX1_copyFrom_5 ?_
  refine KM.callSN (As := [.ref b1, .ref a1]) (rest := []) C0 hN (k_X5_copyRow l D cI cS cL b1 a1 16 nu2 nu  (by first | with_reducible assumption | omega)) ⟨va_cnB 2 hts gX1_copyFrom_X5_copyRow_n24 rfl rfl rfl (hN.1 (RX1, 24, yX5_copyRow, RX5) (by decide +kernel)) (hts (.initialized RX5) (by decide +kernel)) (by decide +kernel) ⟨Nat.le_of_ble_eq_true rfl, Nat.le_of_ble_eq_true rfl⟩, (hts (.static yX5_copyRow) (by decide +kernel)), trivial⟩ hK hP hD hS hA [6, 1] rfl (by decide) (fun _ => rfl) rfl hl.1 rfl (Nat.le_of_ble_eq_true rfl) dX1_copyFrom_8 ⟨Nat.le_of_ble_eq_true rfl, Nat.le_of_ble_eq_true rfl⟩ (fun v9 u9 H locs hv hP hD hS => ?_)
  subst hv
  have hP : va_P D vwCl [(a0, .inr (1, [.ref a1, .ref a2, .ref a3, .ref a4, .int (nI n), .int (nI g)])), (a1, .inl (cI, 16, .inl (ro 16 nu2))), (a2, .inl (cI, 16, .inl (ro 16 ti))), (a3, .inl (cI, 16, .inl (ro 16 je))), (a4, .inl (cI, 16, .inl (ro 16 ac))), (b0, .inr (1, [.ref b1, .ref b2, .ref b3, .ref b4, .int (nI n2), .int (nI g2)])), (b1, .inl (cI, 16, .inl (ro 16 nu2))), (b2, .inl (cI, 16, .inl (ro 16 ti2))), (b3, .inl (cI, 16, .inl (ro 16 je2))), (b4, .inl (cI, 16, .inl (ro 16 ac2)))] H := hP
  have hD : va_D A9 [(a0, .inr (1, [.ref a1, .ref a2, .ref a3, .ref a4, .int (nI n), .int (nI g)])), (a1, .inl (cI, 16, .inl (ro 16 nu2))), (a2, .inl (cI, 16, .inl (ro 16 ti))), (a3, .inl (cI, 16, .inl (ro 16 je))), (a4, .inl (cI, 16, .inl (ro 16 ac))), (b0, .inr (1, [.ref b1, .ref b2, .ref b3, .ref b4, .int (nI n2), .int (nI g2)])), (b1, .inl (cI, 16, .inl (ro 16 nu2))), (b2, .inl (cI, 16, .inl (ro 16 ti2))), (b3, .inl (cI, 16, .inl (ro 16 je2))), (b4, .inl (cI, 16, .inl (ro 16 ac2)))] := hD
  refine W.eq (g2 := F0 m9 11 ls []) rfl ?_
  refine lv_aload_n hx hb dX1_copyFrom_11 rfl (lv_at hl 1 rfl) ?_
  refine va_get (D := D) (ci := 1) (v := .ref b2) (C := RX1) (T := TX1) (N := 6) hx hb hts in_X1_copyFrom_X1 hown hK hP 5 rfl rfl 1 (by decide) (hts _ fl_X1_copyFrom_15) (fun _ h9 => h9) rfl dX1_copyFrom_12 ?_
  refine lv_aload_n hx hb dX1_copyFrom_15 rfl (lv_at hl 0 rfl) ?_
  refine va_get (D := D) (ci := 1) (v := .ref a2) (C := RX1) (T := TX1) (N := 6) hx hb hts in_X1_copyFrom_X1 hown hK hP 0 rfl rfl 1 (by decide) (hts _ fl_X1_copyFrom_15) (fun _ h9 => h9) rfl dX1_copyFrom_16 ?_
  refine KM.callSN (As := [.ref b2, .ref a2]) (rest := []) C0 hN (k_X5_copyRow l D cI cS cL b2 a2 16 ti2 ti  (by first | with_reducible assumption | omega)) ⟨va_cnB 2 hts gX1_copyFrom_X5_copyRow_n24 rfl rfl rfl (hN.1 (RX1, 24, yX5_copyRow, RX5) (by decide +kernel)) (hts (.initialized RX5) (by decide +kernel)) (by decide +kernel) ⟨Nat.le_of_ble_eq_true rfl, Nat.le_of_ble_eq_true rfl⟩, (hts (.static yX5_copyRow) (by decide +kernel)), trivial⟩ hK hP hD hS hA [7, 2] rfl (by decide) (fun _ => rfl) rfl hl.1 rfl (Nat.le_of_ble_eq_true rfl) dX1_copyFrom_19 ⟨Nat.le_of_ble_eq_true rfl, Nat.le_of_ble_eq_true rfl⟩ (fun v9 u9 H locs hv hP hD hS => ?_)
  subst hv
  have hP : va_P D vwCl [(a0, .inr (1, [.ref a1, .ref a2, .ref a3, .ref a4, .int (nI n), .int (nI g)])), (a1, .inl (cI, 16, .inl (ro 16 nu2))), (a2, .inl (cI, 16, .inl (ro 16 ti2))), (a3, .inl (cI, 16, .inl (ro 16 je))), (a4, .inl (cI, 16, .inl (ro 16 ac))), (b0, .inr (1, [.ref b1, .ref b2, .ref b3, .ref b4, .int (nI n2), .int (nI g2)])), (b1, .inl (cI, 16, .inl (ro 16 nu2))), (b2, .inl (cI, 16, .inl (ro 16 ti2))), (b3, .inl (cI, 16, .inl (ro 16 je2))), (b4, .inl (cI, 16, .inl (ro 16 ac2)))] H := hP
  have hD : va_D A9 [(a0, .inr (1, [.ref a1, .ref a2, .ref a3, .ref a4, .int (nI n), .int (nI g)])), (a1, .inl (cI, 16, .inl (ro 16 nu2))), (a2, .inl (cI, 16, .inl (ro 16 ti2))), (a3, .inl (cI, 16, .inl (ro 16 je))), (a4, .inl (cI, 16, .inl (ro 16 ac))), (b0, .inr (1, [.ref b1, .ref b2, .ref b3, .ref b4, .int (nI n2), .int (nI g2)])), (b1, .inl (cI, 16, .inl (ro 16 nu2))), (b2, .inl (cI, 16, .inl (ro 16 ti2))), (b3, .inl (cI, 16, .inl (ro 16 je2))), (b4, .inl (cI, 16, .inl (ro 16 ac2)))] := hD
  refine W.eq (g2 := F0 m9 22 ls []) rfl ?_
  refine lv_aload_n hx hb dX1_copyFrom_22 rfl (lv_at hl 1 rfl) ?_
  refine va_get (D := D) (ci := 1) (v := .ref b3) (C := RX1) (T := TX1) (N := 6) hx hb hts in_X1_copyFrom_X1 hown hK hP 5 rfl rfl 2 (by decide) (hts _ fl_X1_copyFrom_18) (fun _ h9 => h9) rfl dX1_copyFrom_23 ?_
  refine lv_aload_n hx hb dX1_copyFrom_26 rfl (lv_at hl 0 rfl) ?_
  refine va_get (D := D) (ci := 1) (v := .ref a3) (C := RX1) (T := TX1) (N := 6) hx hb hts in_X1_copyFrom_X1 hown hK hP 0 rfl rfl 2 (by decide) (hts _ fl_X1_copyFrom_18) (fun _ h9 => h9) rfl dX1_copyFrom_27 ?_
  refine KM.callSN (As := [.ref b3, .ref a3]) (rest := []) C0 hN (k_X5_copyRow l D cI cS cL b3 a3 16 je2 je  (by first | with_reducible assumption | omega)) ⟨va_cnB 2 hts gX1_copyFrom_X5_copyRow_n24 rfl rfl rfl (hN.1 (RX1, 24, yX5_copyRow, RX5) (by decide +kernel)) (hts (.initialized RX5) (by decide +kernel)) (by decide +kernel) ⟨Nat.le_of_ble_eq_true rfl, Nat.le_of_ble_eq_true rfl⟩, (hts (.static yX5_copyRow) (by decide +kernel)), trivial⟩ hK hP hD hS hA [8, 3] rfl (by decide) (fun _ => rfl) rfl hl.1 rfl (Nat.le_of_ble_eq_true rfl) dX1_copyFrom_30 ⟨Nat.le_of_ble_eq_true rfl, Nat.le_of_ble_eq_true rfl⟩ (fun v9 u9 H locs hv hP hD hS => ?_)
  subst hv
  have hP : va_P D vwCl [(a0, .inr (1, [.ref a1, .ref a2, .ref a3, .ref a4, .int (nI n), .int (nI g)])), (a1, .inl (cI, 16, .inl (ro 16 nu2))), (a2, .inl (cI, 16, .inl (ro 16 ti2))), (a3, .inl (cI, 16, .inl (ro 16 je2))), (a4, .inl (cI, 16, .inl (ro 16 ac))), (b0, .inr (1, [.ref b1, .ref b2, .ref b3, .ref b4, .int (nI n2), .int (nI g2)])), (b1, .inl (cI, 16, .inl (ro 16 nu2))), (b2, .inl (cI, 16, .inl (ro 16 ti2))), (b3, .inl (cI, 16, .inl (ro 16 je2))), (b4, .inl (cI, 16, .inl (ro 16 ac2)))] H := hP
  have hD : va_D A9 [(a0, .inr (1, [.ref a1, .ref a2, .ref a3, .ref a4, .int (nI n), .int (nI g)])), (a1, .inl (cI, 16, .inl (ro 16 nu2))), (a2, .inl (cI, 16, .inl (ro 16 ti2))), (a3, .inl (cI, 16, .inl (ro 16 je2))), (a4, .inl (cI, 16, .inl (ro 16 ac))), (b0, .inr (1, [.ref b1, .ref b2, .ref b3, .ref b4, .int (nI n2), .int (nI g2)])), (b1, .inl (cI, 16, .inl (ro 16 nu2))), (b2, .inl (cI, 16, .inl (ro 16 ti2))), (b3, .inl (cI, 16, .inl (ro 16 je2))), (b4, .inl (cI, 16, .inl (ro 16 ac2)))] := hD
  refine W.eq (g2 := F0 m9 33 ls []) rfl ?_
  refine lv_aload_n hx hb dX1_copyFrom_33 rfl (lv_at hl 1 rfl) ?_
  refine va_get (D := D) (ci := 1) (v := .ref b4) (C := RX1) (T := TX1) (N := 6) hx hb hts in_X1_copyFrom_X1 hown hK hP 5 rfl rfl 3 (by decide) (hts _ fl_X1_copyFrom_21) (fun _ h9 => h9) rfl dX1_copyFrom_34 ?_
  refine lv_aload_n hx hb dX1_copyFrom_37 rfl (lv_at hl 0 rfl) ?_
  refine va_get (D := D) (ci := 1) (v := .ref a4) (C := RX1) (T := TX1) (N := 6) hx hb hts in_X1_copyFrom_X1 hown hK hP 0 rfl rfl 3 (by decide) (hts _ fl_X1_copyFrom_21) (fun _ h9 => h9) rfl dX1_copyFrom_38 ?_
  refine KM.callSN (As := [.ref b4, .ref a4]) (rest := []) C0 hN (k_X5_copyRow l D cI cS cL b4 a4 16 ac2 ac  (by first | with_reducible assumption | omega)) ⟨va_cnB 2 hts gX1_copyFrom_X5_copyRow_n24 rfl rfl rfl (hN.1 (RX1, 24, yX5_copyRow, RX5) (by decide +kernel)) (hts (.initialized RX5) (by decide +kernel)) (by decide +kernel) ⟨Nat.le_of_ble_eq_true rfl, Nat.le_of_ble_eq_true rfl⟩, (hts (.static yX5_copyRow) (by decide +kernel)), trivial⟩ hK hP hD hS hA [9, 4] rfl (by decide) (fun _ => rfl) rfl hl.1 rfl (Nat.le_of_ble_eq_true rfl) dX1_copyFrom_41 ⟨Nat.le_of_ble_eq_true rfl, Nat.le_of_ble_eq_true rfl⟩ (fun v9 u9 H locs hv hP hD hS => ?_)
  subst hv
  have hP : va_P D vwCl [(a0, .inr (1, [.ref a1, .ref a2, .ref a3, .ref a4, .int (nI n), .int (nI g)])), (a1, .inl (cI, 16, .inl (ro 16 nu2))), (a2, .inl (cI, 16, .inl (ro 16 ti2))), (a3, .inl (cI, 16, .inl (ro 16 je2))), (a4, .inl (cI, 16, .inl (ro 16 ac2))), (b0, .inr (1, [.ref b1, .ref b2, .ref b3, .ref b4, .int (nI n2), .int (nI g2)])), (b1, .inl (cI, 16, .inl (ro 16 nu2))), (b2, .inl (cI, 16, .inl (ro 16 ti2))), (b3, .inl (cI, 16, .inl (ro 16 je2))), (b4, .inl (cI, 16, .inl (ro 16 ac2)))] H := hP
  have hD : va_D A9 [(a0, .inr (1, [.ref a1, .ref a2, .ref a3, .ref a4, .int (nI n), .int (nI g)])), (a1, .inl (cI, 16, .inl (ro 16 nu2))), (a2, .inl (cI, 16, .inl (ro 16 ti2))), (a3, .inl (cI, 16, .inl (ro 16 je2))), (a4, .inl (cI, 16, .inl (ro 16 ac2))), (b0, .inr (1, [.ref b1, .ref b2, .ref b3, .ref b4, .int (nI n2), .int (nI g2)])), (b1, .inl (cI, 16, .inl (ro 16 nu2))), (b2, .inl (cI, 16, .inl (ro 16 ti2))), (b3, .inl (cI, 16, .inl (ro 16 je2))), (b4, .inl (cI, 16, .inl (ro 16 ac2)))] := hD
  refine W.eq (g2 := F0 m9 44 ls []) rfl ?_
  refine lv_aload_n hx hb dX1_copyFrom_44 rfl (lv_at hl 0 rfl) ?_
  refine lv_aload_n hx hb dX1_copyFrom_45 rfl (lv_at hl 1 rfl) ?_
  refine va_get (D := D) (ci := 1) (v := .int (nI n2)) (C := RX1) (T := TX1) (N := 6) hx hb hts in_X1_copyFrom_X1 hown hK hP 5 rfl rfl 4 (by decide) (hts _ fl_X1_copyFrom_28) (fun _ h9 => h9) rfl dX1_copyFrom_46 ?_
  refine va_put (D := D) (ci := 1) (v := .int (nI n2)) (ty := tyX1 4) (C := RX1) (T := TX1) (N := 6) hx hb hts in_X1_copyFrom_X1 tyX1 tyX1_ok nmX1 hown hK hP hD hS 0 rfl rfl 4 (by decide) (hts _ fl_X1_copyFrom_28) (fun _ h9 => h9) rfl (by decide +kernel) rfl rfl (Nat.le_of_ble_eq_true rfl) dX1_copyFrom_49 (fun H locs hP hD hS => ?_)
  have hP : va_P D vwCl [(a0, .inr (1, [.ref a1, .ref a2, .ref a3, .ref a4, .int (nI n2), .int (nI g)])), (a1, .inl (cI, 16, .inl (ro 16 nu2))), (a2, .inl (cI, 16, .inl (ro 16 ti2))), (a3, .inl (cI, 16, .inl (ro 16 je2))), (a4, .inl (cI, 16, .inl (ro 16 ac2))), (b0, .inr (1, [.ref b1, .ref b2, .ref b3, .ref b4, .int (nI n2), .int (nI g2)])), (b1, .inl (cI, 16, .inl (ro 16 nu2))), (b2, .inl (cI, 16, .inl (ro 16 ti2))), (b3, .inl (cI, 16, .inl (ro 16 je2))), (b4, .inl (cI, 16, .inl (ro 16 ac2)))] H := hP
  have hD : va_D A9 [(a0, .inr (1, [.ref a1, .ref a2, .ref a3, .ref a4, .int (nI n2), .int (nI g)])), (a1, .inl (cI, 16, .inl (ro 16 nu2))), (a2, .inl (cI, 16, .inl (ro 16 ti2))), (a3, .inl (cI, 16, .inl (ro 16 je2))), (a4, .inl (cI, 16, .inl (ro 16 ac2))), (b0, .inr (1, [.ref b1, .ref b2, .ref b3, .ref b4, .int (nI n2), .int (nI g2)])), (b1, .inl (cI, 16, .inl (ro 16 nu2))), (b2, .inl (cI, 16, .inl (ro 16 ti2))), (b3, .inl (cI, 16, .inl (ro 16 je2))), (b4, .inl (cI, 16, .inl (ro 16 ac2)))] := hD
  refine lv_aload_n hx hb dX1_copyFrom_52 rfl (lv_at hl 0 rfl) ?_
  refine lv_aload_n hx hb dX1_copyFrom_53 rfl (lv_at hl 1 rfl) ?_
  refine va_get (D := D) (ci := 1) (v := .int (nI g2)) (C := RX1) (T := TX1) (N := 6) hx hb hts in_X1_copyFrom_X1 hown hK hP 5 rfl rfl 5 (by decide) (hts _ fl_X1_copyFrom_32) (fun _ h9 => h9) rfl dX1_copyFrom_54 ?_
  refine va_put (D := D) (ci := 1) (v := .int (nI g2)) (ty := tyX1 5) (C := RX1) (T := TX1) (N := 6) hx hb hts in_X1_copyFrom_X1 tyX1 tyX1_ok nmX1 hown hK hP hD hS 0 rfl rfl 5 (by decide) (hts _ fl_X1_copyFrom_32) (fun _ h9 => h9) rfl (by decide +kernel) rfl rfl (Nat.le_of_ble_eq_true rfl) dX1_copyFrom_57 (fun H locs hP hD hS => ?_)
  have hP : va_P D vwCl [(a0, .inr (1, [.ref a1, .ref a2, .ref a3, .ref a4, .int (nI n2), .int (nI g2)])), (a1, .inl (cI, 16, .inl (ro 16 nu2))), (a2, .inl (cI, 16, .inl (ro 16 ti2))), (a3, .inl (cI, 16, .inl (ro 16 je2))), (a4, .inl (cI, 16, .inl (ro 16 ac2))), (b0, .inr (1, [.ref b1, .ref b2, .ref b3, .ref b4, .int (nI n2), .int (nI g2)])), (b1, .inl (cI, 16, .inl (ro 16 nu2))), (b2, .inl (cI, 16, .inl (ro 16 ti2))), (b3, .inl (cI, 16, .inl (ro 16 je2))), (b4, .inl (cI, 16, .inl (ro 16 ac2)))] H := hP
  have hD : va_D A9 [(a0, .inr (1, [.ref a1, .ref a2, .ref a3, .ref a4, .int (nI n2), .int (nI g2)])), (a1, .inl (cI, 16, .inl (ro 16 nu2))), (a2, .inl (cI, 16, .inl (ro 16 ti2))), (a3, .inl (cI, 16, .inl (ro 16 je2))), (a4, .inl (cI, 16, .inl (ro 16 ac2))), (b0, .inr (1, [.ref b1, .ref b2, .ref b3, .ref b4, .int (nI n2), .int (nI g2)])), (b1, .inl (cI, 16, .inl (ro 16 nu2))), (b2, .inl (cI, 16, .inl (ro 16 ti2))), (b3, .inl (cI, 16, .inl (ro 16 je2))), (b4, .inl (cI, 16, .inl (ro 16 ac2)))] := hD
  exact hret _ _ _ _ none () 60 ls (by decide) (by decide) (by rfl) hP hD hS (ret_v dX1_copyFrom_60)

theorem in_X1_isFull_X1 : ∀ w ∈ wsX10, w ∈ wsX1_isFull := by decide +kernel
theorem fl_X1_isFull_28 : Cond.fieldLink RX1 28 "FountainCues$Cues" "size" "I" ∈ wsX1_isFull := by decide +kernel
set_option maxHeartbeats 4000000 in
set_option maxRecDepth 100000 in
theorem k_X1_isFull (l : Launch) (D : va_G) (cI cS cL : ClassId) (a0 : Nat) (a1 : Nat) (a2 : Nat) (a3 : Nat) (a4 : Nat) (nu : Nat → Nat) (ti : Nat → Nat) (je : Nat → Nat) (ac : Nat → Nat) (n : Nat) (g : Nat) (hn : n ≤ 16) : KM l D (TY cI cS cL) yX1_isFull wsX1_isFull ({ frames := 0, cells := 0, slots := 0, locals := 0 } : Room) [(a0, .inr (1, [.ref a1, .ref a2, .ref a3, .ref a4, .int (nI n), .int (nI g)])), (a1, .inl (cI, 16, .inl (ro 16 nu))), (a2, .inl (cI, 16, .inl (ro 16 ti))), (a3, .inl (cI, 16, .inl (ro 16 je))), (a4, .inl (cI, 16, .inl (ro 16 ac)))] [.ref a0] (fun (v : Option Value) (_ : Unit) => v = some (.int (nI (bI (16 ≤ n))))) (fun _ : Unit => [(a0, .inr (1, [.ref a1, .ref a2, .ref a3, .ref a4, .int (nI n), .int (nI g)])), (a1, .inl (cI, 16, .inl (ro 16 nu))), (a2, .inl (cI, 16, .inl (ro 16 ti))), (a3, .inl (cI, 16, .inl (ro 16 je))), (a4, .inl (cI, 16, .inl (ro 16 ac)))]) := by
  refine KM.of (cc := cX1_isFull) (maxL := 1) (ret := (some .boolean)) (by decide) rfl (Nat.le_of_ble_eq_true rfl) ?_
  intro p9 e9 s9 m9 ar9 be9 me9 c9 Q9 A9 ls C0 hN hnm hlk hK hA hret hP hD hS hl
  obtain ⟨hx, hb, hml, hown, hts⟩ := id C0
  have hl : lv_has ls 1 [(0, .ref a0)] := hl
  obtain ⟨H, hH0⟩ : ∃ H, H = s9.heap := ⟨_, rfl⟩
  obtain ⟨locs, hlc0⟩ : ∃ z : List Loc, z = [] := ⟨_, rfl⟩
  have hP : va_P D vwCl [(a0, .inr (1, [.ref a1, .ref a2, .ref a3, .ref a4, .int (nI n), .int (nI g)])), (a1, .inl (cI, 16, .inl (ro 16 nu))), (a2, .inl (cI, 16, .inl (ro 16 ti))), (a3, .inl (cI, 16, .inl (ro 16 je))), (a4, .inl (cI, 16, .inl (ro 16 ac)))] H := by rw [hH0]; exact hP
  have hD : va_D A9 [(a0, .inr (1, [.ref a1, .ref a2, .ref a3, .ref a4, .int (nI n), .int (nI g)])), (a1, .inl (cI, 16, .inl (ro 16 nu))), (a2, .inl (cI, 16, .inl (ro 16 ti))), (a3, .inl (cI, 16, .inl (ro 16 je))), (a4, .inl (cI, 16, .inl (ro 16 ac)))] := hD
  have hS : va_S A9 s9.heap H locs := by rw [hH0, hlc0]; exact hS
  suffices hgo : W p9 l e9 ({ frames := 0, cells := 0, slots := 0, locals := 0 } : Room) s9 m9 ar9 be9 me9 c9 H locs 0 0 Q9 (F0 m9 0 ls []) by rw [hH0, hlc0] at hgo; exact hgo
  clear hH0 hlc0
  refine lv_aload_n hx hb dX1_isFull_0 rfl (lv_at hl 0 rfl) ?_
  refine va_get (D := D) (ci := 1) (v := .int (nI n)) (C := RX1) (T := TX1) (N := 6) hx hb hts in_X1_isFull_X1 hown hK hP 0 rfl rfl 4 (by decide) (hts _ fl_X1_isFull_28) (fun _ h9 => h9) rfl dX1_isFull_1 ?_
  refine lv_bipush (v := nI 16) hx hb dX1_isFull_4 (by decide +kernel) ?_
  refine q_ilt (tgt := 13) (by omega) (by omega) hx hb dX1_isFull_6 (by decide) (fun c_6 => ?_) (fun c_6 => ?_)
  ·
    refine lv_iconst (v := nI 0) hx hb dX1_isFull_13 (by decide +kernel) ?_
    exact hret _ _ _ _ (some (.int (nI 0))) () 14 ls (by decide) (by decide) (by exact rv (by unfold bI; split <;> omega)) hP hD hS (ret_z dX1_isFull_14 (by first | exact bI_le | omega))
  ·
    refine lv_iconst (v := nI 1) hx hb dX1_isFull_9 (by decide +kernel) ?_
    refine lv_goto (tgt := 14) hx hb dX1_isFull_10 (by decide) ?_
    exact hret _ _ _ _ (some (.int (nI 1))) () 14 ls (by decide) (by decide) (by exact rv (by unfold bI; split <;> omega)) hP hD hS (ret_z dX1_isFull_14 (by first | exact bI_le | omega))

theorem in_X1_move_X1 : ∀ w ∈ wsX10, w ∈ wsX1_move := by decide +kernel
theorem fl_X1_move_9 : Cond.fieldLink RX1 9 "FountainCues$Cues" "numbers" "[I" ∈ wsX1_move := by decide +kernel
theorem fl_X1_move_15 : Cond.fieldLink RX1 15 "FountainCues$Cues" "ticks" "[I" ∈ wsX1_move := by decide +kernel
theorem fl_X1_move_18 : Cond.fieldLink RX1 18 "FountainCues$Cues" "jets" "[I" ∈ wsX1_move := by decide +kernel
theorem fl_X1_move_21 : Cond.fieldLink RX1 21 "FountainCues$Cues" "aims" "[I" ∈ wsX1_move := by decide +kernel
set_option maxHeartbeats 4000000 in
set_option maxRecDepth 100000 in
theorem k_X1_move (l : Launch) (D : va_G) (cI cS cL : ClassId) (a0 : Nat) (a1 : Nat) (a2 : Nat) (a3 : Nat) (a4 : Nat) (nu : Nat → Nat) (ti : Nat → Nat) (je : Nat → Nat) (ac : Nat → Nat) (n : Nat) (g : Nat) (x : Nat) (y : Nat) (hx2 : x < 16) (hy2 : y < 16) : KM l D (TY cI cS cL) yX1_move wsX1_move ({ frames := 0, cells := 0, slots := 0, locals := 0 } : Room) [(a0, .inr (1, [.ref a1, .ref a2, .ref a3, .ref a4, .int (nI n), .int (nI g)])), (a1, .inl (cI, 16, .inl (ro 16 nu))), (a2, .inl (cI, 16, .inl (ro 16 ti))), (a3, .inl (cI, 16, .inl (ro 16 je))), (a4, .inl (cI, 16, .inl (ro 16 ac)))] [.ref a0, .int (nI x), .int (nI y)] (fun (v : Option Value) (_ : Unit) => v = none) (fun _ : Unit => [(a0, .inr (1, [.ref a1, .ref a2, .ref a3, .ref a4, .int (nI n), .int (nI g)])), (a1, .inl (cI, 16, .inl (ro 16 (upN nu y (nu x))))), (a2, .inl (cI, 16, .inl (ro 16 (upN ti y (ti x))))), (a3, .inl (cI, 16, .inl (ro 16 (upN je y (je x))))), (a4, .inl (cI, 16, .inl (ro 16 (upN ac y (ac x)))))]) := by
  refine KM.of (cc := cX1_move) (maxL := 3) (ret := none) (by decide) rfl (Nat.le_of_ble_eq_true rfl) ?_
  intro p9 e9 s9 m9 ar9 be9 me9 c9 Q9 A9 ls C0 hN hnm hlk hK hA hret hP hD hS hl
  obtain ⟨hx, hb, hml, hown, hts⟩ := id C0
  have hl : lv_has ls 3 [(0, .ref a0), (1, .int (nI x)), (2, .int (nI y))] := hl
  obtain ⟨H, hH0⟩ : ∃ H, H = s9.heap := ⟨_, rfl⟩
  obtain ⟨locs, hlc0⟩ : ∃ z : List Loc, z = [] := ⟨_, rfl⟩
  have hP : va_P D vwCl [(a0, .inr (1, [.ref a1, .ref a2, .ref a3, .ref a4, .int (nI n), .int (nI g)])), (a1, .inl (cI, 16, .inl (ro 16 nu))), (a2, .inl (cI, 16, .inl (ro 16 ti))), (a3, .inl (cI, 16, .inl (ro 16 je))), (a4, .inl (cI, 16, .inl (ro 16 ac)))] H := by rw [hH0]; exact hP
  have hD : va_D A9 [(a0, .inr (1, [.ref a1, .ref a2, .ref a3, .ref a4, .int (nI n), .int (nI g)])), (a1, .inl (cI, 16, .inl (ro 16 nu))), (a2, .inl (cI, 16, .inl (ro 16 ti))), (a3, .inl (cI, 16, .inl (ro 16 je))), (a4, .inl (cI, 16, .inl (ro 16 ac)))] := hD
  have hS : va_S A9 s9.heap H locs := by rw [hH0, hlc0]; exact hS
  suffices hgo : W p9 l e9 ({ frames := 0, cells := 0, slots := 0, locals := 0 } : Room) s9 m9 ar9 be9 me9 c9 H locs 0 0 Q9 (F0 m9 0 ls []) by rw [hH0, hlc0] at hgo; exact hgo
  clear hH0 hlc0
  refine lv_aload_n hx hb dX1_move_0 rfl (lv_at hl 0 rfl) ?_
  refine va_get (D := D) (ci := 1) (v := .ref a1) (C := RX1) (T := TX1) (N := 6) hx hb hts in_X1_move_X1 hown hK hP 0 rfl rfl 0 (by decide) (hts _ fl_X1_move_9) (fun _ h9 => h9) rfl dX1_move_1 ?_
  refine lv_iload_n hx hb dX1_move_4 rfl (lv_at hl 2 rfl) ?_
  refine lv_aload_n hx hb dX1_move_5 rfl (lv_at hl 0 rfl) ?_
  refine va_get (D := D) (ci := 1) (v := .ref a1) (C := RX1) (T := TX1) (N := 6) hx hb hts in_X1_move_X1 hown hK hP 0 rfl rfl 0 (by decide) (hts _ fl_X1_move_9) (fun _ h9 => h9) rfl dX1_move_6 ?_
  refine lv_iload_n hx hb dX1_move_9 rfl (lv_at hl 1 rfl) ?_
  refine q_iald 1 0 (by omega) (by omega) hx hb hK hP rfl rfl dX1_move_10 ?_
  refine q_iast 1 0 (by omega) (by omega) hx hb hK hP hD hS rfl rfl dX1_move_11 (fun H locs hP hD hS => ?_)
  have hP : va_P D vwCl [(a0, .inr (1, [.ref a1, .ref a2, .ref a3, .ref a4, .int (nI n), .int (nI g)])), (a1, .inl (cI, 16, .inl (ro 16 (upN nu y (nu x))))), (a2, .inl (cI, 16, .inl (ro 16 ti))), (a3, .inl (cI, 16, .inl (ro 16 je))), (a4, .inl (cI, 16, .inl (ro 16 ac)))] H := hP
  have hD : va_D A9 [(a0, .inr (1, [.ref a1, .ref a2, .ref a3, .ref a4, .int (nI n), .int (nI g)])), (a1, .inl (cI, 16, .inl (ro 16 (upN nu y (nu x))))), (a2, .inl (cI, 16, .inl (ro 16 ti))), (a3, .inl (cI, 16, .inl (ro 16 je))), (a4, .inl (cI, 16, .inl (ro 16 ac)))] := hD
  refine lv_aload_n hx hb dX1_move_12 rfl (lv_at hl 0 rfl) ?_
  refine va_get (D := D) (ci := 1) (v := .ref a2) (C := RX1) (T := TX1) (N := 6) hx hb hts in_X1_move_X1 hown hK hP 0 rfl rfl 1 (by decide) (hts _ fl_X1_move_15) (fun _ h9 => h9) rfl dX1_move_13 ?_
  refine lv_iload_n hx hb dX1_move_16 rfl (lv_at hl 2 rfl) ?_
  refine lv_aload_n hx hb dX1_move_17 rfl (lv_at hl 0 rfl) ?_
  refine va_get (D := D) (ci := 1) (v := .ref a2) (C := RX1) (T := TX1) (N := 6) hx hb hts in_X1_move_X1 hown hK hP 0 rfl rfl 1 (by decide) (hts _ fl_X1_move_15) (fun _ h9 => h9) rfl dX1_move_18 ?_
  refine lv_iload_n hx hb dX1_move_21 rfl (lv_at hl 1 rfl) ?_
  refine q_iald 2 0 (by omega) (by omega) hx hb hK hP rfl rfl dX1_move_22 ?_
  refine q_iast 2 0 (by omega) (by omega) hx hb hK hP hD hS rfl rfl dX1_move_23 (fun H locs hP hD hS => ?_)
  have hP : va_P D vwCl [(a0, .inr (1, [.ref a1, .ref a2, .ref a3, .ref a4, .int (nI n), .int (nI g)])), (a1, .inl (cI, 16, .inl (ro 16 (upN nu y (nu x))))), (a2, .inl (cI, 16, .inl (ro 16 (upN ti y (ti x))))), (a3, .inl (cI, 16, .inl (ro 16 je))), (a4, .inl (cI, 16, .inl (ro 16 ac)))] H := hP
  have hD : va_D A9 [(a0, .inr (1, [.ref a1, .ref a2, .ref a3, .ref a4, .int (nI n), .int (nI g)])), (a1, .inl (cI, 16, .inl (ro 16 (upN nu y (nu x))))), (a2, .inl (cI, 16, .inl (ro 16 (upN ti y (ti x))))), (a3, .inl (cI, 16, .inl (ro 16 je))), (a4, .inl (cI, 16, .inl (ro 16 ac)))] := hD
  refine lv_aload_n hx hb dX1_move_24 rfl (lv_at hl 0 rfl) ?_
  refine va_get (D := D) (ci := 1) (v := .ref a3) (C := RX1) (T := TX1) (N := 6) hx hb hts in_X1_move_X1 hown hK hP 0 rfl rfl 2 (by decide) (hts _ fl_X1_move_18) (fun _ h9 => h9) rfl dX1_move_25 ?_
  refine lv_iload_n hx hb dX1_move_28 rfl (lv_at hl 2 rfl) ?_
  refine lv_aload_n hx hb dX1_move_29 rfl (lv_at hl 0 rfl) ?_
  refine va_get (D := D) (ci := 1) (v := .ref a3) (C := RX1) (T := TX1) (N := 6) hx hb hts in_X1_move_X1 hown hK hP 0 rfl rfl 2 (by decide) (hts _ fl_X1_move_18) (fun _ h9 => h9) rfl dX1_move_30 ?_
  refine lv_iload_n hx hb dX1_move_33 rfl (lv_at hl 1 rfl) ?_
  refine q_iald 3 0 (by omega) (by omega) hx hb hK hP rfl rfl dX1_move_34 ?_
  refine q_iast 3 0 (by omega) (by omega) hx hb hK hP hD hS rfl rfl dX1_move_35 (fun H locs hP hD hS => ?_)
  have hP : va_P D vwCl [(a0, .inr (1, [.ref a1, .ref a2, .ref a3, .ref a4, .int (nI n), .int (nI g)])), (a1, .inl (cI, 16, .inl (ro 16 (upN nu y (nu x))))), (a2, .inl (cI, 16, .inl (ro 16 (upN ti y (ti x))))), (a3, .inl (cI, 16, .inl (ro 16 (upN je y (je x))))), (a4, .inl (cI, 16, .inl (ro 16 ac)))] H := hP
  have hD : va_D A9 [(a0, .inr (1, [.ref a1, .ref a2, .ref a3, .ref a4, .int (nI n), .int (nI g)])), (a1, .inl (cI, 16, .inl (ro 16 (upN nu y (nu x))))), (a2, .inl (cI, 16, .inl (ro 16 (upN ti y (ti x))))), (a3, .inl (cI, 16, .inl (ro 16 (upN je y (je x))))), (a4, .inl (cI, 16, .inl (ro 16 ac)))] := hD
  refine lv_aload_n hx hb dX1_move_36 rfl (lv_at hl 0 rfl) ?_
  refine va_get (D := D) (ci := 1) (v := .ref a4) (C := RX1) (T := TX1) (N := 6) hx hb hts in_X1_move_X1 hown hK hP 0 rfl rfl 3 (by decide) (hts _ fl_X1_move_21) (fun _ h9 => h9) rfl dX1_move_37 ?_
  refine lv_iload_n hx hb dX1_move_40 rfl (lv_at hl 2 rfl) ?_
  refine lv_aload_n hx hb dX1_move_41 rfl (lv_at hl 0 rfl) ?_
  refine va_get (D := D) (ci := 1) (v := .ref a4) (C := RX1) (T := TX1) (N := 6) hx hb hts in_X1_move_X1 hown hK hP 0 rfl rfl 3 (by decide) (hts _ fl_X1_move_21) (fun _ h9 => h9) rfl dX1_move_42 ?_
  refine lv_iload_n hx hb dX1_move_45 rfl (lv_at hl 1 rfl) ?_
  refine q_iald 4 0 (by omega) (by omega) hx hb hK hP rfl rfl dX1_move_46 ?_
  refine q_iast 4 0 (by omega) (by omega) hx hb hK hP hD hS rfl rfl dX1_move_47 (fun H locs hP hD hS => ?_)
  have hP : va_P D vwCl [(a0, .inr (1, [.ref a1, .ref a2, .ref a3, .ref a4, .int (nI n), .int (nI g)])), (a1, .inl (cI, 16, .inl (ro 16 (upN nu y (nu x))))), (a2, .inl (cI, 16, .inl (ro 16 (upN ti y (ti x))))), (a3, .inl (cI, 16, .inl (ro 16 (upN je y (je x))))), (a4, .inl (cI, 16, .inl (ro 16 (upN ac y (ac x)))))] H := hP
  have hD : va_D A9 [(a0, .inr (1, [.ref a1, .ref a2, .ref a3, .ref a4, .int (nI n), .int (nI g)])), (a1, .inl (cI, 16, .inl (ro 16 (upN nu y (nu x))))), (a2, .inl (cI, 16, .inl (ro 16 (upN ti y (ti x))))), (a3, .inl (cI, 16, .inl (ro 16 (upN je y (je x))))), (a4, .inl (cI, 16, .inl (ro 16 (upN ac y (ac x)))))] := hD
  exact hret _ _ _ _ none () 48 ls (by decide) (by decide) (by rfl) hP hD hS (ret_v dX1_move_48)

theorem in_X1_placeOf_X1 : ∀ w ∈ wsX10, w ∈ wsX1_placeOf := by decide +kernel
theorem fl_X1_placeOf_28 : Cond.fieldLink RX1 28 "FountainCues$Cues" "size" "I" ∈ wsX1_placeOf := by decide +kernel
theorem fl_X1_placeOf_9 : Cond.fieldLink RX1 9 "FountainCues$Cues" "numbers" "[I" ∈ wsX1_placeOf := by decide +kernel
set_option maxHeartbeats 4000000 in
set_option maxRecDepth 100000 in
theorem k_X1_placeOf (l : Launch) (D : va_G) (cI cS cL : ClassId) (a0 : Nat) (a1 : Nat) (a2 : Nat) (a3 : Nat) (a4 : Nat) (nu : Nat → Nat) (ti : Nat → Nat) (je : Nat → Nat) (ac : Nat → Nat) (n : Nat) (g : Nat) (x : Int32) (hn : n ≤ 16) : KM l D (TY cI cS cL) yX1_placeOf wsX1_placeOf ({ frames := 0, cells := 0, slots := 0, locals := 0 } : Room) [(a0, .inr (1, [.ref a1, .ref a2, .ref a3, .ref a4, .int (nI n), .int (nI g)])), (a1, .inl (cI, 16, .inl (ro 16 nu))), (a2, .inl (cI, 16, .inl (ro 16 ti))), (a3, .inl (cI, 16, .inl (ro 16 je))), (a4, .inl (cI, 16, .inl (ro 16 ac)))] [.ref a0, .int x] (fun (v : Option Value) (r : Nat) => (r ≤ n) ∧ (∀ q, q < r → nI (nu q) ≠ x) ∧ (r < n → nI (nu r) = x) ∧ v = some (.int (if r < n then nI r else -1))) (fun (r : Nat) => [(a0, .inr (1, [.ref a1, .ref a2, .ref a3, .ref a4, .int (nI n), .int (nI g)])), (a1, .inl (cI, 16, .inl (ro 16 nu))), (a2, .inl (cI, 16, .inl (ro 16 ti))), (a3, .inl (cI, 16, .inl (ro 16 je))), (a4, .inl (cI, 16, .inl (ro 16 ac)))]) := by
  refine KM.of (cc := cX1_placeOf) (maxL := 3) (ret := (some .int)) (by decide) rfl (Nat.le_of_ble_eq_true rfl) ?_
  intro p9 e9 s9 m9 ar9 be9 me9 c9 Q9 A9 ls C0 hN hnm hlk hK hA hret hP hD hS hl
  obtain ⟨hx, hb, hml, hown, hts⟩ := id C0
  have hl : lv_has ls 3 [(0, .ref a0), (1, .int x)] := hl
  obtain ⟨H, hH0⟩ : ∃ H, H = s9.heap := ⟨_, rfl⟩
  obtain ⟨locs, hlc0⟩ : ∃ z : List Loc, z = [] := ⟨_, rfl⟩
  have hP : va_P D vwCl [(a0, .inr (1, [.ref a1, .ref a2, .ref a3, .ref a4, .int (nI n), .int (nI g)])), (a1, .inl (cI, 16, .inl (ro 16 nu))), (a2, .inl (cI, 16, .inl (ro 16 ti))), (a3, .inl (cI, 16, .inl (ro 16 je))), (a4, .inl (cI, 16, .inl (ro 16 ac)))] H := by rw [hH0]; exact hP
  have hD : va_D A9 [(a0, .inr (1, [.ref a1, .ref a2, .ref a3, .ref a4, .int (nI n), .int (nI g)])), (a1, .inl (cI, 16, .inl (ro 16 nu))), (a2, .inl (cI, 16, .inl (ro 16 ti))), (a3, .inl (cI, 16, .inl (ro 16 je))), (a4, .inl (cI, 16, .inl (ro 16 ac)))] := hD
  have hS : va_S A9 s9.heap H locs := by rw [hH0, hlc0]; exact hS
  suffices hgo : W p9 l e9 ({ frames := 0, cells := 0, slots := 0, locals := 0 } : Room) s9 m9 ar9 be9 me9 c9 H locs 0 0 Q9 (F0 m9 0 ls []) by rw [hH0, hlc0] at hgo; exact hgo
  clear hH0 hlc0
  refine lv_iconst (v := nI 0) hx hb dX1_placeOf_0 (by decide +kernel) ?_
  refine lv_istore_n (lv' := [(2, .int (nI 0)), (0, .ref a0), (1, .int x)]) hx hb dX1_placeOf_1 rfl hl (by decide) rfl (fun ls hl => ?_)
  have L2 : ∀ (fuel : Nat) (i : Nat) (H : Heap) (locs : List Loc) (ls : Array Slot), (i ≤ n) → (∀ q, q < i → nI (nu q) ≠ x) → (n - i < fuel) → va_P D vwCl [(a0, .inr (1, [.ref a1, .ref a2, .ref a3, .ref a4, .int (nI n), .int (nI g)])), (a1, .inl (cI, 16, .inl (ro 16 nu))), (a2, .inl (cI, 16, .inl (ro 16 ti))), (a3, .inl (cI, 16, .inl (ro 16 je))), (a4, .inl (cI, 16, .inl (ro 16 ac)))] H → va_D A9 [(a0, .inr (1, [.ref a1, .ref a2, .ref a3, .ref a4, .int (nI n), .int (nI g)])), (a1, .inl (cI, 16, .inl (ro 16 nu))), (a2, .inl (cI, 16, .inl (ro 16 ti))), (a3, .inl (cI, 16, .inl (ro 16 je))), (a4, .inl (cI, 16, .inl (ro 16 ac)))] → va_S A9 s9.heap H locs → lv_has ls 3 [(0, .ref a0), (1, .int x), (2, .int (nI i))] → W p9 l e9 ({ frames := 0, cells := 0, slots := 0, locals := 0 } : Room) s9 m9 ar9 be9 me9 c9 H locs 0 0 Q9 (F0 m9 2 ls []) := by
    intro fuel
    induction fuel with
    | zero => intro i H locs ls hi hok hfu; exact absurd hfu (Nat.not_lt_zero _)
    | succ fuel ih2 =>
      intro i H locs ls hi hok hfu hP hD hS hl
      refine lv_iload_n hx hb dX1_placeOf_2 rfl (lv_at hl 2 rfl) ?_
      refine lv_aload_n hx hb dX1_placeOf_3 rfl (lv_at hl 0 rfl) ?_
      refine va_get (D := D) (ci := 1) (v := .int (nI n)) (C := RX1) (T := TX1) (N := 6) hx hb hts in_X1_placeOf_X1 hown hK hP 0 rfl rfl 4 (by decide) (hts _ fl_X1_placeOf_28) (fun _ h9 => h9) rfl dX1_placeOf_4 ?_
      refine q_ige (tgt := 28) (by omega) (by omega) hx hb dX1_placeOf_7 (by decide) (fun c_7 => ?_) (fun c_7 => ?_)
      ·
        refine lv_iconst (v := (-1)) hx hb dX1_placeOf_28 (by decide +kernel) ?_
        exact hret _ _ _ _ (some (.int (-1))) n 29 ls (by decide) (by decide) (by exact ⟨by omega, by rw [show n = i by omega]; exact hok, fun z => by omega, rvi (if_neg (by omega)).symm⟩) hP hD hS (ret_i dX1_placeOf_29)
      ·
        refine lv_aload_n hx hb dX1_placeOf_10 rfl (lv_at hl 0 rfl) ?_
        refine va_get (D := D) (ci := 1) (v := .ref a1) (C := RX1) (T := TX1) (N := 6) hx hb hts in_X1_placeOf_X1 hown hK hP 0 rfl rfl 0 (by decide) (hts _ fl_X1_placeOf_9) (fun _ h9 => h9) rfl dX1_placeOf_11 ?_
        refine lv_iload_n hx hb dX1_placeOf_14 rfl (lv_at hl 2 rfl) ?_
        refine q_iald 1 0 (by omega) (by omega) hx hb hK hP rfl rfl dX1_placeOf_15 ?_
        refine lv_iload_n hx hb dX1_placeOf_16 rfl (lv_at hl 1 rfl) ?_
        refine lv_icmp_ne (tgt := 22) hx hb dX1_placeOf_17 (by decide) (fun c_17 => ?_) (fun c_17 => ?_)
        ·
          refine lv_iinc (v := (nI (i + 1))) (lv' := [(2, .int (nI (i + 1))), (0, .ref a0), (1, .int x)]) hx hb dX1_placeOf_22 hl (k := 2) rfl (nI_add i 1) (by decide) rfl (fun ls hl => ?_)
          refine lv_goto (tgt := 2) hx hb dX1_placeOf_25 (by decide) ?_
          exact ih2  (i + 1) _ _ ls (by first | with_reducible assumption | omega) (by intro j hj; rcases Nat.lt_or_ge j i with h9 | h9; exact hok j h9; (rw [show j = i by omega]; exact c_17)) (by omega) hP hD hS (lv_sub hl [1, 2, 0] rfl)
        ·
          refine lv_iload_n hx hb dX1_placeOf_20 rfl (lv_at hl 2 rfl) ?_
          exact hret _ _ _ _ (some (.int (nI i))) i 21 ls (by decide) (by decide) (by exact ⟨by omega, hok, fun _ => c_17, rvi (if_pos (by omega)).symm⟩) hP hD hS (ret_i dX1_placeOf_21)
  exact L2 (n - 0 + 1) 0 _ _ ls (by first | with_reducible assumption | omega) (by intro j hj; omega) (by omega) hP hD hS (lv_sub hl [1, 2, 0] rfl)

theorem in_X1_hasAt_X1 : ∀ w ∈ wsX10, w ∈ wsX1_hasAt := by decide +kernel
theorem fl_X1_hasAt_28 : Cond.fieldLink RX1 28 "FountainCues$Cues" "size" "I" ∈ wsX1_hasAt := by decide +kernel
theorem fl_X1_hasAt_15 : Cond.fieldLink RX1 15 "FountainCues$Cues" "ticks" "[I" ∈ wsX1_hasAt := by decide +kernel
theorem fl_X1_hasAt_18 : Cond.fieldLink RX1 18 "FountainCues$Cues" "jets" "[I" ∈ wsX1_hasAt := by decide +kernel
set_option maxHeartbeats 4000000 in
set_option maxRecDepth 100000 in
theorem k_X1_hasAt (l : Launch) (D : va_G) (cI cS cL : ClassId) (a0 : Nat) (a1 : Nat) (a2 : Nat) (a3 : Nat) (a4 : Nat) (nu : Nat → Nat) (ti : Nat → Nat) (je : Nat → Nat) (ac : Nat → Nat) (n : Nat) (g : Nat) (t : Nat) (j : Nat) (hn : n ≤ 16) (ht : t < 2 ^ 31) (hj : j < 2 ^ 31) (hti : ∀ c, c < n → ti c < 2 ^ 31) (hje : ∀ c, c < n → je c < 2 ^ 31) : KM l D (TY cI cS cL) yX1_hasAt wsX1_hasAt ({ frames := 0, cells := 0, slots := 0, locals := 0 } : Room) [(a0, .inr (1, [.ref a1, .ref a2, .ref a3, .ref a4, .int (nI n), .int (nI g)])), (a1, .inl (cI, 16, .inl (ro 16 nu))), (a2, .inl (cI, 16, .inl (ro 16 ti))), (a3, .inl (cI, 16, .inl (ro 16 je))), (a4, .inl (cI, 16, .inl (ro 16 ac)))] [.ref a0, .int (nI t), .int (nI j)] (fun (v : Option Value) (_ : Unit) => v = some (.int (nI (bI (hasB ti je t j n = true))))) (fun _ : Unit => [(a0, .inr (1, [.ref a1, .ref a2, .ref a3, .ref a4, .int (nI n), .int (nI g)])), (a1, .inl (cI, 16, .inl (ro 16 nu))), (a2, .inl (cI, 16, .inl (ro 16 ti))), (a3, .inl (cI, 16, .inl (ro 16 je))), (a4, .inl (cI, 16, .inl (ro 16 ac)))]) := by
  refine KM.of (cc := cX1_hasAt) (maxL := 4) (ret := (some .boolean)) (by decide) rfl (Nat.le_of_ble_eq_true rfl) ?_
  intro p9 e9 s9 m9 ar9 be9 me9 c9 Q9 A9 ls C0 hN hnm hlk hK hA hret hP hD hS hl
  obtain ⟨hx, hb, hml, hown, hts⟩ := id C0
  have hl : lv_has ls 4 [(0, .ref a0), (1, .int (nI t)), (2, .int (nI j))] := hl
  obtain ⟨H, hH0⟩ : ∃ H, H = s9.heap := ⟨_, rfl⟩
  obtain ⟨locs, hlc0⟩ : ∃ z : List Loc, z = [] := ⟨_, rfl⟩
  have hP : va_P D vwCl [(a0, .inr (1, [.ref a1, .ref a2, .ref a3, .ref a4, .int (nI n), .int (nI g)])), (a1, .inl (cI, 16, .inl (ro 16 nu))), (a2, .inl (cI, 16, .inl (ro 16 ti))), (a3, .inl (cI, 16, .inl (ro 16 je))), (a4, .inl (cI, 16, .inl (ro 16 ac)))] H := by rw [hH0]; exact hP
  have hD : va_D A9 [(a0, .inr (1, [.ref a1, .ref a2, .ref a3, .ref a4, .int (nI n), .int (nI g)])), (a1, .inl (cI, 16, .inl (ro 16 nu))), (a2, .inl (cI, 16, .inl (ro 16 ti))), (a3, .inl (cI, 16, .inl (ro 16 je))), (a4, .inl (cI, 16, .inl (ro 16 ac)))] := hD
  have hS : va_S A9 s9.heap H locs := by rw [hH0, hlc0]; exact hS
  suffices hgo : W p9 l e9 ({ frames := 0, cells := 0, slots := 0, locals := 0 } : Room) s9 m9 ar9 be9 me9 c9 H locs 0 0 Q9 (F0 m9 0 ls []) by rw [hH0, hlc0] at hgo; exact hgo
  clear hH0 hlc0
  refine lv_iconst (v := nI 0) hx hb dX1_hasAt_0 (by decide +kernel) ?_
  refine lv_istore_n (lv' := [(3, .int (nI 0)), (0, .ref a0), (1, .int (nI t)), (2, .int (nI j))]) hx hb dX1_hasAt_1 rfl hl (by decide) rfl (fun ls hl => ?_)
  have L2 : ∀ (fuel : Nat) (i : Nat) (H : Heap) (locs : List Loc) (ls : Array Slot), (i ≤ n) → (hasB ti je t j i = false) → (n - i < fuel) → va_P D vwCl [(a0, .inr (1, [.ref a1, .ref a2, .ref a3, .ref a4, .int (nI n), .int (nI g)])), (a1, .inl (cI, 16, .inl (ro 16 nu))), (a2, .inl (cI, 16, .inl (ro 16 ti))), (a3, .inl (cI, 16, .inl (ro 16 je))), (a4, .inl (cI, 16, .inl (ro 16 ac)))] H → va_D A9 [(a0, .inr (1, [.ref a1, .ref a2, .ref a3, .ref a4, .int (nI n), .int (nI g)])), (a1, .inl (cI, 16, .inl (ro 16 nu))), (a2, .inl (cI, 16, .inl (ro 16 ti))), (a3, .inl (cI, 16, .inl (ro 16 je))), (a4, .inl (cI, 16, .inl (ro 16 ac)))] → va_S A9 s9.heap H locs → lv_has ls 4 [(0, .ref a0), (1, .int (nI t)), (2, .int (nI j)), (3, .int (nI i))] → W p9 l e9 ({ frames := 0, cells := 0, slots := 0, locals := 0 } : Room) s9 m9 ar9 be9 me9 c9 H locs 0 0 Q9 (F0 m9 2 ls []) := by
    intro fuel
    induction fuel with
    | zero => intro i H locs ls hi hok hfu; exact absurd hfu (Nat.not_lt_zero _)
    | succ fuel ih2 =>
      intro i H locs ls hi hok hfu hP hD hS hl
      refine lv_iload_n hx hb dX1_hasAt_2 rfl (lv_at hl 3 rfl) ?_
      refine lv_aload_n hx hb dX1_hasAt_3 rfl (lv_at hl 0 rfl) ?_
      refine va_get (D := D) (ci := 1) (v := .int (nI n)) (C := RX1) (T := TX1) (N := 6) hx hb hts in_X1_hasAt_X1 hown hK hP 0 rfl rfl 4 (by decide) (hts _ fl_X1_hasAt_28) (fun _ h9 => h9) rfl dX1_hasAt_4 ?_
      refine q_ige (tgt := 38) (by omega) (by omega) hx hb dX1_hasAt_7 (by decide) (fun c_7 => ?_) (fun c_7 => ?_)
      ·
        refine lv_iconst (v := nI 0) hx hb dX1_hasAt_38 (by decide +kernel) ?_
        exact hret _ _ _ _ (some (.int (nI 0))) () 39 ls (by decide) (by decide) (by first | exact rv (bI_t (hasB_yes (by omega) ‹_› ‹_›)).symm | exact rv (bI_f (by rw [show n = i by omega, hok]; decide)).symm) hP hD hS (ret_z dX1_hasAt_39 (by first | exact bI_le | omega))
      ·
        refine lv_aload_n hx hb dX1_hasAt_10 rfl (lv_at hl 0 rfl) ?_
        refine va_get (D := D) (ci := 1) (v := .ref a2) (C := RX1) (T := TX1) (N := 6) hx hb hts in_X1_hasAt_X1 hown hK hP 0 rfl rfl 1 (by decide) (hts _ fl_X1_hasAt_15) (fun _ h9 => h9) rfl dX1_hasAt_11 ?_
        refine lv_iload_n hx hb dX1_hasAt_14 rfl (lv_at hl 3 rfl) ?_
        have h91 := hti i (by omega)
        have h92 := hje i (by omega)
        refine q_iald 2 0 (by omega) (by omega) hx hb hK hP rfl rfl dX1_hasAt_15 ?_
        refine lv_iload_n hx hb dX1_hasAt_16 rfl (lv_at hl 1 rfl) ?_
        refine q_ine (tgt := 32) (by omega) (by omega) hx hb dX1_hasAt_17 (by decide) (fun c_17 => ?_) (fun c_17 => ?_)
        ·
          refine lv_iinc (v := (nI (i + 1))) (lv' := [(3, .int (nI (i + 1))), (0, .ref a0), (1, .int (nI t)), (2, .int (nI j))]) hx hb dX1_hasAt_32 hl (k := 3) rfl (nI_add i 1) (by decide) rfl (fun ls hl => ?_)
          refine lv_goto (tgt := 2) hx hb dX1_hasAt_35 (by decide) ?_
          exact ih2  (i + 1) _ _ ls (by first | with_reducible assumption | omega) (by exact hasB_no hok (by omega)) (by omega) hP hD hS (lv_sub hl [1, 2, 3, 0] rfl)
        ·
          refine lv_aload_n hx hb dX1_hasAt_20 rfl (lv_at hl 0 rfl) ?_
          refine va_get (D := D) (ci := 1) (v := .ref a3) (C := RX1) (T := TX1) (N := 6) hx hb hts in_X1_hasAt_X1 hown hK hP 0 rfl rfl 2 (by decide) (hts _ fl_X1_hasAt_18) (fun _ h9 => h9) rfl dX1_hasAt_21 ?_
          refine lv_iload_n hx hb dX1_hasAt_24 rfl (lv_at hl 3 rfl) ?_
          refine q_iald 3 0 (by omega) (by omega) hx hb hK hP rfl rfl dX1_hasAt_25 ?_
          refine lv_iload_n hx hb dX1_hasAt_26 rfl (lv_at hl 2 rfl) ?_
          refine q_ine (tgt := 32) (by omega) (by omega) hx hb dX1_hasAt_27 (by decide) (fun c_27 => ?_) (fun c_27 => ?_)
          ·
            refine lv_iinc (v := (nI (i + 1))) (lv' := [(3, .int (nI (i + 1))), (0, .ref a0), (1, .int (nI t)), (2, .int (nI j))]) hx hb dX1_hasAt_32 hl (k := 3) rfl (nI_add i 1) (by decide) rfl (fun ls hl => ?_)
            refine lv_goto (tgt := 2) hx hb dX1_hasAt_35 (by decide) ?_
            exact ih2  (i + 1) _ _ ls (by first | with_reducible assumption | omega) (by exact hasB_no hok (by omega)) (by omega) hP hD hS (lv_sub hl [1, 2, 3, 0] rfl)
          ·
            refine lv_iconst (v := nI 1) hx hb dX1_hasAt_30 (by decide +kernel) ?_
            exact hret _ _ _ _ (some (.int (nI 1))) () 31 ls (by decide) (by decide) (by first | exact rv (bI_t (hasB_yes (by omega) ‹_› ‹_›)).symm | exact rv (bI_f (by rw [show n = i by omega, hok]; decide)).symm) hP hD hS (ret_z dX1_hasAt_31 (by first | exact bI_le | omega))
  exact L2 (n - 0 + 1) 0 _ _ ls (by first | with_reducible assumption | omega) (by rfl) (by omega) hP hD hS (lv_sub hl [1, 2, 3, 0] rfl)

theorem in_X1_aimBehind_X1 : ∀ w ∈ wsX10, w ∈ wsX1_aimBehind := by decide +kernel
theorem fl_X1_aimBehind_28 : Cond.fieldLink RX1 28 "FountainCues$Cues" "size" "I" ∈ wsX1_aimBehind := by decide +kernel
theorem fl_X1_aimBehind_15 : Cond.fieldLink RX1 15 "FountainCues$Cues" "ticks" "[I" ∈ wsX1_aimBehind := by decide +kernel
theorem fl_X1_aimBehind_18 : Cond.fieldLink RX1 18 "FountainCues$Cues" "jets" "[I" ∈ wsX1_aimBehind := by decide +kernel
theorem fl_X1_aimBehind_21 : Cond.fieldLink RX1 21 "FountainCues$Cues" "aims" "[I" ∈ wsX1_aimBehind := by decide +kernel
set_option maxHeartbeats 4000000 in
set_option maxRecDepth 100000 in
theorem k_X1_aimBehind (l : Launch) (D : va_G) (cI cS cL : ClassId) (a0 : Nat) (a1 : Nat) (a2 : Nat) (a3 : Nat) (a4 : Nat) (nu : Nat → Nat) (ti : Nat → Nat) (je : Nat → Nat) (ac : Nat → Nat) (n : Nat) (g : Nat) (t : Nat) (j : Nat) (a : Nat) (hn : n ≤ 16) (ht : t < 2 ^ 31) (hj : j < 2 ^ 31) (hti : ∀ c, c < n → ti c < 2 ^ 31) (hje : ∀ c, c < n → je c < 2 ^ 31) (hso : ∀ c d, c < d → d < n → ti c ≤ ti d) : KM l D (TY cI cS cL) yX1_aimBehind wsX1_aimBehind ({ frames := 0, cells := 0, slots := 0, locals := 0 } : Room) [(a0, .inr (1, [.ref a1, .ref a2, .ref a3, .ref a4, .int (nI n), .int (nI g)])), (a1, .inl (cI, 16, .inl (ro 16 nu))), (a2, .inl (cI, 16, .inl (ro 16 ti))), (a3, .inl (cI, 16, .inl (ro 16 je))), (a4, .inl (cI, 16, .inl (ro 16 ac)))] [.ref a0, .int (nI t), .int (nI j), .int (nI a)] (fun (v : Option Value) (_ : Unit) => v = some (.int (nI (aimBy ti je ac t j a n)))) (fun _ : Unit => [(a0, .inr (1, [.ref a1, .ref a2, .ref a3, .ref a4, .int (nI n), .int (nI g)])), (a1, .inl (cI, 16, .inl (ro 16 nu))), (a2, .inl (cI, 16, .inl (ro 16 ti))), (a3, .inl (cI, 16, .inl (ro 16 je))), (a4, .inl (cI, 16, .inl (ro 16 ac)))]) := by
  refine KM.of (cc := cX1_aimBehind) (maxL := 6) (ret := (some .int)) (by decide) rfl (Nat.le_of_ble_eq_true rfl) ?_
  intro p9 e9 s9 m9 ar9 be9 me9 c9 Q9 A9 ls C0 hN hnm hlk hK hA hret hP hD hS hl
  obtain ⟨hx, hb, hml, hown, hts⟩ := id C0
  have hl : lv_has ls 6 [(0, .ref a0), (1, .int (nI t)), (2, .int (nI j)), (3, .int (nI a))] := hl
  obtain ⟨H, hH0⟩ : ∃ H, H = s9.heap := ⟨_, rfl⟩
  obtain ⟨locs, hlc0⟩ : ∃ z : List Loc, z = [] := ⟨_, rfl⟩
  have hP : va_P D vwCl [(a0, .inr (1, [.ref a1, .ref a2, .ref a3, .ref a4, .int (nI n), .int (nI g)])), (a1, .inl (cI, 16, .inl (ro 16 nu))), (a2, .inl (cI, 16, .inl (ro 16 ti))), (a3, .inl (cI, 16, .inl (ro 16 je))), (a4, .inl (cI, 16, .inl (ro 16 ac)))] H := by rw [hH0]; exact hP
  have hD : va_D A9 [(a0, .inr (1, [.ref a1, .ref a2, .ref a3, .ref a4, .int (nI n), .int (nI g)])), (a1, .inl (cI, 16, .inl (ro 16 nu))), (a2, .inl (cI, 16, .inl (ro 16 ti))), (a3, .inl (cI, 16, .inl (ro 16 je))), (a4, .inl (cI, 16, .inl (ro 16 ac)))] := hD
  have hS : va_S A9 s9.heap H locs := by rw [hH0, hlc0]; exact hS
  suffices hgo : W p9 l e9 ({ frames := 0, cells := 0, slots := 0, locals := 0 } : Room) s9 m9 ar9 be9 me9 c9 H locs 0 0 Q9 (F0 m9 0 ls []) by rw [hH0, hlc0] at hgo; exact hgo
  clear hH0 hlc0
  refine lv_iload_n hx hb dX1_aimBehind_0 rfl (lv_at hl 3 rfl) ?_
  refine lv_istore (lv' := [(4, .int (nI a)), (0, .ref a0), (1, .int (nI t)), (2, .int (nI j)), (3, .int (nI a))]) hx hb dX1_aimBehind_1 hl (by decide) rfl (fun ls hl => ?_)
  refine lv_iconst (v := nI 0) hx hb dX1_aimBehind_3 (by decide +kernel) ?_
  refine lv_istore (lv' := [(5, .int (nI 0)), (4, .int (nI a)), (0, .ref a0), (1, .int (nI t)), (2, .int (nI j)), (3, .int (nI a))]) hx hb dX1_aimBehind_4 hl (by decide) rfl (fun ls hl => ?_)
  have L6 : ∀ (fuel : Nat) (i : Nat) (u : Nat) (H : Heap) (locs : List Loc) (ls : Array Slot), (i ≤ n) → (u = aimBy ti je ac t j a i) → (n - i < fuel) → va_P D vwCl [(a0, .inr (1, [.ref a1, .ref a2, .ref a3, .ref a4, .int (nI n), .int (nI g)])), (a1, .inl (cI, 16, .inl (ro 16 nu))), (a2, .inl (cI, 16, .inl (ro 16 ti))), (a3, .inl (cI, 16, .inl (ro 16 je))), (a4, .inl (cI, 16, .inl (ro 16 ac)))] H → va_D A9 [(a0, .inr (1, [.ref a1, .ref a2, .ref a3, .ref a4, .int (nI n), .int (nI g)])), (a1, .inl (cI, 16, .inl (ro 16 nu))), (a2, .inl (cI, 16, .inl (ro 16 ti))), (a3, .inl (cI, 16, .inl (ro 16 je))), (a4, .inl (cI, 16, .inl (ro 16 ac)))] → va_S A9 s9.heap H locs → lv_has ls 6 [(0, .ref a0), (1, .int (nI t)), (2, .int (nI j)), (4, .int (nI u)), (5, .int (nI i))] → W p9 l e9 ({ frames := 0, cells := 0, slots := 0, locals := 0 } : Room) s9 m9 ar9 be9 me9 c9 H locs 0 0 Q9 (F0 m9 6 ls []) := by
    intro fuel
    induction fuel with
    | zero => intro i u H locs ls hi hu hfu; exact absurd hfu (Nat.not_lt_zero _)
    | succ fuel ih6 =>
      intro i u H locs ls hi hu hfu hP hD hS hl
      refine lv_iload hx hb dX1_aimBehind_6 (lv_at hl 4 rfl) ?_
      refine lv_aload_n hx hb dX1_aimBehind_8 rfl (lv_at hl 0 rfl) ?_
      refine va_get (D := D) (ci := 1) (v := .int (nI n)) (C := RX1) (T := TX1) (N := 6) hx hb hts in_X1_aimBehind_X1 hown hK hP 0 rfl rfl 4 (by decide) (hts _ fl_X1_aimBehind_28) (fun _ h9 => h9) rfl dX1_aimBehind_9 ?_
      refine q_ige (tgt := 52) (by omega) (by omega) hx hb dX1_aimBehind_12 (by decide) (fun c_12 => ?_) (fun c_12 => ?_)
      ·
        refine lv_iload hx hb dX1_aimBehind_52 (lv_at hl 3 rfl) ?_
        exact hret _ _ _ _ (some (.int (nI u))) () 54 ls (by decide) (by decide) (by first | exact rv (by rw [hu, show i = n by omega]) | exact rv (by rw [hu]; exact (aimBy_stop hi (fun c hc hd => by rcases Nat.lt_or_ge i c with h9 | h9; (have h8 := hso i c h9 hd; omega); (rw [show c = i by omega]; omega))).symm)) hP hD hS (ret_i dX1_aimBehind_54)
      ·
        refine lv_aload_n hx hb dX1_aimBehind_15 rfl (lv_at hl 0 rfl) ?_
        refine va_get (D := D) (ci := 1) (v := .ref a2) (C := RX1) (T := TX1) (N := 6) hx hb hts in_X1_aimBehind_X1 hown hK hP 0 rfl rfl 1 (by decide) (hts _ fl_X1_aimBehind_15) (fun _ h9 => h9) rfl dX1_aimBehind_16 ?_
        refine lv_iload hx hb dX1_aimBehind_19 (lv_at hl 4 rfl) ?_
        have h91 := hti i (by omega)
        have h92 := hje i (by omega)
        refine q_iald 2 0 (by omega) (by omega) hx hb hK hP rfl rfl dX1_aimBehind_21 ?_
        refine lv_iload_n hx hb dX1_aimBehind_22 rfl (lv_at hl 1 rfl) ?_
        refine q_igt (tgt := 52) (by omega) (by omega) hx hb dX1_aimBehind_23 (by decide) (fun c_23 => ?_) (fun c_23 => ?_)
        ·
          refine lv_iload hx hb dX1_aimBehind_52 (lv_at hl 3 rfl) ?_
          exact hret _ _ _ _ (some (.int (nI u))) () 54 ls (by decide) (by decide) (by first | exact rv (by rw [hu, show i = n by omega]) | exact rv (by rw [hu]; exact (aimBy_stop hi (fun c hc hd => by rcases Nat.lt_or_ge i c with h9 | h9; (have h8 := hso i c h9 hd; omega); (rw [show c = i by omega]; omega))).symm)) hP hD hS (ret_i dX1_aimBehind_54)
        ·
          refine lv_aload_n hx hb dX1_aimBehind_26 rfl (lv_at hl 0 rfl) ?_
          refine va_get (D := D) (ci := 1) (v := .ref a3) (C := RX1) (T := TX1) (N := 6) hx hb hts in_X1_aimBehind_X1 hown hK hP 0 rfl rfl 2 (by decide) (hts _ fl_X1_aimBehind_18) (fun _ h9 => h9) rfl dX1_aimBehind_27 ?_
          refine lv_iload hx hb dX1_aimBehind_30 (lv_at hl 4 rfl) ?_
          refine q_iald 3 0 (by omega) (by omega) hx hb hK hP rfl rfl dX1_aimBehind_32 ?_
          refine lv_iload_n hx hb dX1_aimBehind_33 rfl (lv_at hl 2 rfl) ?_
          refine q_ine (tgt := 46) (by omega) (by omega) hx hb dX1_aimBehind_34 (by decide) (fun c_34 => ?_) (fun c_34 => ?_)
          ·
            refine lv_iinc (v := (nI (i + 1))) (lv' := [(5, .int (nI (i + 1))), (0, .ref a0), (1, .int (nI t)), (2, .int (nI j)), (4, .int (nI u))]) hx hb dX1_aimBehind_46 hl (k := 4) rfl (nI_add i 1) (by decide) rfl (fun ls hl => ?_)
            refine lv_goto (tgt := 6) hx hb dX1_aimBehind_49 (by decide) ?_
            exact ih6  (i + 1) u _ _ ls (by first | with_reducible assumption | omega) (by first | exact (if_pos ⟨by omega, by omega⟩).symm | (rw [hu]; exact (if_neg (by omega)).symm)) (by omega) hP hD hS (lv_sub hl [1, 2, 3, 4, 0] rfl)
          ·
            refine lv_aload_n hx hb dX1_aimBehind_37 rfl (lv_at hl 0 rfl) ?_
            refine va_get (D := D) (ci := 1) (v := .ref a4) (C := RX1) (T := TX1) (N := 6) hx hb hts in_X1_aimBehind_X1 hown hK hP 0 rfl rfl 3 (by decide) (hts _ fl_X1_aimBehind_21) (fun _ h9 => h9) rfl dX1_aimBehind_38 ?_
            refine lv_iload hx hb dX1_aimBehind_41 (lv_at hl 4 rfl) ?_
            refine q_iald 4 0 (by omega) (by omega) hx hb hK hP rfl rfl dX1_aimBehind_43 ?_
            refine lv_istore (lv' := [(4, .int (nI (ac i))), (0, .ref a0), (1, .int (nI t)), (2, .int (nI j)), (5, .int (nI i))]) hx hb dX1_aimBehind_44 hl (by decide) rfl (fun ls hl => ?_)
            refine lv_iinc (v := (nI (i + 1))) (lv' := [(5, .int (nI (i + 1))), (4, .int (nI (ac i))), (0, .ref a0), (1, .int (nI t)), (2, .int (nI j))]) hx hb dX1_aimBehind_46 hl (k := 4) rfl (nI_add i 1) (by decide) rfl (fun ls hl => ?_)
            refine lv_goto (tgt := 6) hx hb dX1_aimBehind_49 (by decide) ?_
            exact ih6  (i + 1) (ac i) _ _ ls (by first | with_reducible assumption | omega) (by first | exact (if_pos ⟨by omega, by omega⟩).symm | (rw [hu]; exact (if_neg (by omega)).symm)) (by omega) hP hD hS (lv_sub hl [2, 3, 4, 1, 0] rfl)
  exact L6 (n - 0 + 1) 0 a _ _ ls (by first | with_reducible assumption | omega) (by rfl) (by omega) hP hD hS (lv_sub hl [2, 3, 4, 1, 0] rfl)

theorem in_X1_removeAt_X1 : ∀ w ∈ wsX10, w ∈ wsX1_removeAt := by decide +kernel
theorem fl_X1_removeAt_28 : Cond.fieldLink RX1 28 "FountainCues$Cues" "size" "I" ∈ wsX1_removeAt := by decide +kernel
set_option maxHeartbeats 4000000 in
set_option maxRecDepth 100000 in
theorem k_X1_removeAt (l : Launch) (D : va_G) (cI cS cL : ClassId) (a0 : Nat) (a1 : Nat) (a2 : Nat) (a3 : Nat) (a4 : Nat) (nu : Nat → Nat) (ti : Nat → Nat) (je : Nat → Nat) (ac : Nat → Nat) (n : Nat) (g : Nat) (x : Nat) (hn : n ≤ 16) (hx2 : x < n) : KM l D (TY cI cS cL) yX1_removeAt wsX1_removeAt ({ frames := 1, cells := 0, slots := 0, locals := 22 } : Room) [(a0, .inr (1, [.ref a1, .ref a2, .ref a3, .ref a4, .int (nI n), .int (nI g)])), (a1, .inl (cI, 16, .inl (ro 16 nu))), (a2, .inl (cI, 16, .inl (ro 16 ti))), (a3, .inl (cI, 16, .inl (ro 16 je))), (a4, .inl (cI, 16, .inl (ro 16 ac)))] [.ref a0, .int (nI x)] (fun (v : Option Value) (_ : Unit) => v = none) (fun _ : Unit => [(a0, .inr (1, [.ref a1, .ref a2, .ref a3, .ref a4, .int (nI (n - 1)), .int (nI g)])), (a1, .inl (cI, 16, .inl (ro 16 (remF nu x (n - 1))))), (a2, .inl (cI, 16, .inl (ro 16 (remF ti x (n - 1))))), (a3, .inl (cI, 16, .inl (ro 16 (remF je x (n - 1))))), (a4, .inl (cI, 16, .inl (ro 16 (remF ac x (n - 1)))))]) := by
  refine KM.of (cc := cX1_removeAt) (maxL := 3) (ret := none) (by decide) rfl (Nat.le_of_ble_eq_true rfl) ?_
  intro p9 e9 s9 m9 ar9 be9 me9 c9 Q9 A9 ls C0 hN hnm hlk hK hA hret hP hD hS hl
  obtain ⟨hx, hb, hml, hown, hts⟩ := id C0
  have hl : lv_has ls 3 [(0, .ref a0), (1, .int (nI x))] := hl
  obtain ⟨H, hH0⟩ : ∃ H, H = s9.heap := ⟨_, rfl⟩
  obtain ⟨locs, hlc0⟩ : ∃ z : List Loc, z = [] := ⟨_, rfl⟩
  have hP : va_P D vwCl [(a0, .inr (1, [.ref a1, .ref a2, .ref a3, .ref a4, .int (nI n), .int (nI g)])), (a1, .inl (cI, 16, .inl (ro 16 nu))), (a2, .inl (cI, 16, .inl (ro 16 ti))), (a3, .inl (cI, 16, .inl (ro 16 je))), (a4, .inl (cI, 16, .inl (ro 16 ac)))] H := by rw [hH0]; exact hP
  have hD : va_D A9 [(a0, .inr (1, [.ref a1, .ref a2, .ref a3, .ref a4, .int (nI n), .int (nI g)])), (a1, .inl (cI, 16, .inl (ro 16 nu))), (a2, .inl (cI, 16, .inl (ro 16 ti))), (a3, .inl (cI, 16, .inl (ro 16 je))), (a4, .inl (cI, 16, .inl (ro 16 ac)))] := hD
  have hS : va_S A9 s9.heap H locs := by rw [hH0, hlc0]; exact hS
  suffices hgo : W p9 l e9 ({ frames := 1, cells := 0, slots := 0, locals := 22 } : Room) s9 m9 ar9 be9 me9 c9 H locs 0 0 Q9 (F0 m9 0 ls []) by rw [hH0, hlc0] at hgo; exact hgo
  clear hH0 hlc0
  refine lv_iload_n hx hb dX1_removeAt_0 rfl (lv_at hl 1 rfl) ?_
  refine lv_if_lt (tgt := 12) hx hb dX1_removeAt_1 (by decide) (fun c_1 => ?_) (fun c_1 => ?_)
  · exact absurd c_1 (nI_pos (by omega))
  ·
    refine lv_iload_n hx hb dX1_removeAt_4 rfl (lv_at hl 1 rfl) ?_
    refine lv_aload_n hx hb dX1_removeAt_5 rfl (lv_at hl 0 rfl) ?_
    refine va_get (D := D) (ci := 1) (v := .int (nI n)) (C := RX1) (T := TX1) (N := 6) hx hb hts in_X1_removeAt_X1 hown hK hP 0 rfl rfl 4 (by decide) (hts _ fl_X1_removeAt_28) (fun _ h9 => h9) rfl dX1_removeAt_6 ?_
    refine q_ilt (tgt := 13) (by omega) (by omega) hx hb dX1_removeAt_9 (by decide) (fun c_9 => ?_) (fun c_9 => ?_)
    ·
      refine lv_iload_n hx hb dX1_removeAt_13 rfl (lv_at hl 1 rfl) ?_
      have er_1 : ro 16 nu = ro 16 (remF nu x x) := by exact remF_0 nu x
      rw [er_1] at hP hD
      have er_2 : ro 16 ti = ro 16 (remF ti x x) := by exact remF_0 ti x
      rw [er_2] at hP hD
      have er_3 : ro 16 je = ro 16 (remF je x x) := by exact remF_0 je x
      rw [er_3] at hP hD
      have er_4 : ro 16 ac = ro 16 (remF ac x x) := by exact remF_0 ac x
      rw [er_4] at hP hD
      refine lv_istore_n (lv' := [(2, .int (nI x)), (0, .ref a0), (1, .int (nI x))]) hx hb dX1_removeAt_14 rfl hl (by decide) rfl (fun ls hl => ?_)
      have L15 : ∀ (fuel : Nat) (i : Nat) (H : Heap) (locs : List Loc) (ls : Array Slot), (x ≤ i) → (i < n) → (n - i < fuel) → va_P D vwCl [(a0, .inr (1, [.ref a1, .ref a2, .ref a3, .ref a4, .int (nI n), .int (nI g)])), (a1, .inl (cI, 16, .inl (ro 16 (remF nu x i)))), (a2, .inl (cI, 16, .inl (ro 16 (remF ti x i)))), (a3, .inl (cI, 16, .inl (ro 16 (remF je x i)))), (a4, .inl (cI, 16, .inl (ro 16 (remF ac x i))))] H → va_D A9 [(a0, .inr (1, [.ref a1, .ref a2, .ref a3, .ref a4, .int (nI n), .int (nI g)])), (a1, .inl (cI, 16, .inl (ro 16 (remF nu x i)))), (a2, .inl (cI, 16, .inl (ro 16 (remF ti x i)))), (a3, .inl (cI, 16, .inl (ro 16 (remF je x i)))), (a4, .inl (cI, 16, .inl (ro 16 (remF ac x i))))] → va_S A9 s9.heap H locs → lv_has ls 3 [(0, .ref a0), (1, .int (nI x)), (2, .int (nI i))] → W p9 l e9 ({ frames := 1, cells := 0, slots := 0, locals := 22 } : Room) s9 m9 ar9 be9 me9 c9 H locs 0 0 Q9 (F0 m9 15 ls []) := by
        intro fuel
        induction fuel with
        | zero => intro i H locs ls hi hi2 hfu; exact absurd hfu (Nat.not_lt_zero _)
        | succ fuel ih15 =>
          intro i H locs ls hi hi2 hfu hP hD hS hl
          refine lv_iload_n hx hb dX1_removeAt_15 rfl (lv_at hl 2 rfl) ?_
          refine lv_iconst (v := nI 1) hx hb dX1_removeAt_16 (by decide +kernel) ?_
          refine q_iadd hx hb dX1_removeAt_17 ?_
          refine lv_aload_n hx hb dX1_removeAt_18 rfl (lv_at hl 0 rfl) ?_
          refine va_get (D := D) (ci := 1) (v := .int (nI n)) (C := RX1) (T := TX1) (N := 6) hx hb hts in_X1_removeAt_X1 hown hK hP 0 rfl rfl 4 (by decide) (hts _ fl_X1_removeAt_28) (fun _ h9 => h9) rfl dX1_removeAt_19 ?_
          refine q_ige (tgt := 39) (by omega) (by omega) hx hb dX1_removeAt_22 (by decide) (fun c_22 => ?_) (fun c_22 => ?_)
          ·
            have er_5 : ro 16 (remF nu x i) = ro 16 (remF nu x (n - 1)) := by rw [show n - 1 = i by omega]
            rw [er_5] at hP hD
            have er_6 : ro 16 (remF ti x i) = ro 16 (remF ti x (n - 1)) := by rw [show n - 1 = i by omega]
            rw [er_6] at hP hD
            have er_7 : ro 16 (remF je x i) = ro 16 (remF je x (n - 1)) := by rw [show n - 1 = i by omega]
            rw [er_7] at hP hD
            have er_8 : ro 16 (remF ac x i) = ro 16 (remF ac x (n - 1)) := by rw [show n - 1 = i by omega]
            rw [er_8] at hP hD
            refine lv_aload_n hx hb dX1_removeAt_39 rfl (lv_at hl 0 rfl) ?_
            refine lv_dup hx hb dX1_removeAt_40 rfl ?_
            refine va_get (D := D) (ci := 1) (v := .int (nI n)) (C := RX1) (T := TX1) (N := 6) hx hb hts in_X1_removeAt_X1 hown hK hP 0 rfl rfl 4 (by decide) (hts _ fl_X1_removeAt_28) (fun _ h9 => h9) rfl dX1_removeAt_41 ?_
            refine lv_iconst (v := nI 1) hx hb dX1_removeAt_44 (by decide +kernel) ?_
            refine q_isub (by omega) hx hb dX1_removeAt_45 ?_
            refine va_put (D := D) (ci := 1) (v := .int (nI (n - 1))) (ty := tyX1 4) (C := RX1) (T := TX1) (N := 6) hx hb hts in_X1_removeAt_X1 tyX1 tyX1_ok nmX1 hown hK hP hD hS 0 rfl rfl 4 (by decide) (hts _ fl_X1_removeAt_28) (fun _ h9 => h9) rfl (by decide +kernel) rfl rfl (Nat.le_of_ble_eq_true rfl) dX1_removeAt_46 (fun H locs hP hD hS => ?_)
            have hP : va_P D vwCl [(a0, .inr (1, [.ref a1, .ref a2, .ref a3, .ref a4, .int (nI (n - 1)), .int (nI g)])), (a1, .inl (cI, 16, .inl (ro 16 (remF nu x (n - 1))))), (a2, .inl (cI, 16, .inl (ro 16 (remF ti x (n - 1))))), (a3, .inl (cI, 16, .inl (ro 16 (remF je x (n - 1))))), (a4, .inl (cI, 16, .inl (ro 16 (remF ac x (n - 1)))))] H := hP
            have hD : va_D A9 [(a0, .inr (1, [.ref a1, .ref a2, .ref a3, .ref a4, .int (nI (n - 1)), .int (nI g)])), (a1, .inl (cI, 16, .inl (ro 16 (remF nu x (n - 1))))), (a2, .inl (cI, 16, .inl (ro 16 (remF ti x (n - 1))))), (a3, .inl (cI, 16, .inl (ro 16 (remF je x (n - 1))))), (a4, .inl (cI, 16, .inl (ro 16 (remF ac x (n - 1)))))] := hD
            exact hret _ _ _ _ none () 49 ls (by decide) (by decide) (by rfl) hP hD hS (ret_v dX1_removeAt_49)
          ·
            refine lv_aload_n hx hb dX1_removeAt_25 rfl (lv_at hl 0 rfl) ?_
            refine lv_iload_n hx hb dX1_removeAt_26 rfl (lv_at hl 2 rfl) ?_
            refine lv_iconst (v := nI 1) hx hb dX1_removeAt_27 (by decide +kernel) ?_
            refine q_iadd hx hb dX1_removeAt_28 ?_
            refine lv_iload_n hx hb dX1_removeAt_29 rfl (lv_at hl 2 rfl) ?_
            refine KM.callV (As := [.int (nI (i + 1)), .int (nI i)]) (rest := []) C0 hN (k_X1_move l D cI cS cL a0 a1 a2 a3 a4 (remF nu x i) (remF ti x i) (remF je x i) (remF ac x i) n g (i + 1) i  (by first | with_reducible assumption | omega) (by first | with_reducible assumption | omega)) (cwV 2 hts gX1_removeAt_X1_move rfl rfl rfl (by decide +kernel) ⟨Nat.le_of_ble_eq_true rfl, Nat.le_of_ble_eq_true rfl⟩) hK hP hD hS hA [0, 1, 2, 3, 4] rfl (by decide) (fun _ => rfl) 0 1 rfl rfl rfl rfl hl.1 rfl (Nat.le_of_ble_eq_true rfl) dX1_removeAt_30 ⟨Nat.le_of_ble_eq_true rfl, Nat.le_of_ble_eq_true rfl⟩ (fun v9 u9 H locs hv hP hD hS => ?_)
            subst hv
            have hP : va_P D vwCl [(a0, .inr (1, [.ref a1, .ref a2, .ref a3, .ref a4, .int (nI n), .int (nI g)])), (a1, .inl (cI, 16, .inl (ro 16 (upN (remF nu x i) i ((remF nu x i) (i + 1)))))), (a2, .inl (cI, 16, .inl (ro 16 (upN (remF ti x i) i ((remF ti x i) (i + 1)))))), (a3, .inl (cI, 16, .inl (ro 16 (upN (remF je x i) i ((remF je x i) (i + 1)))))), (a4, .inl (cI, 16, .inl (ro 16 (upN (remF ac x i) i ((remF ac x i) (i + 1))))))] H := hP
            have hD : va_D A9 [(a0, .inr (1, [.ref a1, .ref a2, .ref a3, .ref a4, .int (nI n), .int (nI g)])), (a1, .inl (cI, 16, .inl (ro 16 (upN (remF nu x i) i ((remF nu x i) (i + 1)))))), (a2, .inl (cI, 16, .inl (ro 16 (upN (remF ti x i) i ((remF ti x i) (i + 1)))))), (a3, .inl (cI, 16, .inl (ro 16 (upN (remF je x i) i ((remF je x i) (i + 1)))))), (a4, .inl (cI, 16, .inl (ro 16 (upN (remF ac x i) i ((remF ac x i) (i + 1))))))] := hD
            refine W.eq (g2 := F0 m9 33 ls []) rfl ?_
            refine lv_iinc (v := (nI (i + 1))) (lv' := [(2, .int (nI (i + 1))), (0, .ref a0), (1, .int (nI x))]) hx hb dX1_removeAt_33 hl (k := 2) rfl (nI_add i 1) (by decide) rfl (fun ls hl => ?_)
            have er_9 : ro 16 (upN (remF nu x i) i ((remF nu x i) (i + 1))) = ro 16 (remF nu x (i + 1)) := by exact remF_s hi
            rw [er_9] at hP hD
            have er_10 : ro 16 (upN (remF ti x i) i ((remF ti x i) (i + 1))) = ro 16 (remF ti x (i + 1)) := by exact remF_s hi
            rw [er_10] at hP hD
            have er_11 : ro 16 (upN (remF je x i) i ((remF je x i) (i + 1))) = ro 16 (remF je x (i + 1)) := by exact remF_s hi
            rw [er_11] at hP hD
            have er_12 : ro 16 (upN (remF ac x i) i ((remF ac x i) (i + 1))) = ro 16 (remF ac x (i + 1)) := by exact remF_s hi
            rw [er_12] at hP hD
            refine lv_goto (tgt := 15) hx hb dX1_removeAt_36 (by decide) ?_
            exact ih15  (i + 1) _ _ ls (by first | with_reducible assumption | omega) (by first | with_reducible assumption | omega) (by omega) hP hD hS (lv_sub hl [1, 2, 0] rfl)
      exact L15 (n - x + 1) x _ _ ls (by first | with_reducible assumption | omega) (by first | with_reducible assumption | omega) (by omega) hP hD hS (lv_sub hl [1, 2, 0] rfl)
    · exact absurd True.intro (by omega)

theorem in_X1_add_X1 : ∀ w ∈ wsX10, w ∈ wsX1_add := by decide +kernel
theorem fl_X1_add_28 : Cond.fieldLink RX1 28 "FountainCues$Cues" "size" "I" ∈ wsX1_add := by decide +kernel
theorem fl_X1_add_32 : Cond.fieldLink RX1 32 "FountainCues$Cues" "nextNumber" "I" ∈ wsX1_add := by decide +kernel
theorem fl_X1_add_9 : Cond.fieldLink RX1 9 "FountainCues$Cues" "numbers" "[I" ∈ wsX1_add := by decide +kernel
theorem fl_X1_add_15 : Cond.fieldLink RX1 15 "FountainCues$Cues" "ticks" "[I" ∈ wsX1_add := by decide +kernel
theorem fl_X1_add_18 : Cond.fieldLink RX1 18 "FountainCues$Cues" "jets" "[I" ∈ wsX1_add := by decide +kernel
theorem fl_X1_add_21 : Cond.fieldLink RX1 21 "FountainCues$Cues" "aims" "[I" ∈ wsX1_add := by decide +kernel
set_option maxHeartbeats 4000000 in
set_option maxRecDepth 100000 in
theorem k_X1_add (l : Launch) (D : va_G) (cI cS cL : ClassId) (a0 : Nat) (a1 : Nat) (a2 : Nat) (a3 : Nat) (a4 : Nat) (nu : Nat → Nat) (ti : Nat → Nat) (je : Nat → Nat) (ac : Nat → Nat) (n : Nat) (g : Nat) (t : Nat) (j : Nat) (a : Nat) (hn : n < 16) (ht : t < 2 ^ 31) (hti : ∀ c, c < n → ti c < 2 ^ 31) : KM l D (TY cI cS cL) yX1_add wsX1_add ({ frames := 1, cells := 0, slots := 0, locals := 22 } : Room) [(a0, .inr (1, [.ref a1, .ref a2, .ref a3, .ref a4, .int (nI n), .int (nI g)])), (a1, .inl (cI, 16, .inl (ro 16 nu))), (a2, .inl (cI, 16, .inl (ro 16 ti))), (a3, .inl (cI, 16, .inl (ro 16 je))), (a4, .inl (cI, 16, .inl (ro 16 ac)))] [.ref a0, .int (nI t), .int (nI j), .int (nI a)] (fun (v : Option Value) (_ : Unit) => v = some (.int (nI g))) (fun _ : Unit => [(a0, .inr (1, [.ref a1, .ref a2, .ref a3, .ref a4, .int (nI (n + 1)), .int (nI (g + 1))])), (a1, .inl (cI, 16, .inl (ro 16 (insF nu (insP ti t n) n g)))), (a2, .inl (cI, 16, .inl (ro 16 (insF ti (insP ti t n) n t)))), (a3, .inl (cI, 16, .inl (ro 16 (insF je (insP ti t n) n j)))), (a4, .inl (cI, 16, .inl (ro 16 (insF ac (insP ti t n) n a))))]) := by
  refine KM.of (cc := cX1_add) (maxL := 6) (ret := (some .int)) (by decide) rfl (Nat.le_of_ble_eq_true rfl) ?_
  intro p9 e9 s9 m9 ar9 be9 me9 c9 Q9 A9 ls C0 hN hnm hlk hK hA hret hP hD hS hl
  obtain ⟨hx, hb, hml, hown, hts⟩ := id C0
  have hl : lv_has ls 6 [(0, .ref a0), (1, .int (nI t)), (2, .int (nI j)), (3, .int (nI a))] := hl
  obtain ⟨H, hH0⟩ : ∃ H, H = s9.heap := ⟨_, rfl⟩
  obtain ⟨locs, hlc0⟩ : ∃ z : List Loc, z = [] := ⟨_, rfl⟩
  have hP : va_P D vwCl [(a0, .inr (1, [.ref a1, .ref a2, .ref a3, .ref a4, .int (nI n), .int (nI g)])), (a1, .inl (cI, 16, .inl (ro 16 nu))), (a2, .inl (cI, 16, .inl (ro 16 ti))), (a3, .inl (cI, 16, .inl (ro 16 je))), (a4, .inl (cI, 16, .inl (ro 16 ac)))] H := by rw [hH0]; exact hP
  have hD : va_D A9 [(a0, .inr (1, [.ref a1, .ref a2, .ref a3, .ref a4, .int (nI n), .int (nI g)])), (a1, .inl (cI, 16, .inl (ro 16 nu))), (a2, .inl (cI, 16, .inl (ro 16 ti))), (a3, .inl (cI, 16, .inl (ro 16 je))), (a4, .inl (cI, 16, .inl (ro 16 ac)))] := hD
  have hS : va_S A9 s9.heap H locs := by rw [hH0, hlc0]; exact hS
  suffices hgo : W p9 l e9 ({ frames := 1, cells := 0, slots := 0, locals := 22 } : Room) s9 m9 ar9 be9 me9 c9 H locs 0 0 Q9 (F0 m9 0 ls []) by rw [hH0, hlc0] at hgo; exact hgo
  clear hH0 hlc0
  refine lv_aload_n hx hb dX1_add_0 rfl (lv_at hl 0 rfl) ?_
  refine KM.callV (As := []) (rest := []) C0 hN (k_X1_isFull l D cI cS cL a0 a1 a2 a3 a4 nu ti je ac n g  (by first | with_reducible assumption | omega)) (cwV 0 hts gX1_add_X1_isFull rfl rfl rfl (by decide +kernel) ⟨Nat.le_of_ble_eq_true rfl, Nat.le_of_ble_eq_true rfl⟩) hK hP hD hS hA [0, 1, 2, 3, 4] rfl (by decide) (fun _ => rfl) 0 1 rfl rfl rfl rfl hl.1 rfl (Nat.le_of_ble_eq_true rfl) dX1_add_1 ⟨Nat.le_of_ble_eq_true rfl, Nat.le_of_ble_eq_true rfl⟩ (fun v9 u9 H locs hv hP hD hS => ?_)
  subst hv
  have hP : va_P D vwCl [(a0, .inr (1, [.ref a1, .ref a2, .ref a3, .ref a4, .int (nI n), .int (nI g)])), (a1, .inl (cI, 16, .inl (ro 16 nu))), (a2, .inl (cI, 16, .inl (ro 16 ti))), (a3, .inl (cI, 16, .inl (ro 16 je))), (a4, .inl (cI, 16, .inl (ro 16 ac)))] H := hP
  have hD : va_D A9 [(a0, .inr (1, [.ref a1, .ref a2, .ref a3, .ref a4, .int (nI n), .int (nI g)])), (a1, .inl (cI, 16, .inl (ro 16 nu))), (a2, .inl (cI, 16, .inl (ro 16 ti))), (a3, .inl (cI, 16, .inl (ro 16 je))), (a4, .inl (cI, 16, .inl (ro 16 ac)))] := hD
  refine W.eq (g2 := F0 m9 4 ls [.int (nI (bI (16 ≤ n)))]) rfl ?_
  refine q_feq (tgt := 9) bI_lt hx hb dX1_add_4 (by decide) (fun c_4 => ?_) (fun c_4 => ?_)
  ·
    have c_4 := bI_z c_4
    refine lv_aload_n hx hb dX1_add_9 rfl (lv_at hl 0 rfl) ?_
    refine va_get (D := D) (ci := 1) (v := .int (nI n)) (C := RX1) (T := TX1) (N := 6) hx hb hts in_X1_add_X1 hown hK hP 0 rfl rfl 4 (by decide) (hts _ fl_X1_add_28) (fun _ h9 => h9) rfl dX1_add_10 ?_
    have er_1 : ro 16 nu = ro 16 (hol nu n n) := by exact hol_0 nu n
    rw [er_1] at hP hD
    have er_2 : ro 16 ti = ro 16 (hol ti n n) := by exact hol_0 ti n
    rw [er_2] at hP hD
    have er_3 : ro 16 je = ro 16 (hol je n n) := by exact hol_0 je n
    rw [er_3] at hP hD
    have er_4 : ro 16 ac = ro 16 (hol ac n n) := by exact hol_0 ac n
    rw [er_4] at hP hD
    refine lv_istore (lv' := [(4, .int (nI n)), (0, .ref a0), (1, .int (nI t)), (2, .int (nI j)), (3, .int (nI a))]) hx hb dX1_add_13 hl (by decide) rfl (fun ls hl => ?_)
    have L15 : ∀ (fuel : Nat) (q : Nat) (H : Heap) (locs : List Loc) (ls : Array Slot), (q ≤ n) → (insP ti t n = insP ti t q) → (q < fuel) → va_P D vwCl [(a0, .inr (1, [.ref a1, .ref a2, .ref a3, .ref a4, .int (nI n), .int (nI g)])), (a1, .inl (cI, 16, .inl (ro 16 (hol nu q n)))), (a2, .inl (cI, 16, .inl (ro 16 (hol ti q n)))), (a3, .inl (cI, 16, .inl (ro 16 (hol je q n)))), (a4, .inl (cI, 16, .inl (ro 16 (hol ac q n))))] H → va_D A9 [(a0, .inr (1, [.ref a1, .ref a2, .ref a3, .ref a4, .int (nI n), .int (nI g)])), (a1, .inl (cI, 16, .inl (ro 16 (hol nu q n)))), (a2, .inl (cI, 16, .inl (ro 16 (hol ti q n)))), (a3, .inl (cI, 16, .inl (ro 16 (hol je q n)))), (a4, .inl (cI, 16, .inl (ro 16 (hol ac q n))))] → va_S A9 s9.heap H locs → lv_has ls 6 [(0, .ref a0), (1, .int (nI t)), (2, .int (nI j)), (3, .int (nI a)), (4, .int (nI q))] → W p9 l e9 ({ frames := 1, cells := 0, slots := 0, locals := 22 } : Room) s9 m9 ar9 be9 me9 c9 H locs 0 0 Q9 (F0 m9 15 ls []) := by
      intro fuel
      induction fuel with
      | zero => intro q H locs ls hq hin hfu; exact absurd hfu (Nat.not_lt_zero _)
      | succ fuel ih15 =>
        intro q H locs ls hq hin hfu hP hD hS hl
        have L49 : ∀  (H : Heap) (locs : List Loc) (ls : Array Slot), (insP ti t n = q) →  va_P D vwCl [(a0, .inr (1, [.ref a1, .ref a2, .ref a3, .ref a4, .int (nI n), .int (nI g)])), (a1, .inl (cI, 16, .inl (ro 16 (hol nu q n)))), (a2, .inl (cI, 16, .inl (ro 16 (hol ti q n)))), (a3, .inl (cI, 16, .inl (ro 16 (hol je q n)))), (a4, .inl (cI, 16, .inl (ro 16 (hol ac q n))))] H → va_D A9 [(a0, .inr (1, [.ref a1, .ref a2, .ref a3, .ref a4, .int (nI n), .int (nI g)])), (a1, .inl (cI, 16, .inl (ro 16 (hol nu q n)))), (a2, .inl (cI, 16, .inl (ro 16 (hol ti q n)))), (a3, .inl (cI, 16, .inl (ro 16 (hol je q n)))), (a4, .inl (cI, 16, .inl (ro 16 (hol ac q n))))] → va_S A9 s9.heap H locs → lv_has ls 6 [(0, .ref a0), (1, .int (nI t)), (2, .int (nI j)), (3, .int (nI a)), (4, .int (nI q))] → W p9 l e9 ({ frames := 1, cells := 0, slots := 0, locals := 22 } : Room) s9 m9 ar9 be9 me9 c9 H locs 0 0 Q9 (F0 m9 49 ls []) := by
          intro  H locs ls hfin  hP hD hS hl
          refine lv_aload_n hx hb dX1_add_49 rfl (lv_at hl 0 rfl) ?_
          refine va_get (D := D) (ci := 1) (v := .int (nI g)) (C := RX1) (T := TX1) (N := 6) hx hb hts in_X1_add_X1 hown hK hP 0 rfl rfl 5 (by decide) (hts _ fl_X1_add_32) (fun _ h9 => h9) rfl dX1_add_50 ?_
          refine lv_istore (lv' := [(5, .int (nI g)), (0, .ref a0), (1, .int (nI t)), (2, .int (nI j)), (3, .int (nI a)), (4, .int (nI q))]) hx hb dX1_add_53 hl (by decide) rfl (fun ls hl => ?_)
          refine lv_aload_n hx hb dX1_add_55 rfl (lv_at hl 1 rfl) ?_
          refine va_get (D := D) (ci := 1) (v := .ref a1) (C := RX1) (T := TX1) (N := 6) hx hb hts in_X1_add_X1 hown hK hP 0 rfl rfl 0 (by decide) (hts _ fl_X1_add_9) (fun _ h9 => h9) rfl dX1_add_56 ?_
          refine lv_iload hx hb dX1_add_59 (lv_at hl 5 rfl) ?_
          refine lv_iload hx hb dX1_add_61 (lv_at hl 0 rfl) ?_
          refine q_iast 1 0 (by omega) (by omega) hx hb hK hP hD hS rfl rfl dX1_add_63 (fun H locs hP hD hS => ?_)
          have hP : va_P D vwCl [(a0, .inr (1, [.ref a1, .ref a2, .ref a3, .ref a4, .int (nI n), .int (nI g)])), (a1, .inl (cI, 16, .inl (ro 16 (upN (hol nu q n) q g)))), (a2, .inl (cI, 16, .inl (ro 16 (hol ti q n)))), (a3, .inl (cI, 16, .inl (ro 16 (hol je q n)))), (a4, .inl (cI, 16, .inl (ro 16 (hol ac q n))))] H := hP
          have hD : va_D A9 [(a0, .inr (1, [.ref a1, .ref a2, .ref a3, .ref a4, .int (nI n), .int (nI g)])), (a1, .inl (cI, 16, .inl (ro 16 (upN (hol nu q n) q g)))), (a2, .inl (cI, 16, .inl (ro 16 (hol ti q n)))), (a3, .inl (cI, 16, .inl (ro 16 (hol je q n)))), (a4, .inl (cI, 16, .inl (ro 16 (hol ac q n))))] := hD
          refine lv_aload_n hx hb dX1_add_64 rfl (lv_at hl 1 rfl) ?_
          refine va_get (D := D) (ci := 1) (v := .ref a2) (C := RX1) (T := TX1) (N := 6) hx hb hts in_X1_add_X1 hown hK hP 0 rfl rfl 1 (by decide) (hts _ fl_X1_add_15) (fun _ h9 => h9) rfl dX1_add_65 ?_
          refine lv_iload hx hb dX1_add_68 (lv_at hl 5 rfl) ?_
          refine lv_iload_n hx hb dX1_add_70 rfl (lv_at hl 2 rfl) ?_
          refine q_iast 2 0 (by omega) (by omega) hx hb hK hP hD hS rfl rfl dX1_add_71 (fun H locs hP hD hS => ?_)
          have hP : va_P D vwCl [(a0, .inr (1, [.ref a1, .ref a2, .ref a3, .ref a4, .int (nI n), .int (nI g)])), (a1, .inl (cI, 16, .inl (ro 16 (upN (hol nu q n) q g)))), (a2, .inl (cI, 16, .inl (ro 16 (upN (hol ti q n) q t)))), (a3, .inl (cI, 16, .inl (ro 16 (hol je q n)))), (a4, .inl (cI, 16, .inl (ro 16 (hol ac q n))))] H := hP
          have hD : va_D A9 [(a0, .inr (1, [.ref a1, .ref a2, .ref a3, .ref a4, .int (nI n), .int (nI g)])), (a1, .inl (cI, 16, .inl (ro 16 (upN (hol nu q n) q g)))), (a2, .inl (cI, 16, .inl (ro 16 (upN (hol ti q n) q t)))), (a3, .inl (cI, 16, .inl (ro 16 (hol je q n)))), (a4, .inl (cI, 16, .inl (ro 16 (hol ac q n))))] := hD
          refine lv_aload_n hx hb dX1_add_72 rfl (lv_at hl 1 rfl) ?_
          refine va_get (D := D) (ci := 1) (v := .ref a3) (C := RX1) (T := TX1) (N := 6) hx hb hts in_X1_add_X1 hown hK hP 0 rfl rfl 2 (by decide) (hts _ fl_X1_add_18) (fun _ h9 => h9) rfl dX1_add_73 ?_
          refine lv_iload hx hb dX1_add_76 (lv_at hl 5 rfl) ?_
          refine lv_iload_n hx hb dX1_add_78 rfl (lv_at hl 3 rfl) ?_
          refine q_iast 3 0 (by omega) (by omega) hx hb hK hP hD hS rfl rfl dX1_add_79 (fun H locs hP hD hS => ?_)
          have hP : va_P D vwCl [(a0, .inr (1, [.ref a1, .ref a2, .ref a3, .ref a4, .int (nI n), .int (nI g)])), (a1, .inl (cI, 16, .inl (ro 16 (upN (hol nu q n) q g)))), (a2, .inl (cI, 16, .inl (ro 16 (upN (hol ti q n) q t)))), (a3, .inl (cI, 16, .inl (ro 16 (upN (hol je q n) q j)))), (a4, .inl (cI, 16, .inl (ro 16 (hol ac q n))))] H := hP
          have hD : va_D A9 [(a0, .inr (1, [.ref a1, .ref a2, .ref a3, .ref a4, .int (nI n), .int (nI g)])), (a1, .inl (cI, 16, .inl (ro 16 (upN (hol nu q n) q g)))), (a2, .inl (cI, 16, .inl (ro 16 (upN (hol ti q n) q t)))), (a3, .inl (cI, 16, .inl (ro 16 (upN (hol je q n) q j)))), (a4, .inl (cI, 16, .inl (ro 16 (hol ac q n))))] := hD
          refine lv_aload_n hx hb dX1_add_80 rfl (lv_at hl 1 rfl) ?_
          refine va_get (D := D) (ci := 1) (v := .ref a4) (C := RX1) (T := TX1) (N := 6) hx hb hts in_X1_add_X1 hown hK hP 0 rfl rfl 3 (by decide) (hts _ fl_X1_add_21) (fun _ h9 => h9) rfl dX1_add_81 ?_
          refine lv_iload hx hb dX1_add_84 (lv_at hl 5 rfl) ?_
          refine lv_iload_n hx hb dX1_add_86 rfl (lv_at hl 4 rfl) ?_
          refine q_iast 4 0 (by omega) (by omega) hx hb hK hP hD hS rfl rfl dX1_add_87 (fun H locs hP hD hS => ?_)
          have hP : va_P D vwCl [(a0, .inr (1, [.ref a1, .ref a2, .ref a3, .ref a4, .int (nI n), .int (nI g)])), (a1, .inl (cI, 16, .inl (ro 16 (upN (hol nu q n) q g)))), (a2, .inl (cI, 16, .inl (ro 16 (upN (hol ti q n) q t)))), (a3, .inl (cI, 16, .inl (ro 16 (upN (hol je q n) q j)))), (a4, .inl (cI, 16, .inl (ro 16 (upN (hol ac q n) q a))))] H := hP
          have hD : va_D A9 [(a0, .inr (1, [.ref a1, .ref a2, .ref a3, .ref a4, .int (nI n), .int (nI g)])), (a1, .inl (cI, 16, .inl (ro 16 (upN (hol nu q n) q g)))), (a2, .inl (cI, 16, .inl (ro 16 (upN (hol ti q n) q t)))), (a3, .inl (cI, 16, .inl (ro 16 (upN (hol je q n) q j)))), (a4, .inl (cI, 16, .inl (ro 16 (upN (hol ac q n) q a))))] := hD
          refine lv_aload_n hx hb dX1_add_88 rfl (lv_at hl 1 rfl) ?_
          refine lv_dup hx hb dX1_add_89 rfl ?_
          refine va_get (D := D) (ci := 1) (v := .int (nI n)) (C := RX1) (T := TX1) (N := 6) hx hb hts in_X1_add_X1 hown hK hP 0 rfl rfl 4 (by decide) (hts _ fl_X1_add_28) (fun _ h9 => h9) rfl dX1_add_90 ?_
          refine lv_iconst (v := nI 1) hx hb dX1_add_93 (by decide +kernel) ?_
          refine q_iadd hx hb dX1_add_94 ?_
          refine va_put (D := D) (ci := 1) (v := .int (nI (n + 1))) (ty := tyX1 4) (C := RX1) (T := TX1) (N := 6) hx hb hts in_X1_add_X1 tyX1 tyX1_ok nmX1 hown hK hP hD hS 0 rfl rfl 4 (by decide) (hts _ fl_X1_add_28) (fun _ h9 => h9) rfl (by decide +kernel) rfl rfl (Nat.le_of_ble_eq_true rfl) dX1_add_95 (fun H locs hP hD hS => ?_)
          have hP : va_P D vwCl [(a0, .inr (1, [.ref a1, .ref a2, .ref a3, .ref a4, .int (nI (n + 1)), .int (nI g)])), (a1, .inl (cI, 16, .inl (ro 16 (upN (hol nu q n) q g)))), (a2, .inl (cI, 16, .inl (ro 16 (upN (hol ti q n) q t)))), (a3, .inl (cI, 16, .inl (ro 16 (upN (hol je q n) q j)))), (a4, .inl (cI, 16, .inl (ro 16 (upN (hol ac q n) q a))))] H := hP
          have hD : va_D A9 [(a0, .inr (1, [.ref a1, .ref a2, .ref a3, .ref a4, .int (nI (n + 1)), .int (nI g)])), (a1, .inl (cI, 16, .inl (ro 16 (upN (hol nu q n) q g)))), (a2, .inl (cI, 16, .inl (ro 16 (upN (hol ti q n) q t)))), (a3, .inl (cI, 16, .inl (ro 16 (upN (hol je q n) q j)))), (a4, .inl (cI, 16, .inl (ro 16 (upN (hol ac q n) q a))))] := hD
          refine lv_aload_n hx hb dX1_add_98 rfl (lv_at hl 1 rfl) ?_
          refine lv_dup hx hb dX1_add_99 rfl ?_
          refine va_get (D := D) (ci := 1) (v := .int (nI g)) (C := RX1) (T := TX1) (N := 6) hx hb hts in_X1_add_X1 hown hK hP 0 rfl rfl 5 (by decide) (hts _ fl_X1_add_32) (fun _ h9 => h9) rfl dX1_add_100 ?_
          refine lv_iconst (v := nI 1) hx hb dX1_add_103 (by decide +kernel) ?_
          refine q_iadd hx hb dX1_add_104 ?_
          refine va_put (D := D) (ci := 1) (v := .int (nI (g + 1))) (ty := tyX1 5) (C := RX1) (T := TX1) (N := 6) hx hb hts in_X1_add_X1 tyX1 tyX1_ok nmX1 hown hK hP hD hS 0 rfl rfl 5 (by decide) (hts _ fl_X1_add_32) (fun _ h9 => h9) rfl (by decide +kernel) rfl rfl (Nat.le_of_ble_eq_true rfl) dX1_add_105 (fun H locs hP hD hS => ?_)
          have hP : va_P D vwCl [(a0, .inr (1, [.ref a1, .ref a2, .ref a3, .ref a4, .int (nI (n + 1)), .int (nI (g + 1))])), (a1, .inl (cI, 16, .inl (ro 16 (upN (hol nu q n) q g)))), (a2, .inl (cI, 16, .inl (ro 16 (upN (hol ti q n) q t)))), (a3, .inl (cI, 16, .inl (ro 16 (upN (hol je q n) q j)))), (a4, .inl (cI, 16, .inl (ro 16 (upN (hol ac q n) q a))))] H := hP
          have hD : va_D A9 [(a0, .inr (1, [.ref a1, .ref a2, .ref a3, .ref a4, .int (nI (n + 1)), .int (nI (g + 1))])), (a1, .inl (cI, 16, .inl (ro 16 (upN (hol nu q n) q g)))), (a2, .inl (cI, 16, .inl (ro 16 (upN (hol ti q n) q t)))), (a3, .inl (cI, 16, .inl (ro 16 (upN (hol je q n) q j)))), (a4, .inl (cI, 16, .inl (ro 16 (upN (hol ac q n) q a))))] := hD
          have er_5 : ro 16 (upN (hol nu q n) q g) = ro 16 (insF nu (insP ti t n) n g) := by exact insF_e hfin
          rw [er_5] at hP hD
          have er_6 : ro 16 (upN (hol ti q n) q t) = ro 16 (insF ti (insP ti t n) n t) := by exact insF_e hfin
          rw [er_6] at hP hD
          have er_7 : ro 16 (upN (hol je q n) q j) = ro 16 (insF je (insP ti t n) n j) := by exact insF_e hfin
          rw [er_7] at hP hD
          have er_8 : ro 16 (upN (hol ac q n) q a) = ro 16 (insF ac (insP ti t n) n a) := by exact insF_e hfin
          rw [er_8] at hP hD
          refine lv_iload hx hb dX1_add_108 (lv_at hl 0 rfl) ?_
          exact hret _ _ _ _ (some (.int (nI g))) () 110 ls (by decide) (by decide) (by rfl) hP hD hS (ret_i dX1_add_110)
        refine lv_iload hx hb dX1_add_15 (lv_at hl 4 rfl) ?_
        refine q_fle (tgt := 49) (by omega) hx hb dX1_add_17 (by decide) (fun c_17 => ?_) (fun c_17 => ?_)
        ·
          exact L49   _ _ ls (by rw [hin]; exact insP_e (by omega))  hP hD hS (lv_sub hl [0, 1, 2, 3, 4] rfl)
        ·
          refine lv_aload_n hx hb dX1_add_20 rfl (lv_at hl 0 rfl) ?_
          refine va_get (D := D) (ci := 1) (v := .ref a2) (C := RX1) (T := TX1) (N := 6) hx hb hts in_X1_add_X1 hown hK hP 0 rfl rfl 1 (by decide) (hts _ fl_X1_add_15) (fun _ h9 => h9) rfl dX1_add_21 ?_
          refine lv_iload hx hb dX1_add_24 (lv_at hl 4 rfl) ?_
          refine lv_iconst (v := nI 1) hx hb dX1_add_26 (by decide +kernel) ?_
          refine q_isub (by omega) hx hb dX1_add_27 ?_
          have h91 : hol ti q n (q - 1) = ti (q - 1) := hol_lo (by omega)
          have h92 := hti (q - 1) (by omega)
          refine q_iald 2 0 (by omega) (by omega) hx hb hK hP rfl rfl dX1_add_28 ?_
          refine lv_iload_n hx hb dX1_add_29 rfl (lv_at hl 1 rfl) ?_
          refine q_ile (tgt := 49) (by omega) (by omega) hx hb dX1_add_30 (by decide) (fun c_30 => ?_) (fun c_30 => ?_)
          ·
            exact L49   _ _ ls (by rw [hin]; exact insP_e (by omega))  hP hD hS (lv_sub hl [0, 1, 2, 3, 4] rfl)
          ·
            refine lv_aload_n hx hb dX1_add_33 rfl (lv_at hl 0 rfl) ?_
            refine lv_iload hx hb dX1_add_34 (lv_at hl 4 rfl) ?_
            refine lv_iconst (v := nI 1) hx hb dX1_add_36 (by decide +kernel) ?_
            refine q_isub (by omega) hx hb dX1_add_37 ?_
            refine lv_iload hx hb dX1_add_38 (lv_at hl 4 rfl) ?_
            refine KM.callV (As := [.int (nI (q - 1)), .int (nI q)]) (rest := []) C0 hN (k_X1_move l D cI cS cL a0 a1 a2 a3 a4 (hol nu q n) (hol ti q n) (hol je q n) (hol ac q n) n g (q - 1) q  (by first | with_reducible assumption | omega) (by first | with_reducible assumption | omega)) (cwV 2 hts gX1_add_X1_move rfl rfl rfl (by decide +kernel) ⟨Nat.le_of_ble_eq_true rfl, Nat.le_of_ble_eq_true rfl⟩) hK hP hD hS hA [0, 1, 2, 3, 4] rfl (by decide) (fun _ => rfl) 0 1 rfl rfl rfl rfl hl.1 rfl (Nat.le_of_ble_eq_true rfl) dX1_add_40 ⟨Nat.le_of_ble_eq_true rfl, Nat.le_of_ble_eq_true rfl⟩ (fun v9 u9 H locs hv hP hD hS => ?_)
            subst hv
            have hP : va_P D vwCl [(a0, .inr (1, [.ref a1, .ref a2, .ref a3, .ref a4, .int (nI n), .int (nI g)])), (a1, .inl (cI, 16, .inl (ro 16 (upN (hol nu q n) q ((hol nu q n) (q - 1)))))), (a2, .inl (cI, 16, .inl (ro 16 (upN (hol ti q n) q ((hol ti q n) (q - 1)))))), (a3, .inl (cI, 16, .inl (ro 16 (upN (hol je q n) q ((hol je q n) (q - 1)))))), (a4, .inl (cI, 16, .inl (ro 16 (upN (hol ac q n) q ((hol ac q n) (q - 1))))))] H := hP
            have hD : va_D A9 [(a0, .inr (1, [.ref a1, .ref a2, .ref a3, .ref a4, .int (nI n), .int (nI g)])), (a1, .inl (cI, 16, .inl (ro 16 (upN (hol nu q n) q ((hol nu q n) (q - 1)))))), (a2, .inl (cI, 16, .inl (ro 16 (upN (hol ti q n) q ((hol ti q n) (q - 1)))))), (a3, .inl (cI, 16, .inl (ro 16 (upN (hol je q n) q ((hol je q n) (q - 1)))))), (a4, .inl (cI, 16, .inl (ro 16 (upN (hol ac q n) q ((hol ac q n) (q - 1))))))] := hD
            refine W.eq (g2 := F0 m9 43 ls []) rfl ?_
            refine lv_iinc (v := (nI (q - 1))) (lv' := [(4, .int (nI (q - 1))), (0, .ref a0), (1, .int (nI t)), (2, .int (nI j)), (3, .int (nI a))]) hx hb dX1_add_43 hl (k := 4) rfl (sb_m1 (by omega)) (by decide) rfl (fun ls hl => ?_)
            have er_9 : ro 16 (upN (hol nu q n) q ((hol nu q n) (q - 1))) = ro 16 (hol nu (q - 1) n) := by exact hol_s (by omega) hq
            rw [er_9] at hP hD
            have er_10 : ro 16 (upN (hol ti q n) q ((hol ti q n) (q - 1))) = ro 16 (hol ti (q - 1) n) := by exact hol_s (by omega) hq
            rw [er_10] at hP hD
            have er_11 : ro 16 (upN (hol je q n) q ((hol je q n) (q - 1))) = ro 16 (hol je (q - 1) n) := by exact hol_s (by omega) hq
            rw [er_11] at hP hD
            have er_12 : ro 16 (upN (hol ac q n) q ((hol ac q n) (q - 1))) = ro 16 (hol ac (q - 1) n) := by exact hol_s (by omega) hq
            rw [er_12] at hP hD
            refine lv_goto (tgt := 15) hx hb dX1_add_46 (by decide) ?_
            exact ih15  (q - 1) _ _ ls (by first | with_reducible assumption | omega) (by rw [hin]; exact insP_d (by omega) (by omega)) (by omega) hP hD hS (lv_sub hl [1, 2, 3, 4, 0] rfl)
    exact L15 (n + 1) n _ _ ls (by first | with_reducible assumption | omega) (by rfl) (by omega) hP hD hS (lv_sub hl [1, 2, 3, 4, 0] rfl)
  · exact absurd True.intro (by have h9 := bI_nz c_4; omega)

theorem in_X1_numberAt_X1 : ∀ w ∈ wsX10, w ∈ wsX1_numberAt := by decide +kernel
theorem fl_X1_numberAt_28 : Cond.fieldLink RX1 28 "FountainCues$Cues" "size" "I" ∈ wsX1_numberAt := by decide +kernel
theorem fl_X1_numberAt_9 : Cond.fieldLink RX1 9 "FountainCues$Cues" "numbers" "[I" ∈ wsX1_numberAt := by decide +kernel
theorem fl_X1_numberAt_15 : Cond.fieldLink RX1 15 "FountainCues$Cues" "ticks" "[I" ∈ wsX1_numberAt := by decide +kernel
theorem fl_X1_numberAt_18 : Cond.fieldLink RX1 18 "FountainCues$Cues" "jets" "[I" ∈ wsX1_numberAt := by decide +kernel
theorem fl_X1_numberAt_21 : Cond.fieldLink RX1 21 "FountainCues$Cues" "aims" "[I" ∈ wsX1_numberAt := by decide +kernel
set_option maxHeartbeats 4000000 in
set_option maxRecDepth 100000 in
theorem k_X1_numberAt (l : Launch) (D : va_G) (cI cS cL : ClassId) (a0 : Nat) (a1 : Nat) (a2 : Nat) (a3 : Nat) (a4 : Nat) (nu : Nat → Nat) (ti : Nat → Nat) (je : Nat → Nat) (ac : Nat → Nat) (n : Nat) (g : Nat) (x : Nat) (y : Nat) (hn : n ≤ 16) (hx2 : x < 2 ^ 31) (hy2 : y ≤ 3) : KM l D (TY cI cS cL) yX1_numberAt wsX1_numberAt ({ frames := 0, cells := 0, slots := 0, locals := 0 } : Room) [(a0, .inr (1, [.ref a1, .ref a2, .ref a3, .ref a4, .int (nI n), .int (nI g)])), (a1, .inl (cI, 16, .inl (ro 16 nu))), (a2, .inl (cI, 16, .inl (ro 16 ti))), (a3, .inl (cI, 16, .inl (ro 16 je))), (a4, .inl (cI, 16, .inl (ro 16 ac)))] [.ref a0, .int (nI x), .int (nI y)] (fun (v : Option Value) (_ : Unit) => v = some (.int (if x < n then nI (numS nu ti je ac y x) else -1))) (fun _ : Unit => [(a0, .inr (1, [.ref a1, .ref a2, .ref a3, .ref a4, .int (nI n), .int (nI g)])), (a1, .inl (cI, 16, .inl (ro 16 nu))), (a2, .inl (cI, 16, .inl (ro 16 ti))), (a3, .inl (cI, 16, .inl (ro 16 je))), (a4, .inl (cI, 16, .inl (ro 16 ac)))]) := by
  refine KM.of (cc := cX1_numberAt) (maxL := 3) (ret := (some .int)) (by decide) rfl (Nat.le_of_ble_eq_true rfl) ?_
  intro p9 e9 s9 m9 ar9 be9 me9 c9 Q9 A9 ls C0 hN hnm hlk hK hA hret hP hD hS hl
  obtain ⟨hx, hb, hml, hown, hts⟩ := id C0
  have hl : lv_has ls 3 [(0, .ref a0), (1, .int (nI x)), (2, .int (nI y))] := hl
  obtain ⟨H, hH0⟩ : ∃ H, H = s9.heap := ⟨_, rfl⟩
  obtain ⟨locs, hlc0⟩ : ∃ z : List Loc, z = [] := ⟨_, rfl⟩
  have hP : va_P D vwCl [(a0, .inr (1, [.ref a1, .ref a2, .ref a3, .ref a4, .int (nI n), .int (nI g)])), (a1, .inl (cI, 16, .inl (ro 16 nu))), (a2, .inl (cI, 16, .inl (ro 16 ti))), (a3, .inl (cI, 16, .inl (ro 16 je))), (a4, .inl (cI, 16, .inl (ro 16 ac)))] H := by rw [hH0]; exact hP
  have hD : va_D A9 [(a0, .inr (1, [.ref a1, .ref a2, .ref a3, .ref a4, .int (nI n), .int (nI g)])), (a1, .inl (cI, 16, .inl (ro 16 nu))), (a2, .inl (cI, 16, .inl (ro 16 ti))), (a3, .inl (cI, 16, .inl (ro 16 je))), (a4, .inl (cI, 16, .inl (ro 16 ac)))] := hD
  have hS : va_S A9 s9.heap H locs := by rw [hH0, hlc0]; exact hS
  suffices hgo : W p9 l e9 ({ frames := 0, cells := 0, slots := 0, locals := 0 } : Room) s9 m9 ar9 be9 me9 c9 H locs 0 0 Q9 (F0 m9 0 ls []) by rw [hH0, hlc0] at hgo; exact hgo
  clear hH0 hlc0
  refine lv_iload_n hx hb dX1_numberAt_0 rfl (lv_at hl 1 rfl) ?_
  refine lv_if_lt (tgt := 12) hx hb dX1_numberAt_1 (by decide) (fun c_1 => ?_) (fun c_1 => ?_)
  · exact absurd c_1 (nI_pos (by omega))
  ·
    refine lv_iload_n hx hb dX1_numberAt_4 rfl (lv_at hl 1 rfl) ?_
    refine lv_aload_n hx hb dX1_numberAt_5 rfl (lv_at hl 0 rfl) ?_
    refine va_get (D := D) (ci := 1) (v := .int (nI n)) (C := RX1) (T := TX1) (N := 6) hx hb hts in_X1_numberAt_X1 hown hK hP 0 rfl rfl 4 (by decide) (hts _ fl_X1_numberAt_28) (fun _ h9 => h9) rfl dX1_numberAt_6 ?_
    refine q_ilt (tgt := 14) (by omega) (by omega) hx hb dX1_numberAt_9 (by decide) (fun c_9 => ?_) (fun c_9 => ?_)
    ·
      refine lv_iload_n hx hb dX1_numberAt_14 rfl (lv_at hl 2 rfl) ?_
      by_cases c_15_0 : y = 0
      ·
        have hsw : ((nI y)).toInt = 0 := by rw [c_15_0]; decide +kernel
        refine lv_tableIn (off := 25) (tgt := 40) hx hb dX1_numberAt_15 (by rw [hsw]; decide) (by rw [hsw]; decide) (by rw [hsw]; rfl) (by decide) ?_
        refine lv_aload_n hx hb dX1_numberAt_40 rfl (lv_at hl 0 rfl) ?_
        refine va_get (D := D) (ci := 1) (v := .ref a1) (C := RX1) (T := TX1) (N := 6) hx hb hts in_X1_numberAt_X1 hown hK hP 0 rfl rfl 0 (by decide) (hts _ fl_X1_numberAt_9) (fun _ h9 => h9) rfl dX1_numberAt_41 ?_
        refine lv_iload_n hx hb dX1_numberAt_44 rfl (lv_at hl 1 rfl) ?_
        refine q_iald 1 0 (by omega) (by omega) hx hb hK hP rfl rfl dX1_numberAt_45 ?_
        exact hret _ _ _ _ (some (.int (nI (nu x)))) () 46 ls (by decide) (by decide) (by first | exact rvi (if_neg (by omega)).symm | exact rvi (by rw [if_pos (by omega)]; congr 1; unfold numS; (repeat' split) <;> first | rfl | (exfalso; omega))) hP hD hS (ret_i dX1_numberAt_46)
      by_cases c_15_1 : y = 1
      ·
        have hsw : ((nI y)).toInt = 1 := by rw [c_15_1]; decide +kernel
        refine lv_tableIn (off := 32) (tgt := 47) hx hb dX1_numberAt_15 (by rw [hsw]; decide) (by rw [hsw]; decide) (by rw [hsw]; rfl) (by decide) ?_
        refine lv_aload_n hx hb dX1_numberAt_47 rfl (lv_at hl 0 rfl) ?_
        refine va_get (D := D) (ci := 1) (v := .ref a2) (C := RX1) (T := TX1) (N := 6) hx hb hts in_X1_numberAt_X1 hown hK hP 0 rfl rfl 1 (by decide) (hts _ fl_X1_numberAt_15) (fun _ h9 => h9) rfl dX1_numberAt_48 ?_
        refine lv_iload_n hx hb dX1_numberAt_51 rfl (lv_at hl 1 rfl) ?_
        refine q_iald 2 0 (by omega) (by omega) hx hb hK hP rfl rfl dX1_numberAt_52 ?_
        exact hret _ _ _ _ (some (.int (nI (ti x)))) () 53 ls (by decide) (by decide) (by first | exact rvi (if_neg (by omega)).symm | exact rvi (by rw [if_pos (by omega)]; congr 1; unfold numS; (repeat' split) <;> first | rfl | (exfalso; omega))) hP hD hS (ret_i dX1_numberAt_53)
      by_cases c_15_2 : y = 2
      ·
        have hsw : ((nI y)).toInt = 2 := by rw [c_15_2]; decide +kernel
        refine lv_tableIn (off := 39) (tgt := 54) hx hb dX1_numberAt_15 (by rw [hsw]; decide) (by rw [hsw]; decide) (by rw [hsw]; rfl) (by decide) ?_
        refine lv_aload_n hx hb dX1_numberAt_54 rfl (lv_at hl 0 rfl) ?_
        refine va_get (D := D) (ci := 1) (v := .ref a3) (C := RX1) (T := TX1) (N := 6) hx hb hts in_X1_numberAt_X1 hown hK hP 0 rfl rfl 2 (by decide) (hts _ fl_X1_numberAt_18) (fun _ h9 => h9) rfl dX1_numberAt_55 ?_
        refine lv_iload_n hx hb dX1_numberAt_58 rfl (lv_at hl 1 rfl) ?_
        refine q_iald 3 0 (by omega) (by omega) hx hb hK hP rfl rfl dX1_numberAt_59 ?_
        exact hret _ _ _ _ (some (.int (nI (je x)))) () 60 ls (by decide) (by decide) (by first | exact rvi (if_neg (by omega)).symm | exact rvi (by rw [if_pos (by omega)]; congr 1; unfold numS; (repeat' split) <;> first | rfl | (exfalso; omega))) hP hD hS (ret_i dX1_numberAt_60)
      have hsw : (nI y).toInt = (y : Int) := nI_toInt (by omega)
      refine lv_tableOut (tgt := 61) hx hb dX1_numberAt_15 (by rw [hsw]; omega) (by decide) ?_
      refine lv_aload_n hx hb dX1_numberAt_61 rfl (lv_at hl 0 rfl) ?_
      refine va_get (D := D) (ci := 1) (v := .ref a4) (C := RX1) (T := TX1) (N := 6) hx hb hts in_X1_numberAt_X1 hown hK hP 0 rfl rfl 3 (by decide) (hts _ fl_X1_numberAt_21) (fun _ h9 => h9) rfl dX1_numberAt_62 ?_
      refine lv_iload_n hx hb dX1_numberAt_65 rfl (lv_at hl 1 rfl) ?_
      refine q_iald 4 0 (by omega) (by omega) hx hb hK hP rfl rfl dX1_numberAt_66 ?_
      exact hret _ _ _ _ (some (.int (nI (ac x)))) () 67 ls (by decide) (by decide) (by first | exact rvi (if_neg (by omega)).symm | exact rvi (by rw [if_pos (by omega)]; congr 1; unfold numS; (repeat' split) <;> first | rfl | (exfalso; omega))) hP hD hS (ret_i dX1_numberAt_67)
    ·
      refine lv_iconst (v := (-1)) hx hb dX1_numberAt_12 (by decide +kernel) ?_
      exact hret _ _ _ _ (some (.int (-1))) () 13 ls (by decide) (by decide) (by first | exact rvi (if_neg (by omega)).symm | exact rvi (by rw [if_pos (by omega)]; congr 1; unfold numS; (repeat' split) <;> first | rfl | (exfalso; omega))) hP hD hS (ret_i dX1_numberAt_13)
