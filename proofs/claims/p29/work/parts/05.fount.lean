theorem in_X2_partOf_X2 : ∀ w ∈ wsX20, w ∈ wsX2_partOf := by decide +kernel
theorem fl_X2_partOf_24 : Cond.fieldLink RX2 24 "FountainCues$Fountain" "limits" "[I" ∈ wsX2_partOf := by decide +kernel
theorem fl_X2_partOf_9 : Cond.fieldLink RX2 9 "FountainCues$Fountain" "sizes" "[I" ∈ wsX2_partOf := by decide +kernel
set_option maxHeartbeats 4000000 in
set_option maxRecDepth 100000 in
theorem k_X2_partOf (l : Launch) (D : va_G) (cI cS cL : ClassId) (a0 : Nat) (a1 : Nat) (a2 : Nat) (a3 : Nat) (a4 : Nat) (a5 : Nat) (a6 : Nat) (sz : Nat → Nat) (co : Nat → Nat) (va : Nat → Nat) (am : Nat → Nat) (li : Nat → Nat) (se : Nat → Nat) (w : Nat) (j : Nat) (q : Nat) (hB : fB sz va am li se w) (hj : j < 8) (hq : q < 2 ^ 31) : KM l D (TY cI cS cL) yX2_partOf wsX2_partOf ({ frames := 2, cells := 0, slots := 0, locals := 42 } : Room) [(a0, .inr (2, [.ref a1, .ref a2, .ref a3, .ref a4, .ref a5, .ref a6, .int (nI w)])), (a1, .inl (cI, 8, .inl (ro 8 sz))), (a2, .inl (cI, 8, .inl (ro 8 co))), (a3, .inl (cI, 8, .inl (ro 8 va))), (a4, .inl (cI, 8, .inl (ro 8 am))), (a5, .inl (cI, 2, .inl (ro 2 li))), (a6, .inl (cI, 3, .inl (ro 3 se)))] [.ref a0, .int (nI j), .int (nI q)] (fun (v : Option Value) (_ : Unit) => v = some (.int (nI (fPart sz va li se w j q)))) (fun _ : Unit => [(a0, .inr (2, [.ref a1, .ref a2, .ref a3, .ref a4, .ref a5, .ref a6, .int (nI w)])), (a1, .inl (cI, 8, .inl (ro 8 sz))), (a2, .inl (cI, 8, .inl (ro 8 co))), (a3, .inl (cI, 8, .inl (ro 8 va))), (a4, .inl (cI, 8, .inl (ro 8 am))), (a5, .inl (cI, 2, .inl (ro 2 li))), (a6, .inl (cI, 3, .inl (ro 3 se)))]) := by
  refine KM.of (cc := cX2_partOf) (maxL := 5) (ret := (some .int)) (by decide) rfl (Nat.le_of_ble_eq_true rfl) ?_
  intro p9 e9 s9 m9 ar9 be9 me9 c9 Q9 A9 ls C0 hN hnm hlk hK hA hret hP hD hS hl
  obtain ⟨hx, hb, hml, hown, hts⟩ := id C0
  have hl : lv_has ls 5 [(0, .ref a0), (1, .int (nI j)), (2, .int (nI q))] := hl
  obtain ⟨H, hH0⟩ : ∃ H, H = s9.heap := ⟨_, rfl⟩
  obtain ⟨locs, hlc0⟩ : ∃ z : List Loc, z = [] := ⟨_, rfl⟩
  have hP : va_P D vwCl [(a0, .inr (2, [.ref a1, .ref a2, .ref a3, .ref a4, .ref a5, .ref a6, .int (nI w)])), (a1, .inl (cI, 8, .inl (ro 8 sz))), (a2, .inl (cI, 8, .inl (ro 8 co))), (a3, .inl (cI, 8, .inl (ro 8 va))), (a4, .inl (cI, 8, .inl (ro 8 am))), (a5, .inl (cI, 2, .inl (ro 2 li))), (a6, .inl (cI, 3, .inl (ro 3 se)))] H := by rw [hH0]; exact hP
  have hD : va_D A9 [(a0, .inr (2, [.ref a1, .ref a2, .ref a3, .ref a4, .ref a5, .ref a6, .int (nI w)])), (a1, .inl (cI, 8, .inl (ro 8 sz))), (a2, .inl (cI, 8, .inl (ro 8 co))), (a3, .inl (cI, 8, .inl (ro 8 va))), (a4, .inl (cI, 8, .inl (ro 8 am))), (a5, .inl (cI, 2, .inl (ro 2 li))), (a6, .inl (cI, 3, .inl (ro 3 se)))] := hD
  have hS : va_S A9 s9.heap H locs := by rw [hH0, hlc0]; exact hS
  suffices hgo : W p9 l e9 ({ frames := 2, cells := 0, slots := 0, locals := 42 } : Room) s9 m9 ar9 be9 me9 c9 H locs 0 0 Q9 (F0 m9 0 ls []) by rw [hH0, hlc0] at hgo; exact hgo
  clear hH0 hlc0
  obtain ⟨hB1, hB2, hB3, hB4, hB5, hB6, hB7, hB8⟩ := id hB
  have hs1 := hB1 j hj
  have hl1 := hB4 (j / 4) (by omega)
  have ha1 := asks_le hB hj
  have hm1 : sz j * va j * li (j / 4) ≤ 200 * 2000 := Nat.mul_le_mul ha1 hl1
  have hm2 : fHi se w * sz j ≤ 10 * 20 := Nat.mul_le_mul fHi_le hs1.2
  have hm3 : sz j * va j * li (j / 4) / q ≤ sz j * va j * li (j / 4) := Nat.div_le_self _ _
  refine lv_aload_n hx hb dX2_partOf_0 rfl (lv_at hl 0 rfl) ?_
  refine va_get (D := D) (ci := 2) (v := .ref a5) (C := RX2) (T := TX2) (N := 7) hx hb hts in_X2_partOf_X2 hown hK hP 0 rfl rfl 4 (by decide) (hts _ fl_X2_partOf_24) (fun _ h9 => h9) rfl dX2_partOf_1 ?_
  refine lv_iload_n hx hb dX2_partOf_4 rfl (lv_at hl 1 rfl) ?_
  refine lv_iconst (v := nI 4) hx hb dX2_partOf_5 (by decide +kernel) ?_
  refine q_idiv (by omega) (by omega) (by omega) hx hb dX2_partOf_6 ?_
  refine q_iald 5 0 (by omega) (by omega) hx hb hK hP rfl rfl dX2_partOf_7 ?_
  refine lv_istore_n (lv' := [(3, .int (nI (li (j / 4)))), (0, .ref a0), (1, .int (nI j)), (2, .int (nI q))]) hx hb dX2_partOf_8 rfl hl (by decide) rfl (fun ls hl => ?_)
  refine lv_aload_n hx hb dX2_partOf_9 rfl (lv_at hl 1 rfl) ?_
  refine lv_iload_n hx hb dX2_partOf_10 rfl (lv_at hl 2 rfl) ?_
  refine KM.callV (As := [.int (nI j)]) (rest := []) C0 hN (k_X2_asks l D cI cS cL a0 a1 a2 a3 a4 a5 a6 sz co va am li se w j  (by first | with_reducible assumption | omega)) (cwV 1 hts gX2_partOf_X2_asks rfl rfl rfl (by decide +kernel) ⟨Nat.le_of_ble_eq_true rfl, Nat.le_of_ble_eq_true rfl⟩) hK hP hD hS hA [0, 1, 2, 3, 4, 5, 6] rfl (by decide) (fun _ => rfl) 0 2 rfl rfl rfl rfl hl.1 rfl (Nat.le_of_ble_eq_true rfl) dX2_partOf_11 ⟨Nat.le_of_ble_eq_true rfl, Nat.le_of_ble_eq_true rfl⟩ (fun v9 u9 H locs hv hP hD hS => ?_)
  subst hv
  have hP : va_P D vwCl [(a0, .inr (2, [.ref a1, .ref a2, .ref a3, .ref a4, .ref a5, .ref a6, .int (nI w)])), (a1, .inl (cI, 8, .inl (ro 8 sz))), (a2, .inl (cI, 8, .inl (ro 8 co))), (a3, .inl (cI, 8, .inl (ro 8 va))), (a4, .inl (cI, 8, .inl (ro 8 am))), (a5, .inl (cI, 2, .inl (ro 2 li))), (a6, .inl (cI, 3, .inl (ro 3 se)))] H := hP
  have hD : va_D A9 [(a0, .inr (2, [.ref a1, .ref a2, .ref a3, .ref a4, .ref a5, .ref a6, .int (nI w)])), (a1, .inl (cI, 8, .inl (ro 8 sz))), (a2, .inl (cI, 8, .inl (ro 8 co))), (a3, .inl (cI, 8, .inl (ro 8 va))), (a4, .inl (cI, 8, .inl (ro 8 am))), (a5, .inl (cI, 2, .inl (ro 2 li))), (a6, .inl (cI, 3, .inl (ro 3 se)))] := hD
  refine W.eq (g2 := F0 m9 14 ls [.int (nI (sz j * va j))]) rfl ?_
  refine lv_istore (lv' := [(4, .int (nI (sz j * va j))), (3, .int (nI (li (j / 4)))), (0, .ref a0), (1, .int (nI j)), (2, .int (nI q))]) hx hb dX2_partOf_14 hl (by decide) rfl (fun ls hl => ?_)
  have L31 : ∀ (g : Nat) (H : Heap) (locs : List Loc) (ls : Array Slot), (g = if li (j / 4) < q then sz j * va j * li (j / 4) / q else sz j * va j) →  va_P D vwCl [(a0, .inr (2, [.ref a1, .ref a2, .ref a3, .ref a4, .ref a5, .ref a6, .int (nI w)])), (a1, .inl (cI, 8, .inl (ro 8 sz))), (a2, .inl (cI, 8, .inl (ro 8 co))), (a3, .inl (cI, 8, .inl (ro 8 va))), (a4, .inl (cI, 8, .inl (ro 8 am))), (a5, .inl (cI, 2, .inl (ro 2 li))), (a6, .inl (cI, 3, .inl (ro 3 se)))] H → va_D A9 [(a0, .inr (2, [.ref a1, .ref a2, .ref a3, .ref a4, .ref a5, .ref a6, .int (nI w)])), (a1, .inl (cI, 8, .inl (ro 8 sz))), (a2, .inl (cI, 8, .inl (ro 8 co))), (a3, .inl (cI, 8, .inl (ro 8 va))), (a4, .inl (cI, 8, .inl (ro 8 am))), (a5, .inl (cI, 2, .inl (ro 2 li))), (a6, .inl (cI, 3, .inl (ro 3 se)))] → va_S A9 s9.heap H locs → lv_has ls 5 [(0, .ref a0), (1, .int (nI j)), (4, .int (nI g))] → W p9 l e9 ({ frames := 2, cells := 0, slots := 0, locals := 42 } : Room) s9 m9 ar9 be9 me9 c9 H locs 0 0 Q9 (F0 m9 31 ls []) := by
    intro g H locs ls hg  hP hD hS hl
    have hg9 : g < 2 ^ 31 := by rw [hg]; split <;> omega
    refine lv_iload hx hb dX2_partOf_31 (lv_at hl 2 rfl) ?_
    refine lv_aload_n hx hb dX2_partOf_33 rfl (lv_at hl 0 rfl) ?_
    refine KM.callV (As := []) (rest := [.int (nI g)]) C0 hN (k_X2_highestInWind l D cI cS cL a0 a1 a2 a3 a4 a5 a6 sz co va am li se w  (by first | with_reducible assumption | omega)) (cwV 0 hts gX2_partOf_X2_highestInWind rfl rfl rfl (by decide +kernel) ⟨Nat.le_of_ble_eq_true rfl, Nat.le_of_ble_eq_true rfl⟩) hK hP hD hS hA [0, 1, 2, 3, 4, 5, 6] rfl (by decide) (fun _ => rfl) 0 2 rfl rfl rfl rfl hl.1 rfl (Nat.le_of_ble_eq_true rfl) dX2_partOf_34 ⟨Nat.le_of_ble_eq_true rfl, Nat.le_of_ble_eq_true rfl⟩ (fun v9 u9 H locs hv hP hD hS => ?_)
    subst hv
    have hP : va_P D vwCl [(a0, .inr (2, [.ref a1, .ref a2, .ref a3, .ref a4, .ref a5, .ref a6, .int (nI w)])), (a1, .inl (cI, 8, .inl (ro 8 sz))), (a2, .inl (cI, 8, .inl (ro 8 co))), (a3, .inl (cI, 8, .inl (ro 8 va))), (a4, .inl (cI, 8, .inl (ro 8 am))), (a5, .inl (cI, 2, .inl (ro 2 li))), (a6, .inl (cI, 3, .inl (ro 3 se)))] H := hP
    have hD : va_D A9 [(a0, .inr (2, [.ref a1, .ref a2, .ref a3, .ref a4, .ref a5, .ref a6, .int (nI w)])), (a1, .inl (cI, 8, .inl (ro 8 sz))), (a2, .inl (cI, 8, .inl (ro 8 co))), (a3, .inl (cI, 8, .inl (ro 8 va))), (a4, .inl (cI, 8, .inl (ro 8 am))), (a5, .inl (cI, 2, .inl (ro 2 li))), (a6, .inl (cI, 3, .inl (ro 3 se)))] := hD
    refine W.eq (g2 := F0 m9 37 ls [.int (nI (fHi se w)), .int (nI g)]) rfl ?_
    refine lv_aload_n hx hb dX2_partOf_37 rfl (lv_at hl 0 rfl) ?_
    refine va_get (D := D) (ci := 2) (v := .ref a1) (C := RX2) (T := TX2) (N := 7) hx hb hts in_X2_partOf_X2 hown hK hP 0 rfl rfl 0 (by decide) (hts _ fl_X2_partOf_9) (fun _ h9 => h9) rfl dX2_partOf_38 ?_
    refine lv_iload_n hx hb dX2_partOf_41 rfl (lv_at hl 1 rfl) ?_
    refine q_iald 1 0 (by omega) (by omega) hx hb hK hP rfl rfl dX2_partOf_42 ?_
    refine q_imul hx hb dX2_partOf_43 ?_
    refine va_mmin hx hb (hml.trans hl.1.symm) hown (hts (.methodLink RX2 38 Lib.Math.min.name) (by decide +kernel)) (hts (.static Lib.Math.min.name) (by decide +kernel)) (hts (.initialized "java/lang/Math") (by decide +kernel)) (hts (.code Lib.Math.min.name Lib.Math.min.code 2 (some .int)) (by decide +kernel)) (Nat.le_of_ble_eq_true rfl) (Nat.le_of_ble_eq_true rfl) (Nat.zero_le _) (Nat.zero_le _) dX2_partOf_44 ?_
    refine q_topi (y := (nI (min g (fHi se w * sz j)))) (by exact mn_n (by omega) (by omega)) ?_
    exact hret _ _ _ _ (some (.int (nI (min g (fHi se w * sz j))))) () 47 ls (by decide) (by decide) (by exact rv (by unfold fPart; rw [← hg])) hP hD hS (ret_i dX2_partOf_47)
  refine lv_iload_n hx hb dX2_partOf_16 rfl (lv_at hl 4 rfl) ?_
  refine lv_iload_n hx hb dX2_partOf_17 rfl (lv_at hl 1 rfl) ?_
  refine q_ile (tgt := 31) (by omega) (by omega) hx hb dX2_partOf_18 (by decide) (fun c_18 => ?_) (fun c_18 => ?_)
  ·
    exact L31  (sz j * va j) _ _ ls (by first | exact (if_pos (by omega)).symm | exact (if_neg (by omega)).symm)  hP hD hS (lv_sub hl [2, 3, 0] rfl)
  ·
    refine lv_iload hx hb dX2_partOf_21 (lv_at hl 0 rfl) ?_
    refine lv_iload_n hx hb dX2_partOf_23 rfl (lv_at hl 1 rfl) ?_
    refine q_imul hx hb dX2_partOf_24 ?_
    refine lv_iload_n hx hb dX2_partOf_25 rfl (lv_at hl 4 rfl) ?_
    refine KM.callSN (As := [.int (nI ((sz j * va j) * (li (j / 4)))), .int (nI q)]) (rest := []) C0 hN (k_X5_quotient l D cI cS cL ((sz j * va j) * (li (j / 4))) q  (by first | with_reducible assumption | omega) (by first | with_reducible assumption | omega)) ⟨va_cnB 2 hts gX2_partOf_X5_quotient_n57 rfl rfl rfl (hN.1 (RX2, 57, yX5_quotient, RX5) (by decide +kernel)) (hts (.initialized RX5) (by decide +kernel)) (by decide +kernel) ⟨Nat.le_of_ble_eq_true rfl, Nat.le_of_ble_eq_true rfl⟩, (hts (.static yX5_quotient) (by decide +kernel)), trivial⟩ hK hP hD hS hA [] rfl (by decide) (fun _ => rfl) rfl hl.1 rfl (Nat.le_of_ble_eq_true rfl) dX2_partOf_26 ⟨Nat.le_of_ble_eq_true rfl, Nat.le_of_ble_eq_true rfl⟩ (fun v9 u9 H locs hv hP hD hS => ?_)
    subst hv
    have hP : va_P D vwCl [(a0, .inr (2, [.ref a1, .ref a2, .ref a3, .ref a4, .ref a5, .ref a6, .int (nI w)])), (a1, .inl (cI, 8, .inl (ro 8 sz))), (a2, .inl (cI, 8, .inl (ro 8 co))), (a3, .inl (cI, 8, .inl (ro 8 va))), (a4, .inl (cI, 8, .inl (ro 8 am))), (a5, .inl (cI, 2, .inl (ro 2 li))), (a6, .inl (cI, 3, .inl (ro 3 se)))] H := hP
    have hD : va_D A9 [(a0, .inr (2, [.ref a1, .ref a2, .ref a3, .ref a4, .ref a5, .ref a6, .int (nI w)])), (a1, .inl (cI, 8, .inl (ro 8 sz))), (a2, .inl (cI, 8, .inl (ro 8 co))), (a3, .inl (cI, 8, .inl (ro 8 va))), (a4, .inl (cI, 8, .inl (ro 8 am))), (a5, .inl (cI, 2, .inl (ro 2 li))), (a6, .inl (cI, 3, .inl (ro 3 se)))] := hD
    refine W.eq (g2 := F0 m9 29 ls [.int (nI (((sz j * va j) * (li (j / 4))) / q))]) rfl ?_
    refine lv_istore (lv' := [(4, .int (nI (((sz j * va j) * (li (j / 4))) / q))), (3, .int (nI (li (j / 4)))), (0, .ref a0), (1, .int (nI j)), (2, .int (nI q))]) hx hb dX2_partOf_29 hl (by decide) rfl (fun ls hl => ?_)
    exact L31  (((sz j * va j) * (li (j / 4))) / q) _ _ ls (by first | exact (if_pos (by omega)).symm | exact (if_neg (by omega)).symm)  hP hD hS (lv_sub hl [2, 3, 0] rfl)

set_option maxHeartbeats 4000000 in
set_option maxRecDepth 100000 in
theorem k_X2_gets (l : Launch) (D : va_G) (cI cS cL : ClassId) (a0 : Nat) (a1 : Nat) (a2 : Nat) (a3 : Nat) (a4 : Nat) (a5 : Nat) (a6 : Nat) (sz : Nat → Nat) (co : Nat → Nat) (va : Nat → Nat) (am : Nat → Nat) (li : Nat → Nat) (se : Nat → Nat) (w : Nat) (j : Nat) (hB : fB sz va am li se w) (hj : j < 8) : KM l D (TY cI cS cL) yX2_gets wsX2_gets ({ frames := 3, cells := 0, slots := 0, locals := 66 } : Room) [(a0, .inr (2, [.ref a1, .ref a2, .ref a3, .ref a4, .ref a5, .ref a6, .int (nI w)])), (a1, .inl (cI, 8, .inl (ro 8 sz))), (a2, .inl (cI, 8, .inl (ro 8 co))), (a3, .inl (cI, 8, .inl (ro 8 va))), (a4, .inl (cI, 8, .inl (ro 8 am))), (a5, .inl (cI, 2, .inl (ro 2 li))), (a6, .inl (cI, 3, .inl (ro 3 se)))] [.ref a0, .int (nI j)] (fun (v : Option Value) (_ : Unit) => v = some (.int (nI (fGets sz va li se w j)))) (fun _ : Unit => [(a0, .inr (2, [.ref a1, .ref a2, .ref a3, .ref a4, .ref a5, .ref a6, .int (nI w)])), (a1, .inl (cI, 8, .inl (ro 8 sz))), (a2, .inl (cI, 8, .inl (ro 8 co))), (a3, .inl (cI, 8, .inl (ro 8 va))), (a4, .inl (cI, 8, .inl (ro 8 am))), (a5, .inl (cI, 2, .inl (ro 2 li))), (a6, .inl (cI, 3, .inl (ro 3 se)))]) := by
  refine KM.of (cc := cX2_gets) (maxL := 2) (ret := (some .int)) (by decide) rfl (Nat.le_of_ble_eq_true rfl) ?_
  intro p9 e9 s9 m9 ar9 be9 me9 c9 Q9 A9 ls C0 hN hnm hlk hK hA hret hP hD hS hl
  obtain ⟨hx, hb, hml, hown, hts⟩ := id C0
  have hl : lv_has ls 2 [(0, .ref a0), (1, .int (nI j))] := hl
  obtain ⟨H, hH0⟩ : ∃ H, H = s9.heap := ⟨_, rfl⟩
  obtain ⟨locs, hlc0⟩ : ∃ z : List Loc, z = [] := ⟨_, rfl⟩
  have hP : va_P D vwCl [(a0, .inr (2, [.ref a1, .ref a2, .ref a3, .ref a4, .ref a5, .ref a6, .int (nI w)])), (a1, .inl (cI, 8, .inl (ro 8 sz))), (a2, .inl (cI, 8, .inl (ro 8 co))), (a3, .inl (cI, 8, .inl (ro 8 va))), (a4, .inl (cI, 8, .inl (ro 8 am))), (a5, .inl (cI, 2, .inl (ro 2 li))), (a6, .inl (cI, 3, .inl (ro 3 se)))] H := by rw [hH0]; exact hP
  have hD : va_D A9 [(a0, .inr (2, [.ref a1, .ref a2, .ref a3, .ref a4, .ref a5, .ref a6, .int (nI w)])), (a1, .inl (cI, 8, .inl (ro 8 sz))), (a2, .inl (cI, 8, .inl (ro 8 co))), (a3, .inl (cI, 8, .inl (ro 8 va))), (a4, .inl (cI, 8, .inl (ro 8 am))), (a5, .inl (cI, 2, .inl (ro 2 li))), (a6, .inl (cI, 3, .inl (ro 3 se)))] := hD
  have hS : va_S A9 s9.heap H locs := by rw [hH0, hlc0]; exact hS
  suffices hgo : W p9 l e9 ({ frames := 3, cells := 0, slots := 0, locals := 66 } : Room) s9 m9 ar9 be9 me9 c9 H locs 0 0 Q9 (F0 m9 0 ls []) by rw [hH0, hlc0] at hgo; exact hgo
  clear hH0 hlc0
  have hp9 := pA_le hB (show j / 4 < 2 by omega)
  refine lv_aload_n hx hb dX2_gets_0 rfl (lv_at hl 0 rfl) ?_
  refine lv_iload_n hx hb dX2_gets_1 rfl (lv_at hl 1 rfl) ?_
  refine lv_aload_n hx hb dX2_gets_2 rfl (lv_at hl 0 rfl) ?_
  refine lv_iload_n hx hb dX2_gets_3 rfl (lv_at hl 1 rfl) ?_
  refine lv_iconst (v := nI 4) hx hb dX2_gets_4 (by decide +kernel) ?_
  refine q_idiv (by omega) (by omega) (by omega) hx hb dX2_gets_5 ?_
  refine KM.callV (As := [.int (nI (j / 4))]) (rest := [.int (nI j), .ref a0]) C0 hN (k_X2_pumpAsks l D cI cS cL a0 a1 a2 a3 a4 a5 a6 sz co va am li se w (j / 4)  (by first | with_reducible assumption | omega)) (cwV 1 hts gX2_gets_X2_pumpAsks rfl rfl rfl (by decide +kernel) ⟨Nat.le_of_ble_eq_true rfl, Nat.le_of_ble_eq_true rfl⟩) hK hP hD hS hA [0, 1, 2, 3, 4, 5, 6] rfl (by decide) (fun _ => rfl) 0 2 rfl rfl rfl rfl hl.1 rfl (Nat.le_of_ble_eq_true rfl) dX2_gets_6 ⟨Nat.le_of_ble_eq_true rfl, Nat.le_of_ble_eq_true rfl⟩ (fun v9 u9 H locs hv hP hD hS => ?_)
  subst hv
  have hP : va_P D vwCl [(a0, .inr (2, [.ref a1, .ref a2, .ref a3, .ref a4, .ref a5, .ref a6, .int (nI w)])), (a1, .inl (cI, 8, .inl (ro 8 sz))), (a2, .inl (cI, 8, .inl (ro 8 co))), (a3, .inl (cI, 8, .inl (ro 8 va))), (a4, .inl (cI, 8, .inl (ro 8 am))), (a5, .inl (cI, 2, .inl (ro 2 li))), (a6, .inl (cI, 3, .inl (ro 3 se)))] H := hP
  have hD : va_D A9 [(a0, .inr (2, [.ref a1, .ref a2, .ref a3, .ref a4, .ref a5, .ref a6, .int (nI w)])), (a1, .inl (cI, 8, .inl (ro 8 sz))), (a2, .inl (cI, 8, .inl (ro 8 co))), (a3, .inl (cI, 8, .inl (ro 8 va))), (a4, .inl (cI, 8, .inl (ro 8 am))), (a5, .inl (cI, 2, .inl (ro 2 li))), (a6, .inl (cI, 3, .inl (ro 3 se)))] := hD
  refine W.eq (g2 := F0 m9 9 ls [.int (nI (pA sz va (j / 4))), .int (nI j), .ref a0]) rfl ?_
  refine KM.callV (As := [.int (nI j), .int (nI (pA sz va (j / 4)))]) (rest := []) C0 hN (k_X2_partOf l D cI cS cL a0 a1 a2 a3 a4 a5 a6 sz co va am li se w j (pA sz va (j / 4))  (by first | with_reducible assumption | omega) (by first | with_reducible assumption | omega) (by first | with_reducible assumption | omega)) (cwV 2 hts gX2_gets_X2_partOf rfl rfl rfl (by decide +kernel) ⟨Nat.le_of_ble_eq_true rfl, Nat.le_of_ble_eq_true rfl⟩) hK hP hD hS hA [0, 1, 2, 3, 4, 5, 6] rfl (by decide) (fun _ => rfl) 0 2 rfl rfl rfl rfl hl.1 rfl (Nat.le_of_ble_eq_true rfl) dX2_gets_9 ⟨Nat.le_of_ble_eq_true rfl, Nat.le_of_ble_eq_true rfl⟩ (fun v9 u9 H locs hv hP hD hS => ?_)
  subst hv
  have hP : va_P D vwCl [(a0, .inr (2, [.ref a1, .ref a2, .ref a3, .ref a4, .ref a5, .ref a6, .int (nI w)])), (a1, .inl (cI, 8, .inl (ro 8 sz))), (a2, .inl (cI, 8, .inl (ro 8 co))), (a3, .inl (cI, 8, .inl (ro 8 va))), (a4, .inl (cI, 8, .inl (ro 8 am))), (a5, .inl (cI, 2, .inl (ro 2 li))), (a6, .inl (cI, 3, .inl (ro 3 se)))] H := hP
  have hD : va_D A9 [(a0, .inr (2, [.ref a1, .ref a2, .ref a3, .ref a4, .ref a5, .ref a6, .int (nI w)])), (a1, .inl (cI, 8, .inl (ro 8 sz))), (a2, .inl (cI, 8, .inl (ro 8 co))), (a3, .inl (cI, 8, .inl (ro 8 va))), (a4, .inl (cI, 8, .inl (ro 8 am))), (a5, .inl (cI, 2, .inl (ro 2 li))), (a6, .inl (cI, 3, .inl (ro 3 se)))] := hD
  refine W.eq (g2 := F0 m9 12 ls [.int (nI (fPart sz va li se w j (pA sz va (j / 4))))]) rfl ?_
  exact hret _ _ _ _ (some (.int (nI (fPart sz va li se w j (pA sz va (j / 4)))))) () 12 ls (by decide) (by decide) (by rfl) hP hD hS (ret_i dX2_gets_12)

set_option maxHeartbeats 4000000 in
set_option maxRecDepth 100000 in
theorem k_X2_pumpGives (l : Launch) (D : va_G) (cI cS cL : ClassId) (a0 : Nat) (a1 : Nat) (a2 : Nat) (a3 : Nat) (a4 : Nat) (a5 : Nat) (a6 : Nat) (sz : Nat → Nat) (co : Nat → Nat) (va : Nat → Nat) (am : Nat → Nat) (li : Nat → Nat) (se : Nat → Nat) (w : Nat) (q : Nat) (hB : fB sz va am li se w) (hq : q < 2) : KM l D (TY cI cS cL) yX2_pumpGives wsX2_pumpGives ({ frames := 3, cells := 0, slots := 0, locals := 66 } : Room) [(a0, .inr (2, [.ref a1, .ref a2, .ref a3, .ref a4, .ref a5, .ref a6, .int (nI w)])), (a1, .inl (cI, 8, .inl (ro 8 sz))), (a2, .inl (cI, 8, .inl (ro 8 co))), (a3, .inl (cI, 8, .inl (ro 8 va))), (a4, .inl (cI, 8, .inl (ro 8 am))), (a5, .inl (cI, 2, .inl (ro 2 li))), (a6, .inl (cI, 3, .inl (ro 3 se)))] [.ref a0, .int (nI q)] (fun (v : Option Value) (_ : Unit) => v = some (.int (nI (fGives sz va li se w q)))) (fun _ : Unit => [(a0, .inr (2, [.ref a1, .ref a2, .ref a3, .ref a4, .ref a5, .ref a6, .int (nI w)])), (a1, .inl (cI, 8, .inl (ro 8 sz))), (a2, .inl (cI, 8, .inl (ro 8 co))), (a3, .inl (cI, 8, .inl (ro 8 va))), (a4, .inl (cI, 8, .inl (ro 8 am))), (a5, .inl (cI, 2, .inl (ro 2 li))), (a6, .inl (cI, 3, .inl (ro 3 se)))]) := by
  refine KM.of (cc := cX2_pumpGives) (maxL := 5) (ret := (some .int)) (by decide) rfl (Nat.le_of_ble_eq_true rfl) ?_
  intro p9 e9 s9 m9 ar9 be9 me9 c9 Q9 A9 ls C0 hN hnm hlk hK hA hret hP hD hS hl
  obtain ⟨hx, hb, hml, hown, hts⟩ := id C0
  have hl : lv_has ls 5 [(0, .ref a0), (1, .int (nI q))] := hl
  obtain ⟨H, hH0⟩ : ∃ H, H = s9.heap := ⟨_, rfl⟩
  obtain ⟨locs, hlc0⟩ : ∃ z : List Loc, z = [] := ⟨_, rfl⟩
  have hP : va_P D vwCl [(a0, .inr (2, [.ref a1, .ref a2, .ref a3, .ref a4, .ref a5, .ref a6, .int (nI w)])), (a1, .inl (cI, 8, .inl (ro 8 sz))), (a2, .inl (cI, 8, .inl (ro 8 co))), (a3, .inl (cI, 8, .inl (ro 8 va))), (a4, .inl (cI, 8, .inl (ro 8 am))), (a5, .inl (cI, 2, .inl (ro 2 li))), (a6, .inl (cI, 3, .inl (ro 3 se)))] H := by rw [hH0]; exact hP
  have hD : va_D A9 [(a0, .inr (2, [.ref a1, .ref a2, .ref a3, .ref a4, .ref a5, .ref a6, .int (nI w)])), (a1, .inl (cI, 8, .inl (ro 8 sz))), (a2, .inl (cI, 8, .inl (ro 8 co))), (a3, .inl (cI, 8, .inl (ro 8 va))), (a4, .inl (cI, 8, .inl (ro 8 am))), (a5, .inl (cI, 2, .inl (ro 2 li))), (a6, .inl (cI, 3, .inl (ro 3 se)))] := hD
  have hS : va_S A9 s9.heap H locs := by rw [hH0, hlc0]; exact hS
  suffices hgo : W p9 l e9 ({ frames := 3, cells := 0, slots := 0, locals := 66 } : Room) s9 m9 ar9 be9 me9 c9 H locs 0 0 Q9 (F0 m9 0 ls []) by rw [hH0, hlc0] at hgo; exact hgo
  clear hH0 hlc0
  have hp9 := pA_le hB hq
  refine lv_aload_n hx hb dX2_pumpGives_0 rfl (lv_at hl 0 rfl) ?_
  refine lv_iload_n hx hb dX2_pumpGives_1 rfl (lv_at hl 1 rfl) ?_
  refine KM.callV (As := [.int (nI q)]) (rest := []) C0 hN (k_X2_pumpAsks l D cI cS cL a0 a1 a2 a3 a4 a5 a6 sz co va am li se w q  (by first | with_reducible assumption | omega)) (cwV 1 hts gX2_pumpGives_X2_pumpAsks rfl rfl rfl (by decide +kernel) ⟨Nat.le_of_ble_eq_true rfl, Nat.le_of_ble_eq_true rfl⟩) hK hP hD hS hA [0, 1, 2, 3, 4, 5, 6] rfl (by decide) (fun _ => rfl) 0 2 rfl rfl rfl rfl hl.1 rfl (Nat.le_of_ble_eq_true rfl) dX2_pumpGives_2 ⟨Nat.le_of_ble_eq_true rfl, Nat.le_of_ble_eq_true rfl⟩ (fun v9 u9 H locs hv hP hD hS => ?_)
  subst hv
  have hP : va_P D vwCl [(a0, .inr (2, [.ref a1, .ref a2, .ref a3, .ref a4, .ref a5, .ref a6, .int (nI w)])), (a1, .inl (cI, 8, .inl (ro 8 sz))), (a2, .inl (cI, 8, .inl (ro 8 co))), (a3, .inl (cI, 8, .inl (ro 8 va))), (a4, .inl (cI, 8, .inl (ro 8 am))), (a5, .inl (cI, 2, .inl (ro 2 li))), (a6, .inl (cI, 3, .inl (ro 3 se)))] H := hP
  have hD : va_D A9 [(a0, .inr (2, [.ref a1, .ref a2, .ref a3, .ref a4, .ref a5, .ref a6, .int (nI w)])), (a1, .inl (cI, 8, .inl (ro 8 sz))), (a2, .inl (cI, 8, .inl (ro 8 co))), (a3, .inl (cI, 8, .inl (ro 8 va))), (a4, .inl (cI, 8, .inl (ro 8 am))), (a5, .inl (cI, 2, .inl (ro 2 li))), (a6, .inl (cI, 3, .inl (ro 3 se)))] := hD
  refine W.eq (g2 := F0 m9 5 ls [.int (nI (pA sz va q))]) rfl ?_
  refine lv_istore_n (lv' := [(2, .int (nI (pA sz va q))), (0, .ref a0), (1, .int (nI q))]) hx hb dX2_pumpGives_5 rfl hl (by decide) rfl (fun ls hl => ?_)
  refine lv_iconst (v := nI 0) hx hb dX2_pumpGives_6 (by decide +kernel) ?_
  refine lv_istore_n (lv' := [(3, .int (nI 0)), (2, .int (nI (pA sz va q))), (0, .ref a0), (1, .int (nI q))]) hx hb dX2_pumpGives_7 rfl hl (by decide) rfl (fun ls hl => ?_)
  refine lv_iconst (v := nI 0) hx hb dX2_pumpGives_8 (by decide +kernel) ?_
  refine lv_istore (lv' := [(4, .int (nI 0)), (3, .int (nI 0)), (2, .int (nI (pA sz va q))), (0, .ref a0), (1, .int (nI q))]) hx hb dX2_pumpGives_9 hl (by decide) rfl (fun ls hl => ?_)
  have L11 : ∀ (fuel : Nat) (i : Nat) (u : Nat) (H : Heap) (locs : List Loc) (ls : Array Slot), (i ≤ 4) → (u = sumTo (fun i => fPart sz va li se w (q * 4 + i) (pA sz va q)) i) → (4 - i < fuel) → va_P D vwCl [(a0, .inr (2, [.ref a1, .ref a2, .ref a3, .ref a4, .ref a5, .ref a6, .int (nI w)])), (a1, .inl (cI, 8, .inl (ro 8 sz))), (a2, .inl (cI, 8, .inl (ro 8 co))), (a3, .inl (cI, 8, .inl (ro 8 va))), (a4, .inl (cI, 8, .inl (ro 8 am))), (a5, .inl (cI, 2, .inl (ro 2 li))), (a6, .inl (cI, 3, .inl (ro 3 se)))] H → va_D A9 [(a0, .inr (2, [.ref a1, .ref a2, .ref a3, .ref a4, .ref a5, .ref a6, .int (nI w)])), (a1, .inl (cI, 8, .inl (ro 8 sz))), (a2, .inl (cI, 8, .inl (ro 8 co))), (a3, .inl (cI, 8, .inl (ro 8 va))), (a4, .inl (cI, 8, .inl (ro 8 am))), (a5, .inl (cI, 2, .inl (ro 2 li))), (a6, .inl (cI, 3, .inl (ro 3 se)))] → va_S A9 s9.heap H locs → lv_has ls 5 [(0, .ref a0), (1, .int (nI q)), (2, .int (nI (pA sz va q))), (3, .int (nI u)), (4, .int (nI i))] → W p9 l e9 ({ frames := 3, cells := 0, slots := 0, locals := 66 } : Room) s9 m9 ar9 be9 me9 c9 H locs 0 0 Q9 (F0 m9 11 ls []) := by
    intro fuel
    induction fuel with
    | zero => intro i u H locs ls hi hu hfu; exact absurd hfu (Nat.not_lt_zero _)
    | succ fuel ih11 =>
      intro i u H locs ls hi hu hfu hP hD hS hl
      refine lv_iload hx hb dX2_pumpGives_11 (lv_at hl 4 rfl) ?_
      refine lv_iconst (v := nI 4) hx hb dX2_pumpGives_13 (by decide +kernel) ?_
      refine q_ige (tgt := 37) (by omega) (by omega) hx hb dX2_pumpGives_14 (by decide) (fun c_14 => ?_) (fun c_14 => ?_)
      ·
        refine lv_iload_n hx hb dX2_pumpGives_37 rfl (lv_at hl 3 rfl) ?_
        exact hret _ _ _ _ (some (.int (nI u))) () 38 ls (by decide) (by decide) (by exact rv (by rw [hu, show i = 4 by omega]; rfl)) hP hD hS (ret_i dX2_pumpGives_38)
      ·
        refine lv_iload_n hx hb dX2_pumpGives_17 rfl (lv_at hl 3 rfl) ?_
        refine lv_aload_n hx hb dX2_pumpGives_18 rfl (lv_at hl 0 rfl) ?_
        refine lv_iload_n hx hb dX2_pumpGives_19 rfl (lv_at hl 1 rfl) ?_
        refine lv_iconst (v := nI 4) hx hb dX2_pumpGives_20 (by decide +kernel) ?_
        refine q_imul hx hb dX2_pumpGives_21 ?_
        refine lv_iload hx hb dX2_pumpGives_22 (lv_at hl 4 rfl) ?_
        refine q_iadd hx hb dX2_pumpGives_24 ?_
        refine lv_iload_n hx hb dX2_pumpGives_25 rfl (lv_at hl 2 rfl) ?_
        refine KM.callV (As := [.int (nI ((q * 4) + i)), .int (nI (pA sz va q))]) (rest := [.int (nI u)]) C0 hN (k_X2_partOf l D cI cS cL a0 a1 a2 a3 a4 a5 a6 sz co va am li se w ((q * 4) + i) (pA sz va q)  (by first | with_reducible assumption | omega) (by first | with_reducible assumption | omega) (by first | with_reducible assumption | omega)) (cwV 2 hts gX2_pumpGives_X2_partOf rfl rfl rfl (by decide +kernel) ⟨Nat.le_of_ble_eq_true rfl, Nat.le_of_ble_eq_true rfl⟩) hK hP hD hS hA [0, 1, 2, 3, 4, 5, 6] rfl (by decide) (fun _ => rfl) 0 2 rfl rfl rfl rfl hl.1 rfl (Nat.le_of_ble_eq_true rfl) dX2_pumpGives_26 ⟨Nat.le_of_ble_eq_true rfl, Nat.le_of_ble_eq_true rfl⟩ (fun v9 u9 H locs hv hP hD hS => ?_)
        subst hv
        have hP : va_P D vwCl [(a0, .inr (2, [.ref a1, .ref a2, .ref a3, .ref a4, .ref a5, .ref a6, .int (nI w)])), (a1, .inl (cI, 8, .inl (ro 8 sz))), (a2, .inl (cI, 8, .inl (ro 8 co))), (a3, .inl (cI, 8, .inl (ro 8 va))), (a4, .inl (cI, 8, .inl (ro 8 am))), (a5, .inl (cI, 2, .inl (ro 2 li))), (a6, .inl (cI, 3, .inl (ro 3 se)))] H := hP
        have hD : va_D A9 [(a0, .inr (2, [.ref a1, .ref a2, .ref a3, .ref a4, .ref a5, .ref a6, .int (nI w)])), (a1, .inl (cI, 8, .inl (ro 8 sz))), (a2, .inl (cI, 8, .inl (ro 8 co))), (a3, .inl (cI, 8, .inl (ro 8 va))), (a4, .inl (cI, 8, .inl (ro 8 am))), (a5, .inl (cI, 2, .inl (ro 2 li))), (a6, .inl (cI, 3, .inl (ro 3 se)))] := hD
        refine W.eq (g2 := F0 m9 29 ls [.int (nI (fPart sz va li se w ((q * 4) + i) (pA sz va q))), .int (nI u)]) rfl ?_
        refine q_iadd hx hb dX2_pumpGives_29 ?_
        refine lv_istore_n (lv' := [(3, .int (nI (u + (fPart sz va li se w ((q * 4) + i) (pA sz va q))))), (0, .ref a0), (1, .int (nI q)), (2, .int (nI (pA sz va q))), (4, .int (nI i))]) hx hb dX2_pumpGives_30 rfl hl (by decide) rfl (fun ls hl => ?_)
        refine lv_iinc (v := (nI (i + 1))) (lv' := [(4, .int (nI (i + 1))), (3, .int (nI (u + (fPart sz va li se w ((q * 4) + i) (pA sz va q))))), (0, .ref a0), (1, .int (nI q)), (2, .int (nI (pA sz va q)))]) hx hb dX2_pumpGives_31 hl (k := 4) rfl (nI_add i 1) (by decide) rfl (fun ls hl => ?_)
        refine lv_goto (tgt := 11) hx hb dX2_pumpGives_34 (by decide) ?_
        exact ih11  (i + 1) (u + (fPart sz va li se w ((q * 4) + i) (pA sz va q))) _ _ ls (by first | with_reducible assumption | omega) (by rw [hu]; rfl) (by omega) hP hD hS (lv_sub hl [2, 3, 4, 1, 0] rfl)
  exact L11 (4 - 0 + 1) 0 0 _ _ ls (by first | with_reducible assumption | omega) (by rfl) (by omega) hP hD hS (lv_sub hl [3, 4, 2, 1, 0] rfl)

set_option maxHeartbeats 4000000 in
set_option maxRecDepth 100000 in
theorem k_X2_lampsThatBurn (l : Launch) (D : va_G) (cI cS cL : ClassId) (a0 : Nat) (a1 : Nat) (a2 : Nat) (a3 : Nat) (a4 : Nat) (a5 : Nat) (a6 : Nat) (sz : Nat → Nat) (co : Nat → Nat) (va : Nat → Nat) (am : Nat → Nat) (li : Nat → Nat) (se : Nat → Nat) (w : Nat) (hB : fB sz va am li se w) : KM l D (TY cI cS cL) yX2_lampsThatBurn wsX2_lampsThatBurn ({ frames := 4, cells := 0, slots := 0, locals := 87 } : Room) [(a0, .inr (2, [.ref a1, .ref a2, .ref a3, .ref a4, .ref a5, .ref a6, .int (nI w)])), (a1, .inl (cI, 8, .inl (ro 8 sz))), (a2, .inl (cI, 8, .inl (ro 8 co))), (a3, .inl (cI, 8, .inl (ro 8 va))), (a4, .inl (cI, 8, .inl (ro 8 am))), (a5, .inl (cI, 2, .inl (ro 2 li))), (a6, .inl (cI, 3, .inl (ro 3 se)))] [.ref a0] (fun (v : Option Value) (_ : Unit) => v = some (.int (nI (fLamps sz va li se w)))) (fun _ : Unit => [(a0, .inr (2, [.ref a1, .ref a2, .ref a3, .ref a4, .ref a5, .ref a6, .int (nI w)])), (a1, .inl (cI, 8, .inl (ro 8 sz))), (a2, .inl (cI, 8, .inl (ro 8 co))), (a3, .inl (cI, 8, .inl (ro 8 va))), (a4, .inl (cI, 8, .inl (ro 8 am))), (a5, .inl (cI, 2, .inl (ro 2 li))), (a6, .inl (cI, 3, .inl (ro 3 se)))]) := by
  refine KM.of (cc := cX2_lampsThatBurn) (maxL := 3) (ret := (some .int)) (by decide) rfl (Nat.le_of_ble_eq_true rfl) ?_
  intro p9 e9 s9 m9 ar9 be9 me9 c9 Q9 A9 ls C0 hN hnm hlk hK hA hret hP hD hS hl
  obtain ⟨hx, hb, hml, hown, hts⟩ := id C0
  have hl : lv_has ls 3 [(0, .ref a0)] := hl
  obtain ⟨H, hH0⟩ : ∃ H, H = s9.heap := ⟨_, rfl⟩
  obtain ⟨locs, hlc0⟩ : ∃ z : List Loc, z = [] := ⟨_, rfl⟩
  have hP : va_P D vwCl [(a0, .inr (2, [.ref a1, .ref a2, .ref a3, .ref a4, .ref a5, .ref a6, .int (nI w)])), (a1, .inl (cI, 8, .inl (ro 8 sz))), (a2, .inl (cI, 8, .inl (ro 8 co))), (a3, .inl (cI, 8, .inl (ro 8 va))), (a4, .inl (cI, 8, .inl (ro 8 am))), (a5, .inl (cI, 2, .inl (ro 2 li))), (a6, .inl (cI, 3, .inl (ro 3 se)))] H := by rw [hH0]; exact hP
  have hD : va_D A9 [(a0, .inr (2, [.ref a1, .ref a2, .ref a3, .ref a4, .ref a5, .ref a6, .int (nI w)])), (a1, .inl (cI, 8, .inl (ro 8 sz))), (a2, .inl (cI, 8, .inl (ro 8 co))), (a3, .inl (cI, 8, .inl (ro 8 va))), (a4, .inl (cI, 8, .inl (ro 8 am))), (a5, .inl (cI, 2, .inl (ro 2 li))), (a6, .inl (cI, 3, .inl (ro 3 se)))] := hD
  have hS : va_S A9 s9.heap H locs := by rw [hH0, hlc0]; exact hS
  suffices hgo : W p9 l e9 ({ frames := 4, cells := 0, slots := 0, locals := 87 } : Room) s9 m9 ar9 be9 me9 c9 H locs 0 0 Q9 (F0 m9 0 ls []) by rw [hH0, hlc0] at hgo; exact hgo
  clear hH0 hlc0
  refine lv_iconst (v := nI 0) hx hb dX2_lampsThatBurn_0 (by decide +kernel) ?_
  refine lv_istore_n (lv' := [(1, .int (nI 0)), (0, .ref a0)]) hx hb dX2_lampsThatBurn_1 rfl hl (by decide) rfl (fun ls hl => ?_)
  refine lv_iconst (v := nI 0) hx hb dX2_lampsThatBurn_2 (by decide +kernel) ?_
  refine lv_istore_n (lv' := [(2, .int (nI 0)), (1, .int (nI 0)), (0, .ref a0)]) hx hb dX2_lampsThatBurn_3 rfl hl (by decide) rfl (fun ls hl => ?_)
  have L4 : ∀ (fuel : Nat) (i : Nat) (u : Nat) (H : Heap) (locs : List Loc) (ls : Array Slot), (i ≤ 8) → (u = sumTo (fun j => if 0 < fGets sz va li se w j / sz j then 1 else 0) i) → (8 - i < fuel) → va_P D vwCl [(a0, .inr (2, [.ref a1, .ref a2, .ref a3, .ref a4, .ref a5, .ref a6, .int (nI w)])), (a1, .inl (cI, 8, .inl (ro 8 sz))), (a2, .inl (cI, 8, .inl (ro 8 co))), (a3, .inl (cI, 8, .inl (ro 8 va))), (a4, .inl (cI, 8, .inl (ro 8 am))), (a5, .inl (cI, 2, .inl (ro 2 li))), (a6, .inl (cI, 3, .inl (ro 3 se)))] H → va_D A9 [(a0, .inr (2, [.ref a1, .ref a2, .ref a3, .ref a4, .ref a5, .ref a6, .int (nI w)])), (a1, .inl (cI, 8, .inl (ro 8 sz))), (a2, .inl (cI, 8, .inl (ro 8 co))), (a3, .inl (cI, 8, .inl (ro 8 va))), (a4, .inl (cI, 8, .inl (ro 8 am))), (a5, .inl (cI, 2, .inl (ro 2 li))), (a6, .inl (cI, 3, .inl (ro 3 se)))] → va_S A9 s9.heap H locs → lv_has ls 3 [(0, .ref a0), (1, .int (nI u)), (2, .int (nI i))] → W p9 l e9 ({ frames := 4, cells := 0, slots := 0, locals := 87 } : Room) s9 m9 ar9 be9 me9 c9 H locs 0 0 Q9 (F0 m9 4 ls []) := by
    intro fuel
    induction fuel with
    | zero => intro i u H locs ls hi hu hfu; exact absurd hfu (Nat.not_lt_zero _)
    | succ fuel ih4 =>
      intro i u H locs ls hi hu hfu hP hD hS hl
      refine lv_iload_n hx hb dX2_lampsThatBurn_4 rfl (lv_at hl 2 rfl) ?_
      refine lv_bipush (v := nI 8) hx hb dX2_lampsThatBurn_5 (by decide +kernel) ?_
      refine q_ige (tgt := 32) (by omega) (by omega) hx hb dX2_lampsThatBurn_7 (by decide) (fun c_7 => ?_) (fun c_7 => ?_)
      ·
        refine lv_iload_n hx hb dX2_lampsThatBurn_32 rfl (lv_at hl 1 rfl) ?_
        exact hret _ _ _ _ (some (.int (nI u))) () 33 ls (by decide) (by decide) (by exact rv (by rw [hu, show i = 8 by omega]; rfl)) hP hD hS (ret_i dX2_lampsThatBurn_33)
      ·
        refine lv_aload_n hx hb dX2_lampsThatBurn_10 rfl (lv_at hl 0 rfl) ?_
        refine lv_iload_n hx hb dX2_lampsThatBurn_11 rfl (lv_at hl 2 rfl) ?_
        refine lv_aload_n hx hb dX2_lampsThatBurn_12 rfl (lv_at hl 0 rfl) ?_
        refine lv_iload_n hx hb dX2_lampsThatBurn_13 rfl (lv_at hl 2 rfl) ?_
        have hg9 : fGets sz va li se w i ≤ 200 := fPart_le hB (by omega)
        have hg8 : fGets sz va li se w i / sz i ≤ fGets sz va li se w i := Nat.div_le_self _ _
        refine KM.callV (As := [.int (nI i)]) (rest := [.int (nI i), .ref a0]) C0 hN (k_X2_gets l D cI cS cL a0 a1 a2 a3 a4 a5 a6 sz co va am li se w i  (by first | with_reducible assumption | omega) (by first | with_reducible assumption | omega)) (cwV 1 hts gX2_lampsThatBurn_X2_gets rfl rfl rfl (by decide +kernel) ⟨Nat.le_of_ble_eq_true rfl, Nat.le_of_ble_eq_true rfl⟩) hK hP hD hS hA [0, 1, 2, 3, 4, 5, 6] rfl (by decide) (fun _ => rfl) 0 2 rfl rfl rfl rfl hl.1 rfl (Nat.le_of_ble_eq_true rfl) dX2_lampsThatBurn_14 ⟨Nat.le_of_ble_eq_true rfl, Nat.le_of_ble_eq_true rfl⟩ (fun v9 u9 H locs hv hP hD hS => ?_)
        subst hv
        have hP : va_P D vwCl [(a0, .inr (2, [.ref a1, .ref a2, .ref a3, .ref a4, .ref a5, .ref a6, .int (nI w)])), (a1, .inl (cI, 8, .inl (ro 8 sz))), (a2, .inl (cI, 8, .inl (ro 8 co))), (a3, .inl (cI, 8, .inl (ro 8 va))), (a4, .inl (cI, 8, .inl (ro 8 am))), (a5, .inl (cI, 2, .inl (ro 2 li))), (a6, .inl (cI, 3, .inl (ro 3 se)))] H := hP
        have hD : va_D A9 [(a0, .inr (2, [.ref a1, .ref a2, .ref a3, .ref a4, .ref a5, .ref a6, .int (nI w)])), (a1, .inl (cI, 8, .inl (ro 8 sz))), (a2, .inl (cI, 8, .inl (ro 8 co))), (a3, .inl (cI, 8, .inl (ro 8 va))), (a4, .inl (cI, 8, .inl (ro 8 am))), (a5, .inl (cI, 2, .inl (ro 2 li))), (a6, .inl (cI, 3, .inl (ro 3 se)))] := hD
        refine W.eq (g2 := F0 m9 17 ls [.int (nI (fGets sz va li se w i)), .int (nI i), .ref a0]) rfl ?_
        refine KM.callV (As := [.int (nI i), .int (nI (fGets sz va li se w i))]) (rest := []) C0 hN (k_X2_heightWith l D cI cS cL a0 a1 a2 a3 a4 a5 a6 sz co va am li se w i (fGets sz va li se w i)  (by first | with_reducible assumption | omega) (by first | with_reducible assumption | omega) (by first | with_reducible assumption | omega)) (cwV 2 hts gX2_lampsThatBurn_X2_heightWith rfl rfl rfl (by decide +kernel) ⟨Nat.le_of_ble_eq_true rfl, Nat.le_of_ble_eq_true rfl⟩) hK hP hD hS hA [0, 1, 2, 3, 4, 5, 6] rfl (by decide) (fun _ => rfl) 0 2 rfl rfl rfl rfl hl.1 rfl (Nat.le_of_ble_eq_true rfl) dX2_lampsThatBurn_17 ⟨Nat.le_of_ble_eq_true rfl, Nat.le_of_ble_eq_true rfl⟩ (fun v9 u9 H locs hv hP hD hS => ?_)
        subst hv
        have hP : va_P D vwCl [(a0, .inr (2, [.ref a1, .ref a2, .ref a3, .ref a4, .ref a5, .ref a6, .int (nI w)])), (a1, .inl (cI, 8, .inl (ro 8 sz))), (a2, .inl (cI, 8, .inl (ro 8 co))), (a3, .inl (cI, 8, .inl (ro 8 va))), (a4, .inl (cI, 8, .inl (ro 8 am))), (a5, .inl (cI, 2, .inl (ro 2 li))), (a6, .inl (cI, 3, .inl (ro 3 se)))] H := hP
        have hD : va_D A9 [(a0, .inr (2, [.ref a1, .ref a2, .ref a3, .ref a4, .ref a5, .ref a6, .int (nI w)])), (a1, .inl (cI, 8, .inl (ro 8 sz))), (a2, .inl (cI, 8, .inl (ro 8 co))), (a3, .inl (cI, 8, .inl (ro 8 va))), (a4, .inl (cI, 8, .inl (ro 8 am))), (a5, .inl (cI, 2, .inl (ro 2 li))), (a6, .inl (cI, 3, .inl (ro 3 se)))] := hD
        refine W.eq (g2 := F0 m9 20 ls [.int (nI ((fGets sz va li se w i) / sz i))]) rfl ?_
        refine q_fle (tgt := 26) (by omega) hx hb dX2_lampsThatBurn_20 (by decide) (fun c_20 => ?_) (fun c_20 => ?_)
        ·
          refine lv_iinc (v := (nI (i + 1))) (lv' := [(2, .int (nI (i + 1))), (0, .ref a0), (1, .int (nI u))]) hx hb dX2_lampsThatBurn_26 hl (k := 2) rfl (nI_add i 1) (by decide) rfl (fun ls hl => ?_)
          refine lv_goto (tgt := 4) hx hb dX2_lampsThatBurn_29 (by decide) ?_
          exact ih4  (i + 1) u _ _ ls (by first | with_reducible assumption | omega) (by rw [hu]; show _ = sumTo _ i + (if _ then _ else _); split <;> first | omega | (exfalso; exact c_20 (Nat.eq_zero_of_not_pos ‹_›))) (by omega) hP hD hS (lv_sub hl [1, 2, 0] rfl)
        ·
          refine lv_iinc (v := (nI (u + 1))) (lv' := [(1, .int (nI (u + 1))), (0, .ref a0), (2, .int (nI i))]) hx hb dX2_lampsThatBurn_23 hl (k := 1) rfl (nI_add u 1) (by decide) rfl (fun ls hl => ?_)
          refine lv_iinc (v := (nI (i + 1))) (lv' := [(2, .int (nI (i + 1))), (1, .int (nI (u + 1))), (0, .ref a0)]) hx hb dX2_lampsThatBurn_26 hl (k := 2) rfl (nI_add i 1) (by decide) rfl (fun ls hl => ?_)
          refine lv_goto (tgt := 4) hx hb dX2_lampsThatBurn_29 (by decide) ?_
          exact ih4  (i + 1) (u + 1) _ _ ls (by first | with_reducible assumption | omega) (by rw [hu]; show _ = sumTo _ i + (if _ then _ else _); split <;> first | omega | (exfalso; exact c_20 (Nat.eq_zero_of_not_pos ‹_›))) (by omega) hP hD hS (lv_sub hl [2, 1, 0] rfl)
  exact L4 (8 - 0 + 1) 0 0 _ _ ls (by first | with_reducible assumption | omega) (by rfl) (by omega) hP hD hS (lv_sub hl [2, 1, 0] rfl)

theorem in_X2_lossOf_X2 : ∀ w ∈ wsX20, w ∈ wsX2_lossOf := by decide +kernel
theorem fl_X2_lossOf_27 : Cond.fieldLink RX2 27 "FountainCues$Fountain" "settings" "[I" ∈ wsX2_lossOf := by decide +kernel
theorem fl_X2_lossOf_34 : Cond.fieldLink RX2 34 "FountainCues$Fountain" "wind" "I" ∈ wsX2_lossOf := by decide +kernel
set_option maxHeartbeats 4000000 in
set_option maxRecDepth 100000 in
theorem k_X2_lossOf (l : Launch) (D : va_G) (cI cS cL : ClassId) (a0 : Nat) (a1 : Nat) (a2 : Nat) (a3 : Nat) (a4 : Nat) (a5 : Nat) (a6 : Nat) (sz : Nat → Nat) (co : Nat → Nat) (va : Nat → Nat) (am : Nat → Nat) (li : Nat → Nat) (se : Nat → Nat) (w : Nat) (t : Nat) (hB : fB sz va am li se w) (ht : t ≤ 1600) : KM l D (TY cI cS cL) yX2_lossOf wsX2_lossOf ({ frames := 0, cells := 0, slots := 0, locals := 0 } : Room) [(a0, .inr (2, [.ref a1, .ref a2, .ref a3, .ref a4, .ref a5, .ref a6, .int (nI w)])), (a1, .inl (cI, 8, .inl (ro 8 sz))), (a2, .inl (cI, 8, .inl (ro 8 co))), (a3, .inl (cI, 8, .inl (ro 8 va))), (a4, .inl (cI, 8, .inl (ro 8 am))), (a5, .inl (cI, 2, .inl (ro 2 li))), (a6, .inl (cI, 3, .inl (ro 3 se)))] [.ref a0, .int (nI t)] (fun (v : Option Value) (_ : Unit) => v = some (.int (nI (fLoss se w t)))) (fun _ : Unit => [(a0, .inr (2, [.ref a1, .ref a2, .ref a3, .ref a4, .ref a5, .ref a6, .int (nI w)])), (a1, .inl (cI, 8, .inl (ro 8 sz))), (a2, .inl (cI, 8, .inl (ro 8 co))), (a3, .inl (cI, 8, .inl (ro 8 va))), (a4, .inl (cI, 8, .inl (ro 8 am))), (a5, .inl (cI, 2, .inl (ro 2 li))), (a6, .inl (cI, 3, .inl (ro 3 se)))]) := by
  refine KM.of (cc := cX2_lossOf) (maxL := 2) (ret := (some .int)) (by decide) rfl (Nat.le_of_ble_eq_true rfl) ?_
  intro p9 e9 s9 m9 ar9 be9 me9 c9 Q9 A9 ls C0 hN hnm hlk hK hA hret hP hD hS hl
  obtain ⟨hx, hb, hml, hown, hts⟩ := id C0
  have hl : lv_has ls 2 [(0, .ref a0), (1, .int (nI t))] := hl
  obtain ⟨H, hH0⟩ : ∃ H, H = s9.heap := ⟨_, rfl⟩
  obtain ⟨locs, hlc0⟩ : ∃ z : List Loc, z = [] := ⟨_, rfl⟩
  have hP : va_P D vwCl [(a0, .inr (2, [.ref a1, .ref a2, .ref a3, .ref a4, .ref a5, .ref a6, .int (nI w)])), (a1, .inl (cI, 8, .inl (ro 8 sz))), (a2, .inl (cI, 8, .inl (ro 8 co))), (a3, .inl (cI, 8, .inl (ro 8 va))), (a4, .inl (cI, 8, .inl (ro 8 am))), (a5, .inl (cI, 2, .inl (ro 2 li))), (a6, .inl (cI, 3, .inl (ro 3 se)))] H := by rw [hH0]; exact hP
  have hD : va_D A9 [(a0, .inr (2, [.ref a1, .ref a2, .ref a3, .ref a4, .ref a5, .ref a6, .int (nI w)])), (a1, .inl (cI, 8, .inl (ro 8 sz))), (a2, .inl (cI, 8, .inl (ro 8 co))), (a3, .inl (cI, 8, .inl (ro 8 va))), (a4, .inl (cI, 8, .inl (ro 8 am))), (a5, .inl (cI, 2, .inl (ro 2 li))), (a6, .inl (cI, 3, .inl (ro 3 se)))] := hD
  have hS : va_S A9 s9.heap H locs := by rw [hH0, hlc0]; exact hS
  suffices hgo : W p9 l e9 ({ frames := 0, cells := 0, slots := 0, locals := 0 } : Room) s9 m9 ar9 be9 me9 c9 H locs 0 0 Q9 (F0 m9 0 ls []) by rw [hH0, hlc0] at hgo; exact hgo
  clear hH0 hlc0
  obtain ⟨hB1, hB2, hB3, hB4, hB5, hB6, hB7, hB8⟩ := id hB
  have hm1 : t * se 1 ≤ 1600 * 50 := Nat.mul_le_mul ht hB6
  have hm2 : t * w ≤ 1600 * 20 := Nat.mul_le_mul ht hB8
  refine lv_iload_n hx hb dX2_lossOf_0 rfl (lv_at hl 1 rfl) ?_
  refine lv_aload_n hx hb dX2_lossOf_1 rfl (lv_at hl 0 rfl) ?_
  refine va_get (D := D) (ci := 2) (v := .ref a6) (C := RX2) (T := TX2) (N := 7) hx hb hts in_X2_lossOf_X2 hown hK hP 0 rfl rfl 5 (by decide) (hts _ fl_X2_lossOf_27) (fun _ h9 => h9) rfl dX2_lossOf_2 ?_
  refine lv_iconst (v := nI 1) hx hb dX2_lossOf_5 (by decide +kernel) ?_
  refine q_iald 6 0 (by omega) (by omega) hx hb hK hP rfl rfl dX2_lossOf_6 ?_
  refine q_imul hx hb dX2_lossOf_7 ?_
  refine lv_bipush (v := nI 100) hx hb dX2_lossOf_8 (by decide +kernel) ?_
  refine q_idiv (by omega) (by omega) (by omega) hx hb dX2_lossOf_10 ?_
  refine lv_iload_n hx hb dX2_lossOf_11 rfl (lv_at hl 1 rfl) ?_
  refine lv_aload_n hx hb dX2_lossOf_12 rfl (lv_at hl 0 rfl) ?_
  refine va_get (D := D) (ci := 2) (v := .int (nI w)) (C := RX2) (T := TX2) (N := 7) hx hb hts in_X2_lossOf_X2 hown hK hP 0 rfl rfl 6 (by decide) (hts _ fl_X2_lossOf_34) (fun _ h9 => h9) rfl dX2_lossOf_13 ?_
  refine q_imul hx hb dX2_lossOf_16 ?_
  refine lv_bipush (v := nI 100) hx hb dX2_lossOf_17 (by decide +kernel) ?_
  refine q_idiv (by omega) (by omega) (by omega) hx hb dX2_lossOf_19 ?_
  refine q_iadd hx hb dX2_lossOf_20 ?_
  exact hret _ _ _ _ (some (.int (nI (((t * (se 1)) / 100) + ((t * w) / 100))))) () 21 ls (by decide) (by decide) (by rfl) hP hD hS (ret_i dX2_lossOf_21)

theorem in_X2_moveValves_X2 : ∀ w ∈ wsX20, w ∈ wsX2_moveValves := by decide +kernel
theorem fl_X2_moveValves_27 : Cond.fieldLink RX2 27 "FountainCues$Fountain" "settings" "[I" ∈ wsX2_moveValves := by decide +kernel
theorem fl_X2_moveValves_21 : Cond.fieldLink RX2 21 "FountainCues$Fountain" "aims" "[I" ∈ wsX2_moveValves := by decide +kernel
theorem fl_X2_moveValves_18 : Cond.fieldLink RX2 18 "FountainCues$Fountain" "valves" "[I" ∈ wsX2_moveValves := by decide +kernel
set_option maxHeartbeats 4000000 in
set_option maxRecDepth 100000 in
theorem k_X2_moveValves (l : Launch) (D : va_G) (cI cS cL : ClassId) (a0 : Nat) (a1 : Nat) (a2 : Nat) (a3 : Nat) (a4 : Nat) (a5 : Nat) (a6 : Nat) (sz : Nat → Nat) (co : Nat → Nat) (va : Nat → Nat) (am : Nat → Nat) (li : Nat → Nat) (se : Nat → Nat) (w : Nat) (hB : fB sz va am li se w) : KM l D (TY cI cS cL) yX2_moveValves wsX2_moveValves ({ frames := 1, cells := 0, slots := 0, locals := 21 } : Room) [(a0, .inr (2, [.ref a1, .ref a2, .ref a3, .ref a4, .ref a5, .ref a6, .int (nI w)])), (a1, .inl (cI, 8, .inl (ro 8 sz))), (a2, .inl (cI, 8, .inl (ro 8 co))), (a3, .inl (cI, 8, .inl (ro 8 va))), (a4, .inl (cI, 8, .inl (ro 8 am))), (a5, .inl (cI, 2, .inl (ro 2 li))), (a6, .inl (cI, 3, .inl (ro 3 se)))] [.ref a0] (fun (v : Option Value) (_ : Unit) => v = none) (fun _ : Unit => [(a0, .inr (2, [.ref a1, .ref a2, .ref a3, .ref a4, .ref a5, .ref a6, .int (nI w)])), (a1, .inl (cI, 8, .inl (ro 8 sz))), (a2, .inl (cI, 8, .inl (ro 8 co))), (a3, .inl (cI, 8, .inl (ro 8 (fun j => mv (am j) (va j) (se 2))))), (a4, .inl (cI, 8, .inl (ro 8 am))), (a5, .inl (cI, 2, .inl (ro 2 li))), (a6, .inl (cI, 3, .inl (ro 3 se)))]) := by
  refine KM.of (cc := cX2_moveValves) (maxL := 4) (ret := none) (by decide) rfl (Nat.le_of_ble_eq_true rfl) ?_
  intro p9 e9 s9 m9 ar9 be9 me9 c9 Q9 A9 ls C0 hN hnm hlk hK hA hret hP hD hS hl
  obtain ⟨hx, hb, hml, hown, hts⟩ := id C0
  have hl : lv_has ls 4 [(0, .ref a0)] := hl
  obtain ⟨H, hH0⟩ : ∃ H, H = s9.heap := ⟨_, rfl⟩
  obtain ⟨locs, hlc0⟩ : ∃ z : List Loc, z = [] := ⟨_, rfl⟩
  have hP : va_P D vwCl [(a0, .inr (2, [.ref a1, .ref a2, .ref a3, .ref a4, .ref a5, .ref a6, .int (nI w)])), (a1, .inl (cI, 8, .inl (ro 8 sz))), (a2, .inl (cI, 8, .inl (ro 8 co))), (a3, .inl (cI, 8, .inl (ro 8 va))), (a4, .inl (cI, 8, .inl (ro 8 am))), (a5, .inl (cI, 2, .inl (ro 2 li))), (a6, .inl (cI, 3, .inl (ro 3 se)))] H := by rw [hH0]; exact hP
  have hD : va_D A9 [(a0, .inr (2, [.ref a1, .ref a2, .ref a3, .ref a4, .ref a5, .ref a6, .int (nI w)])), (a1, .inl (cI, 8, .inl (ro 8 sz))), (a2, .inl (cI, 8, .inl (ro 8 co))), (a3, .inl (cI, 8, .inl (ro 8 va))), (a4, .inl (cI, 8, .inl (ro 8 am))), (a5, .inl (cI, 2, .inl (ro 2 li))), (a6, .inl (cI, 3, .inl (ro 3 se)))] := hD
  have hS : va_S A9 s9.heap H locs := by rw [hH0, hlc0]; exact hS
  suffices hgo : W p9 l e9 ({ frames := 1, cells := 0, slots := 0, locals := 21 } : Room) s9 m9 ar9 be9 me9 c9 H locs 0 0 Q9 (F0 m9 0 ls []) by rw [hH0, hlc0] at hgo; exact hgo
  clear hH0 hlc0
  obtain ⟨hB1, hB2, hB3, hB4, hB5, hB6, hB7, hB8⟩ := id hB
  refine lv_aload_n hx hb dX2_moveValves_0 rfl (lv_at hl 0 rfl) ?_
  refine va_get (D := D) (ci := 2) (v := .ref a6) (C := RX2) (T := TX2) (N := 7) hx hb hts in_X2_moveValves_X2 hown hK hP 0 rfl rfl 5 (by decide) (hts _ fl_X2_moveValves_27) (fun _ h9 => h9) rfl dX2_moveValves_1 ?_
  refine lv_iconst (v := nI 2) hx hb dX2_moveValves_4 (by decide +kernel) ?_
  refine q_iald 6 0 (by omega) (by omega) hx hb hK hP rfl rfl dX2_moveValves_5 ?_
  refine lv_istore_n (lv' := [(1, .int (nI (se 2))), (0, .ref a0)]) hx hb dX2_moveValves_6 rfl hl (by decide) rfl (fun ls hl => ?_)
  refine lv_iconst (v := nI 0) hx hb dX2_moveValves_7 (by decide +kernel) ?_
  refine lv_istore_n (lv' := [(2, .int (nI 0)), (1, .int (nI (se 2))), (0, .ref a0)]) hx hb dX2_moveValves_8 rfl hl (by decide) rfl (fun ls hl => ?_)
  have L9 : ∀ (fuel : Nat) (i : Nat) (g : Nat → Nat) (H : Heap) (locs : List Loc) (ls : Array Slot), (i ≤ 8) → (∀ j, j < i → g j = mv (am j) (va j) (se 2)) → (∀ j, i ≤ j → g j = va j) → (8 - i < fuel) → va_P D vwCl [(a0, .inr (2, [.ref a1, .ref a2, .ref a3, .ref a4, .ref a5, .ref a6, .int (nI w)])), (a1, .inl (cI, 8, .inl (ro 8 sz))), (a2, .inl (cI, 8, .inl (ro 8 co))), (a3, .inl (cI, 8, .inl (ro 8 g))), (a4, .inl (cI, 8, .inl (ro 8 am))), (a5, .inl (cI, 2, .inl (ro 2 li))), (a6, .inl (cI, 3, .inl (ro 3 se)))] H → va_D A9 [(a0, .inr (2, [.ref a1, .ref a2, .ref a3, .ref a4, .ref a5, .ref a6, .int (nI w)])), (a1, .inl (cI, 8, .inl (ro 8 sz))), (a2, .inl (cI, 8, .inl (ro 8 co))), (a3, .inl (cI, 8, .inl (ro 8 g))), (a4, .inl (cI, 8, .inl (ro 8 am))), (a5, .inl (cI, 2, .inl (ro 2 li))), (a6, .inl (cI, 3, .inl (ro 3 se)))] → va_S A9 s9.heap H locs → lv_has ls 4 [(0, .ref a0), (1, .int (nI (se 2))), (2, .int (nI i))] → W p9 l e9 ({ frames := 1, cells := 0, slots := 0, locals := 21 } : Room) s9 m9 ar9 be9 me9 c9 H locs 0 0 Q9 (F0 m9 9 ls []) := by
    intro fuel
    induction fuel with
    | zero => intro i g H locs ls hi hg1 hg2 hfu; exact absurd hfu (Nat.not_lt_zero _)
    | succ fuel ih9 =>
      intro i g H locs ls hi hg1 hg2 hfu hP hD hS hl
      refine lv_iload_n hx hb dX2_moveValves_9 rfl (lv_at hl 2 rfl) ?_
      refine lv_bipush (v := nI 8) hx hb dX2_moveValves_10 (by decide +kernel) ?_
      refine q_ige (tgt := 54) (by omega) (by omega) hx hb dX2_moveValves_12 (by decide) (fun c_12 => ?_) (fun c_12 => ?_)
      ·
        have e9 : ro 8 g = ro 8 (fun j => mv (am j) (va j) (se 2)) := ro_cg (fun j hj => hg1 j (by omega))
        rw [e9] at hP hD
        exact hret _ _ _ _ none () 54 ls (by decide) (by decide) (by rfl) hP hD hS (ret_v dX2_moveValves_54)
      ·
        refine lv_aload_n hx hb dX2_moveValves_15 rfl (lv_at hl 0 rfl) ?_
        refine va_get (D := D) (ci := 2) (v := .ref a4) (C := RX2) (T := TX2) (N := 7) hx hb hts in_X2_moveValves_X2 hown hK hP 0 rfl rfl 3 (by decide) (hts _ fl_X2_moveValves_21) (fun _ h9 => h9) rfl dX2_moveValves_16 ?_
        refine lv_iload_n hx hb dX2_moveValves_19 rfl (lv_at hl 2 rfl) ?_
        refine q_iald 4 0 (by omega) (by omega) hx hb hK hP rfl rfl dX2_moveValves_20 ?_
        refine lv_aload_n hx hb dX2_moveValves_21 rfl (lv_at hl 0 rfl) ?_
        refine va_get (D := D) (ci := 2) (v := .ref a3) (C := RX2) (T := TX2) (N := 7) hx hb hts in_X2_moveValves_X2 hown hK hP 0 rfl rfl 2 (by decide) (hts _ fl_X2_moveValves_18) (fun _ h9 => h9) rfl dX2_moveValves_22 ?_
        refine lv_iload_n hx hb dX2_moveValves_25 rfl (lv_at hl 2 rfl) ?_
        refine q_iald 3 0 (by omega) (by omega) hx hb hK hP rfl rfl dX2_moveValves_26 ?_
        have hv9 := hB2 i (by omega)
        have hm9 := hB3 i (by omega)
        have hgi := hg2 i (Nat.le_refl i)
        refine lv_isub hx hb dX2_moveValves_27 ?_
        refine lv_istore_n (lv' := [(3, .int ((nI (am i)) - (nI (g i)))), (0, .ref a0), (1, .int (nI (se 2))), (2, .int (nI i))]) hx hb dX2_moveValves_28 rfl hl (by decide) rfl (fun ls hl => ?_)
        refine lv_aload_n hx hb dX2_moveValves_29 rfl (lv_at hl 1 rfl) ?_
        refine va_get (D := D) (ci := 2) (v := .ref a3) (C := RX2) (T := TX2) (N := 7) hx hb hts in_X2_moveValves_X2 hown hK hP 0 rfl rfl 2 (by decide) (hts _ fl_X2_moveValves_18) (fun _ h9 => h9) rfl dX2_moveValves_30 ?_
        refine lv_iload_n hx hb dX2_moveValves_33 rfl (lv_at hl 3 rfl) ?_
        refine lv_dup2_11 hx hb dX2_moveValves_34 rfl rfl ?_
        refine q_iald 3 0 (by omega) (by omega) hx hb hK hP rfl rfl dX2_moveValves_35 ?_
        refine lv_iload_n hx hb dX2_moveValves_36 rfl (lv_at hl 2 rfl) ?_
        refine lv_ineg hx hb dX2_moveValves_37 ?_
        refine lv_iload_n hx hb dX2_moveValves_38 rfl (lv_at hl 2 rfl) ?_
        refine lv_iload_n hx hb dX2_moveValves_39 rfl (lv_at hl 0 rfl) ?_
        refine va_mmin hx hb (hml.trans hl.1.symm) hown (hts (.methodLink RX2 38 Lib.Math.min.name) (by decide +kernel)) (hts (.static Lib.Math.min.name) (by decide +kernel)) (hts (.initialized "java/lang/Math") (by decide +kernel)) (hts (.code Lib.Math.min.name Lib.Math.min.code 2 (some .int)) (by decide +kernel)) (Nat.le_of_ble_eq_true rfl) (Nat.le_of_ble_eq_true rfl) (Nat.zero_le _) (Nat.zero_le _) dX2_moveValves_40 ?_
        refine va_mmax hx hb (hml.trans hl.1.symm) hown (hts (.methodLink RX2 44 Lib.Math.max.name) (by decide +kernel)) (hts (.static Lib.Math.max.name) (by decide +kernel)) (hts (.initialized "java/lang/Math") (by decide +kernel)) (hts (.code Lib.Math.max.name Lib.Math.max.code 2 (some .int)) (by decide +kernel)) (Nat.le_of_ble_eq_true rfl) (Nat.le_of_ble_eq_true rfl) (Nat.zero_le _) (Nat.zero_le _) dX2_moveValves_43 ?_
        refine lv_iadd hx hb dX2_moveValves_46 ?_
        refine q_topi (y := (nI (mv (am i) (g i) (se 2)))) (by exact mv_i (by omega) (by omega) (by omega)) ?_
        refine q_iast 3 0 (by omega) (by omega) hx hb hK hP hD hS rfl rfl dX2_moveValves_47 (fun H locs hP hD hS => ?_)
        have hP : va_P D vwCl [(a0, .inr (2, [.ref a1, .ref a2, .ref a3, .ref a4, .ref a5, .ref a6, .int (nI w)])), (a1, .inl (cI, 8, .inl (ro 8 sz))), (a2, .inl (cI, 8, .inl (ro 8 co))), (a3, .inl (cI, 8, .inl (ro 8 (upN g i (mv (am i) (g i) (se 2)))))), (a4, .inl (cI, 8, .inl (ro 8 am))), (a5, .inl (cI, 2, .inl (ro 2 li))), (a6, .inl (cI, 3, .inl (ro 3 se)))] H := hP
        have hD : va_D A9 [(a0, .inr (2, [.ref a1, .ref a2, .ref a3, .ref a4, .ref a5, .ref a6, .int (nI w)])), (a1, .inl (cI, 8, .inl (ro 8 sz))), (a2, .inl (cI, 8, .inl (ro 8 co))), (a3, .inl (cI, 8, .inl (ro 8 (upN g i (mv (am i) (g i) (se 2)))))), (a4, .inl (cI, 8, .inl (ro 8 am))), (a5, .inl (cI, 2, .inl (ro 2 li))), (a6, .inl (cI, 3, .inl (ro 3 se)))] := hD
        refine lv_iinc (v := (nI (i + 1))) (lv' := [(2, .int (nI (i + 1))), (3, .int ((nI (am i)) - (nI (g i)))), (0, .ref a0), (1, .int (nI (se 2)))]) hx hb dX2_moveValves_48 hl (k := 3) rfl (nI_add i 1) (by decide) rfl (fun ls hl => ?_)
        refine lv_goto (tgt := 9) hx hb dX2_moveValves_51 (by decide) ?_
        exact ih9  (i + 1) (upN g i (mv (am i) (g i) (se 2))) _ _ ls (by first | with_reducible assumption | omega) (by intro j hj; by_cases h9 : j = i; (subst h9; rw [upN_s, hg2 _ (Nat.le_refl _)]); (rw [upN_n h9]; exact hg1 j (by omega))) (by intro j hj; rw [upN_n (by omega)]; exact hg2 j (by omega)) (by omega) hP hD hS (lv_sub hl [2, 3, 0] rfl)
  exact L9 (8 - 0 + 1) 0 va _ _ ls (by first | with_reducible assumption | omega) (by intro j hj; omega) (by intro j hj; rfl) (by omega) hP hD hS (lv_sub hl [2, 1, 0] rfl)

set_option maxHeartbeats 4000000 in
set_option maxRecDepth 100000 in
theorem k_X5_copyRow (l : Launch) (D : va_G) (cI cS cL : ClassId) (af : Nat) (at_ : Nat) (nn : Nat) (f : Nat → Nat) (g : Nat → Nat) (hnn : nn < 2 ^ 31) : KM l D (TY cI cS cL) yX5_copyRow wsX5_copyRow ({ frames := 0, cells := 0, slots := 0, locals := 0 } : Room) [(af, .inl (cI, nn, .inl (ro nn f))), (at_, .inl (cI, nn, .inl (ro nn g)))] [.ref af, .ref at_] (fun (v : Option Value) (_ : Unit) => v = none) (fun _ : Unit => [(af, .inl (cI, nn, .inl (ro nn f))), (at_, .inl (cI, nn, .inl (ro nn f)))]) := by
  refine KM.of (cc := cX5_copyRow) (maxL := 3) (ret := none) (by decide) rfl (Nat.le_of_ble_eq_true rfl) ?_
  intro p9 e9 s9 m9 ar9 be9 me9 c9 Q9 A9 ls C0 hN hnm hlk hK hA hret hP hD hS hl
  obtain ⟨hx, hb, hml, hown, hts⟩ := id C0
  have hl : lv_has ls 3 [(0, .ref af), (1, .ref at_)] := hl
  obtain ⟨H, hH0⟩ : ∃ H, H = s9.heap := ⟨_, rfl⟩
  obtain ⟨locs, hlc0⟩ : ∃ z : List Loc, z = [] := ⟨_, rfl⟩
  have hP : va_P D vwCl [(af, .inl (cI, nn, .inl (ro nn f))), (at_, .inl (cI, nn, .inl (ro nn g)))] H := by rw [hH0]; exact hP
  have hD : va_D A9 [(af, .inl (cI, nn, .inl (ro nn f))), (at_, .inl (cI, nn, .inl (ro nn g)))] := hD
  have hS : va_S A9 s9.heap H locs := by rw [hH0, hlc0]; exact hS
  suffices hgo : W p9 l e9 ({ frames := 0, cells := 0, slots := 0, locals := 0 } : Room) s9 m9 ar9 be9 me9 c9 H locs 0 0 Q9 (F0 m9 0 ls []) by rw [hH0, hlc0] at hgo; exact hgo
  clear hH0 hlc0
  refine lv_iconst (v := nI 0) hx hb dX5_copyRow_0 (by decide +kernel) ?_
  refine lv_istore_n (lv' := [(2, .int (nI 0)), (0, .ref af), (1, .ref at_)]) hx hb dX5_copyRow_1 rfl hl (by decide) rfl (fun ls hl => ?_)
  have L2 : ∀ (fuel : Nat) (i : Nat) (h : Nat → Nat) (H : Heap) (locs : List Loc) (ls : Array Slot), (i ≤ nn) → (∀ j, j < i → h j = f j) → (nn - i < fuel) → va_P D vwCl [(af, .inl (cI, nn, .inl (ro nn f))), (at_, .inl (cI, nn, .inl (ro nn h)))] H → va_D A9 [(af, .inl (cI, nn, .inl (ro nn f))), (at_, .inl (cI, nn, .inl (ro nn h)))] → va_S A9 s9.heap H locs → lv_has ls 3 [(0, .ref af), (1, .ref at_), (2, .int (nI i))] → W p9 l e9 ({ frames := 0, cells := 0, slots := 0, locals := 0 } : Room) s9 m9 ar9 be9 me9 c9 H locs 0 0 Q9 (F0 m9 2 ls []) := by
    intro fuel
    induction fuel with
    | zero => intro i h H locs ls hi hg1 hfu; exact absurd hfu (Nat.not_lt_zero _)
    | succ fuel ih2 =>
      intro i h H locs ls hi hg1 hfu hP hD hS hl
      refine lv_iload_n hx hb dX5_copyRow_2 rfl (lv_at hl 2 rfl) ?_
      refine lv_aload_n hx hb dX5_copyRow_3 rfl (lv_at hl 0 rfl) ?_
      refine va_alen (v := nI nn) hx hb hK hP 0 0 rfl rfl rfl dX5_copyRow_4 ?_
      refine q_ige (tgt := 26) (by omega) (by omega) hx hb dX5_copyRow_5 (by decide) (fun c_5 => ?_) (fun c_5 => ?_)
      ·
        have e9 : ro nn h = ro nn f := ro_cg (fun j hj => hg1 j (by omega))
        rw [e9] at hP hD
        exact hret _ _ _ _ none () 26 ls (by decide) (by decide) (by rfl) hP hD hS (ret_v dX5_copyRow_26)
      ·
        refine lv_iload_n hx hb dX5_copyRow_8 rfl (lv_at hl 2 rfl) ?_
        refine lv_aload_n hx hb dX5_copyRow_9 rfl (lv_at hl 1 rfl) ?_
        refine va_alen (v := nI nn) hx hb hK hP 1 0 rfl rfl rfl dX5_copyRow_10 ?_
        refine q_ige (tgt := 26) (by omega) (by omega) hx hb dX5_copyRow_11 (by decide) (fun c_11 => ?_) (fun c_11 => ?_)
        ·
          have e9 : ro nn h = ro nn f := ro_cg (fun j hj => hg1 j (by omega))
          rw [e9] at hP hD
          exact hret _ _ _ _ none () 26 ls (by decide) (by decide) (by rfl) hP hD hS (ret_v dX5_copyRow_26)
        ·
          refine lv_aload_n hx hb dX5_copyRow_14 rfl (lv_at hl 1 rfl) ?_
          refine lv_iload_n hx hb dX5_copyRow_15 rfl (lv_at hl 2 rfl) ?_
          refine lv_aload_n hx hb dX5_copyRow_16 rfl (lv_at hl 0 rfl) ?_
          refine lv_iload_n hx hb dX5_copyRow_17 rfl (lv_at hl 2 rfl) ?_
          refine q_iald 0 0 (by omega) (by omega) hx hb hK hP rfl rfl dX5_copyRow_18 ?_
          refine q_iast 1 0 (by omega) (by omega) hx hb hK hP hD hS rfl rfl dX5_copyRow_19 (fun H locs hP hD hS => ?_)
          have hP : va_P D vwCl [(af, .inl (cI, nn, .inl (ro nn f))), (at_, .inl (cI, nn, .inl (ro nn (upN h i (f i)))))] H := hP
          have hD : va_D A9 [(af, .inl (cI, nn, .inl (ro nn f))), (at_, .inl (cI, nn, .inl (ro nn (upN h i (f i)))))] := hD
          refine lv_iinc (v := (nI (i + 1))) (lv' := [(2, .int (nI (i + 1))), (0, .ref af), (1, .ref at_)]) hx hb dX5_copyRow_20 hl (k := 2) rfl (nI_add i 1) (by decide) rfl (fun ls hl => ?_)
          refine lv_goto (tgt := 2) hx hb dX5_copyRow_23 (by decide) ?_
          exact ih2  (i + 1) (upN h i (f i)) _ _ ls (by first | with_reducible assumption | omega) (by intro j hj; by_cases h9 : j = i; (subst h9; rw [upN_s]); (rw [upN_n h9]; exact hg1 j (by omega))) (by omega) hP hD hS (lv_sub hl [1, 2, 0] rfl)
  exact L2 (nn - 0 + 1) 0 g _ _ ls (by first | with_reducible assumption | omega) (by intro j hj; omega) (by omega) hP hD hS (lv_sub hl [1, 2, 0] rfl)
