theorem in_X2_asks_X2 : ∀ w ∈ wsX20, w ∈ wsX2_asks := by decide +kernel
theorem fl_X2_asks_9 : Cond.fieldLink RX2 9 "FountainCues$Fountain" "sizes" "[I" ∈ wsX2_asks := by decide +kernel
theorem fl_X2_asks_18 : Cond.fieldLink RX2 18 "FountainCues$Fountain" "valves" "[I" ∈ wsX2_asks := by decide +kernel
set_option maxHeartbeats 4000000 in
set_option maxRecDepth 100000 in
theorem k_X2_asks (l : Launch) (D : va_G) (cI cS cL : ClassId) (a0 : Nat) (a1 : Nat) (a2 : Nat) (a3 : Nat) (a4 : Nat) (a5 : Nat) (a6 : Nat) (sz : Nat → Nat) (co : Nat → Nat) (va : Nat → Nat) (am : Nat → Nat) (li : Nat → Nat) (se : Nat → Nat) (w : Nat) (j : Nat) (hj : j < 8) : KM l D (TY cI cS cL) yX2_asks wsX2_asks ({ frames := 0, cells := 0, slots := 0, locals := 0 } : Room) [(a0, .inr (2, [.ref a1, .ref a2, .ref a3, .ref a4, .ref a5, .ref a6, .int (nI w)])), (a1, .inl (cI, 8, .inl (ro 8 sz))), (a2, .inl (cI, 8, .inl (ro 8 co))), (a3, .inl (cI, 8, .inl (ro 8 va))), (a4, .inl (cI, 8, .inl (ro 8 am))), (a5, .inl (cI, 2, .inl (ro 2 li))), (a6, .inl (cI, 3, .inl (ro 3 se)))] [.ref a0, .int (nI j)] (fun (v : Option Value) (_ : Unit) => v = some (.int (nI (sz j * va j)))) (fun _ : Unit => [(a0, .inr (2, [.ref a1, .ref a2, .ref a3, .ref a4, .ref a5, .ref a6, .int (nI w)])), (a1, .inl (cI, 8, .inl (ro 8 sz))), (a2, .inl (cI, 8, .inl (ro 8 co))), (a3, .inl (cI, 8, .inl (ro 8 va))), (a4, .inl (cI, 8, .inl (ro 8 am))), (a5, .inl (cI, 2, .inl (ro 2 li))), (a6, .inl (cI, 3, .inl (ro 3 se)))]) := by
  refine KM.of (cc := cX2_asks) (maxL := 2) (ret := (some .int)) (by decide) rfl (Nat.le_of_ble_eq_true rfl) ?_
  intro p9 e9 s9 m9 ar9 be9 me9 c9 Q9 A9 ls C0 hN hnm hlk hK hA hret hP hD hS hl
  obtain ⟨hx, hb, hml, hown, hts⟩ := id C0
  have hl : lv_has ls 2 [(0, .ref a0), (1, .int (nI j))] := hl
  obtain ⟨H, hH0⟩ : ∃ H, H = s9.heap := ⟨_, rfl⟩
  obtain ⟨locs, hlc0⟩ : ∃ z : List Loc, z = [] := ⟨_, rfl⟩
  have hP : va_P D vwCl [(a0, .inr (2, [.ref a1, .ref a2, .ref a3, .ref a4, .ref a5, .ref a6, .int (nI w)])), (a1, .inl (cI, 8, .inl (ro 8 sz))), (a2, .inl (cI, 8, .inl (ro 8 co))), (a3, .inl (cI, 8, .inl (ro 8 va))), (a4, .inl (cI, 8, .inl (ro 8 am))), (a5, .inl (cI, 2, .inl (ro 2 li))), (a6, .inl (cI, 3, .inl (ro 3 se)))] H := by rw [hH0]; exact hP
  have hD : va_D A9 [(a0, .inr (2, [.ref a1, .ref a2, .ref a3, .ref a4, .ref a5, .ref a6, .int (nI w)])), (a1, .inl (cI, 8, .inl (ro 8 sz))), (a2, .inl (cI, 8, .inl (ro 8 co))), (a3, .inl (cI, 8, .inl (ro 8 va))), (a4, .inl (cI, 8, .inl (ro 8 am))), (a5, .inl (cI, 2, .inl (ro 2 li))), (a6, .inl (cI, 3, .inl (ro 3 se)))] := hD
  have hS : va_S A9 s9.heap H locs := by rw [hH0, hlc0]; exact hS
  suffices hgo : W p9 l e9 ({ frames := 0, cells := 0, slots := 0, locals := 0 } : Room) s9 m9 ar9 be9 me9 c9 H locs 0 0 Q9 (F0 m9 0 ls []) by rw [hH0, hlc0] at hgo; exact hgo
  clear hH0 hlc0
  refine lv_aload_n hx hb dX2_asks_0 rfl (lv_at hl 0 rfl) ?_
  refine va_get (D := D) (ci := 2) (v := .ref a1) (C := RX2) (T := TX2) (N := 7) hx hb hts in_X2_asks_X2 hown hK hP 0 rfl rfl 0 (by decide) (hts _ fl_X2_asks_9) (fun _ h9 => h9) rfl dX2_asks_1 ?_
  refine lv_iload_n hx hb dX2_asks_4 rfl (lv_at hl 1 rfl) ?_
  refine q_iald 1 0 (by omega) (by omega) hx hb hK hP rfl rfl dX2_asks_5 ?_
  refine lv_aload_n hx hb dX2_asks_6 rfl (lv_at hl 0 rfl) ?_
  refine va_get (D := D) (ci := 2) (v := .ref a3) (C := RX2) (T := TX2) (N := 7) hx hb hts in_X2_asks_X2 hown hK hP 0 rfl rfl 2 (by decide) (hts _ fl_X2_asks_18) (fun _ h9 => h9) rfl dX2_asks_7 ?_
  refine lv_iload_n hx hb dX2_asks_10 rfl (lv_at hl 1 rfl) ?_
  refine q_iald 3 0 (by omega) (by omega) hx hb hK hP rfl rfl dX2_asks_11 ?_
  refine q_imul hx hb dX2_asks_12 ?_
  exact hret _ _ _ _ (some (.int (nI ((sz j) * (va j))))) () 13 ls (by decide) (by decide) (by rfl) hP hD hS (ret_i dX2_asks_13)

set_option maxHeartbeats 4000000 in
set_option maxRecDepth 100000 in
theorem k_X5_quotient (l : Launch) (D : va_G) (cI cS cL : ClassId) (x : Nat) (y : Nat) (hx2 : x < 2 ^ 31) (hy2 : y < 2 ^ 31) : KM l D (TY cI cS cL) yX5_quotient wsX5_quotient ({ frames := 0, cells := 0, slots := 0, locals := 0 } : Room) [] [.int (nI x), .int (nI y)] (fun (v : Option Value) (_ : Unit) => v = some (.int (nI (x / y)))) (fun _ : Unit => []) := by
  refine KM.of (cc := cX5_quotient) (maxL := 2) (ret := (some .int)) (by decide) rfl (Nat.le_of_ble_eq_true rfl) ?_
  intro p9 e9 s9 m9 ar9 be9 me9 c9 Q9 A9 ls C0 hN hnm hlk hK hA hret hP hD hS hl
  obtain ⟨hx, hb, hml, hown, hts⟩ := id C0
  have hl : lv_has ls 2 [(0, .int (nI x)), (1, .int (nI y))] := hl
  obtain ⟨H, hH0⟩ : ∃ H, H = s9.heap := ⟨_, rfl⟩
  obtain ⟨locs, hlc0⟩ : ∃ z : List Loc, z = [] := ⟨_, rfl⟩
  have hP : va_P D vwCl [] H := by rw [hH0]; exact hP
  have hD : va_D A9 [] := hD
  have hS : va_S A9 s9.heap H locs := by rw [hH0, hlc0]; exact hS
  suffices hgo : W p9 l e9 ({ frames := 0, cells := 0, slots := 0, locals := 0 } : Room) s9 m9 ar9 be9 me9 c9 H locs 0 0 Q9 (F0 m9 0 ls []) by rw [hH0, hlc0] at hgo; exact hgo
  clear hH0 hlc0
  refine lv_iload_n hx hb dX5_quotient_0 rfl (lv_at hl 1 rfl) ?_
  refine q_fne (tgt := 8) (by omega) hx hb dX5_quotient_1 (by decide) (fun c_1 => ?_) (fun c_1 => ?_)
  ·
    refine lv_iload_n hx hb dX5_quotient_8 rfl (lv_at hl 0 rfl) ?_
    refine lv_iload_n hx hb dX5_quotient_9 rfl (lv_at hl 1 rfl) ?_
    refine q_idiv (by omega) (by omega) (by omega) hx hb dX5_quotient_10 ?_
    exact hret _ _ _ _ (some (.int (nI (x / y)))) () 11 ls (by decide) (by decide) (by first | rfl | exact rv (by rw [c_1, Nat.div_zero])) hP hD hS (ret_i dX5_quotient_11)
  ·
    refine lv_iconst (v := nI 0) hx hb dX5_quotient_4 (by decide +kernel) ?_
    refine lv_goto (tgt := 11) hx hb dX5_quotient_5 (by decide) ?_
    exact hret _ _ _ _ (some (.int (nI 0))) () 11 ls (by decide) (by decide) (by first | rfl | exact rv (by rw [c_1, Nat.div_zero])) hP hD hS (ret_i dX5_quotient_11)

set_option maxHeartbeats 4000000 in
set_option maxRecDepth 100000 in
theorem k_X2_pumpAsks (l : Launch) (D : va_G) (cI cS cL : ClassId) (a0 : Nat) (a1 : Nat) (a2 : Nat) (a3 : Nat) (a4 : Nat) (a5 : Nat) (a6 : Nat) (sz : Nat → Nat) (co : Nat → Nat) (va : Nat → Nat) (am : Nat → Nat) (li : Nat → Nat) (se : Nat → Nat) (w : Nat) (q : Nat) (hq : q < 2) : KM l D (TY cI cS cL) yX2_pumpAsks wsX2_pumpAsks ({ frames := 1, cells := 0, slots := 0, locals := 21 } : Room) [(a0, .inr (2, [.ref a1, .ref a2, .ref a3, .ref a4, .ref a5, .ref a6, .int (nI w)])), (a1, .inl (cI, 8, .inl (ro 8 sz))), (a2, .inl (cI, 8, .inl (ro 8 co))), (a3, .inl (cI, 8, .inl (ro 8 va))), (a4, .inl (cI, 8, .inl (ro 8 am))), (a5, .inl (cI, 2, .inl (ro 2 li))), (a6, .inl (cI, 3, .inl (ro 3 se)))] [.ref a0, .int (nI q)] (fun (v : Option Value) (_ : Unit) => v = some (.int (nI (pA sz va q)))) (fun _ : Unit => [(a0, .inr (2, [.ref a1, .ref a2, .ref a3, .ref a4, .ref a5, .ref a6, .int (nI w)])), (a1, .inl (cI, 8, .inl (ro 8 sz))), (a2, .inl (cI, 8, .inl (ro 8 co))), (a3, .inl (cI, 8, .inl (ro 8 va))), (a4, .inl (cI, 8, .inl (ro 8 am))), (a5, .inl (cI, 2, .inl (ro 2 li))), (a6, .inl (cI, 3, .inl (ro 3 se)))]) := by
  refine KM.of (cc := cX2_pumpAsks) (maxL := 4) (ret := (some .int)) (by decide) rfl (Nat.le_of_ble_eq_true rfl) ?_
  intro p9 e9 s9 m9 ar9 be9 me9 c9 Q9 A9 ls C0 hN hnm hlk hK hA hret hP hD hS hl
  obtain ⟨hx, hb, hml, hown, hts⟩ := id C0
  have hl : lv_has ls 4 [(0, .ref a0), (1, .int (nI q))] := hl
  obtain ⟨H, hH0⟩ : ∃ H, H = s9.heap := ⟨_, rfl⟩
  obtain ⟨locs, hlc0⟩ : ∃ z : List Loc, z = [] := ⟨_, rfl⟩
  have hP : va_P D vwCl [(a0, .inr (2, [.ref a1, .ref a2, .ref a3, .ref a4, .ref a5, .ref a6, .int (nI w)])), (a1, .inl (cI, 8, .inl (ro 8 sz))), (a2, .inl (cI, 8, .inl (ro 8 co))), (a3, .inl (cI, 8, .inl (ro 8 va))), (a4, .inl (cI, 8, .inl (ro 8 am))), (a5, .inl (cI, 2, .inl (ro 2 li))), (a6, .inl (cI, 3, .inl (ro 3 se)))] H := by rw [hH0]; exact hP
  have hD : va_D A9 [(a0, .inr (2, [.ref a1, .ref a2, .ref a3, .ref a4, .ref a5, .ref a6, .int (nI w)])), (a1, .inl (cI, 8, .inl (ro 8 sz))), (a2, .inl (cI, 8, .inl (ro 8 co))), (a3, .inl (cI, 8, .inl (ro 8 va))), (a4, .inl (cI, 8, .inl (ro 8 am))), (a5, .inl (cI, 2, .inl (ro 2 li))), (a6, .inl (cI, 3, .inl (ro 3 se)))] := hD
  have hS : va_S A9 s9.heap H locs := by rw [hH0, hlc0]; exact hS
  suffices hgo : W p9 l e9 ({ frames := 1, cells := 0, slots := 0, locals := 21 } : Room) s9 m9 ar9 be9 me9 c9 H locs 0 0 Q9 (F0 m9 0 ls []) by rw [hH0, hlc0] at hgo; exact hgo
  clear hH0 hlc0
  refine lv_iconst (v := nI 0) hx hb dX2_pumpAsks_0 (by decide +kernel) ?_
  refine lv_istore_n (lv' := [(2, .int (nI 0)), (0, .ref a0), (1, .int (nI q))]) hx hb dX2_pumpAsks_1 rfl hl (by decide) rfl (fun ls hl => ?_)
  refine lv_iconst (v := nI 0) hx hb dX2_pumpAsks_2 (by decide +kernel) ?_
  refine lv_istore_n (lv' := [(3, .int (nI 0)), (2, .int (nI 0)), (0, .ref a0), (1, .int (nI q))]) hx hb dX2_pumpAsks_3 rfl hl (by decide) rfl (fun ls hl => ?_)
  have L4 : ∀ (fuel : Nat) (i : Nat) (u : Nat) (H : Heap) (locs : List Loc) (ls : Array Slot), (i ≤ 4) → (u = sumTo (fun i => sz (q * 4 + i) * va (q * 4 + i)) i) → (4 - i < fuel) → va_P D vwCl [(a0, .inr (2, [.ref a1, .ref a2, .ref a3, .ref a4, .ref a5, .ref a6, .int (nI w)])), (a1, .inl (cI, 8, .inl (ro 8 sz))), (a2, .inl (cI, 8, .inl (ro 8 co))), (a3, .inl (cI, 8, .inl (ro 8 va))), (a4, .inl (cI, 8, .inl (ro 8 am))), (a5, .inl (cI, 2, .inl (ro 2 li))), (a6, .inl (cI, 3, .inl (ro 3 se)))] H → va_D A9 [(a0, .inr (2, [.ref a1, .ref a2, .ref a3, .ref a4, .ref a5, .ref a6, .int (nI w)])), (a1, .inl (cI, 8, .inl (ro 8 sz))), (a2, .inl (cI, 8, .inl (ro 8 co))), (a3, .inl (cI, 8, .inl (ro 8 va))), (a4, .inl (cI, 8, .inl (ro 8 am))), (a5, .inl (cI, 2, .inl (ro 2 li))), (a6, .inl (cI, 3, .inl (ro 3 se)))] → va_S A9 s9.heap H locs → lv_has ls 4 [(0, .ref a0), (1, .int (nI q)), (2, .int (nI u)), (3, .int (nI i))] → W p9 l e9 ({ frames := 1, cells := 0, slots := 0, locals := 21 } : Room) s9 m9 ar9 be9 me9 c9 H locs 0 0 Q9 (F0 m9 4 ls []) := by
    intro fuel
    induction fuel with
    | zero => intro i u H locs ls hi hu hfu; exact absurd hfu (Nat.not_lt_zero _)
    | succ fuel ih4 =>
      intro i u H locs ls hi hu hfu hP hD hS hl
      refine lv_iload_n hx hb dX2_pumpAsks_4 rfl (lv_at hl 3 rfl) ?_
      refine lv_iconst (v := nI 4) hx hb dX2_pumpAsks_5 (by decide +kernel) ?_
      refine q_ige (tgt := 27) (by omega) (by omega) hx hb dX2_pumpAsks_6 (by decide) (fun c_6 => ?_) (fun c_6 => ?_)
      ·
        refine lv_iload_n hx hb dX2_pumpAsks_27 rfl (lv_at hl 2 rfl) ?_
        exact hret _ _ _ _ (some (.int (nI u))) () 28 ls (by decide) (by decide) (by exact rv (by rw [hu, show i = 4 by omega]; rfl)) hP hD hS (ret_i dX2_pumpAsks_28)
      ·
        refine lv_iload_n hx hb dX2_pumpAsks_9 rfl (lv_at hl 2 rfl) ?_
        refine lv_aload_n hx hb dX2_pumpAsks_10 rfl (lv_at hl 0 rfl) ?_
        refine lv_iload_n hx hb dX2_pumpAsks_11 rfl (lv_at hl 1 rfl) ?_
        refine lv_iconst (v := nI 4) hx hb dX2_pumpAsks_12 (by decide +kernel) ?_
        refine q_imul hx hb dX2_pumpAsks_13 ?_
        refine lv_iload_n hx hb dX2_pumpAsks_14 rfl (lv_at hl 3 rfl) ?_
        refine q_iadd hx hb dX2_pumpAsks_15 ?_
        refine KM.callV (As := [.int (nI ((q * 4) + i))]) (rest := [.int (nI u)]) C0 hN (k_X2_asks l D cI cS cL a0 a1 a2 a3 a4 a5 a6 sz co va am li se w ((q * 4) + i)  (by first | with_reducible assumption | omega)) (cwV 1 hts gX2_pumpAsks_X2_asks rfl rfl rfl (by decide +kernel) ⟨Nat.le_of_ble_eq_true rfl, Nat.le_of_ble_eq_true rfl⟩) hK hP hD hS hA [0, 1, 2, 3, 4, 5, 6] rfl (by decide) (fun _ => rfl) 0 2 rfl rfl rfl rfl hl.1 rfl (Nat.le_of_ble_eq_true rfl) dX2_pumpAsks_16 ⟨Nat.le_of_ble_eq_true rfl, Nat.le_of_ble_eq_true rfl⟩ (fun v9 u9 H locs hv hP hD hS => ?_)
        subst hv
        have hP : va_P D vwCl [(a0, .inr (2, [.ref a1, .ref a2, .ref a3, .ref a4, .ref a5, .ref a6, .int (nI w)])), (a1, .inl (cI, 8, .inl (ro 8 sz))), (a2, .inl (cI, 8, .inl (ro 8 co))), (a3, .inl (cI, 8, .inl (ro 8 va))), (a4, .inl (cI, 8, .inl (ro 8 am))), (a5, .inl (cI, 2, .inl (ro 2 li))), (a6, .inl (cI, 3, .inl (ro 3 se)))] H := hP
        have hD : va_D A9 [(a0, .inr (2, [.ref a1, .ref a2, .ref a3, .ref a4, .ref a5, .ref a6, .int (nI w)])), (a1, .inl (cI, 8, .inl (ro 8 sz))), (a2, .inl (cI, 8, .inl (ro 8 co))), (a3, .inl (cI, 8, .inl (ro 8 va))), (a4, .inl (cI, 8, .inl (ro 8 am))), (a5, .inl (cI, 2, .inl (ro 2 li))), (a6, .inl (cI, 3, .inl (ro 3 se)))] := hD
        refine W.eq (g2 := F0 m9 19 ls [.int (nI (sz ((q * 4) + i) * va ((q * 4) + i))), .int (nI u)]) rfl ?_
        refine q_iadd hx hb dX2_pumpAsks_19 ?_
        refine lv_istore_n (lv' := [(2, .int (nI (u + (sz ((q * 4) + i) * va ((q * 4) + i))))), (0, .ref a0), (1, .int (nI q)), (3, .int (nI i))]) hx hb dX2_pumpAsks_20 rfl hl (by decide) rfl (fun ls hl => ?_)
        refine lv_iinc (v := (nI (i + 1))) (lv' := [(3, .int (nI (i + 1))), (2, .int (nI (u + (sz ((q * 4) + i) * va ((q * 4) + i))))), (0, .ref a0), (1, .int (nI q))]) hx hb dX2_pumpAsks_21 hl (k := 3) rfl (nI_add i 1) (by decide) rfl (fun ls hl => ?_)
        refine lv_goto (tgt := 4) hx hb dX2_pumpAsks_24 (by decide) ?_
        exact ih4  (i + 1) (u + (sz ((q * 4) + i) * va ((q * 4) + i))) _ _ ls (by first | with_reducible assumption | omega) (by rw [hu]; rfl) (by omega) hP hD hS (lv_sub hl [2, 3, 1, 0] rfl)
  exact L4 (4 - 0 + 1) 0 0 _ _ ls (by first | with_reducible assumption | omega) (by rfl) (by omega) hP hD hS (lv_sub hl [2, 3, 1, 0] rfl)

theorem in_X2_highestInWind_X2 : ∀ w ∈ wsX20, w ∈ wsX2_highestInWind := by decide +kernel
theorem fl_X2_highestInWind_27 : Cond.fieldLink RX2 27 "FountainCues$Fountain" "settings" "[I" ∈ wsX2_highestInWind := by decide +kernel
theorem fl_X2_highestInWind_34 : Cond.fieldLink RX2 34 "FountainCues$Fountain" "wind" "I" ∈ wsX2_highestInWind := by decide +kernel
set_option maxHeartbeats 4000000 in
set_option maxRecDepth 100000 in
theorem k_X2_highestInWind (l : Launch) (D : va_G) (cI cS cL : ClassId) (a0 : Nat) (a1 : Nat) (a2 : Nat) (a3 : Nat) (a4 : Nat) (a5 : Nat) (a6 : Nat) (sz : Nat → Nat) (co : Nat → Nat) (va : Nat → Nat) (am : Nat → Nat) (li : Nat → Nat) (se : Nat → Nat) (w : Nat) (hB : fB sz va am li se w) : KM l D (TY cI cS cL) yX2_highestInWind wsX2_highestInWind ({ frames := 1, cells := 0, slots := 0, locals := 21 } : Room) [(a0, .inr (2, [.ref a1, .ref a2, .ref a3, .ref a4, .ref a5, .ref a6, .int (nI w)])), (a1, .inl (cI, 8, .inl (ro 8 sz))), (a2, .inl (cI, 8, .inl (ro 8 co))), (a3, .inl (cI, 8, .inl (ro 8 va))), (a4, .inl (cI, 8, .inl (ro 8 am))), (a5, .inl (cI, 2, .inl (ro 2 li))), (a6, .inl (cI, 3, .inl (ro 3 se)))] [.ref a0] (fun (v : Option Value) (_ : Unit) => v = some (.int (nI (fHi se w)))) (fun _ : Unit => [(a0, .inr (2, [.ref a1, .ref a2, .ref a3, .ref a4, .ref a5, .ref a6, .int (nI w)])), (a1, .inl (cI, 8, .inl (ro 8 sz))), (a2, .inl (cI, 8, .inl (ro 8 co))), (a3, .inl (cI, 8, .inl (ro 8 va))), (a4, .inl (cI, 8, .inl (ro 8 am))), (a5, .inl (cI, 2, .inl (ro 2 li))), (a6, .inl (cI, 3, .inl (ro 3 se)))]) := by
  refine KM.of (cc := cX2_highestInWind) (maxL := 2) (ret := (some .int)) (by decide) rfl (Nat.le_of_ble_eq_true rfl) ?_
  intro p9 e9 s9 m9 ar9 be9 me9 c9 Q9 A9 ls C0 hN hnm hlk hK hA hret hP hD hS hl
  obtain ⟨hx, hb, hml, hown, hts⟩ := id C0
  have hl : lv_has ls 2 [(0, .ref a0)] := hl
  obtain ⟨H, hH0⟩ : ∃ H, H = s9.heap := ⟨_, rfl⟩
  obtain ⟨locs, hlc0⟩ : ∃ z : List Loc, z = [] := ⟨_, rfl⟩
  have hP : va_P D vwCl [(a0, .inr (2, [.ref a1, .ref a2, .ref a3, .ref a4, .ref a5, .ref a6, .int (nI w)])), (a1, .inl (cI, 8, .inl (ro 8 sz))), (a2, .inl (cI, 8, .inl (ro 8 co))), (a3, .inl (cI, 8, .inl (ro 8 va))), (a4, .inl (cI, 8, .inl (ro 8 am))), (a5, .inl (cI, 2, .inl (ro 2 li))), (a6, .inl (cI, 3, .inl (ro 3 se)))] H := by rw [hH0]; exact hP
  have hD : va_D A9 [(a0, .inr (2, [.ref a1, .ref a2, .ref a3, .ref a4, .ref a5, .ref a6, .int (nI w)])), (a1, .inl (cI, 8, .inl (ro 8 sz))), (a2, .inl (cI, 8, .inl (ro 8 co))), (a3, .inl (cI, 8, .inl (ro 8 va))), (a4, .inl (cI, 8, .inl (ro 8 am))), (a5, .inl (cI, 2, .inl (ro 2 li))), (a6, .inl (cI, 3, .inl (ro 3 se)))] := hD
  have hS : va_S A9 s9.heap H locs := by rw [hH0, hlc0]; exact hS
  suffices hgo : W p9 l e9 ({ frames := 1, cells := 0, slots := 0, locals := 21 } : Room) s9 m9 ar9 be9 me9 c9 H locs 0 0 Q9 (F0 m9 0 ls []) by rw [hH0, hlc0] at hgo; exact hgo
  clear hH0 hlc0
  obtain ⟨hB1, hB2, hB3, hB4, hB5, hB6, hB7, hB8⟩ := id hB
  refine lv_aload_n hx hb dX2_highestInWind_0 rfl (lv_at hl 0 rfl) ?_
  refine va_get (D := D) (ci := 2) (v := .ref a6) (C := RX2) (T := TX2) (N := 7) hx hb hts in_X2_highestInWind_X2 hown hK hP 0 rfl rfl 5 (by decide) (hts _ fl_X2_highestInWind_27) (fun _ h9 => h9) rfl dX2_highestInWind_1 ?_
  refine lv_iconst (v := nI 0) hx hb dX2_highestInWind_4 (by decide +kernel) ?_
  refine q_iald 6 0 (by omega) (by omega) hx hb hK hP rfl rfl dX2_highestInWind_5 ?_
  refine lv_istore_n (lv' := [(1, .int (nI (se 0))), (0, .ref a0)]) hx hb dX2_highestInWind_6 rfl hl (by decide) rfl (fun ls hl => ?_)
  refine lv_aload_n hx hb dX2_highestInWind_7 rfl (lv_at hl 1 rfl) ?_
  refine va_get (D := D) (ci := 2) (v := .int (nI w)) (C := RX2) (T := TX2) (N := 7) hx hb hts in_X2_highestInWind_X2 hown hK hP 0 rfl rfl 6 (by decide) (hts _ fl_X2_highestInWind_34) (fun _ h9 => h9) rfl dX2_highestInWind_8 ?_
  refine lv_iload_n hx hb dX2_highestInWind_11 rfl (lv_at hl 0 rfl) ?_
  refine q_ile (tgt := 31) (by omega) (by omega) hx hb dX2_highestInWind_12 (by decide) (fun c_12 => ?_) (fun c_12 => ?_)
  ·
    refine lv_bipush (v := nI 10) hx hb dX2_highestInWind_31 (by decide +kernel) ?_
    exact hret _ _ _ _ (some (.int (nI 10))) () 33 ls (by decide) (by decide) (by exact rv (by unfold fHi; split <;> omega)) hP hD hS (ret_i dX2_highestInWind_33)
  ·
    refine lv_iconst (v := nI 0) hx hb dX2_highestInWind_15 (by decide +kernel) ?_
    refine lv_bipush (v := nI 10) hx hb dX2_highestInWind_16 (by decide +kernel) ?_
    refine lv_iload_n hx hb dX2_highestInWind_18 rfl (lv_at hl 0 rfl) ?_
    refine q_iadd hx hb dX2_highestInWind_19 ?_
    refine lv_aload_n hx hb dX2_highestInWind_20 rfl (lv_at hl 1 rfl) ?_
    refine va_get (D := D) (ci := 2) (v := .int (nI w)) (C := RX2) (T := TX2) (N := 7) hx hb hts in_X2_highestInWind_X2 hown hK hP 0 rfl rfl 6 (by decide) (hts _ fl_X2_highestInWind_34) (fun _ h9 => h9) rfl dX2_highestInWind_21 ?_
    refine lv_isub hx hb dX2_highestInWind_24 ?_
    refine va_mmax hx hb (hml.trans hl.1.symm) hown (hts (.methodLink RX2 44 Lib.Math.max.name) (by decide +kernel)) (hts (.static Lib.Math.max.name) (by decide +kernel)) (hts (.initialized "java/lang/Math") (by decide +kernel)) (hts (.code Lib.Math.max.name Lib.Math.max.code 2 (some .int)) (by decide +kernel)) (Nat.le_of_ble_eq_true rfl) (Nat.le_of_ble_eq_true rfl) (Nat.zero_le _) (Nat.zero_le _) dX2_highestInWind_25 ?_
    refine q_topi (y := (nI (10 + se 0 - w))) (by exact mx_s (by omega) (by omega)) ?_
    refine lv_goto (tgt := 33) hx hb dX2_highestInWind_28 (by decide) ?_
    exact hret _ _ _ _ (some (.int (nI (10 + se 0 - w)))) () 33 ls (by decide) (by decide) (by exact rv (by unfold fHi; split <;> omega)) hP hD hS (ret_i dX2_highestInWind_33)

theorem in_X2_heightWith_X2 : ∀ w ∈ wsX20, w ∈ wsX2_heightWith := by decide +kernel
theorem fl_X2_heightWith_9 : Cond.fieldLink RX2 9 "FountainCues$Fountain" "sizes" "[I" ∈ wsX2_heightWith := by decide +kernel
set_option maxHeartbeats 4000000 in
set_option maxRecDepth 100000 in
theorem k_X2_heightWith (l : Launch) (D : va_G) (cI cS cL : ClassId) (a0 : Nat) (a1 : Nat) (a2 : Nat) (a3 : Nat) (a4 : Nat) (a5 : Nat) (a6 : Nat) (sz : Nat → Nat) (co : Nat → Nat) (va : Nat → Nat) (am : Nat → Nat) (li : Nat → Nat) (se : Nat → Nat) (w : Nat) (j : Nat) (g : Nat) (hB : fB sz va am li se w) (hj : j < 8) (hg : g < 2 ^ 31) : KM l D (TY cI cS cL) yX2_heightWith wsX2_heightWith ({ frames := 1, cells := 0, slots := 0, locals := 21 } : Room) [(a0, .inr (2, [.ref a1, .ref a2, .ref a3, .ref a4, .ref a5, .ref a6, .int (nI w)])), (a1, .inl (cI, 8, .inl (ro 8 sz))), (a2, .inl (cI, 8, .inl (ro 8 co))), (a3, .inl (cI, 8, .inl (ro 8 va))), (a4, .inl (cI, 8, .inl (ro 8 am))), (a5, .inl (cI, 2, .inl (ro 2 li))), (a6, .inl (cI, 3, .inl (ro 3 se)))] [.ref a0, .int (nI j), .int (nI g)] (fun (v : Option Value) (_ : Unit) => v = some (.int (nI (g / sz j)))) (fun _ : Unit => [(a0, .inr (2, [.ref a1, .ref a2, .ref a3, .ref a4, .ref a5, .ref a6, .int (nI w)])), (a1, .inl (cI, 8, .inl (ro 8 sz))), (a2, .inl (cI, 8, .inl (ro 8 co))), (a3, .inl (cI, 8, .inl (ro 8 va))), (a4, .inl (cI, 8, .inl (ro 8 am))), (a5, .inl (cI, 2, .inl (ro 2 li))), (a6, .inl (cI, 3, .inl (ro 3 se)))]) := by
  refine KM.of (cc := cX2_heightWith) (maxL := 3) (ret := (some .int)) (by decide) rfl (Nat.le_of_ble_eq_true rfl) ?_
  intro p9 e9 s9 m9 ar9 be9 me9 c9 Q9 A9 ls C0 hN hnm hlk hK hA hret hP hD hS hl
  obtain ⟨hx, hb, hml, hown, hts⟩ := id C0
  have hl : lv_has ls 3 [(0, .ref a0), (1, .int (nI j)), (2, .int (nI g))] := hl
  obtain ⟨H, hH0⟩ : ∃ H, H = s9.heap := ⟨_, rfl⟩
  obtain ⟨locs, hlc0⟩ : ∃ z : List Loc, z = [] := ⟨_, rfl⟩
  have hP : va_P D vwCl [(a0, .inr (2, [.ref a1, .ref a2, .ref a3, .ref a4, .ref a5, .ref a6, .int (nI w)])), (a1, .inl (cI, 8, .inl (ro 8 sz))), (a2, .inl (cI, 8, .inl (ro 8 co))), (a3, .inl (cI, 8, .inl (ro 8 va))), (a4, .inl (cI, 8, .inl (ro 8 am))), (a5, .inl (cI, 2, .inl (ro 2 li))), (a6, .inl (cI, 3, .inl (ro 3 se)))] H := by rw [hH0]; exact hP
  have hD : va_D A9 [(a0, .inr (2, [.ref a1, .ref a2, .ref a3, .ref a4, .ref a5, .ref a6, .int (nI w)])), (a1, .inl (cI, 8, .inl (ro 8 sz))), (a2, .inl (cI, 8, .inl (ro 8 co))), (a3, .inl (cI, 8, .inl (ro 8 va))), (a4, .inl (cI, 8, .inl (ro 8 am))), (a5, .inl (cI, 2, .inl (ro 2 li))), (a6, .inl (cI, 3, .inl (ro 3 se)))] := hD
  have hS : va_S A9 s9.heap H locs := by rw [hH0, hlc0]; exact hS
  suffices hgo : W p9 l e9 ({ frames := 1, cells := 0, slots := 0, locals := 21 } : Room) s9 m9 ar9 be9 me9 c9 H locs 0 0 Q9 (F0 m9 0 ls []) by rw [hH0, hlc0] at hgo; exact hgo
  clear hH0 hlc0
  obtain ⟨hB1, hB2, hB3, hB4, hB5, hB6, hB7, hB8⟩ := id hB
  have hs1 := hB1 j hj
  refine lv_iload_n hx hb dX2_heightWith_0 rfl (lv_at hl 2 rfl) ?_
  refine lv_aload_n hx hb dX2_heightWith_1 rfl (lv_at hl 0 rfl) ?_
  refine va_get (D := D) (ci := 2) (v := .ref a1) (C := RX2) (T := TX2) (N := 7) hx hb hts in_X2_heightWith_X2 hown hK hP 0 rfl rfl 0 (by decide) (hts _ fl_X2_heightWith_9) (fun _ h9 => h9) rfl dX2_heightWith_2 ?_
  refine lv_iload_n hx hb dX2_heightWith_5 rfl (lv_at hl 1 rfl) ?_
  refine q_iald 1 0 (by omega) (by omega) hx hb hK hP rfl rfl dX2_heightWith_6 ?_
  refine KM.callSN (As := [.int (nI g), .int (nI (sz j))]) (rest := []) C0 hN (k_X5_quotient l D cI cS cL g (sz j)  (by first | with_reducible assumption | omega) (by first | with_reducible assumption | omega)) ⟨va_cnB 2 hts gX2_heightWith_X5_quotient_n57 rfl rfl rfl (hN.1 (RX2, 57, yX5_quotient, RX5) (by decide +kernel)) (hts (.initialized RX5) (by decide +kernel)) (by decide +kernel) ⟨Nat.le_of_ble_eq_true rfl, Nat.le_of_ble_eq_true rfl⟩, (hts (.static yX5_quotient) (by decide +kernel)), trivial⟩ hK hP hD hS hA [] rfl (by decide) (fun _ => rfl) rfl hl.1 rfl (Nat.le_of_ble_eq_true rfl) dX2_heightWith_7 ⟨Nat.le_of_ble_eq_true rfl, Nat.le_of_ble_eq_true rfl⟩ (fun v9 u9 H locs hv hP hD hS => ?_)
  subst hv
  have hP : va_P D vwCl [(a0, .inr (2, [.ref a1, .ref a2, .ref a3, .ref a4, .ref a5, .ref a6, .int (nI w)])), (a1, .inl (cI, 8, .inl (ro 8 sz))), (a2, .inl (cI, 8, .inl (ro 8 co))), (a3, .inl (cI, 8, .inl (ro 8 va))), (a4, .inl (cI, 8, .inl (ro 8 am))), (a5, .inl (cI, 2, .inl (ro 2 li))), (a6, .inl (cI, 3, .inl (ro 3 se)))] H := hP
  have hD : va_D A9 [(a0, .inr (2, [.ref a1, .ref a2, .ref a3, .ref a4, .ref a5, .ref a6, .int (nI w)])), (a1, .inl (cI, 8, .inl (ro 8 sz))), (a2, .inl (cI, 8, .inl (ro 8 co))), (a3, .inl (cI, 8, .inl (ro 8 va))), (a4, .inl (cI, 8, .inl (ro 8 am))), (a5, .inl (cI, 2, .inl (ro 2 li))), (a6, .inl (cI, 3, .inl (ro 3 se)))] := hD
  refine W.eq (g2 := F0 m9 10 ls [.int (nI (g / (sz j)))]) rfl ?_
  exact hret _ _ _ _ (some (.int (nI (g / (sz j))))) () 10 ls (by decide) (by decide) (by rfl) hP hD hS (ret_i dX2_heightWith_10)
