set_option maxHeartbeats 4000000 in
set_option maxRecDepth 100000 in
theorem k_X0_isDigit (l : Launch) (D : va_G) (cI cS cL : ClassId) (k : Nat) (hk : k < 2 ^ 31) : KM l D (TY cI cS cL) yX0_isDigit wsX0_isDigit ({ frames := 0, cells := 0, slots := 0, locals := 0 } : Room) [] [.int (nI k)] (fun (v : Option Value) (_ : Unit) => v = some (.int (nI (bI (isD k))))) (fun _ : Unit => []) := by
  refine KM.of (cc := cX0_isDigit) (maxL := 1) (ret := (some .boolean)) (by decide) rfl (Nat.le_of_ble_eq_true rfl) ?_
  intro p9 e9 s9 m9 ar9 be9 me9 c9 Q9 A9 ls C0 hN hnm hlk hK hA hret hP hD hS hl
  obtain ⟨hx, hb, hml, hown, hts⟩ := id C0
  have hl : lv_has ls 1 [(0, .int (nI k))] := hl
  obtain ⟨H, hH0⟩ : ∃ H, H = s9.heap := ⟨_, rfl⟩
  obtain ⟨locs, hlc0⟩ : ∃ z : List Loc, z = [] := ⟨_, rfl⟩
  have hP : va_P D vwCl [] H := by rw [hH0]; exact hP
  have hD : va_D A9 [] := hD
  have hS : va_S A9 s9.heap H locs := by rw [hH0, hlc0]; exact hS
  suffices hgo : W p9 l e9 ({ frames := 0, cells := 0, slots := 0, locals := 0 } : Room) s9 m9 ar9 be9 me9 c9 H locs 0 0 Q9 (F0 m9 0 ls []) by rw [hH0, hlc0] at hgo; exact hgo
  clear hH0 hlc0
  refine lv_iload_n hx hb dX0_isDigit_0 rfl (lv_at hl 0 rfl) ?_
  refine lv_bipush (v := nI 48) hx hb dX0_isDigit_1 (by decide +kernel) ?_
  refine q_ilt (tgt := 16) (by omega) (by omega) hx hb dX0_isDigit_3 (by decide) (fun c_3 => ?_) (fun c_3 => ?_)
  ·
    refine lv_iconst (v := nI 0) hx hb dX0_isDigit_16 (by decide +kernel) ?_
    exact hret _ _ _ _ (some (.int (nI 0))) () 17 ls (by decide) (by decide) (by exact rv (by unfold bI; split <;> omega)) hP hD hS (ret_z dX0_isDigit_17 (by first | exact bI_le | omega))
  ·
    refine lv_iload_n hx hb dX0_isDigit_6 rfl (lv_at hl 0 rfl) ?_
    refine lv_bipush (v := nI 57) hx hb dX0_isDigit_7 (by decide +kernel) ?_
    refine q_igt (tgt := 16) (by omega) (by omega) hx hb dX0_isDigit_9 (by decide) (fun c_9 => ?_) (fun c_9 => ?_)
    ·
      refine lv_iconst (v := nI 0) hx hb dX0_isDigit_16 (by decide +kernel) ?_
      exact hret _ _ _ _ (some (.int (nI 0))) () 17 ls (by decide) (by decide) (by exact rv (by unfold bI; split <;> omega)) hP hD hS (ret_z dX0_isDigit_17 (by first | exact bI_le | omega))
    ·
      refine lv_iconst (v := nI 1) hx hb dX0_isDigit_12 (by decide +kernel) ?_
      refine lv_goto (tgt := 17) hx hb dX0_isDigit_13 (by decide) ?_
      exact hret _ _ _ _ (some (.int (nI 1))) () 17 ls (by decide) (by decide) (by exact rv (by unfold bI; split <;> omega)) hP hD hS (ret_z dX0_isDigit_17 (by first | exact bI_le | omega))

set_option maxHeartbeats 4000000 in
set_option maxRecDepth 100000 in
theorem k_X0_isJet (l : Launch) (D : va_G) (cI cS cL : ClassId) (k : Nat) (hk : k < 2 ^ 31) : KM l D (TY cI cS cL) yX0_isJet wsX0_isJet ({ frames := 0, cells := 0, slots := 0, locals := 0 } : Room) [] [.int (nI k)] (fun (v : Option Value) (_ : Unit) => v = some (.int (nI (bI (isJ k))))) (fun _ : Unit => []) := by
  refine KM.of (cc := cX0_isJet) (maxL := 1) (ret := (some .boolean)) (by decide) rfl (Nat.le_of_ble_eq_true rfl) ?_
  intro p9 e9 s9 m9 ar9 be9 me9 c9 Q9 A9 ls C0 hN hnm hlk hK hA hret hP hD hS hl
  obtain ⟨hx, hb, hml, hown, hts⟩ := id C0
  have hl : lv_has ls 1 [(0, .int (nI k))] := hl
  obtain ⟨H, hH0⟩ : ∃ H, H = s9.heap := ⟨_, rfl⟩
  obtain ⟨locs, hlc0⟩ : ∃ z : List Loc, z = [] := ⟨_, rfl⟩
  have hP : va_P D vwCl [] H := by rw [hH0]; exact hP
  have hD : va_D A9 [] := hD
  have hS : va_S A9 s9.heap H locs := by rw [hH0, hlc0]; exact hS
  suffices hgo : W p9 l e9 ({ frames := 0, cells := 0, slots := 0, locals := 0 } : Room) s9 m9 ar9 be9 me9 c9 H locs 0 0 Q9 (F0 m9 0 ls []) by rw [hH0, hlc0] at hgo; exact hgo
  clear hH0 hlc0
  refine lv_iload_n hx hb dX0_isJet_0 rfl (lv_at hl 0 rfl) ?_
  refine lv_bipush (v := nI 97) hx hb dX0_isJet_1 (by decide +kernel) ?_
  refine q_ilt (tgt := 16) (by omega) (by omega) hx hb dX0_isJet_3 (by decide) (fun c_3 => ?_) (fun c_3 => ?_)
  ·
    refine lv_iconst (v := nI 0) hx hb dX0_isJet_16 (by decide +kernel) ?_
    exact hret _ _ _ _ (some (.int (nI 0))) () 17 ls (by decide) (by decide) (by exact rv (by unfold bI; split <;> omega)) hP hD hS (ret_z dX0_isJet_17 (by first | exact bI_le | omega))
  ·
    refine lv_iload_n hx hb dX0_isJet_6 rfl (lv_at hl 0 rfl) ?_
    refine lv_bipush (v := nI 104) hx hb dX0_isJet_7 (by decide +kernel) ?_
    refine q_igt (tgt := 16) (by omega) (by omega) hx hb dX0_isJet_9 (by decide) (fun c_9 => ?_) (fun c_9 => ?_)
    ·
      refine lv_iconst (v := nI 0) hx hb dX0_isJet_16 (by decide +kernel) ?_
      exact hret _ _ _ _ (some (.int (nI 0))) () 17 ls (by decide) (by decide) (by exact rv (by unfold bI; split <;> omega)) hP hD hS (ret_z dX0_isJet_17 (by first | exact bI_le | omega))
    ·
      refine lv_iconst (v := nI 1) hx hb dX0_isJet_12 (by decide +kernel) ?_
      refine lv_goto (tgt := 17) hx hb dX0_isJet_13 (by decide) ?_
      exact hret _ _ _ _ (some (.int (nI 1))) () 17 ls (by decide) (by decide) (by exact rv (by unfold bI; split <;> omega)) hP hD hS (ret_z dX0_isJet_17 (by first | exact bI_le | omega))

theorem in_X0_codeAt_X0 : ∀ w ∈ wsX00, w ∈ wsX0_codeAt := by decide +kernel
theorem fl_X0_codeAt_15 : Cond.fieldLink RX0 15 "FountainCues$CueText" "length" "I" ∈ wsX0_codeAt := by decide +kernel
theorem fl_X0_codeAt_9 : Cond.fieldLink RX0 9 "FountainCues$CueText" "codes" "[I" ∈ wsX0_codeAt := by decide +kernel
set_option maxHeartbeats 4000000 in
set_option maxRecDepth 100000 in
theorem k_X0_codeAt (l : Launch) (D : va_G) (cI cS cL : ClassId) (a0 : Nat) (a1 : Nat) (n : Nat) (cs : Nat → Nat) (i : Nat) (hn : n ≤ 60) (hi : i < 2 ^ 31) : KM l D (TY cI cS cL) yX0_codeAt wsX0_codeAt ({ frames := 0, cells := 0, slots := 0, locals := 0 } : Room) [(a0, .inr (0, [.ref a1, .int (nI n)])), (a1, .inl (cI, 60, .inl (ro 60 cs)))] [.ref a0, .int (nI i)] (fun (v : Option Value) (_ : Unit) => v = some (.int (if i < n then nI (cs i) else -1))) (fun _ : Unit => [(a0, .inr (0, [.ref a1, .int (nI n)])), (a1, .inl (cI, 60, .inl (ro 60 cs)))]) := by
  refine KM.of (cc := cX0_codeAt) (maxL := 2) (ret := (some .int)) (by decide) rfl (Nat.le_of_ble_eq_true rfl) ?_
  intro p9 e9 s9 m9 ar9 be9 me9 c9 Q9 A9 ls C0 hN hnm hlk hK hA hret hP hD hS hl
  obtain ⟨hx, hb, hml, hown, hts⟩ := id C0
  have hl : lv_has ls 2 [(0, .ref a0), (1, .int (nI i))] := hl
  obtain ⟨H, hH0⟩ : ∃ H, H = s9.heap := ⟨_, rfl⟩
  obtain ⟨locs, hlc0⟩ : ∃ z : List Loc, z = [] := ⟨_, rfl⟩
  have hP : va_P D vwCl [(a0, .inr (0, [.ref a1, .int (nI n)])), (a1, .inl (cI, 60, .inl (ro 60 cs)))] H := by rw [hH0]; exact hP
  have hD : va_D A9 [(a0, .inr (0, [.ref a1, .int (nI n)])), (a1, .inl (cI, 60, .inl (ro 60 cs)))] := hD
  have hS : va_S A9 s9.heap H locs := by rw [hH0, hlc0]; exact hS
  suffices hgo : W p9 l e9 ({ frames := 0, cells := 0, slots := 0, locals := 0 } : Room) s9 m9 ar9 be9 me9 c9 H locs 0 0 Q9 (F0 m9 0 ls []) by rw [hH0, hlc0] at hgo; exact hgo
  clear hH0 hlc0
  refine lv_iload_n hx hb dX0_codeAt_0 rfl (lv_at hl 1 rfl) ?_
  refine lv_if_lt (tgt := 27) hx hb dX0_codeAt_1 (by decide) (fun c_1 => ?_) (fun c_1 => ?_)
  · exact absurd c_1 (nI_pos (by omega))
  ·
    refine lv_iload_n hx hb dX0_codeAt_4 rfl (lv_at hl 1 rfl) ?_
    refine lv_aload_n hx hb dX0_codeAt_5 rfl (lv_at hl 0 rfl) ?_
    refine va_get (D := D) (ci := 0) (v := .int (nI n)) (C := RX0) (T := TX0) (N := 2) hx hb hts in_X0_codeAt_X0 hown hK hP 0 rfl rfl 1 (by decide) (hts _ fl_X0_codeAt_15) (fun _ h9 => h9) rfl dX0_codeAt_6 ?_
    refine q_ige (tgt := 27) (by omega) (by omega) hx hb dX0_codeAt_9 (by decide) (fun c_9 => ?_) (fun c_9 => ?_)
    ·
      refine lv_iconst (v := (-1)) hx hb dX0_codeAt_27 (by decide +kernel) ?_
      exact hret _ _ _ _ (some (.int (-1))) () 28 ls (by decide) (by decide) (by first | exact rvi (if_pos (by omega)).symm | exact rvi (if_neg (by omega)).symm) hP hD hS (ret_i dX0_codeAt_28)
    ·
      refine lv_iload_n hx hb dX0_codeAt_12 rfl (lv_at hl 1 rfl) ?_
      refine lv_bipush (v := nI 60) hx hb dX0_codeAt_13 (by decide +kernel) ?_
      refine q_ige (tgt := 27) (by omega) (by omega) hx hb dX0_codeAt_15 (by decide) (fun c_15 => ?_) (fun c_15 => ?_)
      ·
        refine lv_iconst (v := (-1)) hx hb dX0_codeAt_27 (by decide +kernel) ?_
        exact hret _ _ _ _ (some (.int (-1))) () 28 ls (by decide) (by decide) (by first | exact rvi (if_pos (by omega)).symm | exact rvi (if_neg (by omega)).symm) hP hD hS (ret_i dX0_codeAt_28)
      ·
        refine lv_aload_n hx hb dX0_codeAt_18 rfl (lv_at hl 0 rfl) ?_
        refine va_get (D := D) (ci := 0) (v := .ref a1) (C := RX0) (T := TX0) (N := 2) hx hb hts in_X0_codeAt_X0 hown hK hP 0 rfl rfl 0 (by decide) (hts _ fl_X0_codeAt_9) (fun _ h9 => h9) rfl dX0_codeAt_19 ?_
        refine lv_iload_n hx hb dX0_codeAt_22 rfl (lv_at hl 1 rfl) ?_
        refine q_iald 1 0 (by omega) (by omega) hx hb hK hP rfl rfl dX0_codeAt_23 ?_
        refine lv_goto (tgt := 28) hx hb dX0_codeAt_24 (by decide) ?_
        exact hret _ _ _ _ (some (.int (nI (cs i)))) () 28 ls (by decide) (by decide) (by first | exact rvi (if_pos (by omega)).symm | exact rvi (if_neg (by omega)).symm) hP hD hS (ret_i dX0_codeAt_28)

set_option maxHeartbeats 4000000 in
set_option maxRecDepth 100000 in
theorem k_X0_stateBehind (l : Launch) (D : va_G) (cI cS cL : ClassId) (k : Nat) (x : Nat) (hk : k ≤ 8) (hx2 : x < 2 ^ 31) : KM l D (TY cI cS cL) yX0_stateBehind wsX0_stateBehind ({ frames := 1, cells := 0, slots := 0, locals := 20 } : Room) [] [.int (stI k), .int (nI x)] (fun (v : Option Value) (_ : Unit) => v = some (.int (stI (sB k x)))) (fun _ : Unit => []) := by
  refine KM.of (cc := cX0_stateBehind) (maxL := 2) (ret := (some .int)) (by decide) rfl (Nat.le_of_ble_eq_true rfl) ?_
  intro p9 e9 s9 m9 ar9 be9 me9 c9 Q9 A9 ls C0 hN hnm hlk hK hA hret hP hD hS hl
  obtain ⟨hx, hb, hml, hown, hts⟩ := id C0
  have hl : lv_has ls 2 [(0, .int (stI k)), (1, .int (nI x))] := hl
  obtain ⟨H, hH0⟩ : ∃ H, H = s9.heap := ⟨_, rfl⟩
  obtain ⟨locs, hlc0⟩ : ∃ z : List Loc, z = [] := ⟨_, rfl⟩
  have hP : va_P D vwCl [] H := by rw [hH0]; exact hP
  have hD : va_D A9 [] := hD
  have hS : va_S A9 s9.heap H locs := by rw [hH0, hlc0]; exact hS
  suffices hgo : W p9 l e9 ({ frames := 1, cells := 0, slots := 0, locals := 20 } : Room) s9 m9 ar9 be9 me9 c9 H locs 0 0 Q9 (F0 m9 0 ls []) by rw [hH0, hlc0] at hgo; exact hgo
  clear hH0 hlc0
  refine lv_iload_n hx hb dX0_stateBehind_0 rfl (lv_at hl 0 rfl) ?_
  by_cases c_1_0 : k = 0
  ·
    have hsw : ((stI k)).toInt = 0 := by rw [c_1_0]; decide +kernel
    refine lv_tableIn (off := 47) (tgt := 48) hx hb dX0_stateBehind_1 (by rw [hsw]; decide) (by rw [hsw]; decide) (by rw [hsw]; rfl) (by decide) ?_
    refine lv_iload_n hx hb dX0_stateBehind_48 rfl (lv_at hl 1 rfl) ?_
    refine lv_bipush (v := nI 48) hx hb dX0_stateBehind_49 (by decide +kernel) ?_
    refine q_ine (tgt := 58) (by omega) (by omega) hx hb dX0_stateBehind_51 (by decide) (fun c_51 => ?_) (fun c_51 => ?_)
    ·
      refine lv_iload_n hx hb dX0_stateBehind_58 rfl (lv_at hl 1 rfl) ?_
      refine KM.callS (As := [.int (nI x)]) (rest := []) C0 hN (k_X0_isDigit l D cI cS cL x (by first | with_reducible assumption | omega)) (va_cwS 1 hts gX0_stateBehind_X0_isDigit rfl rfl rfl (by decide +kernel) ⟨Nat.le_of_ble_eq_true rfl, Nat.le_of_ble_eq_true rfl⟩) hK hP hD hS hA [] rfl (by decide) (fun _ => rfl) rfl hl.1 rfl (Nat.le_of_ble_eq_true rfl) dX0_stateBehind_59 ⟨Nat.le_of_ble_eq_true rfl, Nat.le_of_ble_eq_true rfl⟩ (fun v9 u9 H locs hv hP hD hS => ?_)
      subst hv
      have hP : va_P D vwCl [] H := hP
      have hD : va_D A9 [] := hD
      refine W.eq (g2 := F0 m9 62 ls [.int (nI (bI (isD x)))]) rfl ?_
      refine q_feq (tgt := 69) bI_lt hx hb dX0_stateBehind_62 (by decide) (fun c_62 => ?_) (fun c_62 => ?_)
      ·
        have c_62 := bI_z c_62
        refine lv_iconst (v := (-1)) hx hb dX0_stateBehind_69 (by decide +kernel) ?_
        exact hret _ _ _ _ (some (.int (-1))) () 70 ls (by decide) (by decide) (by exact rvi (by rw [c_1_0]; simp only [sB]; (repeat' split) <;> first | rfl | (exfalso; omega))) hP hD hS (ret_i dX0_stateBehind_70)
      ·
        have c_62 := bI_nz c_62
        refine lv_iconst (v := nI 1) hx hb dX0_stateBehind_65 (by decide +kernel) ?_
        refine lv_goto (tgt := 70) hx hb dX0_stateBehind_66 (by decide) ?_
        exact hret _ _ _ _ (some (.int (nI 1))) () 70 ls (by decide) (by decide) (by exact rvi (by rw [c_1_0]; simp only [sB]; (repeat' split) <;> first | rfl | (exfalso; omega))) hP hD hS (ret_i dX0_stateBehind_70)
    ·
      refine lv_iconst (v := nI 3) hx hb dX0_stateBehind_54 (by decide +kernel) ?_
      refine lv_goto (tgt := 70) hx hb dX0_stateBehind_55 (by decide) ?_
      exact hret _ _ _ _ (some (.int (nI 3))) () 70 ls (by decide) (by decide) (by exact rvi (by rw [c_1_0]; simp only [sB]; (repeat' split) <;> first | rfl | (exfalso; omega))) hP hD hS (ret_i dX0_stateBehind_70)
  by_cases c_1_1 : k = 1
  ·
    have hsw : ((stI k)).toInt = 1 := by rw [c_1_1]; decide +kernel
    refine lv_tableIn (off := 70) (tgt := 71) hx hb dX0_stateBehind_1 (by rw [hsw]; decide) (by rw [hsw]; decide) (by rw [hsw]; rfl) (by decide) ?_
    refine lv_iload_n hx hb dX0_stateBehind_71 rfl (lv_at hl 1 rfl) ?_
    refine lv_bipush (v := nI 64) hx hb dX0_stateBehind_72 (by decide +kernel) ?_
    refine q_ine (tgt := 81) (by omega) (by omega) hx hb dX0_stateBehind_74 (by decide) (fun c_74 => ?_) (fun c_74 => ?_)
    ·
      refine lv_iload_n hx hb dX0_stateBehind_81 rfl (lv_at hl 1 rfl) ?_
      refine KM.callS (As := [.int (nI x)]) (rest := []) C0 hN (k_X0_isDigit l D cI cS cL x (by first | with_reducible assumption | omega)) (va_cwS 1 hts gX0_stateBehind_X0_isDigit rfl rfl rfl (by decide +kernel) ⟨Nat.le_of_ble_eq_true rfl, Nat.le_of_ble_eq_true rfl⟩) hK hP hD hS hA [] rfl (by decide) (fun _ => rfl) rfl hl.1 rfl (Nat.le_of_ble_eq_true rfl) dX0_stateBehind_82 ⟨Nat.le_of_ble_eq_true rfl, Nat.le_of_ble_eq_true rfl⟩ (fun v9 u9 H locs hv hP hD hS => ?_)
      subst hv
      have hP : va_P D vwCl [] H := hP
      have hD : va_D A9 [] := hD
      refine W.eq (g2 := F0 m9 85 ls [.int (nI (bI (isD x)))]) rfl ?_
      refine q_feq (tgt := 92) bI_lt hx hb dX0_stateBehind_85 (by decide) (fun c_85 => ?_) (fun c_85 => ?_)
      ·
        have c_85 := bI_z c_85
        refine lv_iconst (v := (-1)) hx hb dX0_stateBehind_92 (by decide +kernel) ?_
        exact hret _ _ _ _ (some (.int (-1))) () 93 ls (by decide) (by decide) (by exact rvi (by rw [c_1_1]; simp only [sB]; (repeat' split) <;> first | rfl | (exfalso; omega))) hP hD hS (ret_i dX0_stateBehind_93)
      ·
        have c_85 := bI_nz c_85
        refine lv_iconst (v := nI 2) hx hb dX0_stateBehind_88 (by decide +kernel) ?_
        refine lv_goto (tgt := 93) hx hb dX0_stateBehind_89 (by decide) ?_
        exact hret _ _ _ _ (some (.int (nI 2))) () 93 ls (by decide) (by decide) (by exact rvi (by rw [c_1_1]; simp only [sB]; (repeat' split) <;> first | rfl | (exfalso; omega))) hP hD hS (ret_i dX0_stateBehind_93)
    ·
      refine lv_iconst (v := nI 4) hx hb dX0_stateBehind_77 (by decide +kernel) ?_
      refine lv_goto (tgt := 93) hx hb dX0_stateBehind_78 (by decide) ?_
      exact hret _ _ _ _ (some (.int (nI 4))) () 93 ls (by decide) (by decide) (by exact rvi (by rw [c_1_1]; simp only [sB]; (repeat' split) <;> first | rfl | (exfalso; omega))) hP hD hS (ret_i dX0_stateBehind_93)
  by_cases c_1_2 : k = 2
  ·
    have hsw : ((stI k)).toInt = 2 := by rw [c_1_2]; decide +kernel
    refine lv_tableIn (off := 93) (tgt := 94) hx hb dX0_stateBehind_1 (by rw [hsw]; decide) (by rw [hsw]; decide) (by rw [hsw]; rfl) (by decide) ?_
    refine lv_iload_n hx hb dX0_stateBehind_94 rfl (lv_at hl 1 rfl) ?_
    refine lv_bipush (v := nI 64) hx hb dX0_stateBehind_95 (by decide +kernel) ?_
    refine q_ine (tgt := 104) (by omega) (by omega) hx hb dX0_stateBehind_97 (by decide) (fun c_97 => ?_) (fun c_97 => ?_)
    ·
      refine lv_iload_n hx hb dX0_stateBehind_104 rfl (lv_at hl 1 rfl) ?_
      refine KM.callS (As := [.int (nI x)]) (rest := []) C0 hN (k_X0_isDigit l D cI cS cL x (by first | with_reducible assumption | omega)) (va_cwS 1 hts gX0_stateBehind_X0_isDigit rfl rfl rfl (by decide +kernel) ⟨Nat.le_of_ble_eq_true rfl, Nat.le_of_ble_eq_true rfl⟩) hK hP hD hS hA [] rfl (by decide) (fun _ => rfl) rfl hl.1 rfl (Nat.le_of_ble_eq_true rfl) dX0_stateBehind_105 ⟨Nat.le_of_ble_eq_true rfl, Nat.le_of_ble_eq_true rfl⟩ (fun v9 u9 H locs hv hP hD hS => ?_)
      subst hv
      have hP : va_P D vwCl [] H := hP
      have hD : va_D A9 [] := hD
      refine W.eq (g2 := F0 m9 108 ls [.int (nI (bI (isD x)))]) rfl ?_
      refine q_feq (tgt := 115) bI_lt hx hb dX0_stateBehind_108 (by decide) (fun c_108 => ?_) (fun c_108 => ?_)
      ·
        have c_108 := bI_z c_108
        refine lv_iconst (v := (-1)) hx hb dX0_stateBehind_115 (by decide +kernel) ?_
        exact hret _ _ _ _ (some (.int (-1))) () 116 ls (by decide) (by decide) (by exact rvi (by rw [c_1_2]; simp only [sB]; (repeat' split) <;> first | rfl | (exfalso; omega))) hP hD hS (ret_i dX0_stateBehind_116)
      ·
        have c_108 := bI_nz c_108
        refine lv_iconst (v := nI 3) hx hb dX0_stateBehind_111 (by decide +kernel) ?_
        refine lv_goto (tgt := 116) hx hb dX0_stateBehind_112 (by decide) ?_
        exact hret _ _ _ _ (some (.int (nI 3))) () 116 ls (by decide) (by decide) (by exact rvi (by rw [c_1_2]; simp only [sB]; (repeat' split) <;> first | rfl | (exfalso; omega))) hP hD hS (ret_i dX0_stateBehind_116)
    ·
      refine lv_iconst (v := nI 4) hx hb dX0_stateBehind_100 (by decide +kernel) ?_
      refine lv_goto (tgt := 116) hx hb dX0_stateBehind_101 (by decide) ?_
      exact hret _ _ _ _ (some (.int (nI 4))) () 116 ls (by decide) (by decide) (by exact rvi (by rw [c_1_2]; simp only [sB]; (repeat' split) <;> first | rfl | (exfalso; omega))) hP hD hS (ret_i dX0_stateBehind_116)
  by_cases c_1_3 : k = 3
  ·
    have hsw : ((stI k)).toInt = 3 := by rw [c_1_3]; decide +kernel
    refine lv_tableIn (off := 116) (tgt := 117) hx hb dX0_stateBehind_1 (by rw [hsw]; decide) (by rw [hsw]; decide) (by rw [hsw]; rfl) (by decide) ?_
    refine lv_iload_n hx hb dX0_stateBehind_117 rfl (lv_at hl 1 rfl) ?_
    refine lv_bipush (v := nI 64) hx hb dX0_stateBehind_118 (by decide +kernel) ?_
    refine q_ine (tgt := 127) (by omega) (by omega) hx hb dX0_stateBehind_120 (by decide) (fun c_120 => ?_) (fun c_120 => ?_)
    ·
      refine lv_iconst (v := (-1)) hx hb dX0_stateBehind_127 (by decide +kernel) ?_
      exact hret _ _ _ _ (some (.int (-1))) () 128 ls (by decide) (by decide) (by exact rvi (by rw [c_1_3]; simp only [sB]; (repeat' split) <;> first | rfl | (exfalso; omega))) hP hD hS (ret_i dX0_stateBehind_128)
    ·
      refine lv_iconst (v := nI 4) hx hb dX0_stateBehind_123 (by decide +kernel) ?_
      refine lv_goto (tgt := 128) hx hb dX0_stateBehind_124 (by decide) ?_
      exact hret _ _ _ _ (some (.int (nI 4))) () 128 ls (by decide) (by decide) (by exact rvi (by rw [c_1_3]; simp only [sB]; (repeat' split) <;> first | rfl | (exfalso; omega))) hP hD hS (ret_i dX0_stateBehind_128)
  by_cases c_1_4 : k = 4
  ·
    have hsw : ((stI k)).toInt = 4 := by rw [c_1_4]; decide +kernel
    refine lv_tableIn (off := 128) (tgt := 129) hx hb dX0_stateBehind_1 (by rw [hsw]; decide) (by rw [hsw]; decide) (by rw [hsw]; rfl) (by decide) ?_
    refine lv_iload_n hx hb dX0_stateBehind_129 rfl (lv_at hl 1 rfl) ?_
    refine KM.callS (As := [.int (nI x)]) (rest := []) C0 hN (k_X0_isJet l D cI cS cL x (by first | with_reducible assumption | omega)) (va_cwS 1 hts gX0_stateBehind_X0_isJet rfl rfl rfl (by decide +kernel) ⟨Nat.le_of_ble_eq_true rfl, Nat.le_of_ble_eq_true rfl⟩) hK hP hD hS hA [] rfl (by decide) (fun _ => rfl) rfl hl.1 rfl (Nat.le_of_ble_eq_true rfl) dX0_stateBehind_130 ⟨Nat.le_of_ble_eq_true rfl, Nat.le_of_ble_eq_true rfl⟩ (fun v9 u9 H locs hv hP hD hS => ?_)
    subst hv
    have hP : va_P D vwCl [] H := hP
    have hD : va_D A9 [] := hD
    refine W.eq (g2 := F0 m9 133 ls [.int (nI (bI (isJ x)))]) rfl ?_
    refine q_feq (tgt := 140) bI_lt hx hb dX0_stateBehind_133 (by decide) (fun c_133 => ?_) (fun c_133 => ?_)
    ·
      have c_133 := bI_z c_133
      refine lv_iconst (v := (-1)) hx hb dX0_stateBehind_140 (by decide +kernel) ?_
      exact hret _ _ _ _ (some (.int (-1))) () 141 ls (by decide) (by decide) (by exact rvi (by rw [c_1_4]; simp only [sB]; (repeat' split) <;> first | rfl | (exfalso; omega))) hP hD hS (ret_i dX0_stateBehind_141)
    ·
      have c_133 := bI_nz c_133
      refine lv_iconst (v := nI 5) hx hb dX0_stateBehind_136 (by decide +kernel) ?_
      refine lv_goto (tgt := 141) hx hb dX0_stateBehind_137 (by decide) ?_
      exact hret _ _ _ _ (some (.int (nI 5))) () 141 ls (by decide) (by decide) (by exact rvi (by rw [c_1_4]; simp only [sB]; (repeat' split) <;> first | rfl | (exfalso; omega))) hP hD hS (ret_i dX0_stateBehind_141)
  by_cases c_1_5 : k = 5
  ·
    have hsw : ((stI k)).toInt = 5 := by rw [c_1_5]; decide +kernel
    refine lv_tableIn (off := 141) (tgt := 142) hx hb dX0_stateBehind_1 (by rw [hsw]; decide) (by rw [hsw]; decide) (by rw [hsw]; rfl) (by decide) ?_
    refine lv_iload_n hx hb dX0_stateBehind_142 rfl (lv_at hl 1 rfl) ?_
    refine lv_bipush (v := nI 49) hx hb dX0_stateBehind_143 (by decide +kernel) ?_
    refine q_ine (tgt := 153) (by omega) (by omega) hx hb dX0_stateBehind_145 (by decide) (fun c_145 => ?_) (fun c_145 => ?_)
    ·
      refine lv_iload_n hx hb dX0_stateBehind_153 rfl (lv_at hl 1 rfl) ?_
      refine KM.callS (As := [.int (nI x)]) (rest := []) C0 hN (k_X0_isDigit l D cI cS cL x (by first | with_reducible assumption | omega)) (va_cwS 1 hts gX0_stateBehind_X0_isDigit rfl rfl rfl (by decide +kernel) ⟨Nat.le_of_ble_eq_true rfl, Nat.le_of_ble_eq_true rfl⟩) hK hP hD hS hA [] rfl (by decide) (fun _ => rfl) rfl hl.1 rfl (Nat.le_of_ble_eq_true rfl) dX0_stateBehind_154 ⟨Nat.le_of_ble_eq_true rfl, Nat.le_of_ble_eq_true rfl⟩ (fun v9 u9 H locs hv hP hD hS => ?_)
      subst hv
      have hP : va_P D vwCl [] H := hP
      have hD : va_D A9 [] := hD
      refine W.eq (g2 := F0 m9 157 ls [.int (nI (bI (isD x)))]) rfl ?_
      refine q_feq (tgt := 165) bI_lt hx hb dX0_stateBehind_157 (by decide) (fun c_157 => ?_) (fun c_157 => ?_)
      ·
        have c_157 := bI_z c_157
        refine lv_iconst (v := (-1)) hx hb dX0_stateBehind_165 (by decide +kernel) ?_
        exact hret _ _ _ _ (some (.int (-1))) () 166 ls (by decide) (by decide) (by exact rvi (by rw [c_1_5]; simp only [sB]; (repeat' split) <;> first | rfl | (exfalso; omega))) hP hD hS (ret_i dX0_stateBehind_166)
      ·
        have c_157 := bI_nz c_157
        refine lv_bipush (v := nI 7) hx hb dX0_stateBehind_160 (by decide +kernel) ?_
        refine lv_goto (tgt := 166) hx hb dX0_stateBehind_162 (by decide) ?_
        exact hret _ _ _ _ (some (.int (nI 7))) () 166 ls (by decide) (by decide) (by exact rvi (by rw [c_1_5]; simp only [sB]; (repeat' split) <;> first | rfl | (exfalso; omega))) hP hD hS (ret_i dX0_stateBehind_166)
    ·
      refine lv_bipush (v := nI 6) hx hb dX0_stateBehind_148 (by decide +kernel) ?_
      refine lv_goto (tgt := 166) hx hb dX0_stateBehind_150 (by decide) ?_
      exact hret _ _ _ _ (some (.int (nI 6))) () 166 ls (by decide) (by decide) (by exact rvi (by rw [c_1_5]; simp only [sB]; (repeat' split) <;> first | rfl | (exfalso; omega))) hP hD hS (ret_i dX0_stateBehind_166)
  by_cases c_1_6 : k = 6
  ·
    have hsw : ((stI k)).toInt = 6 := by rw [c_1_6]; decide +kernel
    refine lv_tableIn (off := 166) (tgt := 167) hx hb dX0_stateBehind_1 (by rw [hsw]; decide) (by rw [hsw]; decide) (by rw [hsw]; rfl) (by decide) ?_
    refine lv_iload_n hx hb dX0_stateBehind_167 rfl (lv_at hl 1 rfl) ?_
    refine lv_bipush (v := nI 48) hx hb dX0_stateBehind_168 (by decide +kernel) ?_
    refine q_ine (tgt := 178) (by omega) (by omega) hx hb dX0_stateBehind_170 (by decide) (fun c_170 => ?_) (fun c_170 => ?_)
    ·
      refine lv_iload_n hx hb dX0_stateBehind_178 rfl (lv_at hl 1 rfl) ?_
      refine lv_bipush (v := nI 59) hx hb dX0_stateBehind_179 (by decide +kernel) ?_
      refine q_ine (tgt := 188) (by omega) (by omega) hx hb dX0_stateBehind_181 (by decide) (fun c_181 => ?_) (fun c_181 => ?_)
      ·
        refine lv_iconst (v := (-1)) hx hb dX0_stateBehind_188 (by decide +kernel) ?_
        exact hret _ _ _ _ (some (.int (-1))) () 189 ls (by decide) (by decide) (by exact rvi (by rw [c_1_6]; simp only [sB]; (repeat' split) <;> first | rfl | (exfalso; omega))) hP hD hS (ret_i dX0_stateBehind_189)
      ·
        refine lv_iconst (v := nI 0) hx hb dX0_stateBehind_184 (by decide +kernel) ?_
        refine lv_goto (tgt := 189) hx hb dX0_stateBehind_185 (by decide) ?_
        exact hret _ _ _ _ (some (.int (nI 0))) () 189 ls (by decide) (by decide) (by exact rvi (by rw [c_1_6]; simp only [sB]; (repeat' split) <;> first | rfl | (exfalso; omega))) hP hD hS (ret_i dX0_stateBehind_189)
    ·
      refine lv_bipush (v := nI 7) hx hb dX0_stateBehind_173 (by decide +kernel) ?_
      refine lv_goto (tgt := 189) hx hb dX0_stateBehind_175 (by decide) ?_
      exact hret _ _ _ _ (some (.int (nI 7))) () 189 ls (by decide) (by decide) (by exact rvi (by rw [c_1_6]; simp only [sB]; (repeat' split) <;> first | rfl | (exfalso; omega))) hP hD hS (ret_i dX0_stateBehind_189)
  by_cases c_1_7 : k = 7
  ·
    have hsw : ((stI k)).toInt = 7 := by rw [c_1_7]; decide +kernel
    refine lv_tableIn (off := 189) (tgt := 190) hx hb dX0_stateBehind_1 (by rw [hsw]; decide) (by rw [hsw]; decide) (by rw [hsw]; rfl) (by decide) ?_
    refine lv_iload_n hx hb dX0_stateBehind_190 rfl (lv_at hl 1 rfl) ?_
    refine lv_bipush (v := nI 59) hx hb dX0_stateBehind_191 (by decide +kernel) ?_
    refine q_ine (tgt := 200) (by omega) (by omega) hx hb dX0_stateBehind_193 (by decide) (fun c_193 => ?_) (fun c_193 => ?_)
    ·
      refine lv_iconst (v := (-1)) hx hb dX0_stateBehind_200 (by decide +kernel) ?_
      exact hret _ _ _ _ (some (.int (-1))) () 201 ls (by decide) (by decide) (by exact rvi (by rw [c_1_7]; simp only [sB]; (repeat' split) <;> first | rfl | (exfalso; omega))) hP hD hS (ret_i dX0_stateBehind_201)
    ·
      refine lv_iconst (v := nI 0) hx hb dX0_stateBehind_196 (by decide +kernel) ?_
      refine lv_goto (tgt := 201) hx hb dX0_stateBehind_197 (by decide) ?_
      exact hret _ _ _ _ (some (.int (nI 0))) () 201 ls (by decide) (by decide) (by exact rvi (by rw [c_1_7]; simp only [sB]; (repeat' split) <;> first | rfl | (exfalso; omega))) hP hD hS (ret_i dX0_stateBehind_201)
  have c_1_d : k = 8 := by omega
  have hsw : ((stI k)).toInt = -1 := by rw [c_1_d]; decide +kernel
  refine lv_tableOut (tgt := 202) hx hb dX0_stateBehind_1 (by rw [hsw]; decide) (by decide) ?_
  refine lv_iconst (v := (-1)) hx hb dX0_stateBehind_202 (by decide +kernel) ?_
  exact hret _ _ _ _ (some (.int (-1))) () 203 ls (by decide) (by decide) (by exact rvi (by rw [c_1_d]; simp only [sB]; (repeat' split) <;> first | rfl | (exfalso; omega))) hP hD hS (ret_i dX0_stateBehind_203)

theorem in_X0_placeOfError_X0 : ∀ w ∈ wsX00, w ∈ wsX0_placeOfError := by decide +kernel
theorem fl_X0_placeOfError_15 : Cond.fieldLink RX0 15 "FountainCues$CueText" "length" "I" ∈ wsX0_placeOfError := by decide +kernel
set_option maxHeartbeats 4000000 in
set_option maxRecDepth 100000 in
theorem k_X0_placeOfError (l : Launch) (D : va_G) (cI cS cL : ClassId) (a0 : Nat) (a1 : Nat) (n : Nat) (cs : Nat → Nat) (hn : n ≤ 60) (hcs : ∀ j, j < n → cs j < 2 ^ 31) : KM l D (TY cI cS cL) yX0_placeOfError wsX0_placeOfError ({ frames := 2, cells := 0, slots := 0, locals := 41 } : Room) [(a0, .inr (0, [.ref a1, .int (nI n)])), (a1, .inl (cI, 60, .inl (ro 60 cs)))] [.ref a0] (fun (v : Option Value) (r : Nat) => (r ≤ n) ∧ (∀ j, j ≤ r → runS cs j ≠ 8) ∧ (r < n → runS cs (r + 1) = 8) ∧ v = some (.int (nI r))) (fun (r : Nat) => [(a0, .inr (0, [.ref a1, .int (nI n)])), (a1, .inl (cI, 60, .inl (ro 60 cs)))]) := by
  refine KM.of (cc := cX0_placeOfError) (maxL := 3) (ret := (some .int)) (by decide) rfl (Nat.le_of_ble_eq_true rfl) ?_
  intro p9 e9 s9 m9 ar9 be9 me9 c9 Q9 A9 ls C0 hN hnm hlk hK hA hret hP hD hS hl
  obtain ⟨hx, hb, hml, hown, hts⟩ := id C0
  have hl : lv_has ls 3 [(0, .ref a0)] := hl
  obtain ⟨H, hH0⟩ : ∃ H, H = s9.heap := ⟨_, rfl⟩
  obtain ⟨locs, hlc0⟩ : ∃ z : List Loc, z = [] := ⟨_, rfl⟩
  have hP : va_P D vwCl [(a0, .inr (0, [.ref a1, .int (nI n)])), (a1, .inl (cI, 60, .inl (ro 60 cs)))] H := by rw [hH0]; exact hP
  have hD : va_D A9 [(a0, .inr (0, [.ref a1, .int (nI n)])), (a1, .inl (cI, 60, .inl (ro 60 cs)))] := hD
  have hS : va_S A9 s9.heap H locs := by rw [hH0, hlc0]; exact hS
  suffices hgo : W p9 l e9 ({ frames := 2, cells := 0, slots := 0, locals := 41 } : Room) s9 m9 ar9 be9 me9 c9 H locs 0 0 Q9 (F0 m9 0 ls []) by rw [hH0, hlc0] at hgo; exact hgo
  clear hH0 hlc0
  refine lv_iconst (v := nI 0) hx hb dX0_placeOfError_0 (by decide +kernel) ?_
  refine lv_istore_n (lv' := [(1, .int (nI 0)), (0, .ref a0)]) hx hb dX0_placeOfError_1 rfl hl (by decide) rfl (fun ls hl => ?_)
  refine lv_iconst (v := nI 0) hx hb dX0_placeOfError_2 (by decide +kernel) ?_
  refine lv_istore_n (lv' := [(2, .int (nI 0)), (1, .int (nI 0)), (0, .ref a0)]) hx hb dX0_placeOfError_3 rfl hl (by decide) rfl (fun ls hl => ?_)
  have L4 : ∀ (fuel : Nat) (i : Nat) (k : Nat) (H : Heap) (locs : List Loc) (ls : Array Slot), (i ≤ n) → (k = runS cs i) → (∀ j, j ≤ i → runS cs j ≠ 8) → (n - i < fuel) → va_P D vwCl [(a0, .inr (0, [.ref a1, .int (nI n)])), (a1, .inl (cI, 60, .inl (ro 60 cs)))] H → va_D A9 [(a0, .inr (0, [.ref a1, .int (nI n)])), (a1, .inl (cI, 60, .inl (ro 60 cs)))] → va_S A9 s9.heap H locs → lv_has ls 3 [(0, .ref a0), (1, .int (stI k)), (2, .int (nI i))] → W p9 l e9 ({ frames := 2, cells := 0, slots := 0, locals := 41 } : Room) s9 m9 ar9 be9 me9 c9 H locs 0 0 Q9 (F0 m9 4 ls []) := by
    intro fuel
    induction fuel with
    | zero => intro i k H locs ls hi hk hok hfu; exact absurd hfu (Nat.not_lt_zero _)
    | succ fuel ih4 =>
      intro i k H locs ls hi hk hok hfu hP hD hS hl
      refine lv_iload_n hx hb dX0_placeOfError_4 rfl (lv_at hl 2 rfl) ?_
      refine lv_aload_n hx hb dX0_placeOfError_5 rfl (lv_at hl 0 rfl) ?_
      refine va_get (D := D) (ci := 0) (v := .int (nI n)) (C := RX0) (T := TX0) (N := 2) hx hb hts in_X0_placeOfError_X0 hown hK hP 0 rfl rfl 1 (by decide) (hts _ fl_X0_placeOfError_15) (fun _ h9 => h9) rfl dX0_placeOfError_6 ?_
      refine q_ige (tgt := 35) (by omega) (by omega) hx hb dX0_placeOfError_9 (by decide) (fun c_9 => ?_) (fun c_9 => ?_)
      ·
        refine lv_aload_n hx hb dX0_placeOfError_35 rfl (lv_at hl 0 rfl) ?_
        refine va_get (D := D) (ci := 0) (v := .int (nI n)) (C := RX0) (T := TX0) (N := 2) hx hb hts in_X0_placeOfError_X0 hown hK hP 0 rfl rfl 1 (by decide) (hts _ fl_X0_placeOfError_15) (fun _ h9 => h9) rfl dX0_placeOfError_36 ?_
        exact hret _ _ _ _ (some (.int (nI n))) n 39 ls (by decide) (by decide) (by exact ⟨by omega, by rw [show n = i by omega]; exact hok, fun z => by omega, rfl⟩) hP hD hS (ret_i dX0_placeOfError_39)
      ·
        refine lv_iload_n hx hb dX0_placeOfError_12 rfl (lv_at hl 1 rfl) ?_
        refine lv_aload_n hx hb dX0_placeOfError_13 rfl (lv_at hl 0 rfl) ?_
        refine lv_iload_n hx hb dX0_placeOfError_14 rfl (lv_at hl 2 rfl) ?_
        refine KM.callV (As := [.int (nI i)]) (rest := [.int (stI k)]) C0 hN (k_X0_codeAt l D cI cS cL a0 a1 n cs i (by first | with_reducible assumption | omega) (by first | with_reducible assumption | omega)) (cwV 1 hts gX0_placeOfError_X0_codeAt rfl rfl rfl (by decide +kernel) ⟨Nat.le_of_ble_eq_true rfl, Nat.le_of_ble_eq_true rfl⟩) hK hP hD hS hA [0, 1] rfl (by decide) (fun _ => rfl) 0 0 rfl rfl rfl rfl hl.1 rfl (Nat.le_of_ble_eq_true rfl) dX0_placeOfError_15 ⟨Nat.le_of_ble_eq_true rfl, Nat.le_of_ble_eq_true rfl⟩ (fun v9 u9 H locs hv hP hD hS => ?_)
        subst hv
        have hP : va_P D vwCl [(a0, .inr (0, [.ref a1, .int (nI n)])), (a1, .inl (cI, 60, .inl (ro 60 cs)))] H := hP
        have hD : va_D A9 [(a0, .inr (0, [.ref a1, .int (nI n)])), (a1, .inl (cI, 60, .inl (ro 60 cs)))] := hD
        refine W.eq (g2 := F0 m9 18 ls [.int (if i < n then nI (cs i) else -1), .int (stI k)]) rfl ?_
        refine q_topi (y := (nI (cs i))) (by rw [if_pos (by omega)]) ?_
        refine KM.callS (As := [.int (stI k), .int (nI (cs i))]) (rest := []) C0 hN (k_X0_stateBehind l D cI cS cL k (cs i) (by rw [hk]; exact runS_le _ _) (by exact hcs i (by omega))) (va_cwS 2 hts gX0_placeOfError_X0_stateBehind rfl rfl rfl (by decide +kernel) ⟨Nat.le_of_ble_eq_true rfl, Nat.le_of_ble_eq_true rfl⟩) hK hP hD hS hA [] rfl (by decide) (fun _ => rfl) rfl hl.1 rfl (Nat.le_of_ble_eq_true rfl) dX0_placeOfError_18 ⟨Nat.le_of_ble_eq_true rfl, Nat.le_of_ble_eq_true rfl⟩ (fun v9 u9 H locs hv hP hD hS => ?_)
        subst hv
        have hP : va_P D vwCl [(a0, .inr (0, [.ref a1, .int (nI n)])), (a1, .inl (cI, 60, .inl (ro 60 cs)))] H := hP
        have hD : va_D A9 [(a0, .inr (0, [.ref a1, .int (nI n)])), (a1, .inl (cI, 60, .inl (ro 60 cs)))] := hD
        refine W.eq (g2 := F0 m9 21 ls [.int (stI (sB k (cs i)))]) rfl ?_
        refine lv_istore_n (lv' := [(1, .int (stI (sB k (cs i)))), (0, .ref a0), (2, .int (nI i))]) hx hb dX0_placeOfError_21 rfl hl (by decide) rfl (fun ls hl => ?_)
        refine lv_iload_n hx hb dX0_placeOfError_22 rfl (lv_at hl 0 rfl) ?_
        refine lv_iconst (v := (-1)) hx hb dX0_placeOfError_23 (by decide +kernel) ?_
        refine lv_icmp_ne (tgt := 29) hx hb dX0_placeOfError_24 (by decide) (fun c_24 => ?_) (fun c_24 => ?_)
        ·
          refine lv_iinc (v := (nI (i + 1))) (lv' := [(2, .int (nI (i + 1))), (1, .int (stI (sB k (cs i)))), (0, .ref a0)]) hx hb dX0_placeOfError_29 hl (k := 2) rfl (nI_add i 1) (by decide) rfl (fun ls hl => ?_)
          refine lv_goto (tgt := 4) hx hb dX0_placeOfError_32 (by decide) ?_
          exact ih4  (i + 1) (sB k (cs i)) _ _ ls (by first | with_reducible assumption | omega) (by rw [hk]; rfl) (by intro j hj; rcases Nat.lt_or_ge i j with h9 | h9; (rw [show j = i + 1 by omega]; show sB (runS cs i) (cs i) ≠ 8; rw [← hk]; exact fun z => c_24 ((stI_m1 (sB_le _ _)).mpr z)); exact hok j h9) (by omega) hP hD hS (lv_sub hl [2, 1, 0] rfl)
        ·
          refine lv_iload_n hx hb dX0_placeOfError_27 rfl (lv_at hl 2 rfl) ?_
          exact hret _ _ _ _ (some (.int (nI i))) i 28 ls (by decide) (by decide) (by exact ⟨by omega, hok, fun _ => by show sB (runS cs i) (cs i) = 8; rw [← hk]; exact (stI_m1 (sB_le _ _)).mp c_24, rfl⟩) hP hD hS (ret_i dX0_placeOfError_28)
  exact L4 (n - 0 + 1) 0 0 _ _ ls (by first | with_reducible assumption | omega) (by rfl) (by intro j hj; rw [show j = 0 by omega]; exact (by decide : (0 : Nat) ≠ 8)) (by omega) hP hD hS (lv_sub hl [2, 1, 0] rfl)

theorem in_X0_isComplete_X0 : ∀ w ∈ wsX00, w ∈ wsX0_isComplete := by decide +kernel
theorem fl_X0_isComplete_15 : Cond.fieldLink RX0 15 "FountainCues$CueText" "length" "I" ∈ wsX0_isComplete := by decide +kernel
set_option maxHeartbeats 4000000 in
set_option maxRecDepth 100000 in
theorem k_X0_isComplete (l : Launch) (D : va_G) (cI cS cL : ClassId) (a0 : Nat) (a1 : Nat) (n : Nat) (cs : Nat → Nat) (hn : n ≤ 60) (hcs : ∀ j, j < n → cs j < 2 ^ 31) : KM l D (TY cI cS cL) yX0_isComplete wsX0_isComplete ({ frames := 2, cells := 0, slots := 0, locals := 41 } : Room) [(a0, .inr (0, [.ref a1, .int (nI n)])), (a1, .inl (cI, 60, .inl (ro 60 cs)))] [.ref a0] (fun (v : Option Value) (_ : Unit) => v = some (.int (nI (bI (runS cs n = 6 ∨ runS cs n = 7))))) (fun _ : Unit => [(a0, .inr (0, [.ref a1, .int (nI n)])), (a1, .inl (cI, 60, .inl (ro 60 cs)))]) := by
  refine KM.of (cc := cX0_isComplete) (maxL := 3) (ret := (some .boolean)) (by decide) rfl (Nat.le_of_ble_eq_true rfl) ?_
  intro p9 e9 s9 m9 ar9 be9 me9 c9 Q9 A9 ls C0 hN hnm hlk hK hA hret hP hD hS hl
  obtain ⟨hx, hb, hml, hown, hts⟩ := id C0
  have hl : lv_has ls 3 [(0, .ref a0)] := hl
  obtain ⟨H, hH0⟩ : ∃ H, H = s9.heap := ⟨_, rfl⟩
  obtain ⟨locs, hlc0⟩ : ∃ z : List Loc, z = [] := ⟨_, rfl⟩
  have hP : va_P D vwCl [(a0, .inr (0, [.ref a1, .int (nI n)])), (a1, .inl (cI, 60, .inl (ro 60 cs)))] H := by rw [hH0]; exact hP
  have hD : va_D A9 [(a0, .inr (0, [.ref a1, .int (nI n)])), (a1, .inl (cI, 60, .inl (ro 60 cs)))] := hD
  have hS : va_S A9 s9.heap H locs := by rw [hH0, hlc0]; exact hS
  suffices hgo : W p9 l e9 ({ frames := 2, cells := 0, slots := 0, locals := 41 } : Room) s9 m9 ar9 be9 me9 c9 H locs 0 0 Q9 (F0 m9 0 ls []) by rw [hH0, hlc0] at hgo; exact hgo
  clear hH0 hlc0
  refine lv_iconst (v := nI 0) hx hb dX0_isComplete_0 (by decide +kernel) ?_
  refine lv_istore_n (lv' := [(1, .int (nI 0)), (0, .ref a0)]) hx hb dX0_isComplete_1 rfl hl (by decide) rfl (fun ls hl => ?_)
  refine lv_iconst (v := nI 0) hx hb dX0_isComplete_2 (by decide +kernel) ?_
  refine lv_istore_n (lv' := [(2, .int (nI 0)), (1, .int (nI 0)), (0, .ref a0)]) hx hb dX0_isComplete_3 rfl hl (by decide) rfl (fun ls hl => ?_)
  have L4 : ∀ (fuel : Nat) (i : Nat) (k : Nat) (H : Heap) (locs : List Loc) (ls : Array Slot), (i ≤ n) → (k = runS cs i) → (n - i < fuel) → va_P D vwCl [(a0, .inr (0, [.ref a1, .int (nI n)])), (a1, .inl (cI, 60, .inl (ro 60 cs)))] H → va_D A9 [(a0, .inr (0, [.ref a1, .int (nI n)])), (a1, .inl (cI, 60, .inl (ro 60 cs)))] → va_S A9 s9.heap H locs → lv_has ls 3 [(0, .ref a0), (1, .int (stI k)), (2, .int (nI i))] → W p9 l e9 ({ frames := 2, cells := 0, slots := 0, locals := 41 } : Room) s9 m9 ar9 be9 me9 c9 H locs 0 0 Q9 (F0 m9 4 ls []) := by
    intro fuel
    induction fuel with
    | zero => intro i k H locs ls hi hk hfu; exact absurd hfu (Nat.not_lt_zero _)
    | succ fuel ih4 =>
      intro i k H locs ls hi hk hfu hP hD hS hl
      refine lv_iload_n hx hb dX0_isComplete_4 rfl (lv_at hl 2 rfl) ?_
      refine lv_aload_n hx hb dX0_isComplete_5 rfl (lv_at hl 0 rfl) ?_
      refine va_get (D := D) (ci := 0) (v := .int (nI n)) (C := RX0) (T := TX0) (N := 2) hx hb hts in_X0_isComplete_X0 hown hK hP 0 rfl rfl 1 (by decide) (hts _ fl_X0_isComplete_15) (fun _ h9 => h9) rfl dX0_isComplete_6 ?_
      refine q_ige (tgt := 28) (by omega) (by omega) hx hb dX0_isComplete_9 (by decide) (fun c_9 => ?_) (fun c_9 => ?_)
      ·
        have hin : i = n := by omega
        have hk8 : k ≤ 8 := by rw [hk]; exact runS_le _ _
        refine lv_iload_n hx hb dX0_isComplete_28 rfl (lv_at hl 1 rfl) ?_
        refine lv_bipush (v := nI 6) hx hb dX0_isComplete_29 (by decide +kernel) ?_
        refine lv_icmp_eq (tgt := 40) hx hb dX0_isComplete_31 (by decide) (fun c_31 => ?_) (fun c_31 => ?_)
        ·
          have c_31 := (stI_6 hk8).mp c_31
          refine lv_iconst (v := nI 1) hx hb dX0_isComplete_40 (by decide +kernel) ?_
          refine lv_goto (tgt := 45) hx hb dX0_isComplete_41 (by decide) ?_
          exact hret _ _ _ _ (some (.int (nI 1))) () 45 ls (by decide) (by decide) (by exact rv (by rw [← hin, ← hk]; unfold bI; split <;> omega)) hP hD hS (ret_z dX0_isComplete_45 (by first | exact bI_le | omega))
        ·
          have c_31 : ¬ k = 6 := fun z => c_31 ((stI_6 hk8).mpr z)
          refine lv_iload_n hx hb dX0_isComplete_34 rfl (lv_at hl 1 rfl) ?_
          refine lv_bipush (v := nI 7) hx hb dX0_isComplete_35 (by decide +kernel) ?_
          refine lv_icmp_ne (tgt := 44) hx hb dX0_isComplete_37 (by decide) (fun c_37 => ?_) (fun c_37 => ?_)
          ·
            have c_37 : ¬ k = 7 := fun z => c_37 ((stI_7 hk8).mpr z)
            refine lv_iconst (v := nI 0) hx hb dX0_isComplete_44 (by decide +kernel) ?_
            exact hret _ _ _ _ (some (.int (nI 0))) () 45 ls (by decide) (by decide) (by exact rv (by rw [← hin, ← hk]; unfold bI; split <;> omega)) hP hD hS (ret_z dX0_isComplete_45 (by first | exact bI_le | omega))
          ·
            have c_37 := (stI_7 hk8).mp c_37
            refine lv_iconst (v := nI 1) hx hb dX0_isComplete_40 (by decide +kernel) ?_
            refine lv_goto (tgt := 45) hx hb dX0_isComplete_41 (by decide) ?_
            exact hret _ _ _ _ (some (.int (nI 1))) () 45 ls (by decide) (by decide) (by exact rv (by rw [← hin, ← hk]; unfold bI; split <;> omega)) hP hD hS (ret_z dX0_isComplete_45 (by first | exact bI_le | omega))
      ·
        refine lv_iload_n hx hb dX0_isComplete_12 rfl (lv_at hl 1 rfl) ?_
        refine lv_aload_n hx hb dX0_isComplete_13 rfl (lv_at hl 0 rfl) ?_
        refine lv_iload_n hx hb dX0_isComplete_14 rfl (lv_at hl 2 rfl) ?_
        refine KM.callV (As := [.int (nI i)]) (rest := [.int (stI k)]) C0 hN (k_X0_codeAt l D cI cS cL a0 a1 n cs i (by first | with_reducible assumption | omega) (by first | with_reducible assumption | omega)) (cwV 1 hts gX0_isComplete_X0_codeAt rfl rfl rfl (by decide +kernel) ⟨Nat.le_of_ble_eq_true rfl, Nat.le_of_ble_eq_true rfl⟩) hK hP hD hS hA [0, 1] rfl (by decide) (fun _ => rfl) 0 0 rfl rfl rfl rfl hl.1 rfl (Nat.le_of_ble_eq_true rfl) dX0_isComplete_15 ⟨Nat.le_of_ble_eq_true rfl, Nat.le_of_ble_eq_true rfl⟩ (fun v9 u9 H locs hv hP hD hS => ?_)
        subst hv
        have hP : va_P D vwCl [(a0, .inr (0, [.ref a1, .int (nI n)])), (a1, .inl (cI, 60, .inl (ro 60 cs)))] H := hP
        have hD : va_D A9 [(a0, .inr (0, [.ref a1, .int (nI n)])), (a1, .inl (cI, 60, .inl (ro 60 cs)))] := hD
        refine W.eq (g2 := F0 m9 18 ls [.int (if i < n then nI (cs i) else -1), .int (stI k)]) rfl ?_
        refine q_topi (y := (nI (cs i))) (by rw [if_pos (by omega)]) ?_
        refine KM.callS (As := [.int (stI k), .int (nI (cs i))]) (rest := []) C0 hN (k_X0_stateBehind l D cI cS cL k (cs i) (by rw [hk]; exact runS_le _ _) (by exact hcs i (by omega))) (va_cwS 2 hts gX0_isComplete_X0_stateBehind rfl rfl rfl (by decide +kernel) ⟨Nat.le_of_ble_eq_true rfl, Nat.le_of_ble_eq_true rfl⟩) hK hP hD hS hA [] rfl (by decide) (fun _ => rfl) rfl hl.1 rfl (Nat.le_of_ble_eq_true rfl) dX0_isComplete_18 ⟨Nat.le_of_ble_eq_true rfl, Nat.le_of_ble_eq_true rfl⟩ (fun v9 u9 H locs hv hP hD hS => ?_)
        subst hv
        have hP : va_P D vwCl [(a0, .inr (0, [.ref a1, .int (nI n)])), (a1, .inl (cI, 60, .inl (ro 60 cs)))] H := hP
        have hD : va_D A9 [(a0, .inr (0, [.ref a1, .int (nI n)])), (a1, .inl (cI, 60, .inl (ro 60 cs)))] := hD
        refine W.eq (g2 := F0 m9 21 ls [.int (stI (sB k (cs i)))]) rfl ?_
        refine lv_istore_n (lv' := [(1, .int (stI (sB k (cs i)))), (0, .ref a0), (2, .int (nI i))]) hx hb dX0_isComplete_21 rfl hl (by decide) rfl (fun ls hl => ?_)
        refine lv_iinc (v := (nI (i + 1))) (lv' := [(2, .int (nI (i + 1))), (1, .int (stI (sB k (cs i)))), (0, .ref a0)]) hx hb dX0_isComplete_22 hl (k := 2) rfl (nI_add i 1) (by decide) rfl (fun ls hl => ?_)
        refine lv_goto (tgt := 4) hx hb dX0_isComplete_25 (by decide) ?_
        exact ih4  (i + 1) (sB k (cs i)) _ _ ls (by first | with_reducible assumption | omega) (by rw [hk]; rfl) (by omega) hP hD hS (lv_sub hl [2, 1, 0] rfl)
  exact L4 (n - 0 + 1) 0 0 _ _ ls (by first | with_reducible assumption | omega) (by rfl) (by omega) hP hD hS (lv_sub hl [2, 1, 0] rfl)

theorem in_X2_asks_X2 : ∀ w ∈ wsX20, w ∈ wsX2_asks := by decide +kernel
theorem fl_X2_asks_9 : Cond.fieldLink RX2 9 "FountainCues$Fountain" "sizes" "[I" ∈ wsX2_asks := by decide +kernel
theorem fl_X2_asks_18 : Cond.fieldLink RX2 18 "FountainCues$Fountain" "valves" "[I" ∈ wsX2_asks := by decide +kernel
set_option maxHeartbeats 4000000 in
set_option maxRecDepth 100000 in
theorem k_X2_asks (l : Launch) (D : va_G) (cI cS cL : ClassId) (a0 : Nat) (a1 : Nat) (a2 : Nat) (a3 : Nat) (a4 : Nat) (a5 : Nat) (a6 : Nat) (sz : Nat → Nat) (co : Nat → Nat) (va : Nat → Nat) (am : Nat → Nat) (li : Nat → Nat) (se : Nat → Nat) (w : Nat) (j : Nat) (hj : j < 8) : KM l D (TY cI cS cL) yX2_asks wsX2_asks ({ frames := 0, cells := 0, slots := 0, locals := 0 } : Room) [(a0, .inr (2, [.ref a1, .ref a2, .ref a3, .ref a4, .ref a5, .ref a6, .int (nI w)])), (a1, .inl (cI, 8, .inl (ro 8 sz))), (a2, .inl (cI, 8, .inl (ro 8 co))), (a3, .inl (cI, 8, .inl (ro 8 va))), (a4, .inl (cI, 8, .inl (ro 8 am))), (a5, .inl (cI, 2, .inl (ro 2 li))), (a6, .inl (cI, 3, .inl (ro 3 se)))] [.ref a0, .int (nI j)] (fun (v : Option Value) (_ : Unit) => v = some (.int (nI (sz j * va j)))) (fun _ : Unit => [(a0, .inr (2, [.ref a1, .ref a2, .ref a3, .ref a4, .ref a5, .ref a6, .int (nI w)])), (a1, .inl (cI, 8, .inl (ro 8 sz))), (a2, .inl (cI, 8, .inl (ro 8 co))), (a3, .inl (cI, 8, .inl (ro 8 va))), (a4, .inl (cI, 8, .inl (ro 8 am))), (a5, .inl (cI, 2, .inl (ro 2 li))), (a6, .inl (cI, 3, .inl (ro 3 se)))]) := by
  refine KM.of (cc := cX2_asks) (maxL := 2) (ret := (some .int)) (by decide) rfl (Nat.le_of_ble_eq_true rfl) ?_
  intro p9 e9 s9 m9 ar9 be9 me9 c9 Q9 A9 ls C0 hN hnm hlk hK hA hret hP hD hS hl
  obtain ⟨hx, hb, hml, hown, hts⟩ := id C0
  have hl : lv_has ls 2 [(0, .ref a0), (1, .int (nI j))] := hl
  obtain ⟨H, hH0⟩ : ∃ H, H = s9.heap := ⟨_, rfl⟩
  obtain ⟨locs, hlc0⟩ : ∃ z : List Loc, z = [] := ⟨_, rfl⟩
  have hP : va_P D vwCl [(a0, .inr (2, [.ref a1, .ref a2, .ref a3, .ref a4, .ref a5, .ref a6, .int (nI w)])), (a1, .inl (cI, 8, .inl (ro 8 sz))), (a2, .inl (cI, 8, .inl (ro 8 co))), (a3, .inl (cI, 8, .inl (ro 8 va))), (a4, .inl (cI, 8, .inl (ro 8 am))), (a5, .inl (cI, 2, .inl (ro 2 li))), (a6, .inl (cI, 3, .inl (ro 3 se)))] H := by rw [hH0]; exact hP
  have hD : va_D A9 [(a0, .inr (2, [.ref a1, .ref a2, .ref a3, .ref a4, .ref a5, .ref a6, .int (nI w)])), (a1, .inl (cI, 8, .inl (ro 8 sz))), (a2, .inl (cI, 8, .inl (ro 8 co))), (a3, .inl (cI, 8, .inl (ro 8 va))), (a4, .inl (cI, 8, .inl (ro 8 am))), (a5, .inl (cI, 2, .inl (ro 2 li))), (a6, .inl (cI, 3, .inl (ro 3 se)))] := hD
  have hS : va_S A9 s9.heap H locs := by rw [hH0, hlc0]; exact hS
  suffices hgo : W p9 l e9 ({ frames := 0, cells := 0, slots := 0, locals := 0 } : Room) s9 m9 ar9 be9 me9 c9 H locs 0 0 Q9 (F0 m9 0 ls []) by rw [hH0, hlc0] at hgo; exact hgo
  clear hH0 hlc0
  refine lv_aload_n hx hb dX2_asks_0 rfl (lv_at hl 0 rfl) ?_
  refine va_get (D := D) (ci := 2) (v := .ref a1) (C := RX2) (T := TX2) (N := 7) hx hb hts in_X2_asks_X2 hown hK hP 0 rfl rfl 0 (by decide) (hts _ fl_X2_asks_9) (fun _ h9 => h9) rfl dX2_asks_1 ?_
  refine lv_iload_n hx hb dX2_asks_4 rfl (lv_at hl 1 rfl) ?_
  refine q_iald 1 0 (by omega) (by omega) hx hb hK hP rfl rfl dX2_asks_5 ?_
  refine lv_aload_n hx hb dX2_asks_6 rfl (lv_at hl 0 rfl) ?_
  refine va_get (D := D) (ci := 2) (v := .ref a3) (C := RX2) (T := TX2) (N := 7) hx hb hts in_X2_asks_X2 hown hK hP 0 rfl rfl 2 (by decide) (hts _ fl_X2_asks_18) (fun _ h9 => h9) rfl dX2_asks_7 ?_
  refine lv_iload_n hx hb dX2_asks_10 rfl (lv_at hl 1 rfl) ?_
  refine q_iald 3 0 (by omega) (by omega) hx hb hK hP rfl rfl dX2_asks_11 ?_
  refine q_imul hx hb dX2_asks_12 ?_
  exact hret _ _ _ _ (some (.int (nI ((sz j) * (va j))))) () 13 ls (by decide) (by decide) (by rfl) hP hD hS (ret_i dX2_asks_13)

set_option maxHeartbeats 4000000 in
set_option maxRecDepth 100000 in
theorem k_X5_quotient (l : Launch) (D : va_G) (cI cS cL : ClassId) (x : Nat) (y : Nat) (hx2 : x < 2 ^ 31) (hy2 : y < 2 ^ 31) : KM l D (TY cI cS cL) yX5_quotient wsX5_quotient ({ frames := 0, cells := 0, slots := 0, locals := 0 } : Room) [] [.int (nI x), .int (nI y)] (fun (v : Option Value) (_ : Unit) => v = some (.int (nI (x / y)))) (fun _ : Unit => []) := by
  refine KM.of (cc := cX5_quotient) (maxL := 2) (ret := (some .int)) (by decide) rfl (Nat.le_of_ble_eq_true rfl) ?_
  intro p9 e9 s9 m9 ar9 be9 me9 c9 Q9 A9 ls C0 hN hnm hlk hK hA hret hP hD hS hl
  obtain ⟨hx, hb, hml, hown, hts⟩ := id C0
  have hl : lv_has ls 2 [(0, .int (nI x)), (1, .int (nI y))] := hl
  obtain ⟨H, hH0⟩ : ∃ H, H = s9.heap := ⟨_, rfl⟩
  obtain ⟨locs, hlc0⟩ : ∃ z : List Loc, z = [] := ⟨_, rfl⟩
  have hP : va_P D vwCl [] H := by rw [hH0]; exact hP
  have hD : va_D A9 [] := hD
  have hS : va_S A9 s9.heap H locs := by rw [hH0, hlc0]; exact hS
  suffices hgo : W p9 l e9 ({ frames := 0, cells := 0, slots := 0, locals := 0 } : Room) s9 m9 ar9 be9 me9 c9 H locs 0 0 Q9 (F0 m9 0 ls []) by rw [hH0, hlc0] at hgo; exact hgo
  clear hH0 hlc0
  refine lv_iload_n hx hb dX5_quotient_0 rfl (lv_at hl 1 rfl) ?_
  refine q_fne (tgt := 8) (by omega) hx hb dX5_quotient_1 (by decide) (fun c_1 => ?_) (fun c_1 => ?_)
  ·
    refine lv_iload_n hx hb dX5_quotient_8 rfl (lv_at hl 0 rfl) ?_
    refine lv_iload_n hx hb dX5_quotient_9 rfl (lv_at hl 1 rfl) ?_
    refine q_idiv (by omega) (by omega) (by omega) hx hb dX5_quotient_10 ?_
    exact hret _ _ _ _ (some (.int (nI (x / y)))) () 11 ls (by decide) (by decide) (by first | rfl | exact rv (by rw [c_1, Nat.div_zero])) hP hD hS (ret_i dX5_quotient_11)
  ·
    refine lv_iconst (v := nI 0) hx hb dX5_quotient_4 (by decide +kernel) ?_
    refine lv_goto (tgt := 11) hx hb dX5_quotient_5 (by decide) ?_
    exact hret _ _ _ _ (some (.int (nI 0))) () 11 ls (by decide) (by decide) (by first | rfl | exact rv (by rw [c_1, Nat.div_zero])) hP hD hS (ret_i dX5_quotient_11)

set_option maxHeartbeats 4000000 in
set_option maxRecDepth 100000 in
theorem k_X2_pumpAsks (l : Launch) (D : va_G) (cI cS cL : ClassId) (a0 : Nat) (a1 : Nat) (a2 : Nat) (a3 : Nat) (a4 : Nat) (a5 : Nat) (a6 : Nat) (sz : Nat → Nat) (co : Nat → Nat) (va : Nat → Nat) (am : Nat → Nat) (li : Nat → Nat) (se : Nat → Nat) (w : Nat) (q : Nat) (hq : q < 2) : KM l D (TY cI cS cL) yX2_pumpAsks wsX2_pumpAsks ({ frames := 1, cells := 0, slots := 0, locals := 21 } : Room) [(a0, .inr (2, [.ref a1, .ref a2, .ref a3, .ref a4, .ref a5, .ref a6, .int (nI w)])), (a1, .inl (cI, 8, .inl (ro 8 sz))), (a2, .inl (cI, 8, .inl (ro 8 co))), (a3, .inl (cI, 8, .inl (ro 8 va))), (a4, .inl (cI, 8, .inl (ro 8 am))), (a5, .inl (cI, 2, .inl (ro 2 li))), (a6, .inl (cI, 3, .inl (ro 3 se)))] [.ref a0, .int (nI q)] (fun (v : Option Value) (_ : Unit) => v = some (.int (nI (pA sz va q)))) (fun _ : Unit => [(a0, .inr (2, [.ref a1, .ref a2, .ref a3, .ref a4, .ref a5, .ref a6, .int (nI w)])), (a1, .inl (cI, 8, .inl (ro 8 sz))), (a2, .inl (cI, 8, .inl (ro 8 co))), (a3, .inl (cI, 8, .inl (ro 8 va))), (a4, .inl (cI, 8, .inl (ro 8 am))), (a5, .inl (cI, 2, .inl (ro 2 li))), (a6, .inl (cI, 3, .inl (ro 3 se)))]) := by
  refine KM.of (cc := cX2_pumpAsks) (maxL := 4) (ret := (some .int)) (by decide) rfl (Nat.le_of_ble_eq_true rfl) ?_
  intro p9 e9 s9 m9 ar9 be9 me9 c9 Q9 A9 ls C0 hN hnm hlk hK hA hret hP hD hS hl
  obtain ⟨hx, hb, hml, hown, hts⟩ := id C0
  have hl : lv_has ls 4 [(0, .ref a0), (1, .int (nI q))] := hl
  obtain ⟨H, hH0⟩ : ∃ H, H = s9.heap := ⟨_, rfl⟩
  obtain ⟨locs, hlc0⟩ : ∃ z : List Loc, z = [] := ⟨_, rfl⟩
  have hP : va_P D vwCl [(a0, .inr (2, [.ref a1, .ref a2, .ref a3, .ref a4, .ref a5, .ref a6, .int (nI w)])), (a1, .inl (cI, 8, .inl (ro 8 sz))), (a2, .inl (cI, 8, .inl (ro 8 co))), (a3, .inl (cI, 8, .inl (ro 8 va))), (a4, .inl (cI, 8, .inl (ro 8 am))), (a5, .inl (cI, 2, .inl (ro 2 li))), (a6, .inl (cI, 3, .inl (ro 3 se)))] H := by rw [hH0]; exact hP
  have hD : va_D A9 [(a0, .inr (2, [.ref a1, .ref a2, .ref a3, .ref a4, .ref a5, .ref a6, .int (nI w)])), (a1, .inl (cI, 8, .inl (ro 8 sz))), (a2, .inl (cI, 8, .inl (ro 8 co))), (a3, .inl (cI, 8, .inl (ro 8 va))), (a4, .inl (cI, 8, .inl (ro 8 am))), (a5, .inl (cI, 2, .inl (ro 2 li))), (a6, .inl (cI, 3, .inl (ro 3 se)))] := hD
  have hS : va_S A9 s9.heap H locs := by rw [hH0, hlc0]; exact hS
  suffices hgo : W p9 l e9 ({ frames := 1, cells := 0, slots := 0, locals := 21 } : Room) s9 m9 ar9 be9 me9 c9 H locs 0 0 Q9 (F0 m9 0 ls []) by rw [hH0, hlc0] at hgo; exact hgo
  clear hH0 hlc0
  refine lv_iconst (v := nI 0) hx hb dX2_pumpAsks_0 (by decide +kernel) ?_
  refine lv_istore_n (lv' := [(2, .int (nI 0)), (0, .ref a0), (1, .int (nI q))]) hx hb dX2_pumpAsks_1 rfl hl (by decide) rfl (fun ls hl => ?_)
  refine lv_iconst (v := nI 0) hx hb dX2_pumpAsks_2 (by decide +kernel) ?_
  refine lv_istore_n (lv' := [(3, .int (nI 0)), (2, .int (nI 0)), (0, .ref a0), (1, .int (nI q))]) hx hb dX2_pumpAsks_3 rfl hl (by decide) rfl (fun ls hl => ?_)
  have L4 : ∀ (fuel : Nat) (i : Nat) (u : Nat) (H : Heap) (locs : List Loc) (ls : Array Slot), (i ≤ 4) → (u = sumTo (fun i => sz (q * 4 + i) * va (q * 4 + i)) i) → (4 - i < fuel) → va_P D vwCl [(a0, .inr (2, [.ref a1, .ref a2, .ref a3, .ref a4, .ref a5, .ref a6, .int (nI w)])), (a1, .inl (cI, 8, .inl (ro 8 sz))), (a2, .inl (cI, 8, .inl (ro 8 co))), (a3, .inl (cI, 8, .inl (ro 8 va))), (a4, .inl (cI, 8, .inl (ro 8 am))), (a5, .inl (cI, 2, .inl (ro 2 li))), (a6, .inl (cI, 3, .inl (ro 3 se)))] H → va_D A9 [(a0, .inr (2, [.ref a1, .ref a2, .ref a3, .ref a4, .ref a5, .ref a6, .int (nI w)])), (a1, .inl (cI, 8, .inl (ro 8 sz))), (a2, .inl (cI, 8, .inl (ro 8 co))), (a3, .inl (cI, 8, .inl (ro 8 va))), (a4, .inl (cI, 8, .inl (ro 8 am))), (a5, .inl (cI, 2, .inl (ro 2 li))), (a6, .inl (cI, 3, .inl (ro 3 se)))] → va_S A9 s9.heap H locs → lv_has ls 4 [(0, .ref a0), (1, .int (nI q)), (2, .int (nI u)), (3, .int (nI i))] → W p9 l e9 ({ frames := 1, cells := 0, slots := 0, locals := 21 } : Room) s9 m9 ar9 be9 me9 c9 H locs 0 0 Q9 (F0 m9 4 ls []) := by
    intro fuel
    induction fuel with
    | zero => intro i u H locs ls hi hu hfu; exact absurd hfu (Nat.not_lt_zero _)
    | succ fuel ih4 =>
      intro i u H locs ls hi hu hfu hP hD hS hl
      refine lv_iload_n hx hb dX2_pumpAsks_4 rfl (lv_at hl 3 rfl) ?_
      refine lv_iconst (v := nI 4) hx hb dX2_pumpAsks_5 (by decide +kernel) ?_
      refine q_ige (tgt := 27) (by omega) (by omega) hx hb dX2_pumpAsks_6 (by decide) (fun c_6 => ?_) (fun c_6 => ?_)
      ·
        refine lv_iload_n hx hb dX2_pumpAsks_27 rfl (lv_at hl 2 rfl) ?_
        exact hret _ _ _ _ (some (.int (nI u))) () 28 ls (by decide) (by decide) (by exact rv (by rw [hu, show i = 4 by omega]; rfl)) hP hD hS (ret_i dX2_pumpAsks_28)
      ·
        refine lv_iload_n hx hb dX2_pumpAsks_9 rfl (lv_at hl 2 rfl) ?_
        refine lv_aload_n hx hb dX2_pumpAsks_10 rfl (lv_at hl 0 rfl) ?_
        refine lv_iload_n hx hb dX2_pumpAsks_11 rfl (lv_at hl 1 rfl) ?_
        refine lv_iconst (v := nI 4) hx hb dX2_pumpAsks_12 (by decide +kernel) ?_
        refine q_imul hx hb dX2_pumpAsks_13 ?_
        refine lv_iload_n hx hb dX2_pumpAsks_14 rfl (lv_at hl 3 rfl) ?_
        refine q_iadd hx hb dX2_pumpAsks_15 ?_
        refine KM.callV (As := [.int (nI ((q * 4) + i))]) (rest := [.int (nI u)]) C0 hN (k_X2_asks l D cI cS cL a0 a1 a2 a3 a4 a5 a6 sz co va am li se w ((q * 4) + i) (by first | with_reducible assumption | omega)) (cwV 1 hts gX2_pumpAsks_X2_asks rfl rfl rfl (by decide +kernel) ⟨Nat.le_of_ble_eq_true rfl, Nat.le_of_ble_eq_true rfl⟩) hK hP hD hS hA [0, 1, 2, 3, 4, 5, 6] rfl (by decide) (fun _ => rfl) 0 2 rfl rfl rfl rfl hl.1 rfl (Nat.le_of_ble_eq_true rfl) dX2_pumpAsks_16 ⟨Nat.le_of_ble_eq_true rfl, Nat.le_of_ble_eq_true rfl⟩ (fun v9 u9 H locs hv hP hD hS => ?_)
        subst hv
        have hP : va_P D vwCl [(a0, .inr (2, [.ref a1, .ref a2, .ref a3, .ref a4, .ref a5, .ref a6, .int (nI w)])), (a1, .inl (cI, 8, .inl (ro 8 sz))), (a2, .inl (cI, 8, .inl (ro 8 co))), (a3, .inl (cI, 8, .inl (ro 8 va))), (a4, .inl (cI, 8, .inl (ro 8 am))), (a5, .inl (cI, 2, .inl (ro 2 li))), (a6, .inl (cI, 3, .inl (ro 3 se)))] H := hP
        have hD : va_D A9 [(a0, .inr (2, [.ref a1, .ref a2, .ref a3, .ref a4, .ref a5, .ref a6, .int (nI w)])), (a1, .inl (cI, 8, .inl (ro 8 sz))), (a2, .inl (cI, 8, .inl (ro 8 co))), (a3, .inl (cI, 8, .inl (ro 8 va))), (a4, .inl (cI, 8, .inl (ro 8 am))), (a5, .inl (cI, 2, .inl (ro 2 li))), (a6, .inl (cI, 3, .inl (ro 3 se)))] := hD
        refine W.eq (g2 := F0 m9 19 ls [.int (nI (sz ((q * 4) + i) * va ((q * 4) + i))), .int (nI u)]) rfl ?_
        refine q_iadd hx hb dX2_pumpAsks_19 ?_
        refine lv_istore_n (lv' := [(2, .int (nI (u + (sz ((q * 4) + i) * va ((q * 4) + i))))), (0, .ref a0), (1, .int (nI q)), (3, .int (nI i))]) hx hb dX2_pumpAsks_20 rfl hl (by decide) rfl (fun ls hl => ?_)
        refine lv_iinc (v := (nI (i + 1))) (lv' := [(3, .int (nI (i + 1))), (2, .int (nI (u + (sz ((q * 4) + i) * va ((q * 4) + i))))), (0, .ref a0), (1, .int (nI q))]) hx hb dX2_pumpAsks_21 hl (k := 3) rfl (nI_add i 1) (by decide) rfl (fun ls hl => ?_)
        refine lv_goto (tgt := 4) hx hb dX2_pumpAsks_24 (by decide) ?_
        exact ih4  (i + 1) (u + (sz ((q * 4) + i) * va ((q * 4) + i))) _ _ ls (by first | with_reducible assumption | omega) (by rw [hu]; rfl) (by omega) hP hD hS (lv_sub hl [2, 3, 1, 0] rfl)
  exact L4 (4 - 0 + 1) 0 0 _ _ ls (by first | with_reducible assumption | omega) (by rfl) (by omega) hP hD hS (lv_sub hl [2, 3, 1, 0] rfl)

theorem in_X2_highestInWind_X2 : ∀ w ∈ wsX20, w ∈ wsX2_highestInWind := by decide +kernel
theorem fl_X2_highestInWind_27 : Cond.fieldLink RX2 27 "FountainCues$Fountain" "settings" "[I" ∈ wsX2_highestInWind := by decide +kernel
theorem fl_X2_highestInWind_34 : Cond.fieldLink RX2 34 "FountainCues$Fountain" "wind" "I" ∈ wsX2_highestInWind := by decide +kernel
set_option maxHeartbeats 4000000 in
set_option maxRecDepth 100000 in
theorem k_X2_highestInWind (l : Launch) (D : va_G) (cI cS cL : ClassId) (a0 : Nat) (a1 : Nat) (a2 : Nat) (a3 : Nat) (a4 : Nat) (a5 : Nat) (a6 : Nat) (sz : Nat → Nat) (co : Nat → Nat) (va : Nat → Nat) (am : Nat → Nat) (li : Nat → Nat) (se : Nat → Nat) (w : Nat) (hB : fB sz va am li se w) : KM l D (TY cI cS cL) yX2_highestInWind wsX2_highestInWind ({ frames := 1, cells := 0, slots := 0, locals := 21 } : Room) [(a0, .inr (2, [.ref a1, .ref a2, .ref a3, .ref a4, .ref a5, .ref a6, .int (nI w)])), (a1, .inl (cI, 8, .inl (ro 8 sz))), (a2, .inl (cI, 8, .inl (ro 8 co))), (a3, .inl (cI, 8, .inl (ro 8 va))), (a4, .inl (cI, 8, .inl (ro 8 am))), (a5, .inl (cI, 2, .inl (ro 2 li))), (a6, .inl (cI, 3, .inl (ro 3 se)))] [.ref a0] (fun (v : Option Value) (_ : Unit) => v = some (.int (nI (fHi se w)))) (fun _ : Unit => [(a0, .inr (2, [.ref a1, .ref a2, .ref a3, .ref a4, .ref a5, .ref a6, .int (nI w)])), (a1, .inl (cI, 8, .inl (ro 8 sz))), (a2, .inl (cI, 8, .inl (ro 8 co))), (a3, .inl (cI, 8, .inl (ro 8 va))), (a4, .inl (cI, 8, .inl (ro 8 am))), (a5, .inl (cI, 2, .inl (ro 2 li))), (a6, .inl (cI, 3, .inl (ro 3 se)))]) := by
  refine KM.of (cc := cX2_highestInWind) (maxL := 2) (ret := (some .int)) (by decide) rfl (Nat.le_of_ble_eq_true rfl) ?_
  intro p9 e9 s9 m9 ar9 be9 me9 c9 Q9 A9 ls C0 hN hnm hlk hK hA hret hP hD hS hl
  obtain ⟨hx, hb, hml, hown, hts⟩ := id C0
  have hl : lv_has ls 2 [(0, .ref a0)] := hl
  obtain ⟨H, hH0⟩ : ∃ H, H = s9.heap := ⟨_, rfl⟩
  obtain ⟨locs, hlc0⟩ : ∃ z : List Loc, z = [] := ⟨_, rfl⟩
  have hP : va_P D vwCl [(a0, .inr (2, [.ref a1, .ref a2, .ref a3, .ref a4, .ref a5, .ref a6, .int (nI w)])), (a1, .inl (cI, 8, .inl (ro 8 sz))), (a2, .inl (cI, 8, .inl (ro 8 co))), (a3, .inl (cI, 8, .inl (ro 8 va))), (a4, .inl (cI, 8, .inl (ro 8 am))), (a5, .inl (cI, 2, .inl (ro 2 li))), (a6, .inl (cI, 3, .inl (ro 3 se)))] H := by rw [hH0]; exact hP
  have hD : va_D A9 [(a0, .inr (2, [.ref a1, .ref a2, .ref a3, .ref a4, .ref a5, .ref a6, .int (nI w)])), (a1, .inl (cI, 8, .inl (ro 8 sz))), (a2, .inl (cI, 8, .inl (ro 8 co))), (a3, .inl (cI, 8, .inl (ro 8 va))), (a4, .inl (cI, 8, .inl (ro 8 am))), (a5, .inl (cI, 2, .inl (ro 2 li))), (a6, .inl (cI, 3, .inl (ro 3 se)))] := hD
  have hS : va_S A9 s9.heap H locs := by rw [hH0, hlc0]; exact hS
  suffices hgo : W p9 l e9 ({ frames := 1, cells := 0, slots := 0, locals := 21 } : Room) s9 m9 ar9 be9 me9 c9 H locs 0 0 Q9 (F0 m9 0 ls []) by rw [hH0, hlc0] at hgo; exact hgo
  clear hH0 hlc0
  obtain ⟨hB1, hB2, hB3, hB4, hB5, hB6, hB7, hB8⟩ := id hB
  refine lv_aload_n hx hb dX2_highestInWind_0 rfl (lv_at hl 0 rfl) ?_
  refine va_get (D := D) (ci := 2) (v := .ref a6) (C := RX2) (T := TX2) (N := 7) hx hb hts in_X2_highestInWind_X2 hown hK hP 0 rfl rfl 5 (by decide) (hts _ fl_X2_highestInWind_27) (fun _ h9 => h9) rfl dX2_highestInWind_1 ?_
  refine lv_iconst (v := nI 0) hx hb dX2_highestInWind_4 (by decide +kernel) ?_
  refine q_iald 6 0 (by omega) (by omega) hx hb hK hP rfl rfl dX2_highestInWind_5 ?_
  refine lv_istore_n (lv' := [(1, .int (nI (se 0))), (0, .ref a0)]) hx hb dX2_highestInWind_6 rfl hl (by decide) rfl (fun ls hl => ?_)
  refine lv_aload_n hx hb dX2_highestInWind_7 rfl (lv_at hl 1 rfl) ?_
  refine va_get (D := D) (ci := 2) (v := .int (nI w)) (C := RX2) (T := TX2) (N := 7) hx hb hts in_X2_highestInWind_X2 hown hK hP 0 rfl rfl 6 (by decide) (hts _ fl_X2_highestInWind_34) (fun _ h9 => h9) rfl dX2_highestInWind_8 ?_
  refine lv_iload_n hx hb dX2_highestInWind_11 rfl (lv_at hl 0 rfl) ?_
  refine q_ile (tgt := 31) (by omega) (by omega) hx hb dX2_highestInWind_12 (by decide) (fun c_12 => ?_) (fun c_12 => ?_)
  ·
    refine lv_bipush (v := nI 10) hx hb dX2_highestInWind_31 (by decide +kernel) ?_
    exact hret _ _ _ _ (some (.int (nI 10))) () 33 ls (by decide) (by decide) (by exact rv (by unfold fHi; split <;> omega)) hP hD hS (ret_i dX2_highestInWind_33)
  ·
    refine lv_iconst (v := nI 0) hx hb dX2_highestInWind_15 (by decide +kernel) ?_
    refine lv_bipush (v := nI 10) hx hb dX2_highestInWind_16 (by decide +kernel) ?_
    refine lv_iload_n hx hb dX2_highestInWind_18 rfl (lv_at hl 0 rfl) ?_
    refine q_iadd hx hb dX2_highestInWind_19 ?_
    refine lv_aload_n hx hb dX2_highestInWind_20 rfl (lv_at hl 1 rfl) ?_
    refine va_get (D := D) (ci := 2) (v := .int (nI w)) (C := RX2) (T := TX2) (N := 7) hx hb hts in_X2_highestInWind_X2 hown hK hP 0 rfl rfl 6 (by decide) (hts _ fl_X2_highestInWind_34) (fun _ h9 => h9) rfl dX2_highestInWind_21 ?_
    refine lv_isub hx hb dX2_highestInWind_24 ?_
    refine va_mmax hx hb (hml.trans hl.1.symm) hown (hts (.methodLink RX2 44 Lib.Math.max.name) (by decide +kernel)) (hts (.static Lib.Math.max.name) (by decide +kernel)) (hts (.initialized "java/lang/Math") (by decide +kernel)) (hts (.code Lib.Math.max.name Lib.Math.max.code 2 (some .int)) (by decide +kernel)) (Nat.le_of_ble_eq_true rfl) (Nat.le_of_ble_eq_true rfl) (Nat.zero_le _) (Nat.zero_le _) dX2_highestInWind_25 ?_
    refine q_topi (y := (nI (10 + se 0 - w))) (by exact mx_s (by omega) (by omega)) ?_
    refine lv_goto (tgt := 33) hx hb dX2_highestInWind_28 (by decide) ?_
    exact hret _ _ _ _ (some (.int (nI (10 + se 0 - w)))) () 33 ls (by decide) (by decide) (by exact rv (by unfold fHi; split <;> omega)) hP hD hS (ret_i dX2_highestInWind_33)

theorem in_X2_heightWith_X2 : ∀ w ∈ wsX20, w ∈ wsX2_heightWith := by decide +kernel
theorem fl_X2_heightWith_9 : Cond.fieldLink RX2 9 "FountainCues$Fountain" "sizes" "[I" ∈ wsX2_heightWith := by decide +kernel
set_option maxHeartbeats 4000000 in
set_option maxRecDepth 100000 in
theorem k_X2_heightWith (l : Launch) (D : va_G) (cI cS cL : ClassId) (a0 : Nat) (a1 : Nat) (a2 : Nat) (a3 : Nat) (a4 : Nat) (a5 : Nat) (a6 : Nat) (sz : Nat → Nat) (co : Nat → Nat) (va : Nat → Nat) (am : Nat → Nat) (li : Nat → Nat) (se : Nat → Nat) (w : Nat) (j : Nat) (g : Nat) (hB : fB sz va am li se w) (hj : j < 8) (hg : g < 2 ^ 31) : KM l D (TY cI cS cL) yX2_heightWith wsX2_heightWith ({ frames := 1, cells := 0, slots := 0, locals := 21 } : Room) [(a0, .inr (2, [.ref a1, .ref a2, .ref a3, .ref a4, .ref a5, .ref a6, .int (nI w)])), (a1, .inl (cI, 8, .inl (ro 8 sz))), (a2, .inl (cI, 8, .inl (ro 8 co))), (a3, .inl (cI, 8, .inl (ro 8 va))), (a4, .inl (cI, 8, .inl (ro 8 am))), (a5, .inl (cI, 2, .inl (ro 2 li))), (a6, .inl (cI, 3, .inl (ro 3 se)))] [.ref a0, .int (nI j), .int (nI g)] (fun (v : Option Value) (_ : Unit) => v = some (.int (nI (g / sz j)))) (fun _ : Unit => [(a0, .inr (2, [.ref a1, .ref a2, .ref a3, .ref a4, .ref a5, .ref a6, .int (nI w)])), (a1, .inl (cI, 8, .inl (ro 8 sz))), (a2, .inl (cI, 8, .inl (ro 8 co))), (a3, .inl (cI, 8, .inl (ro 8 va))), (a4, .inl (cI, 8, .inl (ro 8 am))), (a5, .inl (cI, 2, .inl (ro 2 li))), (a6, .inl (cI, 3, .inl (ro 3 se)))]) := by
  refine KM.of (cc := cX2_heightWith) (maxL := 3) (ret := (some .int)) (by decide) rfl (Nat.le_of_ble_eq_true rfl) ?_
  intro p9 e9 s9 m9 ar9 be9 me9 c9 Q9 A9 ls C0 hN hnm hlk hK hA hret hP hD hS hl
  obtain ⟨hx, hb, hml, hown, hts⟩ := id C0
  have hl : lv_has ls 3 [(0, .ref a0), (1, .int (nI j)), (2, .int (nI g))] := hl
  obtain ⟨H, hH0⟩ : ∃ H, H = s9.heap := ⟨_, rfl⟩
  obtain ⟨locs, hlc0⟩ : ∃ z : List Loc, z = [] := ⟨_, rfl⟩
  have hP : va_P D vwCl [(a0, .inr (2, [.ref a1, .ref a2, .ref a3, .ref a4, .ref a5, .ref a6, .int (nI w)])), (a1, .inl (cI, 8, .inl (ro 8 sz))), (a2, .inl (cI, 8, .inl (ro 8 co))), (a3, .inl (cI, 8, .inl (ro 8 va))), (a4, .inl (cI, 8, .inl (ro 8 am))), (a5, .inl (cI, 2, .inl (ro 2 li))), (a6, .inl (cI, 3, .inl (ro 3 se)))] H := by rw [hH0]; exact hP
  have hD : va_D A9 [(a0, .inr (2, [.ref a1, .ref a2, .ref a3, .ref a4, .ref a5, .ref a6, .int (nI w)])), (a1, .inl (cI, 8, .inl (ro 8 sz))), (a2, .inl (cI, 8, .inl (ro 8 co))), (a3, .inl (cI, 8, .inl (ro 8 va))), (a4, .inl (cI, 8, .inl (ro 8 am))), (a5, .inl (cI, 2, .inl (ro 2 li))), (a6, .inl (cI, 3, .inl (ro 3 se)))] := hD
  have hS : va_S A9 s9.heap H locs := by rw [hH0, hlc0]; exact hS
  suffices hgo : W p9 l e9 ({ frames := 1, cells := 0, slots := 0, locals := 21 } : Room) s9 m9 ar9 be9 me9 c9 H locs 0 0 Q9 (F0 m9 0 ls []) by rw [hH0, hlc0] at hgo; exact hgo
  clear hH0 hlc0
  obtain ⟨hB1, hB2, hB3, hB4, hB5, hB6, hB7, hB8⟩ := id hB
  have hs1 := hB1 j hj
  refine lv_iload_n hx hb dX2_heightWith_0 rfl (lv_at hl 2 rfl) ?_
  refine lv_aload_n hx hb dX2_heightWith_1 rfl (lv_at hl 0 rfl) ?_
  refine va_get (D := D) (ci := 2) (v := .ref a1) (C := RX2) (T := TX2) (N := 7) hx hb hts in_X2_heightWith_X2 hown hK hP 0 rfl rfl 0 (by decide) (hts _ fl_X2_heightWith_9) (fun _ h9 => h9) rfl dX2_heightWith_2 ?_
  refine lv_iload_n hx hb dX2_heightWith_5 rfl (lv_at hl 1 rfl) ?_
  refine q_iald 1 0 (by omega) (by omega) hx hb hK hP rfl rfl dX2_heightWith_6 ?_
  refine KM.callSN (As := [.int (nI g), .int (nI (sz j))]) (rest := []) C0 hN (k_X5_quotient l D cI cS cL g (sz j) (by first | with_reducible assumption | omega) (by first | with_reducible assumption | omega)) ⟨va_cnB 2 hts gX2_heightWith_X5_quotient_n57 rfl rfl rfl (hN.1 (RX2, 57, yX5_quotient, RX5) (by decide +kernel)) (hts (.initialized RX5) (by decide +kernel)) (by decide +kernel) ⟨Nat.le_of_ble_eq_true rfl, Nat.le_of_ble_eq_true rfl⟩, (hts (.static yX5_quotient) (by decide +kernel)), trivial⟩ hK hP hD hS hA [] rfl (by decide) (fun _ => rfl) rfl hl.1 rfl (Nat.le_of_ble_eq_true rfl) dX2_heightWith_7 ⟨Nat.le_of_ble_eq_true rfl, Nat.le_of_ble_eq_true rfl⟩ (fun v9 u9 H locs hv hP hD hS => ?_)
  subst hv
  have hP : va_P D vwCl [(a0, .inr (2, [.ref a1, .ref a2, .ref a3, .ref a4, .ref a5, .ref a6, .int (nI w)])), (a1, .inl (cI, 8, .inl (ro 8 sz))), (a2, .inl (cI, 8, .inl (ro 8 co))), (a3, .inl (cI, 8, .inl (ro 8 va))), (a4, .inl (cI, 8, .inl (ro 8 am))), (a5, .inl (cI, 2, .inl (ro 2 li))), (a6, .inl (cI, 3, .inl (ro 3 se)))] H := hP
  have hD : va_D A9 [(a0, .inr (2, [.ref a1, .ref a2, .ref a3, .ref a4, .ref a5, .ref a6, .int (nI w)])), (a1, .inl (cI, 8, .inl (ro 8 sz))), (a2, .inl (cI, 8, .inl (ro 8 co))), (a3, .inl (cI, 8, .inl (ro 8 va))), (a4, .inl (cI, 8, .inl (ro 8 am))), (a5, .inl (cI, 2, .inl (ro 2 li))), (a6, .inl (cI, 3, .inl (ro 3 se)))] := hD
  refine W.eq (g2 := F0 m9 10 ls [.int (nI (g / (sz j)))]) rfl ?_
  exact hret _ _ _ _ (some (.int (nI (g / (sz j))))) () 10 ls (by decide) (by decide) (by rfl) hP hD hS (ret_i dX2_heightWith_10)
