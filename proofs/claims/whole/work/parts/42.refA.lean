theorem in_X6_thrown_X6 : ∀ w ∈ wsX60, w ∈ wsX6_thrown := by decide +kernel
theorem fl_X6_thrown_25 : Cond.fieldLink RX6 25 "FountainCuesModel" "thrown" "I" ∈ wsX6_thrown := by decide +kernel
set_option maxHeartbeats 4000000 in
set_option maxRecDepth 100000 in
theorem k_X6_thrown (l : Launch) (D : va_G) (cI cS cL : ClassId) (m0 : Nat) (m1 : Nat) (m2 : Nat) (m3 : Nat) (m4 : Nat) (m5 : Nat) (k : Nat) (n : Nat) (th : Nat) (ax : Nat) (fa : Nat) (vl : Nat) (tn : Nat) (hg : Nat) (bg : Nat)  : KM l D (TY cI cS cL) yX6_thrown wsX6_thrown ({ frames := 0, cells := 0, slots := 0, locals := 0 } : Room) [(m0, .inr (6, [.ref m1, .ref m2, .ref m3, .int (nI k), .ref m4, .int (nI n), .int (nI th), .int (nI ax), .int (nI fa), .int (nI vl), .ref m5, .int (nI tn), .int (nI hg), .int (nI bg)]))] [.ref m0] (fun (v : Option Value) (_ : Unit) => v = some (.int (nI th))) (fun _ : Unit => [(m0, .inr (6, [.ref m1, .ref m2, .ref m3, .int (nI k), .ref m4, .int (nI n), .int (nI th), .int (nI ax), .int (nI fa), .int (nI vl), .ref m5, .int (nI tn), .int (nI hg), .int (nI bg)]))]) := by
  refine KM.of (cc := cX6_thrown) (maxL := 1) (ret := (some .int)) (by decide) rfl (Nat.le_of_ble_eq_true rfl) ?_
  intro p9 e9 s9 m9 ar9 be9 me9 c9 Q9 A9 ls C0 hN hnm hlk hK hA hret hP hD hS hl
  obtain ⟨hx, hb, hml, hown, hts⟩ := id C0
  have hl : lv_has ls 1 [(0, .ref m0)] := hl
  obtain ⟨H, hH0⟩ : ∃ H, H = s9.heap := ⟨_, rfl⟩
  obtain ⟨locs, hlc0⟩ : ∃ z : List Loc, z = [] := ⟨_, rfl⟩
  have hP : va_P D vwCl [(m0, .inr (6, [.ref m1, .ref m2, .ref m3, .int (nI k), .ref m4, .int (nI n), .int (nI th), .int (nI ax), .int (nI fa), .int (nI vl), .ref m5, .int (nI tn), .int (nI hg), .int (nI bg)]))] H := by rw [hH0]; exact hP
  have hD : va_D A9 [(m0, .inr (6, [.ref m1, .ref m2, .ref m3, .int (nI k), .ref m4, .int (nI n), .int (nI th), .int (nI ax), .int (nI fa), .int (nI vl), .ref m5, .int (nI tn), .int (nI hg), .int (nI bg)]))] := hD
  have hS : va_S A9 s9.heap H locs := by rw [hH0, hlc0]; exact hS
  suffices hgo : W p9 l e9 ({ frames := 0, cells := 0, slots := 0, locals := 0 } : Room) s9 m9 ar9 be9 me9 c9 H locs 0 0 Q9 (F0 m9 0 ls []) by rw [hH0, hlc0] at hgo; exact hgo
  clear hH0 hlc0
  refine lv_aload_n hx hb dX6_thrown_0 rfl (lv_at hl 0 rfl) ?_
  refine va_get (D := D) (ci := 6) (v := .int (nI th)) (C := RX6) (T := TX6) (N := 14) hx hb hts in_X6_thrown_X6 hown hK hP 0 rfl rfl 6 (by decide) (hts _ fl_X6_thrown_25) (fun _ h9 => h9) rfl dX6_thrown_1 ?_
  exact hret _ _ _ _ (some (.int (nI th))) () 4 ls (by decide) (by decide) (by rfl) hP hD hS (ret_i dX6_thrown_4)

theorem in_X6_fails_X6 : ∀ w ∈ wsX60, w ∈ wsX6_fails := by decide +kernel
theorem fl_X6_fails_25 : Cond.fieldLink RX6 25 "FountainCuesModel" "thrown" "I" ∈ wsX6_fails := by decide +kernel
set_option maxHeartbeats 4000000 in
set_option maxRecDepth 100000 in
theorem k_X6_fails (l : Launch) (D : va_G) (cI cS cL : ClassId) (m0 : Nat) (m1 : Nat) (m2 : Nat) (m3 : Nat) (m4 : Nat) (m5 : Nat) (k : Nat) (n : Nat) (th : Nat) (ax : Nat) (fa : Nat) (vl : Nat) (tn : Nat) (hg : Nat) (bg : Nat) (y : Nat)  : KM l D (TY cI cS cL) yX6_fails wsX6_fails ({ frames := 0, cells := 0, slots := 0, locals := 0 } : Room) [(m0, .inr (6, [.ref m1, .ref m2, .ref m3, .int (nI k), .ref m4, .int (nI n), .int (nI th), .int (nI ax), .int (nI fa), .int (nI vl), .ref m5, .int (nI tn), .int (nI hg), .int (nI bg)]))] [.ref m0, .int (nI y)] (fun (v : Option Value) (_ : Unit) => v = some (.int (nI 0))) (fun _ : Unit => [(m0, .inr (6, [.ref m1, .ref m2, .ref m3, .int (nI k), .ref m4, .int (nI n), .int (nI y), .int (nI ax), .int (nI fa), .int (nI vl), .ref m5, .int (nI tn), .int (nI hg), .int (nI bg)]))]) := by
  refine KM.of (cc := cX6_fails) (maxL := 2) (ret := (some .int)) (by decide) rfl (Nat.le_of_ble_eq_true rfl) ?_
  intro p9 e9 s9 m9 ar9 be9 me9 c9 Q9 A9 ls C0 hN hnm hlk hK hA hret hP hD hS hl
  obtain ⟨hx, hb, hml, hown, hts⟩ := id C0
  have hl : lv_has ls 2 [(0, .ref m0), (1, .int (nI y))] := hl
  obtain ⟨H, hH0⟩ : ∃ H, H = s9.heap := ⟨_, rfl⟩
  obtain ⟨locs, hlc0⟩ : ∃ z : List Loc, z = [] := ⟨_, rfl⟩
  have hP : va_P D vwCl [(m0, .inr (6, [.ref m1, .ref m2, .ref m3, .int (nI k), .ref m4, .int (nI n), .int (nI th), .int (nI ax), .int (nI fa), .int (nI vl), .ref m5, .int (nI tn), .int (nI hg), .int (nI bg)]))] H := by rw [hH0]; exact hP
  have hD : va_D A9 [(m0, .inr (6, [.ref m1, .ref m2, .ref m3, .int (nI k), .ref m4, .int (nI n), .int (nI th), .int (nI ax), .int (nI fa), .int (nI vl), .ref m5, .int (nI tn), .int (nI hg), .int (nI bg)]))] := hD
  have hS : va_S A9 s9.heap H locs := by rw [hH0, hlc0]; exact hS
  suffices hgo : W p9 l e9 ({ frames := 0, cells := 0, slots := 0, locals := 0 } : Room) s9 m9 ar9 be9 me9 c9 H locs 0 0 Q9 (F0 m9 0 ls []) by rw [hH0, hlc0] at hgo; exact hgo
  clear hH0 hlc0
  refine lv_aload_n hx hb dX6_fails_0 rfl (lv_at hl 0 rfl) ?_
  refine lv_iload_n hx hb dX6_fails_1 rfl (lv_at hl 1 rfl) ?_
  refine va_put (D := D) (ci := 6) (v := .int (nI y)) (ty := tyX6 6) (C := RX6) (T := TX6) (N := 14) hx hb hts in_X6_fails_X6 tyX6 tyX6_ok nmX6 hown hK hP hD hS 0 rfl rfl 6 (by decide) (hts _ fl_X6_fails_25) (fun _ h9 => h9) rfl (by decide +kernel) rfl rfl (Nat.le_of_ble_eq_true rfl) dX6_fails_2 (fun H locs hP hD hS => ?_)
  have hP : va_P D vwCl [(m0, .inr (6, [.ref m1, .ref m2, .ref m3, .int (nI k), .ref m4, .int (nI n), .int (nI y), .int (nI ax), .int (nI fa), .int (nI vl), .ref m5, .int (nI tn), .int (nI hg), .int (nI bg)]))] H := hP
  have hD : va_D A9 [(m0, .inr (6, [.ref m1, .ref m2, .ref m3, .int (nI k), .ref m4, .int (nI n), .int (nI y), .int (nI ax), .int (nI fa), .int (nI vl), .ref m5, .int (nI tn), .int (nI hg), .int (nI bg)]))] := hD
  refine lv_iconst (v := nI 0) hx hb dX6_fails_5 (by decide +kernel) ?_
  exact hret _ _ _ _ (some (.int (nI 0))) () 6 ls (by decide) (by decide) (by rfl) hP hD hS (ret_i dX6_fails_6)

set_option maxHeartbeats 4000000 in
set_option maxRecDepth 100000 in
theorem k_X6_in (l : Launch) (D : va_G) (cI cS cL : ClassId) (v0 : Int32) (lo : Nat) (hi : Nat) (h1 : lo < 2 ^ 31) (h2 : hi < 2 ^ 31) : KM l D (TY cI cS cL) yX6_in wsX6_in ({ frames := 0, cells := 0, slots := 0, locals := 0 } : Room) [] [.int v0, .int (nI lo), .int (nI hi)] (fun (v : Option Value) (_ : Unit) => v = some (.int (nI (bI (inR v0 lo hi))))) (fun _ : Unit => []) := by
  refine KM.of (cc := cX6_in) (maxL := 3) (ret := (some .boolean)) (by decide) rfl (Nat.le_of_ble_eq_true rfl) ?_
  intro p9 e9 s9 m9 ar9 be9 me9 c9 Q9 A9 ls C0 hN hnm hlk hK hA hret hP hD hS hl
  obtain ⟨hx, hb, hml, hown, hts⟩ := id C0
  have hl : lv_has ls 3 [(0, .int v0), (1, .int (nI lo)), (2, .int (nI hi))] := hl
  obtain ⟨H, hH0⟩ : ∃ H, H = s9.heap := ⟨_, rfl⟩
  obtain ⟨locs, hlc0⟩ : ∃ z : List Loc, z = [] := ⟨_, rfl⟩
  have hP : va_P D vwCl [] H := by rw [hH0]; exact hP
  have hD : va_D A9 [] := hD
  have hS : va_S A9 s9.heap H locs := by rw [hH0, hlc0]; exact hS
  suffices hgo : W p9 l e9 ({ frames := 0, cells := 0, slots := 0, locals := 0 } : Room) s9 m9 ar9 be9 me9 c9 H locs 0 0 Q9 (F0 m9 0 ls []) by rw [hH0, hlc0] at hgo; exact hgo
  clear hH0 hlc0
  refine lv_iload_n hx hb dX6_in_0 rfl (lv_at hl 0 rfl) ?_
  refine lv_iload_n hx hb dX6_in_1 rfl (lv_at hl 1 rfl) ?_
  refine lv_icmp_lt (tgt := 14) hx hb dX6_in_2 (by decide) (fun c_2 => ?_) (fun c_2 => ?_)
  ·
    refine lv_iconst (v := nI 0) hx hb dX6_in_14 (by decide +kernel) ?_
    exact hret _ _ _ _ (some (.int (nI 0))) () 15 ls (by decide) (by decide) (by exact rv (by first | exact (bI_t (inR_w2 h1 h2 c_2 c_7)).symm | exact (bI_f (inR_wl h1 c_2)).symm | exact (bI_f (inR_wh2 h2 c_7)).symm)) hP hD hS (ret_z dX6_in_15 (by first | exact bI_le | omega))
  ·
    refine lv_iload_n hx hb dX6_in_5 rfl (lv_at hl 0 rfl) ?_
    refine lv_iload_n hx hb dX6_in_6 rfl (lv_at hl 2 rfl) ?_
    refine lv_icmp_gt (tgt := 14) hx hb dX6_in_7 (by decide) (fun c_7 => ?_) (fun c_7 => ?_)
    ·
      refine lv_iconst (v := nI 0) hx hb dX6_in_14 (by decide +kernel) ?_
      exact hret _ _ _ _ (some (.int (nI 0))) () 15 ls (by decide) (by decide) (by exact rv (by first | exact (bI_t (inR_w2 h1 h2 c_2 c_7)).symm | exact (bI_f (inR_wl h1 c_2)).symm | exact (bI_f (inR_wh2 h2 c_7)).symm)) hP hD hS (ret_z dX6_in_15 (by first | exact bI_le | omega))
    ·
      refine lv_iconst (v := nI 1) hx hb dX6_in_10 (by decide +kernel) ?_
      refine lv_goto (tgt := 15) hx hb dX6_in_11 (by decide) ?_
      exact hret _ _ _ _ (some (.int (nI 1))) () 15 ls (by decide) (by decide) (by exact rv (by first | exact (bI_t (inR_w2 h1 h2 c_2 c_7)).symm | exact (bI_f (inR_wl h1 c_2)).symm | exact (bI_f (inR_wh2 h2 c_7)).symm)) hP hD hS (ret_z dX6_in_15 (by first | exact bI_le | omega))

set_option maxHeartbeats 4000000 in
set_option maxRecDepth 100000 in
theorem k_X6_in_ok (l : Launch) (D : va_G) (cI cS cL : ClassId) (x : Nat) (lo : Nat) (hi : Nat) (h1 : lo ≤ x) (h2 : x ≤ hi) (h3 : hi < 2 ^ 31) : KM l D (TY cI cS cL) yX6_in wsX6_in ({ frames := 0, cells := 0, slots := 0, locals := 0 } : Room) [] [.int (nI x), .int (nI lo), .int (nI hi)] (fun (v : Option Value) (_ : Unit) => v = some (.int (nI 1))) (fun _ : Unit => []) := by
  refine KM.of (cc := cX6_in) (maxL := 3) (ret := (some .boolean)) (by decide) rfl (Nat.le_of_ble_eq_true rfl) ?_
  intro p9 e9 s9 m9 ar9 be9 me9 c9 Q9 A9 ls C0 hN hnm hlk hK hA hret hP hD hS hl
  obtain ⟨hx, hb, hml, hown, hts⟩ := id C0
  have hl : lv_has ls 3 [(0, .int (nI x)), (1, .int (nI lo)), (2, .int (nI hi))] := hl
  obtain ⟨H, hH0⟩ : ∃ H, H = s9.heap := ⟨_, rfl⟩
  obtain ⟨locs, hlc0⟩ : ∃ z : List Loc, z = [] := ⟨_, rfl⟩
  have hP : va_P D vwCl [] H := by rw [hH0]; exact hP
  have hD : va_D A9 [] := hD
  have hS : va_S A9 s9.heap H locs := by rw [hH0, hlc0]; exact hS
  suffices hgo : W p9 l e9 ({ frames := 0, cells := 0, slots := 0, locals := 0 } : Room) s9 m9 ar9 be9 me9 c9 H locs 0 0 Q9 (F0 m9 0 ls []) by rw [hH0, hlc0] at hgo; exact hgo
  clear hH0 hlc0
  refine lv_iload_n hx hb dX6_in_0 rfl (lv_at hl 0 rfl) ?_
  refine lv_iload_n hx hb dX6_in_1 rfl (lv_at hl 1 rfl) ?_
  refine q_ilt (tgt := 14) (by omega) (by omega) hx hb dX6_in_2 (by decide) (fun c_2 => ?_) (fun c_2 => ?_)
  · exact absurd True.intro (by omega)
  ·
    refine lv_iload_n hx hb dX6_in_5 rfl (lv_at hl 0 rfl) ?_
    refine lv_iload_n hx hb dX6_in_6 rfl (lv_at hl 2 rfl) ?_
    refine q_igt (tgt := 14) (by omega) (by omega) hx hb dX6_in_7 (by decide) (fun c_7 => ?_) (fun c_7 => ?_)
    · exact absurd True.intro (by omega)
    ·
      refine lv_iconst (v := nI 1) hx hb dX6_in_10 (by decide +kernel) ?_
      refine lv_goto (tgt := 15) hx hb dX6_in_11 (by decide) ?_
      exact hret _ _ _ _ (some (.int (nI 1))) () 15 ls (by decide) (by decide) (by rfl) hP hD hS (ret_z dX6_in_15 (by first | exact bI_le | omega))

set_option maxHeartbeats 4000000 in
set_option maxRecDepth 100000 in
theorem k_X6_isJet (l : Launch) (D : va_G) (cI cS cL : ClassId) (v0 : Int32)  : KM l D (TY cI cS cL) yX6_isJet wsX6_isJet ({ frames := 1, cells := 0, slots := 0, locals := 22 } : Room) [] [.int v0] (fun (v : Option Value) (_ : Unit) => v = some (.int (nI (bI (inR v0 0 7))))) (fun _ : Unit => []) := by
  refine KM.of (cc := cX6_isJet) (maxL := 1) (ret := (some .boolean)) (by decide) rfl (Nat.le_of_ble_eq_true rfl) ?_
  intro p9 e9 s9 m9 ar9 be9 me9 c9 Q9 A9 ls C0 hN hnm hlk hK hA hret hP hD hS hl
  obtain ⟨hx, hb, hml, hown, hts⟩ := id C0
  have hl : lv_has ls 1 [(0, .int v0)] := hl
  obtain ⟨H, hH0⟩ : ∃ H, H = s9.heap := ⟨_, rfl⟩
  obtain ⟨locs, hlc0⟩ : ∃ z : List Loc, z = [] := ⟨_, rfl⟩
  have hP : va_P D vwCl [] H := by rw [hH0]; exact hP
  have hD : va_D A9 [] := hD
  have hS : va_S A9 s9.heap H locs := by rw [hH0, hlc0]; exact hS
  suffices hgo : W p9 l e9 ({ frames := 1, cells := 0, slots := 0, locals := 22 } : Room) s9 m9 ar9 be9 me9 c9 H locs 0 0 Q9 (F0 m9 0 ls []) by rw [hH0, hlc0] at hgo; exact hgo
  clear hH0 hlc0
  refine lv_iload_n hx hb dX6_isJet_0 rfl (lv_at hl 0 rfl) ?_
  refine lv_iconst (v := nI 0) hx hb dX6_isJet_1 (by decide +kernel) ?_
  refine lv_bipush (v := nI 7) hx hb dX6_isJet_2 (by decide +kernel) ?_
  refine KM.callS (As := [.int v0, .int (nI 0), .int (nI 7)]) (rest := []) C0 hN (k_X6_in l D cI cS cL v0 0 7  (by decide) (by decide)) (va_cwS 3 hts gX6_isJet_X6_in rfl rfl rfl (by decide +kernel) ⟨Nat.le_of_ble_eq_true rfl, Nat.le_of_ble_eq_true rfl⟩) hK hP hD hS hA [] rfl (by decide) (fun _ => rfl) rfl hl.1 rfl (Nat.le_of_ble_eq_true rfl) dX6_isJet_4 ⟨Nat.le_of_ble_eq_true rfl, Nat.le_of_ble_eq_true rfl⟩ (fun v9 u9 H locs hv hP hD hS => ?_)
  subst hv
  have hP : va_P D vwCl [] H := hP
  have hD : va_D A9 [] := hD
  refine W.eq (g2 := F0 m9 7 ls [.int (nI (bI (inR v0 0 7)))]) rfl ?_
  exact hret _ _ _ _ (some (.int (nI (bI (inR v0 0 7))))) () 7 ls (by decide) (by decide) (by rfl) hP hD hS (ret_z dX6_isJet_7 (by first | exact bI_le | omega))

set_option maxHeartbeats 4000000 in
set_option maxRecDepth 100000 in
theorem k_X6_isTick (l : Launch) (D : va_G) (cI cS cL : ClassId) (v0 : Int32)  : KM l D (TY cI cS cL) yX6_isTick wsX6_isTick ({ frames := 1, cells := 0, slots := 0, locals := 22 } : Room) [] [.int v0] (fun (v : Option Value) (_ : Unit) => v = some (.int (nI (bI (inR v0 0 999))))) (fun _ : Unit => []) := by
  refine KM.of (cc := cX6_isTick) (maxL := 1) (ret := (some .boolean)) (by decide) rfl (Nat.le_of_ble_eq_true rfl) ?_
  intro p9 e9 s9 m9 ar9 be9 me9 c9 Q9 A9 ls C0 hN hnm hlk hK hA hret hP hD hS hl
  obtain ⟨hx, hb, hml, hown, hts⟩ := id C0
  have hl : lv_has ls 1 [(0, .int v0)] := hl
  obtain ⟨H, hH0⟩ : ∃ H, H = s9.heap := ⟨_, rfl⟩
  obtain ⟨locs, hlc0⟩ : ∃ z : List Loc, z = [] := ⟨_, rfl⟩
  have hP : va_P D vwCl [] H := by rw [hH0]; exact hP
  have hD : va_D A9 [] := hD
  have hS : va_S A9 s9.heap H locs := by rw [hH0, hlc0]; exact hS
  suffices hgo : W p9 l e9 ({ frames := 1, cells := 0, slots := 0, locals := 22 } : Room) s9 m9 ar9 be9 me9 c9 H locs 0 0 Q9 (F0 m9 0 ls []) by rw [hH0, hlc0] at hgo; exact hgo
  clear hH0 hlc0
  refine lv_iload_n hx hb dX6_isTick_0 rfl (lv_at hl 0 rfl) ?_
  refine lv_iconst (v := nI 0) hx hb dX6_isTick_1 (by decide +kernel) ?_
  refine lv_sipush (v := nI 999) hx hb dX6_isTick_2 (by decide +kernel) ?_
  refine KM.callS (As := [.int v0, .int (nI 0), .int (nI 999)]) (rest := []) C0 hN (k_X6_in l D cI cS cL v0 0 999  (by decide) (by decide)) (va_cwS 3 hts gX6_isTick_X6_in rfl rfl rfl (by decide +kernel) ⟨Nat.le_of_ble_eq_true rfl, Nat.le_of_ble_eq_true rfl⟩) hK hP hD hS hA [] rfl (by decide) (fun _ => rfl) rfl hl.1 rfl (Nat.le_of_ble_eq_true rfl) dX6_isTick_5 ⟨Nat.le_of_ble_eq_true rfl, Nat.le_of_ble_eq_true rfl⟩ (fun v9 u9 H locs hv hP hD hS => ?_)
  subst hv
  have hP : va_P D vwCl [] H := hP
  have hD : va_D A9 [] := hD
  refine W.eq (g2 := F0 m9 8 ls [.int (nI (bI (inR v0 0 999)))]) rfl ?_
  exact hret _ _ _ _ (some (.int (nI (bI (inR v0 0 999))))) () 8 ls (by decide) (by decide) (by rfl) hP hD hS (ret_z dX6_isTick_8 (by first | exact bI_le | omega))

set_option maxHeartbeats 4000000 in
set_option maxRecDepth 100000 in
theorem k_X6_isJet_ok (l : Launch) (D : va_G) (cI cS cL : ClassId) (j : Nat) (hj : j < 8) : KM l D (TY cI cS cL) yX6_isJet wsX6_isJet ({ frames := 1, cells := 0, slots := 0, locals := 22 } : Room) [] [.int (nI j)] (fun (v : Option Value) (_ : Unit) => v = some (.int (nI 1))) (fun _ : Unit => []) := by
  refine KM.of (cc := cX6_isJet) (maxL := 1) (ret := (some .boolean)) (by decide) rfl (Nat.le_of_ble_eq_true rfl) ?_
  intro p9 e9 s9 m9 ar9 be9 me9 c9 Q9 A9 ls C0 hN hnm hlk hK hA hret hP hD hS hl
  obtain ⟨hx, hb, hml, hown, hts⟩ := id C0
  have hl : lv_has ls 1 [(0, .int (nI j))] := hl
  obtain ⟨H, hH0⟩ : ∃ H, H = s9.heap := ⟨_, rfl⟩
  obtain ⟨locs, hlc0⟩ : ∃ z : List Loc, z = [] := ⟨_, rfl⟩
  have hP : va_P D vwCl [] H := by rw [hH0]; exact hP
  have hD : va_D A9 [] := hD
  have hS : va_S A9 s9.heap H locs := by rw [hH0, hlc0]; exact hS
  suffices hgo : W p9 l e9 ({ frames := 1, cells := 0, slots := 0, locals := 22 } : Room) s9 m9 ar9 be9 me9 c9 H locs 0 0 Q9 (F0 m9 0 ls []) by rw [hH0, hlc0] at hgo; exact hgo
  clear hH0 hlc0
  refine lv_iload_n hx hb dX6_isJet_0 rfl (lv_at hl 0 rfl) ?_
  refine lv_iconst (v := nI 0) hx hb dX6_isJet_1 (by decide +kernel) ?_
  refine lv_bipush (v := nI 7) hx hb dX6_isJet_2 (by decide +kernel) ?_
  refine KM.callS (As := [.int (nI j), .int (nI 0), .int (nI 7)]) (rest := []) C0 hN (k_X6_in_ok l D cI cS cL j 0 7  (by first | with_reducible assumption | omega) (by first | with_reducible assumption | omega) (by first | with_reducible assumption | omega)) (va_cwS 3 hts gX6_isJet_X6_in rfl rfl rfl (by decide +kernel) ⟨Nat.le_of_ble_eq_true rfl, Nat.le_of_ble_eq_true rfl⟩) hK hP hD hS hA [] rfl (by decide) (fun _ => rfl) rfl hl.1 rfl (Nat.le_of_ble_eq_true rfl) dX6_isJet_4 ⟨Nat.le_of_ble_eq_true rfl, Nat.le_of_ble_eq_true rfl⟩ (fun v9 u9 H locs hv hP hD hS => ?_)
  subst hv
  have hP : va_P D vwCl [] H := hP
  have hD : va_D A9 [] := hD
  refine W.eq (g2 := F0 m9 7 ls [.int (nI 1)]) rfl ?_
  exact hret _ _ _ _ (some (.int (nI 1))) () 7 ls (by decide) (by decide) (by rfl) hP hD hS (ret_z dX6_isJet_7 (by first | exact bI_le | omega))

set_option maxHeartbeats 4000000 in
set_option maxRecDepth 100000 in
theorem k_X6_isTick_ok (l : Launch) (D : va_G) (cI cS cL : ClassId) (j : Nat) (hj : j ≤ 999) : KM l D (TY cI cS cL) yX6_isTick wsX6_isTick ({ frames := 1, cells := 0, slots := 0, locals := 22 } : Room) [] [.int (nI j)] (fun (v : Option Value) (_ : Unit) => v = some (.int (nI 1))) (fun _ : Unit => []) := by
  refine KM.of (cc := cX6_isTick) (maxL := 1) (ret := (some .boolean)) (by decide) rfl (Nat.le_of_ble_eq_true rfl) ?_
  intro p9 e9 s9 m9 ar9 be9 me9 c9 Q9 A9 ls C0 hN hnm hlk hK hA hret hP hD hS hl
  obtain ⟨hx, hb, hml, hown, hts⟩ := id C0
  have hl : lv_has ls 1 [(0, .int (nI j))] := hl
  obtain ⟨H, hH0⟩ : ∃ H, H = s9.heap := ⟨_, rfl⟩
  obtain ⟨locs, hlc0⟩ : ∃ z : List Loc, z = [] := ⟨_, rfl⟩
  have hP : va_P D vwCl [] H := by rw [hH0]; exact hP
  have hD : va_D A9 [] := hD
  have hS : va_S A9 s9.heap H locs := by rw [hH0, hlc0]; exact hS
  suffices hgo : W p9 l e9 ({ frames := 1, cells := 0, slots := 0, locals := 22 } : Room) s9 m9 ar9 be9 me9 c9 H locs 0 0 Q9 (F0 m9 0 ls []) by rw [hH0, hlc0] at hgo; exact hgo
  clear hH0 hlc0
  refine lv_iload_n hx hb dX6_isTick_0 rfl (lv_at hl 0 rfl) ?_
  refine lv_iconst (v := nI 0) hx hb dX6_isTick_1 (by decide +kernel) ?_
  refine lv_sipush (v := nI 999) hx hb dX6_isTick_2 (by decide +kernel) ?_
  refine KM.callS (As := [.int (nI j), .int (nI 0), .int (nI 999)]) (rest := []) C0 hN (k_X6_in_ok l D cI cS cL j 0 999  (by first | with_reducible assumption | omega) (by first | with_reducible assumption | omega) (by first | with_reducible assumption | omega)) (va_cwS 3 hts gX6_isTick_X6_in rfl rfl rfl (by decide +kernel) ⟨Nat.le_of_ble_eq_true rfl, Nat.le_of_ble_eq_true rfl⟩) hK hP hD hS hA [] rfl (by decide) (fun _ => rfl) rfl hl.1 rfl (Nat.le_of_ble_eq_true rfl) dX6_isTick_5 ⟨Nat.le_of_ble_eq_true rfl, Nat.le_of_ble_eq_true rfl⟩ (fun v9 u9 H locs hv hP hD hS => ?_)
  subst hv
  have hP : va_P D vwCl [] H := hP
  have hD : va_D A9 [] := hD
  refine W.eq (g2 := F0 m9 8 ls [.int (nI 1)]) rfl ?_
  exact hret _ _ _ _ (some (.int (nI 1))) () 8 ls (by decide) (by decide) (by rfl) hP hD hS (ret_z dX6_isTick_8 (by first | exact bI_le | omega))

set_option maxHeartbeats 4000000 in
set_option maxRecDepth 100000 in
theorem k_X6_of_0 (l : Launch) (D : va_G) (cI cS cL : ClassId) (q0 : Nat) (s : Nat → Nat) (j : Nat) (hj : j < 8) : KM l D (TY cI cS cL) yX6_of wsX6_of ({ frames := 0, cells := 0, slots := 0, locals := 0 } : Room) [(q0, .inl (cI, 118, .inl (ro 118 s)))] [.ref q0, .int (nI j), .int (nI 0)] (fun (v : Option Value) (_ : Unit) => v = some (.int (nI (szF s j)))) (fun _ : Unit => [(q0, .inl (cI, 118, .inl (ro 118 s)))]) := by
  refine KM.of (cc := cX6_of) (maxL := 3) (ret := (some .int)) (by decide) rfl (Nat.le_of_ble_eq_true rfl) ?_
  intro p9 e9 s9 m9 ar9 be9 me9 c9 Q9 A9 ls C0 hN hnm hlk hK hA hret hP hD hS hl
  obtain ⟨hx, hb, hml, hown, hts⟩ := id C0
  have hl : lv_has ls 3 [(0, .ref q0), (1, .int (nI j)), (2, .int (nI 0))] := hl
  obtain ⟨H, hH0⟩ : ∃ H, H = s9.heap := ⟨_, rfl⟩
  obtain ⟨locs, hlc0⟩ : ∃ z : List Loc, z = [] := ⟨_, rfl⟩
  have hP : va_P D vwCl [(q0, .inl (cI, 118, .inl (ro 118 s)))] H := by rw [hH0]; exact hP
  have hD : va_D A9 [(q0, .inl (cI, 118, .inl (ro 118 s)))] := hD
  have hS : va_S A9 s9.heap H locs := by rw [hH0, hlc0]; exact hS
  suffices hgo : W p9 l e9 ({ frames := 0, cells := 0, slots := 0, locals := 0 } : Room) s9 m9 ar9 be9 me9 c9 H locs 0 0 Q9 (F0 m9 0 ls []) by rw [hH0, hlc0] at hgo; exact hgo
  clear hH0 hlc0
  refine lv_aload_n hx hb dX6_of_0 rfl (lv_at hl 0 rfl) ?_
  refine lv_bipush (v := nI 14) hx hb dX6_of_1 (by decide +kernel) ?_
  refine lv_iconst (v := nI 5) hx hb dX6_of_3 (by decide +kernel) ?_
  refine lv_iload_n hx hb dX6_of_4 rfl (lv_at hl 1 rfl) ?_
  refine q_imul hx hb dX6_of_5 ?_
  refine q_iadd hx hb dX6_of_6 ?_
  refine lv_iload_n hx hb dX6_of_7 rfl (lv_at hl 2 rfl) ?_
  refine q_iadd hx hb dX6_of_8 ?_
  refine q_iald 0 0 (by omega) (by omega) hx hb hK hP rfl rfl dX6_of_9 ?_
  exact hret _ _ _ _ (some (.int (nI (s ((14 + (5 * j)) + 0))))) () 10 ls (by decide) (by decide) (by rfl) hP hD hS (ret_i dX6_of_10)

set_option maxHeartbeats 4000000 in
set_option maxRecDepth 100000 in
theorem k_X6_of_1 (l : Launch) (D : va_G) (cI cS cL : ClassId) (q0 : Nat) (s : Nat → Nat) (j : Nat) (hj : j < 8) : KM l D (TY cI cS cL) yX6_of wsX6_of ({ frames := 0, cells := 0, slots := 0, locals := 0 } : Room) [(q0, .inl (cI, 118, .inl (ro 118 s)))] [.ref q0, .int (nI j), .int (nI 1)] (fun (v : Option Value) (_ : Unit) => v = some (.int (nI (coF s j)))) (fun _ : Unit => [(q0, .inl (cI, 118, .inl (ro 118 s)))]) := by
  refine KM.of (cc := cX6_of) (maxL := 3) (ret := (some .int)) (by decide) rfl (Nat.le_of_ble_eq_true rfl) ?_
  intro p9 e9 s9 m9 ar9 be9 me9 c9 Q9 A9 ls C0 hN hnm hlk hK hA hret hP hD hS hl
  obtain ⟨hx, hb, hml, hown, hts⟩ := id C0
  have hl : lv_has ls 3 [(0, .ref q0), (1, .int (nI j)), (2, .int (nI 1))] := hl
  obtain ⟨H, hH0⟩ : ∃ H, H = s9.heap := ⟨_, rfl⟩
  obtain ⟨locs, hlc0⟩ : ∃ z : List Loc, z = [] := ⟨_, rfl⟩
  have hP : va_P D vwCl [(q0, .inl (cI, 118, .inl (ro 118 s)))] H := by rw [hH0]; exact hP
  have hD : va_D A9 [(q0, .inl (cI, 118, .inl (ro 118 s)))] := hD
  have hS : va_S A9 s9.heap H locs := by rw [hH0, hlc0]; exact hS
  suffices hgo : W p9 l e9 ({ frames := 0, cells := 0, slots := 0, locals := 0 } : Room) s9 m9 ar9 be9 me9 c9 H locs 0 0 Q9 (F0 m9 0 ls []) by rw [hH0, hlc0] at hgo; exact hgo
  clear hH0 hlc0
  refine lv_aload_n hx hb dX6_of_0 rfl (lv_at hl 0 rfl) ?_
  refine lv_bipush (v := nI 14) hx hb dX6_of_1 (by decide +kernel) ?_
  refine lv_iconst (v := nI 5) hx hb dX6_of_3 (by decide +kernel) ?_
  refine lv_iload_n hx hb dX6_of_4 rfl (lv_at hl 1 rfl) ?_
  refine q_imul hx hb dX6_of_5 ?_
  refine q_iadd hx hb dX6_of_6 ?_
  refine lv_iload_n hx hb dX6_of_7 rfl (lv_at hl 2 rfl) ?_
  refine q_iadd hx hb dX6_of_8 ?_
  refine q_iald 0 0 (by omega) (by omega) hx hb hK hP rfl rfl dX6_of_9 ?_
  exact hret _ _ _ _ (some (.int (nI (s ((14 + (5 * j)) + 1))))) () 10 ls (by decide) (by decide) (by exact rv (by show s _ = s _; congr 1; omega)) hP hD hS (ret_i dX6_of_10)

set_option maxHeartbeats 4000000 in
set_option maxRecDepth 100000 in
theorem k_X6_of_2 (l : Launch) (D : va_G) (cI cS cL : ClassId) (q0 : Nat) (s : Nat → Nat) (j : Nat) (hj : j < 8) : KM l D (TY cI cS cL) yX6_of wsX6_of ({ frames := 0, cells := 0, slots := 0, locals := 0 } : Room) [(q0, .inl (cI, 118, .inl (ro 118 s)))] [.ref q0, .int (nI j), .int (nI 2)] (fun (v : Option Value) (_ : Unit) => v = some (.int (nI (vaF s j)))) (fun _ : Unit => [(q0, .inl (cI, 118, .inl (ro 118 s)))]) := by
  refine KM.of (cc := cX6_of) (maxL := 3) (ret := (some .int)) (by decide) rfl (Nat.le_of_ble_eq_true rfl) ?_
  intro p9 e9 s9 m9 ar9 be9 me9 c9 Q9 A9 ls C0 hN hnm hlk hK hA hret hP hD hS hl
  obtain ⟨hx, hb, hml, hown, hts⟩ := id C0
  have hl : lv_has ls 3 [(0, .ref q0), (1, .int (nI j)), (2, .int (nI 2))] := hl
  obtain ⟨H, hH0⟩ : ∃ H, H = s9.heap := ⟨_, rfl⟩
  obtain ⟨locs, hlc0⟩ : ∃ z : List Loc, z = [] := ⟨_, rfl⟩
  have hP : va_P D vwCl [(q0, .inl (cI, 118, .inl (ro 118 s)))] H := by rw [hH0]; exact hP
  have hD : va_D A9 [(q0, .inl (cI, 118, .inl (ro 118 s)))] := hD
  have hS : va_S A9 s9.heap H locs := by rw [hH0, hlc0]; exact hS
  suffices hgo : W p9 l e9 ({ frames := 0, cells := 0, slots := 0, locals := 0 } : Room) s9 m9 ar9 be9 me9 c9 H locs 0 0 Q9 (F0 m9 0 ls []) by rw [hH0, hlc0] at hgo; exact hgo
  clear hH0 hlc0
  refine lv_aload_n hx hb dX6_of_0 rfl (lv_at hl 0 rfl) ?_
  refine lv_bipush (v := nI 14) hx hb dX6_of_1 (by decide +kernel) ?_
  refine lv_iconst (v := nI 5) hx hb dX6_of_3 (by decide +kernel) ?_
  refine lv_iload_n hx hb dX6_of_4 rfl (lv_at hl 1 rfl) ?_
  refine q_imul hx hb dX6_of_5 ?_
  refine q_iadd hx hb dX6_of_6 ?_
  refine lv_iload_n hx hb dX6_of_7 rfl (lv_at hl 2 rfl) ?_
  refine q_iadd hx hb dX6_of_8 ?_
  refine q_iald 0 0 (by omega) (by omega) hx hb hK hP rfl rfl dX6_of_9 ?_
  exact hret _ _ _ _ (some (.int (nI (s ((14 + (5 * j)) + 2))))) () 10 ls (by decide) (by decide) (by exact rv (by show s _ = s _; congr 1; omega)) hP hD hS (ret_i dX6_of_10)

set_option maxHeartbeats 4000000 in
set_option maxRecDepth 100000 in
theorem k_X6_of_3 (l : Launch) (D : va_G) (cI cS cL : ClassId) (q0 : Nat) (s : Nat → Nat) (j : Nat) (hj : j < 8) : KM l D (TY cI cS cL) yX6_of wsX6_of ({ frames := 0, cells := 0, slots := 0, locals := 0 } : Room) [(q0, .inl (cI, 118, .inl (ro 118 s)))] [.ref q0, .int (nI j), .int (nI 3)] (fun (v : Option Value) (_ : Unit) => v = some (.int (nI (amF s j)))) (fun _ : Unit => [(q0, .inl (cI, 118, .inl (ro 118 s)))]) := by
  refine KM.of (cc := cX6_of) (maxL := 3) (ret := (some .int)) (by decide) rfl (Nat.le_of_ble_eq_true rfl) ?_
  intro p9 e9 s9 m9 ar9 be9 me9 c9 Q9 A9 ls C0 hN hnm hlk hK hA hret hP hD hS hl
  obtain ⟨hx, hb, hml, hown, hts⟩ := id C0
  have hl : lv_has ls 3 [(0, .ref q0), (1, .int (nI j)), (2, .int (nI 3))] := hl
  obtain ⟨H, hH0⟩ : ∃ H, H = s9.heap := ⟨_, rfl⟩
  obtain ⟨locs, hlc0⟩ : ∃ z : List Loc, z = [] := ⟨_, rfl⟩
  have hP : va_P D vwCl [(q0, .inl (cI, 118, .inl (ro 118 s)))] H := by rw [hH0]; exact hP
  have hD : va_D A9 [(q0, .inl (cI, 118, .inl (ro 118 s)))] := hD
  have hS : va_S A9 s9.heap H locs := by rw [hH0, hlc0]; exact hS
  suffices hgo : W p9 l e9 ({ frames := 0, cells := 0, slots := 0, locals := 0 } : Room) s9 m9 ar9 be9 me9 c9 H locs 0 0 Q9 (F0 m9 0 ls []) by rw [hH0, hlc0] at hgo; exact hgo
  clear hH0 hlc0
  refine lv_aload_n hx hb dX6_of_0 rfl (lv_at hl 0 rfl) ?_
  refine lv_bipush (v := nI 14) hx hb dX6_of_1 (by decide +kernel) ?_
  refine lv_iconst (v := nI 5) hx hb dX6_of_3 (by decide +kernel) ?_
  refine lv_iload_n hx hb dX6_of_4 rfl (lv_at hl 1 rfl) ?_
  refine q_imul hx hb dX6_of_5 ?_
  refine q_iadd hx hb dX6_of_6 ?_
  refine lv_iload_n hx hb dX6_of_7 rfl (lv_at hl 2 rfl) ?_
  refine q_iadd hx hb dX6_of_8 ?_
  refine q_iald 0 0 (by omega) (by omega) hx hb hK hP rfl rfl dX6_of_9 ?_
  exact hret _ _ _ _ (some (.int (nI (s ((14 + (5 * j)) + 3))))) () 10 ls (by decide) (by decide) (by exact rv (by show s _ = s _; congr 1; omega)) hP hD hS (ret_i dX6_of_10)

set_option maxHeartbeats 4000000 in
set_option maxRecDepth 100000 in
theorem k_X6_of_4 (l : Launch) (D : va_G) (cI cS cL : ClassId) (q0 : Nat) (s : Nat → Nat) (j : Nat) (hj : j < 8) : KM l D (TY cI cS cL) yX6_of wsX6_of ({ frames := 0, cells := 0, slots := 0, locals := 0 } : Room) [(q0, .inl (cI, 118, .inl (ro 118 s)))] [.ref q0, .int (nI j), .int (nI 4)] (fun (v : Option Value) (_ : Unit) => v = some (.int (nI (buF s j)))) (fun _ : Unit => [(q0, .inl (cI, 118, .inl (ro 118 s)))]) := by
  refine KM.of (cc := cX6_of) (maxL := 3) (ret := (some .int)) (by decide) rfl (Nat.le_of_ble_eq_true rfl) ?_
  intro p9 e9 s9 m9 ar9 be9 me9 c9 Q9 A9 ls C0 hN hnm hlk hK hA hret hP hD hS hl
  obtain ⟨hx, hb, hml, hown, hts⟩ := id C0
  have hl : lv_has ls 3 [(0, .ref q0), (1, .int (nI j)), (2, .int (nI 4))] := hl
  obtain ⟨H, hH0⟩ : ∃ H, H = s9.heap := ⟨_, rfl⟩
  obtain ⟨locs, hlc0⟩ : ∃ z : List Loc, z = [] := ⟨_, rfl⟩
  have hP : va_P D vwCl [(q0, .inl (cI, 118, .inl (ro 118 s)))] H := by rw [hH0]; exact hP
  have hD : va_D A9 [(q0, .inl (cI, 118, .inl (ro 118 s)))] := hD
  have hS : va_S A9 s9.heap H locs := by rw [hH0, hlc0]; exact hS
  suffices hgo : W p9 l e9 ({ frames := 0, cells := 0, slots := 0, locals := 0 } : Room) s9 m9 ar9 be9 me9 c9 H locs 0 0 Q9 (F0 m9 0 ls []) by rw [hH0, hlc0] at hgo; exact hgo
  clear hH0 hlc0
  refine lv_aload_n hx hb dX6_of_0 rfl (lv_at hl 0 rfl) ?_
  refine lv_bipush (v := nI 14) hx hb dX6_of_1 (by decide +kernel) ?_
  refine lv_iconst (v := nI 5) hx hb dX6_of_3 (by decide +kernel) ?_
  refine lv_iload_n hx hb dX6_of_4 rfl (lv_at hl 1 rfl) ?_
  refine q_imul hx hb dX6_of_5 ?_
  refine q_iadd hx hb dX6_of_6 ?_
  refine lv_iload_n hx hb dX6_of_7 rfl (lv_at hl 2 rfl) ?_
  refine q_iadd hx hb dX6_of_8 ?_
  refine q_iald 0 0 (by omega) (by omega) hx hb hK hP rfl rfl dX6_of_9 ?_
  exact hret _ _ _ _ (some (.int (nI (s ((14 + (5 * j)) + 4))))) () 10 ls (by decide) (by decide) (by exact rv (by show s _ = s _; congr 1; omega)) hP hD hS (ret_i dX6_of_10)

set_option maxHeartbeats 4000000 in
set_option maxRecDepth 100000 in
theorem k_X6_by_0 (l : Launch) (D : va_G) (cI cS cL : ClassId) (q0 : Nat) (s : Nat → Nat) (c : Nat) (hc : c < 16) : KM l D (TY cI cS cL) yX6_by wsX6_by ({ frames := 0, cells := 0, slots := 0, locals := 0 } : Room) [(q0, .inl (cI, 118, .inl (ro 118 s)))] [.ref q0, .int (nI c), .int (nI 0)] (fun (v : Option Value) (_ : Unit) => v = some (.int (nI (nuF s c)))) (fun _ : Unit => [(q0, .inl (cI, 118, .inl (ro 118 s)))]) := by
  refine KM.of (cc := cX6_by) (maxL := 3) (ret := (some .int)) (by decide) rfl (Nat.le_of_ble_eq_true rfl) ?_
  intro p9 e9 s9 m9 ar9 be9 me9 c9 Q9 A9 ls C0 hN hnm hlk hK hA hret hP hD hS hl
  obtain ⟨hx, hb, hml, hown, hts⟩ := id C0
  have hl : lv_has ls 3 [(0, .ref q0), (1, .int (nI c)), (2, .int (nI 0))] := hl
  obtain ⟨H, hH0⟩ : ∃ H, H = s9.heap := ⟨_, rfl⟩
  obtain ⟨locs, hlc0⟩ : ∃ z : List Loc, z = [] := ⟨_, rfl⟩
  have hP : va_P D vwCl [(q0, .inl (cI, 118, .inl (ro 118 s)))] H := by rw [hH0]; exact hP
  have hD : va_D A9 [(q0, .inl (cI, 118, .inl (ro 118 s)))] := hD
  have hS : va_S A9 s9.heap H locs := by rw [hH0, hlc0]; exact hS
  suffices hgo : W p9 l e9 ({ frames := 0, cells := 0, slots := 0, locals := 0 } : Room) s9 m9 ar9 be9 me9 c9 H locs 0 0 Q9 (F0 m9 0 ls []) by rw [hH0, hlc0] at hgo; exact hgo
  clear hH0 hlc0
  refine lv_aload_n hx hb dX6_by_0 rfl (lv_at hl 0 rfl) ?_
  refine lv_bipush (v := nI 54) hx hb dX6_by_1 (by decide +kernel) ?_
  refine lv_iconst (v := nI 4) hx hb dX6_by_3 (by decide +kernel) ?_
  refine lv_iload_n hx hb dX6_by_4 rfl (lv_at hl 1 rfl) ?_
  refine q_imul hx hb dX6_by_5 ?_
  refine q_iadd hx hb dX6_by_6 ?_
  refine lv_iload_n hx hb dX6_by_7 rfl (lv_at hl 2 rfl) ?_
  refine q_iadd hx hb dX6_by_8 ?_
  refine q_iald 0 0 (by omega) (by omega) hx hb hK hP rfl rfl dX6_by_9 ?_
  exact hret _ _ _ _ (some (.int (nI (s ((54 + (4 * c)) + 0))))) () 10 ls (by decide) (by decide) (by rfl) hP hD hS (ret_i dX6_by_10)

set_option maxHeartbeats 4000000 in
set_option maxRecDepth 100000 in
theorem k_X6_by_1 (l : Launch) (D : va_G) (cI cS cL : ClassId) (q0 : Nat) (s : Nat → Nat) (c : Nat) (hc : c < 16) : KM l D (TY cI cS cL) yX6_by wsX6_by ({ frames := 0, cells := 0, slots := 0, locals := 0 } : Room) [(q0, .inl (cI, 118, .inl (ro 118 s)))] [.ref q0, .int (nI c), .int (nI 1)] (fun (v : Option Value) (_ : Unit) => v = some (.int (nI (tiF s c)))) (fun _ : Unit => [(q0, .inl (cI, 118, .inl (ro 118 s)))]) := by
  refine KM.of (cc := cX6_by) (maxL := 3) (ret := (some .int)) (by decide) rfl (Nat.le_of_ble_eq_true rfl) ?_
  intro p9 e9 s9 m9 ar9 be9 me9 c9 Q9 A9 ls C0 hN hnm hlk hK hA hret hP hD hS hl
  obtain ⟨hx, hb, hml, hown, hts⟩ := id C0
  have hl : lv_has ls 3 [(0, .ref q0), (1, .int (nI c)), (2, .int (nI 1))] := hl
  obtain ⟨H, hH0⟩ : ∃ H, H = s9.heap := ⟨_, rfl⟩
  obtain ⟨locs, hlc0⟩ : ∃ z : List Loc, z = [] := ⟨_, rfl⟩
  have hP : va_P D vwCl [(q0, .inl (cI, 118, .inl (ro 118 s)))] H := by rw [hH0]; exact hP
  have hD : va_D A9 [(q0, .inl (cI, 118, .inl (ro 118 s)))] := hD
  have hS : va_S A9 s9.heap H locs := by rw [hH0, hlc0]; exact hS
  suffices hgo : W p9 l e9 ({ frames := 0, cells := 0, slots := 0, locals := 0 } : Room) s9 m9 ar9 be9 me9 c9 H locs 0 0 Q9 (F0 m9 0 ls []) by rw [hH0, hlc0] at hgo; exact hgo
  clear hH0 hlc0
  refine lv_aload_n hx hb dX6_by_0 rfl (lv_at hl 0 rfl) ?_
  refine lv_bipush (v := nI 54) hx hb dX6_by_1 (by decide +kernel) ?_
  refine lv_iconst (v := nI 4) hx hb dX6_by_3 (by decide +kernel) ?_
  refine lv_iload_n hx hb dX6_by_4 rfl (lv_at hl 1 rfl) ?_
  refine q_imul hx hb dX6_by_5 ?_
  refine q_iadd hx hb dX6_by_6 ?_
  refine lv_iload_n hx hb dX6_by_7 rfl (lv_at hl 2 rfl) ?_
  refine q_iadd hx hb dX6_by_8 ?_
  refine q_iald 0 0 (by omega) (by omega) hx hb hK hP rfl rfl dX6_by_9 ?_
  exact hret _ _ _ _ (some (.int (nI (s ((54 + (4 * c)) + 1))))) () 10 ls (by decide) (by decide) (by exact rv (by show s _ = s _; congr 1; omega)) hP hD hS (ret_i dX6_by_10)

set_option maxHeartbeats 4000000 in
set_option maxRecDepth 100000 in
theorem k_X6_by_2 (l : Launch) (D : va_G) (cI cS cL : ClassId) (q0 : Nat) (s : Nat → Nat) (c : Nat) (hc : c < 16) : KM l D (TY cI cS cL) yX6_by wsX6_by ({ frames := 0, cells := 0, slots := 0, locals := 0 } : Room) [(q0, .inl (cI, 118, .inl (ro 118 s)))] [.ref q0, .int (nI c), .int (nI 2)] (fun (v : Option Value) (_ : Unit) => v = some (.int (nI (jeF s c)))) (fun _ : Unit => [(q0, .inl (cI, 118, .inl (ro 118 s)))]) := by
  refine KM.of (cc := cX6_by) (maxL := 3) (ret := (some .int)) (by decide) rfl (Nat.le_of_ble_eq_true rfl) ?_
  intro p9 e9 s9 m9 ar9 be9 me9 c9 Q9 A9 ls C0 hN hnm hlk hK hA hret hP hD hS hl
  obtain ⟨hx, hb, hml, hown, hts⟩ := id C0
  have hl : lv_has ls 3 [(0, .ref q0), (1, .int (nI c)), (2, .int (nI 2))] := hl
  obtain ⟨H, hH0⟩ : ∃ H, H = s9.heap := ⟨_, rfl⟩
  obtain ⟨locs, hlc0⟩ : ∃ z : List Loc, z = [] := ⟨_, rfl⟩
  have hP : va_P D vwCl [(q0, .inl (cI, 118, .inl (ro 118 s)))] H := by rw [hH0]; exact hP
  have hD : va_D A9 [(q0, .inl (cI, 118, .inl (ro 118 s)))] := hD
  have hS : va_S A9 s9.heap H locs := by rw [hH0, hlc0]; exact hS
  suffices hgo : W p9 l e9 ({ frames := 0, cells := 0, slots := 0, locals := 0 } : Room) s9 m9 ar9 be9 me9 c9 H locs 0 0 Q9 (F0 m9 0 ls []) by rw [hH0, hlc0] at hgo; exact hgo
  clear hH0 hlc0
  refine lv_aload_n hx hb dX6_by_0 rfl (lv_at hl 0 rfl) ?_
  refine lv_bipush (v := nI 54) hx hb dX6_by_1 (by decide +kernel) ?_
  refine lv_iconst (v := nI 4) hx hb dX6_by_3 (by decide +kernel) ?_
  refine lv_iload_n hx hb dX6_by_4 rfl (lv_at hl 1 rfl) ?_
  refine q_imul hx hb dX6_by_5 ?_
  refine q_iadd hx hb dX6_by_6 ?_
  refine lv_iload_n hx hb dX6_by_7 rfl (lv_at hl 2 rfl) ?_
  refine q_iadd hx hb dX6_by_8 ?_
  refine q_iald 0 0 (by omega) (by omega) hx hb hK hP rfl rfl dX6_by_9 ?_
  exact hret _ _ _ _ (some (.int (nI (s ((54 + (4 * c)) + 2))))) () 10 ls (by decide) (by decide) (by exact rv (by show s _ = s _; congr 1; omega)) hP hD hS (ret_i dX6_by_10)

set_option maxHeartbeats 4000000 in
set_option maxRecDepth 100000 in
theorem k_X6_by_3 (l : Launch) (D : va_G) (cI cS cL : ClassId) (q0 : Nat) (s : Nat → Nat) (c : Nat) (hc : c < 16) : KM l D (TY cI cS cL) yX6_by wsX6_by ({ frames := 0, cells := 0, slots := 0, locals := 0 } : Room) [(q0, .inl (cI, 118, .inl (ro 118 s)))] [.ref q0, .int (nI c), .int (nI 3)] (fun (v : Option Value) (_ : Unit) => v = some (.int (nI (acF s c)))) (fun _ : Unit => [(q0, .inl (cI, 118, .inl (ro 118 s)))]) := by
  refine KM.of (cc := cX6_by) (maxL := 3) (ret := (some .int)) (by decide) rfl (Nat.le_of_ble_eq_true rfl) ?_
  intro p9 e9 s9 m9 ar9 be9 me9 c9 Q9 A9 ls C0 hN hnm hlk hK hA hret hP hD hS hl
  obtain ⟨hx, hb, hml, hown, hts⟩ := id C0
  have hl : lv_has ls 3 [(0, .ref q0), (1, .int (nI c)), (2, .int (nI 3))] := hl
  obtain ⟨H, hH0⟩ : ∃ H, H = s9.heap := ⟨_, rfl⟩
  obtain ⟨locs, hlc0⟩ : ∃ z : List Loc, z = [] := ⟨_, rfl⟩
  have hP : va_P D vwCl [(q0, .inl (cI, 118, .inl (ro 118 s)))] H := by rw [hH0]; exact hP
  have hD : va_D A9 [(q0, .inl (cI, 118, .inl (ro 118 s)))] := hD
  have hS : va_S A9 s9.heap H locs := by rw [hH0, hlc0]; exact hS
  suffices hgo : W p9 l e9 ({ frames := 0, cells := 0, slots := 0, locals := 0 } : Room) s9 m9 ar9 be9 me9 c9 H locs 0 0 Q9 (F0 m9 0 ls []) by rw [hH0, hlc0] at hgo; exact hgo
  clear hH0 hlc0
  refine lv_aload_n hx hb dX6_by_0 rfl (lv_at hl 0 rfl) ?_
  refine lv_bipush (v := nI 54) hx hb dX6_by_1 (by decide +kernel) ?_
  refine lv_iconst (v := nI 4) hx hb dX6_by_3 (by decide +kernel) ?_
  refine lv_iload_n hx hb dX6_by_4 rfl (lv_at hl 1 rfl) ?_
  refine q_imul hx hb dX6_by_5 ?_
  refine q_iadd hx hb dX6_by_6 ?_
  refine lv_iload_n hx hb dX6_by_7 rfl (lv_at hl 2 rfl) ?_
  refine q_iadd hx hb dX6_by_8 ?_
  refine q_iald 0 0 (by omega) (by omega) hx hb hK hP rfl rfl dX6_by_9 ?_
  exact hret _ _ _ _ (some (.int (nI (s ((54 + (4 * c)) + 3))))) () 10 ls (by decide) (by decide) (by exact rv (by show s _ = s _; congr 1; omega)) hP hD hS (ret_i dX6_by_10)

set_option maxHeartbeats 4000000 in
set_option maxRecDepth 100000 in
theorem k_X6_copies (l : Launch) (D : va_G) (cI cS cL : ClassId) (af : Nat) (nf : Nat) (f : Nat → Nat) (fa : Nat) (ag : Nat) (ng : Nat) (g : Nat → Nat) (ga : Nat) (h1 : fa + 118 ≤ nf) (h2 : ga + 118 ≤ ng) (h3 : nf < 2 ^ 31) (h4 : ng < 2 ^ 31) : KM l D (TY cI cS cL) yX6_copies wsX6_copies ({ frames := 0, cells := 0, slots := 0, locals := 0 } : Room) [(af, .inl (cI, nf, .inl (ro nf f))), (ag, .inl (cI, ng, .inl (ro ng g)))] [.ref af, .int (nI fa), .ref ag, .int (nI ga)] (fun (v : Option Value) (_ : Unit) => v = none) (fun _ : Unit => [(af, .inl (cI, nf, .inl (ro nf f))), (ag, .inl (cI, ng, .inl (ro ng (cpF f fa g ga 118))))]) := by
  refine KM.of (cc := cX6_copies) (maxL := 5) (ret := none) (by decide) rfl (Nat.le_of_ble_eq_true rfl) ?_
  intro p9 e9 s9 m9 ar9 be9 me9 c9 Q9 A9 ls C0 hN hnm hlk hK hA hret hP hD hS hl
  obtain ⟨hx, hb, hml, hown, hts⟩ := id C0
  have hl : lv_has ls 5 [(0, .ref af), (1, .int (nI fa)), (2, .ref ag), (3, .int (nI ga))] := hl
  obtain ⟨H, hH0⟩ : ∃ H, H = s9.heap := ⟨_, rfl⟩
  obtain ⟨locs, hlc0⟩ : ∃ z : List Loc, z = [] := ⟨_, rfl⟩
  have hP : va_P D vwCl [(af, .inl (cI, nf, .inl (ro nf f))), (ag, .inl (cI, ng, .inl (ro ng g)))] H := by rw [hH0]; exact hP
  have hD : va_D A9 [(af, .inl (cI, nf, .inl (ro nf f))), (ag, .inl (cI, ng, .inl (ro ng g)))] := hD
  have hS : va_S A9 s9.heap H locs := by rw [hH0, hlc0]; exact hS
  suffices hgo : W p9 l e9 ({ frames := 0, cells := 0, slots := 0, locals := 0 } : Room) s9 m9 ar9 be9 me9 c9 H locs 0 0 Q9 (F0 m9 0 ls []) by rw [hH0, hlc0] at hgo; exact hgo
  clear hH0 hlc0
  have er_1 : ro ng g = ro ng (cpF f fa g ga 0) := by exact cpF_0 f fa g ga ng
  rw [er_1] at hP hD
  refine lv_iconst (v := nI 0) hx hb dX6_copies_0 (by decide +kernel) ?_
  refine lv_istore (lv' := [(4, .int (nI 0)), (0, .ref af), (1, .int (nI fa)), (2, .ref ag), (3, .int (nI ga))]) hx hb dX6_copies_1 hl (by decide) rfl (fun ls hl => ?_)
  have L3 : ∀ (fuel : Nat) (i : Nat) (H : Heap) (locs : List Loc) (ls : Array Slot), (i ≤ 118) → (118 - i < fuel) → va_P D vwCl [(af, .inl (cI, nf, .inl (ro nf f))), (ag, .inl (cI, ng, .inl (ro ng (cpF f fa g ga i))))] H → va_D A9 [(af, .inl (cI, nf, .inl (ro nf f))), (ag, .inl (cI, ng, .inl (ro ng (cpF f fa g ga i))))] → va_S A9 s9.heap H locs → lv_has ls 5 [(0, .ref af), (1, .int (nI fa)), (2, .ref ag), (3, .int (nI ga)), (4, .int (nI i))] → W p9 l e9 ({ frames := 0, cells := 0, slots := 0, locals := 0 } : Room) s9 m9 ar9 be9 me9 c9 H locs 0 0 Q9 (F0 m9 3 ls []) := by
    intro fuel
    induction fuel with
    | zero => intro i H locs ls hi hfu; exact absurd hfu (Nat.not_lt_zero _)
    | succ fuel ih3 =>
      intro i H locs ls hi hfu hP hD hS hl
      refine lv_iload hx hb dX6_copies_3 (lv_at hl 4 rfl) ?_
      refine lv_bipush (v := nI 118) hx hb dX6_copies_5 (by decide +kernel) ?_
      refine q_ige (tgt := 28) (by omega) (by omega) hx hb dX6_copies_7 (by decide) (fun c_7 => ?_) (fun c_7 => ?_)
      ·
        have er_2 : ro ng (cpF f fa g ga i) = ro ng (cpF f fa g ga 118) := by rw [show i = 118 by omega]
        rw [er_2] at hP hD
        exact hret _ _ _ _ none () 28 ls (by decide) (by decide) (by rfl) hP hD hS (ret_v dX6_copies_28)
      ·
        refine lv_aload_n hx hb dX6_copies_10 rfl (lv_at hl 2 rfl) ?_
        refine lv_iload_n hx hb dX6_copies_11 rfl (lv_at hl 3 rfl) ?_
        refine lv_iload hx hb dX6_copies_12 (lv_at hl 4 rfl) ?_
        refine q_iadd hx hb dX6_copies_14 ?_
        refine lv_aload_n hx hb dX6_copies_15 rfl (lv_at hl 0 rfl) ?_
        refine lv_iload_n hx hb dX6_copies_16 rfl (lv_at hl 1 rfl) ?_
        refine lv_iload hx hb dX6_copies_17 (lv_at hl 4 rfl) ?_
        refine q_iadd hx hb dX6_copies_19 ?_
        refine q_iald 0 0 (by omega) (by omega) hx hb hK hP rfl rfl dX6_copies_20 ?_
        refine q_iast 1 0 (by omega) (by omega) hx hb hK hP hD hS rfl rfl dX6_copies_21 (fun H locs hP hD hS => ?_)
        have hP : va_P D vwCl [(af, .inl (cI, nf, .inl (ro nf f))), (ag, .inl (cI, ng, .inl (ro ng (upN (cpF f fa g ga i) (ga + i) (f (fa + i))))))] H := hP
        have hD : va_D A9 [(af, .inl (cI, nf, .inl (ro nf f))), (ag, .inl (cI, ng, .inl (ro ng (upN (cpF f fa g ga i) (ga + i) (f (fa + i))))))] := hD
        have er_3 : ro ng (upN (cpF f fa g ga i) (ga + i) (f (fa + i))) = ro ng (cpF f fa g ga (i + 1)) := by exact cpF_s f fa g ga ng i
        rw [er_3] at hP hD
        refine lv_iinc (v := (nI (i + 1))) (lv' := [(4, .int (nI (i + 1))), (0, .ref af), (1, .int (nI fa)), (2, .ref ag), (3, .int (nI ga))]) hx hb dX6_copies_22 hl (k := 4) rfl (nI_add i 1) (by decide) rfl (fun ls hl => ?_)
        refine lv_goto (tgt := 3) hx hb dX6_copies_25 (by decide) ?_
        exact ih3  (i + 1) _ _ ls (by first | with_reducible assumption | omega) (by omega) hP hD hS (lv_sub hl [1, 2, 3, 4, 0] rfl)
  exact L3 (118 - 0 + 1) 0 _ _ ls (by first | with_reducible assumption | omega) (by omega) hP hD hS (lv_sub hl [1, 2, 3, 4, 0] rfl)

theorem in_X6_saves_X6 : ∀ w ∈ wsX60, w ∈ wsX6_saves := by decide +kernel
theorem fl_X6_saves_33 : Cond.fieldLink RX6 33 "FountainCuesModel" "kept" "I" ∈ wsX6_saves := by decide +kernel
theorem fl_X6_saves_7 : Cond.fieldLink RX6 7 "FountainCuesModel" "now" "[I" ∈ wsX6_saves := by decide +kernel
theorem fl_X6_saves_16 : Cond.fieldLink RX6 16 "FountainCuesModel" "past" "[I" ∈ wsX6_saves := by decide +kernel
set_option maxHeartbeats 4000000 in
set_option maxRecDepth 100000 in
theorem k_X6_saves (l : Launch) (D : va_G) (cI cS cL : ClassId) (m0 : Nat) (m1 : Nat) (m2 : Nat) (m3 : Nat) (m4 : Nat) (m5 : Nat) (k : Nat) (n : Nat) (th : Nat) (ax : Nat) (fa : Nat) (vl : Nat) (tn : Nat) (hg : Nat) (bg : Nat) (s : Nat → Nat) (t : Nat → Nat → Nat) (hk : k ≤ 6) : KM l D (TY cI cS cL) yX6_saves wsX6_saves ({ frames := 1, cells := 0, slots := 0, locals := 24 } : Room) [(m0, .inr (6, [.ref m1, .ref m2, .ref m3, .int (nI k), .ref m4, .int (nI n), .int (nI th), .int (nI ax), .int (nI fa), .int (nI vl), .ref m5, .int (nI tn), .int (nI hg), .int (nI bg)])), (m1, .inl (cI, 118, .inl (ro 118 s))), (m3, .inl (cI, 708, .inl (ro 708 (pkF t))))] [.ref m0] (fun (v : Option Value) (_ : Unit) => v = none) (fun _ : Unit => [(m0, .inr (6, [.ref m1, .ref m2, .ref m3, .int (nI (kpK k)), .ref m4, .int (nI n), .int (nI th), .int (nI ax), .int (nI fa), .int (nI vl), .ref m5, .int (nI tn), .int (nI hg), .int (nI bg)])), (m1, .inl (cI, 118, .inl (ro 118 s))), (m3, .inl (cI, 708, .inl (ro 708 (pkF (kpT k t s)))))]) := by
  refine KM.of (cc := cX6_saves) (maxL := 2) (ret := none) (by decide) rfl (Nat.le_of_ble_eq_true rfl) ?_
  intro p9 e9 s9 m9 ar9 be9 me9 c9 Q9 A9 ls C0 hN hnm hlk hK hA hret hP hD hS hl
  obtain ⟨hx, hb, hml, hown, hts⟩ := id C0
  have hl : lv_has ls 2 [(0, .ref m0)] := hl
  obtain ⟨H, hH0⟩ : ∃ H, H = s9.heap := ⟨_, rfl⟩
  obtain ⟨locs, hlc0⟩ : ∃ z : List Loc, z = [] := ⟨_, rfl⟩
  have hP : va_P D vwCl [(m0, .inr (6, [.ref m1, .ref m2, .ref m3, .int (nI k), .ref m4, .int (nI n), .int (nI th), .int (nI ax), .int (nI fa), .int (nI vl), .ref m5, .int (nI tn), .int (nI hg), .int (nI bg)])), (m1, .inl (cI, 118, .inl (ro 118 s))), (m3, .inl (cI, 708, .inl (ro 708 (pkF t))))] H := by rw [hH0]; exact hP
  have hD : va_D A9 [(m0, .inr (6, [.ref m1, .ref m2, .ref m3, .int (nI k), .ref m4, .int (nI n), .int (nI th), .int (nI ax), .int (nI fa), .int (nI vl), .ref m5, .int (nI tn), .int (nI hg), .int (nI bg)])), (m1, .inl (cI, 118, .inl (ro 118 s))), (m3, .inl (cI, 708, .inl (ro 708 (pkF t))))] := hD
  have hS : va_S A9 s9.heap H locs := by rw [hH0, hlc0]; exact hS
  suffices hgo : W p9 l e9 ({ frames := 1, cells := 0, slots := 0, locals := 24 } : Room) s9 m9 ar9 be9 me9 c9 H locs 0 0 Q9 (F0 m9 0 ls []) by rw [hH0, hlc0] at hgo; exact hgo
  clear hH0 hlc0
  refine lv_aload_n hx hb dX6_saves_0 rfl (lv_at hl 0 rfl) ?_
  refine va_get (D := D) (ci := 6) (v := .int (nI k)) (C := RX6) (T := TX6) (N := 14) hx hb hts in_X6_saves_X6 hown hK hP 0 rfl rfl 3 (by decide) (hts _ fl_X6_saves_33) (fun _ h9 => h9) rfl dX6_saves_1 ?_
  refine lv_bipush (v := nI 6) hx hb dX6_saves_4 (by decide +kernel) ?_
  refine q_ine (tgt := 49) (by omega) (by omega) hx hb dX6_saves_6 (by decide) (fun c_6 => ?_) (fun c_6 => ?_)
  ·
    refine lv_aload_n hx hb dX6_saves_49 rfl (lv_at hl 0 rfl) ?_
    refine va_get (D := D) (ci := 6) (v := .ref m1) (C := RX6) (T := TX6) (N := 14) hx hb hts in_X6_saves_X6 hown hK hP 0 rfl rfl 0 (by decide) (hts _ fl_X6_saves_7) (fun _ h9 => h9) rfl dX6_saves_50 ?_
    refine lv_iconst (v := nI 0) hx hb dX6_saves_53 (by decide +kernel) ?_
    refine lv_aload_n hx hb dX6_saves_54 rfl (lv_at hl 0 rfl) ?_
    refine va_get (D := D) (ci := 6) (v := .ref m3) (C := RX6) (T := TX6) (N := 14) hx hb hts in_X6_saves_X6 hown hK hP 0 rfl rfl 2 (by decide) (hts _ fl_X6_saves_16) (fun _ h9 => h9) rfl dX6_saves_55 ?_
    refine lv_bipush (v := nI 118) hx hb dX6_saves_58 (by decide +kernel) ?_
    refine lv_aload_n hx hb dX6_saves_60 rfl (lv_at hl 0 rfl) ?_
    refine va_get (D := D) (ci := 6) (v := .int (nI k)) (C := RX6) (T := TX6) (N := 14) hx hb hts in_X6_saves_X6 hown hK hP 0 rfl rfl 3 (by decide) (hts _ fl_X6_saves_33) (fun _ h9 => h9) rfl dX6_saves_61 ?_
    refine q_imul hx hb dX6_saves_64 ?_
    refine KM.callS (As := [.ref m1, .int (nI 0), .ref m3, .int (nI (118 * k))]) (rest := []) C0 hN (k_X6_copies l D cI cS cL m1 118 s 0 m3 708 (pkF t) (118 * k)  (by first | with_reducible assumption | omega) (by first | with_reducible assumption | omega) (by first | with_reducible assumption | omega) (by first | with_reducible assumption | omega)) (va_cwS 4 hts gX6_saves_X6_copies rfl rfl rfl (by decide +kernel) ⟨Nat.le_of_ble_eq_true rfl, Nat.le_of_ble_eq_true rfl⟩) hK hP hD hS hA [1, 2] rfl (by decide) (fun _ => rfl) rfl hl.1 rfl (Nat.le_of_ble_eq_true rfl) dX6_saves_65 ⟨Nat.le_of_ble_eq_true rfl, Nat.le_of_ble_eq_true rfl⟩ (fun v9 u9 H locs hv hP hD hS => ?_)
    subst hv
    have hP : va_P D vwCl [(m0, .inr (6, [.ref m1, .ref m2, .ref m3, .int (nI k), .ref m4, .int (nI n), .int (nI th), .int (nI ax), .int (nI fa), .int (nI vl), .ref m5, .int (nI tn), .int (nI hg), .int (nI bg)])), (m1, .inl (cI, 118, .inl (ro 118 s))), (m3, .inl (cI, 708, .inl (ro 708 (cpF s 0 (pkF t) (118 * k) 118))))] H := hP
    have hD : va_D A9 [(m0, .inr (6, [.ref m1, .ref m2, .ref m3, .int (nI k), .ref m4, .int (nI n), .int (nI th), .int (nI ax), .int (nI fa), .int (nI vl), .ref m5, .int (nI tn), .int (nI hg), .int (nI bg)])), (m1, .inl (cI, 118, .inl (ro 118 s))), (m3, .inl (cI, 708, .inl (ro 708 (cpF s 0 (pkF t) (118 * k) 118))))] := hD
    refine W.eq (g2 := F0 m9 68 ls []) rfl ?_
    have er_1 : ro 708 (cpF s 0 (pkF t) (118 * k) 118) = ro 708 (pkF (kpT k t s)) := by first | exact keep_lo (by omega) | exact keep_hi (by omega)
    rw [er_1] at hP hD
    refine lv_aload_n hx hb dX6_saves_68 rfl (lv_at hl 0 rfl) ?_
    refine lv_dup hx hb dX6_saves_69 rfl ?_
    refine va_get (D := D) (ci := 6) (v := .int (nI k)) (C := RX6) (T := TX6) (N := 14) hx hb hts in_X6_saves_X6 hown hK hP 0 rfl rfl 3 (by decide) (hts _ fl_X6_saves_33) (fun _ h9 => h9) rfl dX6_saves_70 ?_
    refine lv_iconst (v := nI 1) hx hb dX6_saves_73 (by decide +kernel) ?_
    refine q_iadd hx hb dX6_saves_74 ?_
    refine q_topi (y := (nI (kpK k))) (by exact congrArg nI (by unfold kpK; split <;> omega)) ?_
    refine va_put (D := D) (ci := 6) (v := .int (nI (kpK k))) (ty := tyX6 3) (C := RX6) (T := TX6) (N := 14) hx hb hts in_X6_saves_X6 tyX6 tyX6_ok nmX6 hown hK hP hD hS 0 rfl rfl 3 (by decide) (hts _ fl_X6_saves_33) (fun _ h9 => h9) rfl (by decide +kernel) rfl rfl (Nat.le_of_ble_eq_true rfl) dX6_saves_75 (fun H locs hP hD hS => ?_)
    have hP : va_P D vwCl [(m0, .inr (6, [.ref m1, .ref m2, .ref m3, .int (nI (kpK k)), .ref m4, .int (nI n), .int (nI th), .int (nI ax), .int (nI fa), .int (nI vl), .ref m5, .int (nI tn), .int (nI hg), .int (nI bg)])), (m1, .inl (cI, 118, .inl (ro 118 s))), (m3, .inl (cI, 708, .inl (ro 708 (pkF (kpT k t s)))))] H := hP
    have hD : va_D A9 [(m0, .inr (6, [.ref m1, .ref m2, .ref m3, .int (nI (kpK k)), .ref m4, .int (nI n), .int (nI th), .int (nI ax), .int (nI fa), .int (nI vl), .ref m5, .int (nI tn), .int (nI hg), .int (nI bg)])), (m1, .inl (cI, 118, .inl (ro 118 s))), (m3, .inl (cI, 708, .inl (ro 708 (pkF (kpT k t s)))))] := hD
    exact hret _ _ _ _ none () 78 ls (by decide) (by decide) (by rfl) hP hD hS (ret_v dX6_saves_78)
  ·
    have er_2 : ro 708 (pkF t) = ro 708 (shF (pkF t) 0) := by exact ro_cg (fun y _ => rfl)
    rw [er_2] at hP hD
    refine lv_iconst (v := nI 0) hx hb dX6_saves_9 (by decide +kernel) ?_
    refine lv_istore_n (lv' := [(1, .int (nI 0)), (0, .ref m0)]) hx hb dX6_saves_10 rfl hl (by decide) rfl (fun ls hl => ?_)
    have L11 : ∀ (fuel : Nat) (i : Nat) (H : Heap) (locs : List Loc) (ls : Array Slot), (i ≤ 590) → (590 - i < fuel) → va_P D vwCl [(m0, .inr (6, [.ref m1, .ref m2, .ref m3, .int (nI k), .ref m4, .int (nI n), .int (nI th), .int (nI ax), .int (nI fa), .int (nI vl), .ref m5, .int (nI tn), .int (nI hg), .int (nI bg)])), (m1, .inl (cI, 118, .inl (ro 118 s))), (m3, .inl (cI, 708, .inl (ro 708 (shF (pkF t) i))))] H → va_D A9 [(m0, .inr (6, [.ref m1, .ref m2, .ref m3, .int (nI k), .ref m4, .int (nI n), .int (nI th), .int (nI ax), .int (nI fa), .int (nI vl), .ref m5, .int (nI tn), .int (nI hg), .int (nI bg)])), (m1, .inl (cI, 118, .inl (ro 118 s))), (m3, .inl (cI, 708, .inl (ro 708 (shF (pkF t) i))))] → va_S A9 s9.heap H locs → lv_has ls 2 [(0, .ref m0), (1, .int (nI i))] → W p9 l e9 ({ frames := 1, cells := 0, slots := 0, locals := 24 } : Room) s9 m9 ar9 be9 me9 c9 H locs 0 0 Q9 (F0 m9 11 ls []) := by
      intro fuel
      induction fuel with
      | zero => intro i H locs ls hi hfu; exact absurd hfu (Nat.not_lt_zero _)
      | succ fuel ih11 =>
        intro i H locs ls hi hfu hP hD hS hl
        refine lv_iload_n hx hb dX6_saves_11 rfl (lv_at hl 1 rfl) ?_
        refine lv_sipush (v := nI 590) hx hb dX6_saves_12 (by decide +kernel) ?_
        refine q_ige (tgt := 39) (by omega) (by omega) hx hb dX6_saves_15 (by decide) (fun c_15 => ?_) (fun c_15 => ?_)
        ·
          have er_3 : ro 708 (shF (pkF t) i) = ro 708 (shF (pkF t) 590) := by rw [show i = 590 by omega]
          rw [er_3] at hP hD
          refine lv_aload_n hx hb dX6_saves_39 rfl (lv_at hl 0 rfl) ?_
          refine lv_dup hx hb dX6_saves_40 rfl ?_
          refine va_get (D := D) (ci := 6) (v := .int (nI k)) (C := RX6) (T := TX6) (N := 14) hx hb hts in_X6_saves_X6 hown hK hP 0 rfl rfl 3 (by decide) (hts _ fl_X6_saves_33) (fun _ h9 => h9) rfl dX6_saves_41 ?_
          refine lv_iconst (v := nI 1) hx hb dX6_saves_44 (by decide +kernel) ?_
          refine q_isub (by omega) hx hb dX6_saves_45 ?_
          refine va_put (D := D) (ci := 6) (v := .int (nI (k - 1))) (ty := tyX6 3) (C := RX6) (T := TX6) (N := 14) hx hb hts in_X6_saves_X6 tyX6 tyX6_ok nmX6 hown hK hP hD hS 0 rfl rfl 3 (by decide) (hts _ fl_X6_saves_33) (fun _ h9 => h9) rfl (by decide +kernel) rfl rfl (Nat.le_of_ble_eq_true rfl) dX6_saves_46 (fun H locs hP hD hS => ?_)
          have hP : va_P D vwCl [(m0, .inr (6, [.ref m1, .ref m2, .ref m3, .int (nI (k - 1)), .ref m4, .int (nI n), .int (nI th), .int (nI ax), .int (nI fa), .int (nI vl), .ref m5, .int (nI tn), .int (nI hg), .int (nI bg)])), (m1, .inl (cI, 118, .inl (ro 118 s))), (m3, .inl (cI, 708, .inl (ro 708 (shF (pkF t) 590))))] H := hP
          have hD : va_D A9 [(m0, .inr (6, [.ref m1, .ref m2, .ref m3, .int (nI (k - 1)), .ref m4, .int (nI n), .int (nI th), .int (nI ax), .int (nI fa), .int (nI vl), .ref m5, .int (nI tn), .int (nI hg), .int (nI bg)])), (m1, .inl (cI, 118, .inl (ro 118 s))), (m3, .inl (cI, 708, .inl (ro 708 (shF (pkF t) 590))))] := hD
          refine lv_aload_n hx hb dX6_saves_49 rfl (lv_at hl 0 rfl) ?_
          refine va_get (D := D) (ci := 6) (v := .ref m1) (C := RX6) (T := TX6) (N := 14) hx hb hts in_X6_saves_X6 hown hK hP 0 rfl rfl 0 (by decide) (hts _ fl_X6_saves_7) (fun _ h9 => h9) rfl dX6_saves_50 ?_
          refine lv_iconst (v := nI 0) hx hb dX6_saves_53 (by decide +kernel) ?_
          refine lv_aload_n hx hb dX6_saves_54 rfl (lv_at hl 0 rfl) ?_
          refine va_get (D := D) (ci := 6) (v := .ref m3) (C := RX6) (T := TX6) (N := 14) hx hb hts in_X6_saves_X6 hown hK hP 0 rfl rfl 2 (by decide) (hts _ fl_X6_saves_16) (fun _ h9 => h9) rfl dX6_saves_55 ?_
          refine lv_bipush (v := nI 118) hx hb dX6_saves_58 (by decide +kernel) ?_
          refine lv_aload_n hx hb dX6_saves_60 rfl (lv_at hl 0 rfl) ?_
          refine va_get (D := D) (ci := 6) (v := .int (nI (k - 1))) (C := RX6) (T := TX6) (N := 14) hx hb hts in_X6_saves_X6 hown hK hP 0 rfl rfl 3 (by decide) (hts _ fl_X6_saves_33) (fun _ h9 => h9) rfl dX6_saves_61 ?_
          refine q_imul hx hb dX6_saves_64 ?_
          refine KM.callS (As := [.ref m1, .int (nI 0), .ref m3, .int (nI (118 * (k - 1)))]) (rest := []) C0 hN (k_X6_copies l D cI cS cL m1 118 s 0 m3 708 (shF (pkF t) 590) (118 * (k - 1))  (by first | with_reducible assumption | omega) (by first | with_reducible assumption | omega) (by first | with_reducible assumption | omega) (by first | with_reducible assumption | omega)) (va_cwS 4 hts gX6_saves_X6_copies rfl rfl rfl (by decide +kernel) ⟨Nat.le_of_ble_eq_true rfl, Nat.le_of_ble_eq_true rfl⟩) hK hP hD hS hA [1, 2] rfl (by decide) (fun _ => rfl) rfl hl.1 rfl (Nat.le_of_ble_eq_true rfl) dX6_saves_65 ⟨Nat.le_of_ble_eq_true rfl, Nat.le_of_ble_eq_true rfl⟩ (fun v9 u9 H locs hv hP hD hS => ?_)
          subst hv
          have hP : va_P D vwCl [(m0, .inr (6, [.ref m1, .ref m2, .ref m3, .int (nI (k - 1)), .ref m4, .int (nI n), .int (nI th), .int (nI ax), .int (nI fa), .int (nI vl), .ref m5, .int (nI tn), .int (nI hg), .int (nI bg)])), (m1, .inl (cI, 118, .inl (ro 118 s))), (m3, .inl (cI, 708, .inl (ro 708 (cpF s 0 (shF (pkF t) 590) (118 * (k - 1)) 118))))] H := hP
          have hD : va_D A9 [(m0, .inr (6, [.ref m1, .ref m2, .ref m3, .int (nI (k - 1)), .ref m4, .int (nI n), .int (nI th), .int (nI ax), .int (nI fa), .int (nI vl), .ref m5, .int (nI tn), .int (nI hg), .int (nI bg)])), (m1, .inl (cI, 118, .inl (ro 118 s))), (m3, .inl (cI, 708, .inl (ro 708 (cpF s 0 (shF (pkF t) 590) (118 * (k - 1)) 118))))] := hD
          refine W.eq (g2 := F0 m9 68 ls []) rfl ?_
          have er_4 : ro 708 (cpF s 0 (shF (pkF t) 590) (118 * (k - 1)) 118) = ro 708 (pkF (kpT k t s)) := by first | exact keep_lo (by omega) | exact keep_hi (by omega)
          rw [er_4] at hP hD
          refine lv_aload_n hx hb dX6_saves_68 rfl (lv_at hl 0 rfl) ?_
          refine lv_dup hx hb dX6_saves_69 rfl ?_
          refine va_get (D := D) (ci := 6) (v := .int (nI (k - 1))) (C := RX6) (T := TX6) (N := 14) hx hb hts in_X6_saves_X6 hown hK hP 0 rfl rfl 3 (by decide) (hts _ fl_X6_saves_33) (fun _ h9 => h9) rfl dX6_saves_70 ?_
          refine lv_iconst (v := nI 1) hx hb dX6_saves_73 (by decide +kernel) ?_
          refine q_iadd hx hb dX6_saves_74 ?_
          refine q_topi (y := (nI (kpK k))) (by exact congrArg nI (by unfold kpK; split <;> omega)) ?_
          refine va_put (D := D) (ci := 6) (v := .int (nI (kpK k))) (ty := tyX6 3) (C := RX6) (T := TX6) (N := 14) hx hb hts in_X6_saves_X6 tyX6 tyX6_ok nmX6 hown hK hP hD hS 0 rfl rfl 3 (by decide) (hts _ fl_X6_saves_33) (fun _ h9 => h9) rfl (by decide +kernel) rfl rfl (Nat.le_of_ble_eq_true rfl) dX6_saves_75 (fun H locs hP hD hS => ?_)
          have hP : va_P D vwCl [(m0, .inr (6, [.ref m1, .ref m2, .ref m3, .int (nI (kpK k)), .ref m4, .int (nI n), .int (nI th), .int (nI ax), .int (nI fa), .int (nI vl), .ref m5, .int (nI tn), .int (nI hg), .int (nI bg)])), (m1, .inl (cI, 118, .inl (ro 118 s))), (m3, .inl (cI, 708, .inl (ro 708 (pkF (kpT k t s)))))] H := hP
          have hD : va_D A9 [(m0, .inr (6, [.ref m1, .ref m2, .ref m3, .int (nI (kpK k)), .ref m4, .int (nI n), .int (nI th), .int (nI ax), .int (nI fa), .int (nI vl), .ref m5, .int (nI tn), .int (nI hg), .int (nI bg)])), (m1, .inl (cI, 118, .inl (ro 118 s))), (m3, .inl (cI, 708, .inl (ro 708 (pkF (kpT k t s)))))] := hD
          exact hret _ _ _ _ none () 78 ls (by decide) (by decide) (by rfl) hP hD hS (ret_v dX6_saves_78)
        ·
          refine lv_aload_n hx hb dX6_saves_18 rfl (lv_at hl 0 rfl) ?_
          refine va_get (D := D) (ci := 6) (v := .ref m3) (C := RX6) (T := TX6) (N := 14) hx hb hts in_X6_saves_X6 hown hK hP 0 rfl rfl 2 (by decide) (hts _ fl_X6_saves_16) (fun _ h9 => h9) rfl dX6_saves_19 ?_
          refine lv_iload_n hx hb dX6_saves_22 rfl (lv_at hl 1 rfl) ?_
          refine lv_aload_n hx hb dX6_saves_23 rfl (lv_at hl 0 rfl) ?_
          refine va_get (D := D) (ci := 6) (v := .ref m3) (C := RX6) (T := TX6) (N := 14) hx hb hts in_X6_saves_X6 hown hK hP 0 rfl rfl 2 (by decide) (hts _ fl_X6_saves_16) (fun _ h9 => h9) rfl dX6_saves_24 ?_
          refine lv_iload_n hx hb dX6_saves_27 rfl (lv_at hl 1 rfl) ?_
          refine lv_bipush (v := nI 118) hx hb dX6_saves_28 (by decide +kernel) ?_
          refine q_iadd hx hb dX6_saves_30 ?_
          refine q_iald 2 0 (by omega) (by omega) hx hb hK hP rfl rfl dX6_saves_31 ?_
          refine q_iast 2 0 (by omega) (by omega) hx hb hK hP hD hS rfl rfl dX6_saves_32 (fun H locs hP hD hS => ?_)
          have hP : va_P D vwCl [(m0, .inr (6, [.ref m1, .ref m2, .ref m3, .int (nI k), .ref m4, .int (nI n), .int (nI th), .int (nI ax), .int (nI fa), .int (nI vl), .ref m5, .int (nI tn), .int (nI hg), .int (nI bg)])), (m1, .inl (cI, 118, .inl (ro 118 s))), (m3, .inl (cI, 708, .inl (ro 708 (upN (shF (pkF t) i) i ((shF (pkF t) i) (i + 118))))))] H := hP
          have hD : va_D A9 [(m0, .inr (6, [.ref m1, .ref m2, .ref m3, .int (nI k), .ref m4, .int (nI n), .int (nI th), .int (nI ax), .int (nI fa), .int (nI vl), .ref m5, .int (nI tn), .int (nI hg), .int (nI bg)])), (m1, .inl (cI, 118, .inl (ro 118 s))), (m3, .inl (cI, 708, .inl (ro 708 (upN (shF (pkF t) i) i ((shF (pkF t) i) (i + 118))))))] := hD
          have er_5 : ro 708 (upN (shF (pkF t) i) i ((shF (pkF t) i) (i + 118))) = ro 708 (shF (pkF t) (i + 1)) := by exact shF_s (pkF t) 708 i
          rw [er_5] at hP hD
          refine lv_iinc (v := (nI (i + 1))) (lv' := [(1, .int (nI (i + 1))), (0, .ref m0)]) hx hb dX6_saves_33 hl (k := 1) rfl (nI_add i 1) (by decide) rfl (fun ls hl => ?_)
          refine lv_goto (tgt := 11) hx hb dX6_saves_36 (by decide) ?_
          exact ih11  (i + 1) _ _ ls (by first | with_reducible assumption | omega) (by omega) hP hD hS (lv_sub hl [1, 0] rfl)
    exact L11 (590 - 0 + 1) 0 _ _ ls (by first | with_reducible assumption | omega) (by omega) hP hD hS (lv_sub hl [1, 0] rfl)

set_option maxHeartbeats 4000000 in
set_option maxRecDepth 100000 in
theorem k_X6_asks (l : Launch) (D : va_G) (cI cS cL : ClassId) (q0 : Nat) (s : Nat → Nat) (j : Nat) (hj : j < 8) : KM l D (TY cI cS cL) yX6_asks wsX6_asks ({ frames := 1, cells := 0, slots := 0, locals := 22 } : Room) [(q0, .inl (cI, 118, .inl (ro 118 s)))] [.ref q0, .int (nI j)] (fun (v : Option Value) (_ : Unit) => v = some (.int (nI (szF s j * vaF s j)))) (fun _ : Unit => [(q0, .inl (cI, 118, .inl (ro 118 s)))]) := by
  refine KM.of (cc := cX6_asks) (maxL := 2) (ret := (some .int)) (by decide) rfl (Nat.le_of_ble_eq_true rfl) ?_
  intro p9 e9 s9 m9 ar9 be9 me9 c9 Q9 A9 ls C0 hN hnm hlk hK hA hret hP hD hS hl
  obtain ⟨hx, hb, hml, hown, hts⟩ := id C0
  have hl : lv_has ls 2 [(0, .ref q0), (1, .int (nI j))] := hl
  obtain ⟨H, hH0⟩ : ∃ H, H = s9.heap := ⟨_, rfl⟩
  obtain ⟨locs, hlc0⟩ : ∃ z : List Loc, z = [] := ⟨_, rfl⟩
  have hP : va_P D vwCl [(q0, .inl (cI, 118, .inl (ro 118 s)))] H := by rw [hH0]; exact hP
  have hD : va_D A9 [(q0, .inl (cI, 118, .inl (ro 118 s)))] := hD
  have hS : va_S A9 s9.heap H locs := by rw [hH0, hlc0]; exact hS
  suffices hgo : W p9 l e9 ({ frames := 1, cells := 0, slots := 0, locals := 22 } : Room) s9 m9 ar9 be9 me9 c9 H locs 0 0 Q9 (F0 m9 0 ls []) by rw [hH0, hlc0] at hgo; exact hgo
  clear hH0 hlc0
  refine lv_aload_n hx hb dX6_asks_0 rfl (lv_at hl 0 rfl) ?_
  refine lv_iload_n hx hb dX6_asks_1 rfl (lv_at hl 1 rfl) ?_
  refine lv_iconst (v := nI 0) hx hb dX6_asks_2 (by decide +kernel) ?_
  refine KM.callS (As := [.ref q0, .int (nI j), .int (nI 0)]) (rest := []) C0 hN (k_X6_of_0 l D cI cS cL q0 s j  (by first | with_reducible assumption | omega)) (va_cwS 3 hts gX6_asks_X6_of rfl rfl rfl (by decide +kernel) ⟨Nat.le_of_ble_eq_true rfl, Nat.le_of_ble_eq_true rfl⟩) hK hP hD hS hA [0] rfl (by decide) (fun _ => rfl) rfl hl.1 rfl (Nat.le_of_ble_eq_true rfl) dX6_asks_3 ⟨Nat.le_of_ble_eq_true rfl, Nat.le_of_ble_eq_true rfl⟩ (fun v9 u9 H locs hv hP hD hS => ?_)
  subst hv
  have hP : va_P D vwCl [(q0, .inl (cI, 118, .inl (ro 118 s)))] H := hP
  have hD : va_D A9 [(q0, .inl (cI, 118, .inl (ro 118 s)))] := hD
  refine W.eq (g2 := F0 m9 6 ls [.int (nI (szF s j))]) rfl ?_
  refine lv_aload_n hx hb dX6_asks_6 rfl (lv_at hl 0 rfl) ?_
  refine lv_iload_n hx hb dX6_asks_7 rfl (lv_at hl 1 rfl) ?_
  refine lv_iconst (v := nI 2) hx hb dX6_asks_8 (by decide +kernel) ?_
  refine KM.callS (As := [.ref q0, .int (nI j), .int (nI 2)]) (rest := [.int (nI (szF s j))]) C0 hN (k_X6_of_2 l D cI cS cL q0 s j  (by first | with_reducible assumption | omega)) (va_cwS 3 hts gX6_asks_X6_of rfl rfl rfl (by decide +kernel) ⟨Nat.le_of_ble_eq_true rfl, Nat.le_of_ble_eq_true rfl⟩) hK hP hD hS hA [0] rfl (by decide) (fun _ => rfl) rfl hl.1 rfl (Nat.le_of_ble_eq_true rfl) dX6_asks_9 ⟨Nat.le_of_ble_eq_true rfl, Nat.le_of_ble_eq_true rfl⟩ (fun v9 u9 H locs hv hP hD hS => ?_)
  subst hv
  have hP : va_P D vwCl [(q0, .inl (cI, 118, .inl (ro 118 s)))] H := hP
  have hD : va_D A9 [(q0, .inl (cI, 118, .inl (ro 118 s)))] := hD
  refine W.eq (g2 := F0 m9 12 ls [.int (nI (vaF s j)), .int (nI (szF s j))]) rfl ?_
  refine q_imul hx hb dX6_asks_12 ?_
  exact hret _ _ _ _ (some (.int (nI ((szF s j) * (vaF s j))))) () 13 ls (by decide) (by decide) (by rfl) hP hD hS (ret_i dX6_asks_13)

set_option maxHeartbeats 4000000 in
set_option maxRecDepth 100000 in
theorem k_X6_pumpAsks (l : Launch) (D : va_G) (cI cS cL : ClassId) (q0 : Nat) (s : Nat → Nat) (q : Nat) (hq : q < 2) : KM l D (TY cI cS cL) yX6_pumpAsks wsX6_pumpAsks ({ frames := 2, cells := 0, slots := 0, locals := 43 } : Room) [(q0, .inl (cI, 118, .inl (ro 118 s)))] [.ref q0, .int (nI q)] (fun (v : Option Value) (_ : Unit) => v = some (.int (nI (pA (szF s) (vaF s) q)))) (fun _ : Unit => [(q0, .inl (cI, 118, .inl (ro 118 s)))]) := by
  refine KM.of (cc := cX6_pumpAsks) (maxL := 4) (ret := (some .int)) (by decide) rfl (Nat.le_of_ble_eq_true rfl) ?_
  intro p9 e9 s9 m9 ar9 be9 me9 c9 Q9 A9 ls C0 hN hnm hlk hK hA hret hP hD hS hl
  obtain ⟨hx, hb, hml, hown, hts⟩ := id C0
  have hl : lv_has ls 4 [(0, .ref q0), (1, .int (nI q))] := hl
  obtain ⟨H, hH0⟩ : ∃ H, H = s9.heap := ⟨_, rfl⟩
  obtain ⟨locs, hlc0⟩ : ∃ z : List Loc, z = [] := ⟨_, rfl⟩
  have hP : va_P D vwCl [(q0, .inl (cI, 118, .inl (ro 118 s)))] H := by rw [hH0]; exact hP
  have hD : va_D A9 [(q0, .inl (cI, 118, .inl (ro 118 s)))] := hD
  have hS : va_S A9 s9.heap H locs := by rw [hH0, hlc0]; exact hS
  suffices hgo : W p9 l e9 ({ frames := 2, cells := 0, slots := 0, locals := 43 } : Room) s9 m9 ar9 be9 me9 c9 H locs 0 0 Q9 (F0 m9 0 ls []) by rw [hH0, hlc0] at hgo; exact hgo
  clear hH0 hlc0
  refine lv_iconst (v := nI 0) hx hb dX6_pumpAsks_0 (by decide +kernel) ?_
  refine lv_istore_n (lv' := [(2, .int (nI 0)), (0, .ref q0), (1, .int (nI q))]) hx hb dX6_pumpAsks_1 rfl hl (by decide) rfl (fun ls hl => ?_)
  refine lv_iconst (v := nI 4) hx hb dX6_pumpAsks_2 (by decide +kernel) ?_
  refine lv_iload_n hx hb dX6_pumpAsks_3 rfl (lv_at hl 2 rfl) ?_
  refine q_imul hx hb dX6_pumpAsks_4 ?_
  refine lv_istore_n (lv' := [(3, .int (nI (4 * q))), (2, .int (nI 0)), (0, .ref q0), (1, .int (nI q))]) hx hb dX6_pumpAsks_5 rfl hl (by decide) rfl (fun ls hl => ?_)
  have L6 : ∀ (fuel : Nat) (i : Nat) (u : Nat) (H : Heap) (locs : List Loc) (ls : Array Slot), (q * 4 ≤ i) → (i ≤ q * 4 + 4) → (u = sumTo (fun i => szF s (q * 4 + i) * vaF s (q * 4 + i)) (i - q * 4)) → (q * 4 + 4 - i < fuel) → va_P D vwCl [(q0, .inl (cI, 118, .inl (ro 118 s)))] H → va_D A9 [(q0, .inl (cI, 118, .inl (ro 118 s)))] → va_S A9 s9.heap H locs → lv_has ls 4 [(0, .ref q0), (1, .int (nI q)), (2, .int (nI u)), (3, .int (nI i))] → W p9 l e9 ({ frames := 2, cells := 0, slots := 0, locals := 43 } : Room) s9 m9 ar9 be9 me9 c9 H locs 0 0 Q9 (F0 m9 6 ls []) := by
    intro fuel
    induction fuel with
    | zero => intro i u H locs ls hi1 hi2 hu hfu; exact absurd hfu (Nat.not_lt_zero _)
    | succ fuel ih6 =>
      intro i u H locs ls hi1 hi2 hu hfu hP hD hS hl
      refine lv_iload_n hx hb dX6_pumpAsks_6 rfl (lv_at hl 3 rfl) ?_
      refine lv_iconst (v := nI 4) hx hb dX6_pumpAsks_7 (by decide +kernel) ?_
      refine lv_iload_n hx hb dX6_pumpAsks_8 rfl (lv_at hl 1 rfl) ?_
      refine q_imul hx hb dX6_pumpAsks_9 ?_
      refine lv_iconst (v := nI 4) hx hb dX6_pumpAsks_10 (by decide +kernel) ?_
      refine q_iadd hx hb dX6_pumpAsks_11 ?_
      refine q_ige (tgt := 29) (by omega) (by omega) hx hb dX6_pumpAsks_12 (by decide) (fun c_12 => ?_) (fun c_12 => ?_)
      ·
        refine lv_iload_n hx hb dX6_pumpAsks_29 rfl (lv_at hl 2 rfl) ?_
        exact hret _ _ _ _ (some (.int (nI u))) () 30 ls (by decide) (by decide) (by exact rv (by rw [hu, show i - q * 4 = 4 by omega]; rfl)) hP hD hS (ret_i dX6_pumpAsks_30)
      ·
        refine lv_iload_n hx hb dX6_pumpAsks_15 rfl (lv_at hl 2 rfl) ?_
        refine lv_aload_n hx hb dX6_pumpAsks_16 rfl (lv_at hl 0 rfl) ?_
        refine lv_iload_n hx hb dX6_pumpAsks_17 rfl (lv_at hl 3 rfl) ?_
        refine KM.callS (As := [.ref q0, .int (nI i)]) (rest := [.int (nI u)]) C0 hN (k_X6_asks l D cI cS cL q0 s i  (by first | with_reducible assumption | omega)) (va_cwS 2 hts gX6_pumpAsks_X6_asks rfl rfl rfl (by decide +kernel) ⟨Nat.le_of_ble_eq_true rfl, Nat.le_of_ble_eq_true rfl⟩) hK hP hD hS hA [0] rfl (by decide) (fun _ => rfl) rfl hl.1 rfl (Nat.le_of_ble_eq_true rfl) dX6_pumpAsks_18 ⟨Nat.le_of_ble_eq_true rfl, Nat.le_of_ble_eq_true rfl⟩ (fun v9 u9 H locs hv hP hD hS => ?_)
        subst hv
        have hP : va_P D vwCl [(q0, .inl (cI, 118, .inl (ro 118 s)))] H := hP
        have hD : va_D A9 [(q0, .inl (cI, 118, .inl (ro 118 s)))] := hD
        refine W.eq (g2 := F0 m9 21 ls [.int (nI (szF s i * vaF s i)), .int (nI u)]) rfl ?_
        refine q_iadd hx hb dX6_pumpAsks_21 ?_
        refine lv_istore_n (lv' := [(2, .int (nI (u + (szF s i * vaF s i)))), (0, .ref q0), (1, .int (nI q)), (3, .int (nI i))]) hx hb dX6_pumpAsks_22 rfl hl (by decide) rfl (fun ls hl => ?_)
        refine lv_iinc (v := (nI (i + 1))) (lv' := [(3, .int (nI (i + 1))), (2, .int (nI (u + (szF s i * vaF s i)))), (0, .ref q0), (1, .int (nI q))]) hx hb dX6_pumpAsks_23 hl (k := 3) rfl (nI_add i 1) (by decide) rfl (fun ls hl => ?_)
        refine lv_goto (tgt := 6) hx hb dX6_pumpAsks_26 (by decide) ?_
        exact ih6  (i + 1) (u + (szF s i * vaF s i)) _ _ ls (by first | with_reducible assumption | omega) (by first | with_reducible assumption | omega) (by rw [show i + 1 - q * 4 = (i - q * 4) + 1 by omega, hu]; show _ = sumTo _ _ + szF s (q * 4 + (i - q * 4)) * vaF s (q * 4 + (i - q * 4)); rw [show q * 4 + (i - q * 4) = i by omega]) (by omega) hP hD hS (lv_sub hl [2, 3, 1, 0] rfl)
  exact L6 (q * 4 + 4 - (4 * q) + 1) (4 * q) 0 _ _ ls (by first | with_reducible assumption | omega) (by first | with_reducible assumption | omega) (by rw [show 4 * q - q * 4 = 0 by omega]; rfl) (by omega) hP hD hS (lv_sub hl [2, 3, 1, 0] rfl)

set_option maxHeartbeats 4000000 in
set_option maxRecDepth 100000 in
theorem k_X6_gets (l : Launch) (D : va_G) (cI cS cL : ClassId) (q0 : Nat) (s : Nat → Nat) (j : Nat) (hB : fB (szF s) (vaF s) (amF s) (liF s) (seF s) (s 5)) (hj : j < 8) : KM l D (TY cI cS cL) yX6_gets wsX6_gets ({ frames := 3, cells := 0, slots := 0, locals := 66 } : Room) [(q0, .inl (cI, 118, .inl (ro 118 s)))] [.ref q0, .int (nI j)] (fun (v : Option Value) (_ : Unit) => v = some (.int (nI (gS s j)))) (fun _ : Unit => [(q0, .inl (cI, 118, .inl (ro 118 s)))]) := by
  refine KM.of (cc := cX6_gets) (maxL := 6) (ret := (some .int)) (by decide) rfl (Nat.le_of_ble_eq_true rfl) ?_
  intro p9 e9 s9 m9 ar9 be9 me9 c9 Q9 A9 ls C0 hN hnm hlk hK hA hret hP hD hS hl
  obtain ⟨hx, hb, hml, hown, hts⟩ := id C0
  have hl : lv_has ls 6 [(0, .ref q0), (1, .int (nI j))] := hl
  obtain ⟨H, hH0⟩ : ∃ H, H = s9.heap := ⟨_, rfl⟩
  obtain ⟨locs, hlc0⟩ : ∃ z : List Loc, z = [] := ⟨_, rfl⟩
  have hP : va_P D vwCl [(q0, .inl (cI, 118, .inl (ro 118 s)))] H := by rw [hH0]; exact hP
  have hD : va_D A9 [(q0, .inl (cI, 118, .inl (ro 118 s)))] := hD
  have hS : va_S A9 s9.heap H locs := by rw [hH0, hlc0]; exact hS
  suffices hgo : W p9 l e9 ({ frames := 3, cells := 0, slots := 0, locals := 66 } : Room) s9 m9 ar9 be9 me9 c9 H locs 0 0 Q9 (F0 m9 0 ls []) by rw [hH0, hlc0] at hgo; exact hgo
  clear hH0 hlc0
  obtain ⟨hB1, hB2, hB3, hB4, hB5, hB6, hB7, hB8⟩ := id hB
  have hs1 := hB1 j hj
  have hl1 := hB4 (j / 4) (by omega)
  have ha1 := asks_le hB hj
  have hm1 : szF s j * vaF s j * liF s (j / 4) ≤ 200 * 2000 := Nat.mul_le_mul ha1 hl1
  have hp1 := pA_le hB (show j / 4 < 2 by omega)
  have hm3 : szF s j * vaF s j * liF s (j / 4) / pA (szF s) (vaF s) (j / 4) ≤ szF s j * vaF s j * liF s (j / 4) := Nat.div_le_self _ _
  have h50 : s 0 ≤ 20 := hB5
  refine lv_aload_n hx hb dX6_gets_0 rfl (lv_at hl 0 rfl) ?_
  refine lv_iload_n hx hb dX6_gets_1 rfl (lv_at hl 1 rfl) ?_
  refine lv_iconst (v := nI 4) hx hb dX6_gets_2 (by decide +kernel) ?_
  refine q_idiv (by omega) (by omega) (by omega) hx hb dX6_gets_3 ?_
  refine KM.callS (As := [.ref q0, .int (nI (j / 4))]) (rest := []) C0 hN (k_X6_pumpAsks l D cI cS cL q0 s (j / 4)  (by first | with_reducible assumption | omega)) (va_cwS 2 hts gX6_gets_X6_pumpAsks rfl rfl rfl (by decide +kernel) ⟨Nat.le_of_ble_eq_true rfl, Nat.le_of_ble_eq_true rfl⟩) hK hP hD hS hA [0] rfl (by decide) (fun _ => rfl) rfl hl.1 rfl (Nat.le_of_ble_eq_true rfl) dX6_gets_4 ⟨Nat.le_of_ble_eq_true rfl, Nat.le_of_ble_eq_true rfl⟩ (fun v9 u9 H locs hv hP hD hS => ?_)
  subst hv
  have hP : va_P D vwCl [(q0, .inl (cI, 118, .inl (ro 118 s)))] H := hP
  have hD : va_D A9 [(q0, .inl (cI, 118, .inl (ro 118 s)))] := hD
  refine W.eq (g2 := F0 m9 7 ls [.int (nI (pA (szF s) (vaF s) (j / 4)))]) rfl ?_
  refine lv_istore_n (lv' := [(2, .int (nI (pA (szF s) (vaF s) (j / 4)))), (0, .ref q0), (1, .int (nI j))]) hx hb dX6_gets_7 rfl hl (by decide) rfl (fun ls hl => ?_)
  refine lv_aload_n hx hb dX6_gets_8 rfl (lv_at hl 1 rfl) ?_
  refine lv_iconst (v := nI 3) hx hb dX6_gets_9 (by decide +kernel) ?_
  refine lv_iload_n hx hb dX6_gets_10 rfl (lv_at hl 2 rfl) ?_
  refine lv_iconst (v := nI 4) hx hb dX6_gets_11 (by decide +kernel) ?_
  refine q_idiv (by omega) (by omega) (by omega) hx hb dX6_gets_12 ?_
  refine q_iadd hx hb dX6_gets_13 ?_
  refine q_iald 0 0 (by omega) (by omega) hx hb hK hP rfl rfl dX6_gets_14 ?_
  refine q_topi (y := (nI (liF s (j / 4)))) (by rfl) ?_
  refine lv_istore_n (lv' := [(3, .int (nI (liF s (j / 4)))), (2, .int (nI (pA (szF s) (vaF s) (j / 4)))), (0, .ref q0), (1, .int (nI j))]) hx hb dX6_gets_15 rfl hl (by decide) rfl (fun ls hl => ?_)
  have L38 : ∀ (g : Nat) (H : Heap) (locs : List Loc) (ls : Array Slot), (g = if liF s (j / 4) < pA (szF s) (vaF s) (j / 4) then szF s j * vaF s j * liF s (j / 4) / pA (szF s) (vaF s) (j / 4) else szF s j * vaF s j) →  va_P D vwCl [(q0, .inl (cI, 118, .inl (ro 118 s)))] H → va_D A9 [(q0, .inl (cI, 118, .inl (ro 118 s)))] → va_S A9 s9.heap H locs → lv_has ls 6 [(0, .ref q0), (1, .int (nI j))] → W p9 l e9 ({ frames := 3, cells := 0, slots := 0, locals := 66 } : Room) s9 m9 ar9 be9 me9 c9 H locs 0 0 Q9 (F0 m9 38 ls [.int (nI g)]) := by
    intro g H locs ls hg  hP hD hS hl
    have hg9 : g < 2 ^ 31 := by rw [hg]; split <;> omega
    refine lv_istore (lv' := [(4, .int (nI g)), (0, .ref q0), (1, .int (nI j))]) hx hb dX6_gets_38 hl (by decide) rfl (fun ls hl => ?_)
    refine lv_bipush (v := nI 10) hx hb dX6_gets_40 (by decide +kernel) ?_
    refine lv_aload_n hx hb dX6_gets_42 rfl (lv_at hl 1 rfl) ?_
    refine lv_iconst (v := nI 0) hx hb dX6_gets_43 (by decide +kernel) ?_
    refine q_iald 0 0 (by omega) (by omega) hx hb hK hP rfl rfl dX6_gets_44 ?_
    refine q_iadd hx hb dX6_gets_45 ?_
    refine lv_aload_n hx hb dX6_gets_46 rfl (lv_at hl 1 rfl) ?_
    refine lv_iconst (v := nI 5) hx hb dX6_gets_47 (by decide +kernel) ?_
    refine q_iald 0 0 (by omega) (by omega) hx hb hK hP rfl rfl dX6_gets_48 ?_
    refine lv_isub hx hb dX6_gets_49 ?_
    refine lv_istore (lv' := [(5, .int ((nI (10 + (s 0))) - (nI (s 5)))), (4, .int (nI g)), (0, .ref q0), (1, .int (nI j))]) hx hb dX6_gets_50 hl (by decide) rfl (fun ls hl => ?_)
    refine lv_iload hx hb dX6_gets_52 (lv_at hl 0 rfl) ?_
    refine lv_if_ge (tgt := 61) hx hb dX6_gets_54 (by decide) (fun c_54 => ?_) (fun c_54 => ?_)
    ·
      refine lv_iload hx hb dX6_gets_61 (lv_at hl 0 rfl) ?_
      refine q_topi (y := (nI (10 + s 0 - s 5))) (by exact sub_nn (by omega) (by omega) c_54) ?_
      refine lv_istore (lv' := [(5, .int (nI (10 + s 0 - s 5))), (4, .int (nI g)), (0, .ref q0), (1, .int (nI j))]) hx hb dX6_gets_63 hl (by decide) rfl (fun ls hl => ?_)
      refine lv_aload_n hx hb dX6_gets_65 rfl (lv_at hl 2 rfl) ?_
      refine lv_iconst (v := nI 5) hx hb dX6_gets_66 (by decide +kernel) ?_
      refine q_iald 0 0 (by omega) (by omega) hx hb hK hP rfl rfl dX6_gets_67 ?_
      refine lv_aload_n hx hb dX6_gets_68 rfl (lv_at hl 2 rfl) ?_
      refine lv_iconst (v := nI 0) hx hb dX6_gets_69 (by decide +kernel) ?_
      refine q_iald 0 0 (by omega) (by omega) hx hb hK hP rfl rfl dX6_gets_70 ?_
      refine q_topi (y := (nI (s 0))) (by rfl) ?_
      refine q_ile (tgt := 100) (by omega) (by omega) hx hb dX6_gets_71 (by decide) (fun c_71 => ?_) (fun c_71 => ?_)
      ·
        refine lv_iload hx hb dX6_gets_100 (lv_at hl 1 rfl) ?_
        exact hret _ _ _ _ (some (.int (nI g))) () 102 ls (by decide) (by decide) (by exact rv (by first | exact gets_lo hB hj hg (by omega) | (rw [← gets_hi hg (by omega) rfl]; omega) | (have e9 : 10 + s 0 - s 5 = 0 := sub_nz (by omega) (by omega) c_54; rw [← gets_hi hg (by omega) rfl, e9]; omega))) hP hD hS (ret_i dX6_gets_102)
      ·
        refine lv_iload hx hb dX6_gets_74 (lv_at hl 1 rfl) ?_
        refine lv_iload hx hb dX6_gets_76 (lv_at hl 0 rfl) ?_
        refine lv_aload_n hx hb dX6_gets_78 rfl (lv_at hl 2 rfl) ?_
        refine lv_iload_n hx hb dX6_gets_79 rfl (lv_at hl 3 rfl) ?_
        refine lv_iconst (v := nI 0) hx hb dX6_gets_80 (by decide +kernel) ?_
        refine KM.callS (As := [.ref q0, .int (nI j), .int (nI 0)]) (rest := [.int (nI (10 + s 0 - s 5)), .int (nI g)]) C0 hN (k_X6_of_0 l D cI cS cL q0 s j  (by first | with_reducible assumption | omega)) (va_cwS 3 hts gX6_gets_X6_of rfl rfl rfl (by decide +kernel) ⟨Nat.le_of_ble_eq_true rfl, Nat.le_of_ble_eq_true rfl⟩) hK hP hD hS hA [0] rfl (by decide) (fun _ => rfl) rfl hl.1 rfl (Nat.le_of_ble_eq_true rfl) dX6_gets_81 ⟨Nat.le_of_ble_eq_true rfl, Nat.le_of_ble_eq_true rfl⟩ (fun v9 u9 H locs hv hP hD hS => ?_)
        subst hv
        have hP : va_P D vwCl [(q0, .inl (cI, 118, .inl (ro 118 s)))] H := hP
        have hD : va_D A9 [(q0, .inl (cI, 118, .inl (ro 118 s)))] := hD
        refine W.eq (g2 := F0 m9 84 ls [.int (nI (szF s j)), .int (nI (10 + s 0 - s 5)), .int (nI g)]) rfl ?_
        have hm5 : (10 + s 0 - s 5) * szF s j ≤ 30 * 20 := Nat.mul_le_mul (by omega) hs1.2
        refine q_imul hx hb dX6_gets_84 ?_
        refine q_ile (tgt := 100) (by omega) (by omega) hx hb dX6_gets_85 (by decide) (fun c_85 => ?_) (fun c_85 => ?_)
        ·
          refine lv_iload hx hb dX6_gets_100 (lv_at hl 1 rfl) ?_
          exact hret _ _ _ _ (some (.int (nI g))) () 102 ls (by decide) (by decide) (by exact rv (by first | exact gets_lo hB hj hg (by omega) | (rw [← gets_hi hg (by omega) rfl]; omega) | (have e9 : 10 + s 0 - s 5 = 0 := sub_nz (by omega) (by omega) c_54; rw [← gets_hi hg (by omega) rfl, e9]; omega))) hP hD hS (ret_i dX6_gets_102)
        ·
          refine lv_iload hx hb dX6_gets_88 (lv_at hl 0 rfl) ?_
          refine lv_aload_n hx hb dX6_gets_90 rfl (lv_at hl 2 rfl) ?_
          refine lv_iload_n hx hb dX6_gets_91 rfl (lv_at hl 3 rfl) ?_
          refine lv_iconst (v := nI 0) hx hb dX6_gets_92 (by decide +kernel) ?_
          refine KM.callS (As := [.ref q0, .int (nI j), .int (nI 0)]) (rest := [.int (nI (10 + s 0 - s 5))]) C0 hN (k_X6_of_0 l D cI cS cL q0 s j  (by first | with_reducible assumption | omega)) (va_cwS 3 hts gX6_gets_X6_of rfl rfl rfl (by decide +kernel) ⟨Nat.le_of_ble_eq_true rfl, Nat.le_of_ble_eq_true rfl⟩) hK hP hD hS hA [0] rfl (by decide) (fun _ => rfl) rfl hl.1 rfl (Nat.le_of_ble_eq_true rfl) dX6_gets_93 ⟨Nat.le_of_ble_eq_true rfl, Nat.le_of_ble_eq_true rfl⟩ (fun v9 u9 H locs hv hP hD hS => ?_)
          subst hv
          have hP : va_P D vwCl [(q0, .inl (cI, 118, .inl (ro 118 s)))] H := hP
          have hD : va_D A9 [(q0, .inl (cI, 118, .inl (ro 118 s)))] := hD
          refine W.eq (g2 := F0 m9 96 ls [.int (nI (szF s j)), .int (nI (10 + s 0 - s 5))]) rfl ?_
          refine q_imul hx hb dX6_gets_96 ?_
          refine lv_goto (tgt := 102) hx hb dX6_gets_97 (by decide) ?_
          exact hret _ _ _ _ (some (.int (nI ((10 + s 0 - s 5) * (szF s j))))) () 102 ls (by decide) (by decide) (by exact rv (by first | exact gets_lo hB hj hg (by omega) | (rw [← gets_hi hg (by omega) rfl]; omega) | (have e9 : 10 + s 0 - s 5 = 0 := sub_nz (by omega) (by omega) c_54; rw [← gets_hi hg (by omega) rfl, e9]; omega))) hP hD hS (ret_i dX6_gets_102)
    ·
      refine lv_iconst (v := nI 0) hx hb dX6_gets_57 (by decide +kernel) ?_
      refine lv_goto (tgt := 63) hx hb dX6_gets_58 (by decide) ?_
      refine lv_istore (lv' := [(5, .int (nI 0)), (4, .int (nI g)), (0, .ref q0), (1, .int (nI j))]) hx hb dX6_gets_63 hl (by decide) rfl (fun ls hl => ?_)
      refine lv_aload_n hx hb dX6_gets_65 rfl (lv_at hl 2 rfl) ?_
      refine lv_iconst (v := nI 5) hx hb dX6_gets_66 (by decide +kernel) ?_
      refine q_iald 0 0 (by omega) (by omega) hx hb hK hP rfl rfl dX6_gets_67 ?_
      refine lv_aload_n hx hb dX6_gets_68 rfl (lv_at hl 2 rfl) ?_
      refine lv_iconst (v := nI 0) hx hb dX6_gets_69 (by decide +kernel) ?_
      refine q_iald 0 0 (by omega) (by omega) hx hb hK hP rfl rfl dX6_gets_70 ?_
      refine q_topi (y := (nI (s 0))) (by rfl) ?_
      refine q_ile (tgt := 100) (by omega) (by omega) hx hb dX6_gets_71 (by decide) (fun c_71 => ?_) (fun c_71 => ?_)
      ·
        refine lv_iload hx hb dX6_gets_100 (lv_at hl 1 rfl) ?_
        exact hret _ _ _ _ (some (.int (nI g))) () 102 ls (by decide) (by decide) (by exact rv (by first | exact gets_lo hB hj hg (by omega) | (rw [← gets_hi hg (by omega) rfl]; omega) | (have e9 : 10 + s 0 - s 5 = 0 := sub_nz (by omega) (by omega) c_54; rw [← gets_hi hg (by omega) rfl, e9]; omega))) hP hD hS (ret_i dX6_gets_102)
      ·
        refine lv_iload hx hb dX6_gets_74 (lv_at hl 1 rfl) ?_
        refine lv_iload hx hb dX6_gets_76 (lv_at hl 0 rfl) ?_
        refine lv_aload_n hx hb dX6_gets_78 rfl (lv_at hl 2 rfl) ?_
        refine lv_iload_n hx hb dX6_gets_79 rfl (lv_at hl 3 rfl) ?_
        refine lv_iconst (v := nI 0) hx hb dX6_gets_80 (by decide +kernel) ?_
        refine KM.callS (As := [.ref q0, .int (nI j), .int (nI 0)]) (rest := [.int (nI 0), .int (nI g)]) C0 hN (k_X6_of_0 l D cI cS cL q0 s j  (by first | with_reducible assumption | omega)) (va_cwS 3 hts gX6_gets_X6_of rfl rfl rfl (by decide +kernel) ⟨Nat.le_of_ble_eq_true rfl, Nat.le_of_ble_eq_true rfl⟩) hK hP hD hS hA [0] rfl (by decide) (fun _ => rfl) rfl hl.1 rfl (Nat.le_of_ble_eq_true rfl) dX6_gets_81 ⟨Nat.le_of_ble_eq_true rfl, Nat.le_of_ble_eq_true rfl⟩ (fun v9 u9 H locs hv hP hD hS => ?_)
        subst hv
        have hP : va_P D vwCl [(q0, .inl (cI, 118, .inl (ro 118 s)))] H := hP
        have hD : va_D A9 [(q0, .inl (cI, 118, .inl (ro 118 s)))] := hD
        refine W.eq (g2 := F0 m9 84 ls [.int (nI (szF s j)), .int (nI 0), .int (nI g)]) rfl ?_
        have hm5 : (10 + s 0 - s 5) * szF s j ≤ 30 * 20 := Nat.mul_le_mul (by omega) hs1.2
        refine q_imul hx hb dX6_gets_84 ?_
        refine q_ile (tgt := 100) (by omega) (by omega) hx hb dX6_gets_85 (by decide) (fun c_85 => ?_) (fun c_85 => ?_)
        ·
          refine lv_iload hx hb dX6_gets_100 (lv_at hl 1 rfl) ?_
          exact hret _ _ _ _ (some (.int (nI g))) () 102 ls (by decide) (by decide) (by exact rv (by first | exact gets_lo hB hj hg (by omega) | (rw [← gets_hi hg (by omega) rfl]; omega) | (have e9 : 10 + s 0 - s 5 = 0 := sub_nz (by omega) (by omega) c_54; rw [← gets_hi hg (by omega) rfl, e9]; omega))) hP hD hS (ret_i dX6_gets_102)
        ·
          refine lv_iload hx hb dX6_gets_88 (lv_at hl 0 rfl) ?_
          refine lv_aload_n hx hb dX6_gets_90 rfl (lv_at hl 2 rfl) ?_
          refine lv_iload_n hx hb dX6_gets_91 rfl (lv_at hl 3 rfl) ?_
          refine lv_iconst (v := nI 0) hx hb dX6_gets_92 (by decide +kernel) ?_
          refine KM.callS (As := [.ref q0, .int (nI j), .int (nI 0)]) (rest := [.int (nI 0)]) C0 hN (k_X6_of_0 l D cI cS cL q0 s j  (by first | with_reducible assumption | omega)) (va_cwS 3 hts gX6_gets_X6_of rfl rfl rfl (by decide +kernel) ⟨Nat.le_of_ble_eq_true rfl, Nat.le_of_ble_eq_true rfl⟩) hK hP hD hS hA [0] rfl (by decide) (fun _ => rfl) rfl hl.1 rfl (Nat.le_of_ble_eq_true rfl) dX6_gets_93 ⟨Nat.le_of_ble_eq_true rfl, Nat.le_of_ble_eq_true rfl⟩ (fun v9 u9 H locs hv hP hD hS => ?_)
          subst hv
          have hP : va_P D vwCl [(q0, .inl (cI, 118, .inl (ro 118 s)))] H := hP
          have hD : va_D A9 [(q0, .inl (cI, 118, .inl (ro 118 s)))] := hD
          refine W.eq (g2 := F0 m9 96 ls [.int (nI (szF s j)), .int (nI 0)]) rfl ?_
          refine q_imul hx hb dX6_gets_96 ?_
          refine lv_goto (tgt := 102) hx hb dX6_gets_97 (by decide) ?_
          exact hret _ _ _ _ (some (.int (nI (0 * (szF s j))))) () 102 ls (by decide) (by decide) (by exact rv (by first | exact gets_lo hB hj hg (by omega) | (rw [← gets_hi hg (by omega) rfl]; omega) | (have e9 : 10 + s 0 - s 5 = 0 := sub_nz (by omega) (by omega) c_54; rw [← gets_hi hg (by omega) rfl, e9]; omega))) hP hD hS (ret_i dX6_gets_102)
  refine lv_iload_n hx hb dX6_gets_16 rfl (lv_at hl 1 rfl) ?_
  refine lv_iload_n hx hb dX6_gets_17 rfl (lv_at hl 0 rfl) ?_
  refine q_ile (tgt := 33) (by omega) (by omega) hx hb dX6_gets_18 (by decide) (fun c_18 => ?_) (fun c_18 => ?_)
  ·
    refine lv_aload_n hx hb dX6_gets_33 rfl (lv_at hl 2 rfl) ?_
    refine lv_iload_n hx hb dX6_gets_34 rfl (lv_at hl 3 rfl) ?_
    refine KM.callS (As := [.ref q0, .int (nI j)]) (rest := []) C0 hN (k_X6_asks l D cI cS cL q0 s j  (by first | with_reducible assumption | omega)) (va_cwS 2 hts gX6_gets_X6_asks rfl rfl rfl (by decide +kernel) ⟨Nat.le_of_ble_eq_true rfl, Nat.le_of_ble_eq_true rfl⟩) hK hP hD hS hA [0] rfl (by decide) (fun _ => rfl) rfl hl.1 rfl (Nat.le_of_ble_eq_true rfl) dX6_gets_35 ⟨Nat.le_of_ble_eq_true rfl, Nat.le_of_ble_eq_true rfl⟩ (fun v9 u9 H locs hv hP hD hS => ?_)
    subst hv
    have hP : va_P D vwCl [(q0, .inl (cI, 118, .inl (ro 118 s)))] H := hP
    have hD : va_D A9 [(q0, .inl (cI, 118, .inl (ro 118 s)))] := hD
    refine W.eq (g2 := F0 m9 38 ls [.int (nI (szF s j * vaF s j))]) rfl ?_
    exact L38  (szF s j * vaF s j) _ _ ls (by first | exact (if_pos (by omega)).symm | exact (if_neg (by omega)).symm)  hP hD hS (lv_sub hl [2, 3] rfl)
  ·
    refine lv_aload_n hx hb dX6_gets_21 rfl (lv_at hl 2 rfl) ?_
    refine lv_iload_n hx hb dX6_gets_22 rfl (lv_at hl 3 rfl) ?_
    refine KM.callS (As := [.ref q0, .int (nI j)]) (rest := []) C0 hN (k_X6_asks l D cI cS cL q0 s j  (by first | with_reducible assumption | omega)) (va_cwS 2 hts gX6_gets_X6_asks rfl rfl rfl (by decide +kernel) ⟨Nat.le_of_ble_eq_true rfl, Nat.le_of_ble_eq_true rfl⟩) hK hP hD hS hA [0] rfl (by decide) (fun _ => rfl) rfl hl.1 rfl (Nat.le_of_ble_eq_true rfl) dX6_gets_23 ⟨Nat.le_of_ble_eq_true rfl, Nat.le_of_ble_eq_true rfl⟩ (fun v9 u9 H locs hv hP hD hS => ?_)
    subst hv
    have hP : va_P D vwCl [(q0, .inl (cI, 118, .inl (ro 118 s)))] H := hP
    have hD : va_D A9 [(q0, .inl (cI, 118, .inl (ro 118 s)))] := hD
    refine W.eq (g2 := F0 m9 26 ls [.int (nI (szF s j * vaF s j))]) rfl ?_
    refine lv_iload_n hx hb dX6_gets_26 rfl (lv_at hl 0 rfl) ?_
    refine q_imul hx hb dX6_gets_27 ?_
    refine lv_iload_n hx hb dX6_gets_28 rfl (lv_at hl 1 rfl) ?_
    refine q_idiv (by omega) (by omega) (by omega) hx hb dX6_gets_29 ?_
    refine lv_goto (tgt := 38) hx hb dX6_gets_30 (by decide) ?_
    exact L38  (((szF s j * vaF s j) * (liF s (j / 4))) / (pA (szF s) (vaF s) (j / 4))) _ _ ls (by first | exact (if_pos (by omega)).symm | exact (if_neg (by omega)).symm)  hP hD hS (lv_sub hl [2, 3] rfl)

set_option maxHeartbeats 4000000 in
set_option maxRecDepth 100000 in
theorem k_X6_height (l : Launch) (D : va_G) (cI cS cL : ClassId) (q0 : Nat) (s : Nat → Nat) (j : Nat) (hB : fB (szF s) (vaF s) (amF s) (liF s) (seF s) (s 5)) (hj : j < 8) : KM l D (TY cI cS cL) yX6_height wsX6_height ({ frames := 4, cells := 0, slots := 0, locals := 91 } : Room) [(q0, .inl (cI, 118, .inl (ro 118 s)))] [.ref q0, .int (nI j)] (fun (v : Option Value) (_ : Unit) => v = some (.int (nI (heS s j)))) (fun _ : Unit => [(q0, .inl (cI, 118, .inl (ro 118 s)))]) := by
  refine KM.of (cc := cX6_height) (maxL := 2) (ret := (some .int)) (by decide) rfl (Nat.le_of_ble_eq_true rfl) ?_
  intro p9 e9 s9 m9 ar9 be9 me9 c9 Q9 A9 ls C0 hN hnm hlk hK hA hret hP hD hS hl
  obtain ⟨hx, hb, hml, hown, hts⟩ := id C0
  have hl : lv_has ls 2 [(0, .ref q0), (1, .int (nI j))] := hl
  obtain ⟨H, hH0⟩ : ∃ H, H = s9.heap := ⟨_, rfl⟩
  obtain ⟨locs, hlc0⟩ : ∃ z : List Loc, z = [] := ⟨_, rfl⟩
  have hP : va_P D vwCl [(q0, .inl (cI, 118, .inl (ro 118 s)))] H := by rw [hH0]; exact hP
  have hD : va_D A9 [(q0, .inl (cI, 118, .inl (ro 118 s)))] := hD
  have hS : va_S A9 s9.heap H locs := by rw [hH0, hlc0]; exact hS
  suffices hgo : W p9 l e9 ({ frames := 4, cells := 0, slots := 0, locals := 91 } : Room) s9 m9 ar9 be9 me9 c9 H locs 0 0 Q9 (F0 m9 0 ls []) by rw [hH0, hlc0] at hgo; exact hgo
  clear hH0 hlc0
  obtain ⟨hB1, hB2, hB3, hB4, hB5, hB6, hB7, hB8⟩ := id hB
  have hs1 := hB1 j hj
  have hg1 : gS s j ≤ 200 := fPart_le hB hj
  refine lv_aload_n hx hb dX6_height_0 rfl (lv_at hl 0 rfl) ?_
  refine lv_iload_n hx hb dX6_height_1 rfl (lv_at hl 1 rfl) ?_
  refine KM.callS (As := [.ref q0, .int (nI j)]) (rest := []) C0 hN (k_X6_gets l D cI cS cL q0 s j  (by first | with_reducible assumption | omega) (by first | with_reducible assumption | omega)) (va_cwS 2 hts gX6_height_X6_gets rfl rfl rfl (by decide +kernel) ⟨Nat.le_of_ble_eq_true rfl, Nat.le_of_ble_eq_true rfl⟩) hK hP hD hS hA [0] rfl (by decide) (fun _ => rfl) rfl hl.1 rfl (Nat.le_of_ble_eq_true rfl) dX6_height_2 ⟨Nat.le_of_ble_eq_true rfl, Nat.le_of_ble_eq_true rfl⟩ (fun v9 u9 H locs hv hP hD hS => ?_)
  subst hv
  have hP : va_P D vwCl [(q0, .inl (cI, 118, .inl (ro 118 s)))] H := hP
  have hD : va_D A9 [(q0, .inl (cI, 118, .inl (ro 118 s)))] := hD
  refine W.eq (g2 := F0 m9 5 ls [.int (nI (gS s j))]) rfl ?_
  refine lv_aload_n hx hb dX6_height_5 rfl (lv_at hl 0 rfl) ?_
  refine lv_iload_n hx hb dX6_height_6 rfl (lv_at hl 1 rfl) ?_
  refine lv_iconst (v := nI 0) hx hb dX6_height_7 (by decide +kernel) ?_
  refine KM.callS (As := [.ref q0, .int (nI j), .int (nI 0)]) (rest := [.int (nI (gS s j))]) C0 hN (k_X6_of_0 l D cI cS cL q0 s j  (by first | with_reducible assumption | omega)) (va_cwS 3 hts gX6_height_X6_of rfl rfl rfl (by decide +kernel) ⟨Nat.le_of_ble_eq_true rfl, Nat.le_of_ble_eq_true rfl⟩) hK hP hD hS hA [0] rfl (by decide) (fun _ => rfl) rfl hl.1 rfl (Nat.le_of_ble_eq_true rfl) dX6_height_8 ⟨Nat.le_of_ble_eq_true rfl, Nat.le_of_ble_eq_true rfl⟩ (fun v9 u9 H locs hv hP hD hS => ?_)
  subst hv
  have hP : va_P D vwCl [(q0, .inl (cI, 118, .inl (ro 118 s)))] H := hP
  have hD : va_D A9 [(q0, .inl (cI, 118, .inl (ro 118 s)))] := hD
  refine W.eq (g2 := F0 m9 11 ls [.int (nI (szF s j)), .int (nI (gS s j))]) rfl ?_
  refine q_idiv (by omega) (by omega) (by omega) hx hb dX6_height_11 ?_
  exact hret _ _ _ _ (some (.int (nI ((gS s j) / (szF s j))))) () 12 ls (by decide) (by decide) (by rfl) hP hD hS (ret_i dX6_height_12)

set_option maxHeartbeats 4000000 in
set_option maxRecDepth 100000 in
theorem k_X6_allGet (l : Launch) (D : va_G) (cI cS cL : ClassId) (q0 : Nat) (s : Nat → Nat) (hB : fB (szF s) (vaF s) (amF s) (liF s) (seF s) (s 5)) : KM l D (TY cI cS cL) yX6_allGet wsX6_allGet ({ frames := 4, cells := 0, slots := 0, locals := 91 } : Room) [(q0, .inl (cI, 118, .inl (ro 118 s)))] [.ref q0] (fun (v : Option Value) (_ : Unit) => v = some (.int (nI (tS s)))) (fun _ : Unit => [(q0, .inl (cI, 118, .inl (ro 118 s)))]) := by
  refine KM.of (cc := cX6_allGet) (maxL := 3) (ret := (some .int)) (by decide) rfl (Nat.le_of_ble_eq_true rfl) ?_
  intro p9 e9 s9 m9 ar9 be9 me9 c9 Q9 A9 ls C0 hN hnm hlk hK hA hret hP hD hS hl
  obtain ⟨hx, hb, hml, hown, hts⟩ := id C0
  have hl : lv_has ls 3 [(0, .ref q0)] := hl
  obtain ⟨H, hH0⟩ : ∃ H, H = s9.heap := ⟨_, rfl⟩
  obtain ⟨locs, hlc0⟩ : ∃ z : List Loc, z = [] := ⟨_, rfl⟩
  have hP : va_P D vwCl [(q0, .inl (cI, 118, .inl (ro 118 s)))] H := by rw [hH0]; exact hP
  have hD : va_D A9 [(q0, .inl (cI, 118, .inl (ro 118 s)))] := hD
  have hS : va_S A9 s9.heap H locs := by rw [hH0, hlc0]; exact hS
  suffices hgo : W p9 l e9 ({ frames := 4, cells := 0, slots := 0, locals := 91 } : Room) s9 m9 ar9 be9 me9 c9 H locs 0 0 Q9 (F0 m9 0 ls []) by rw [hH0, hlc0] at hgo; exact hgo
  clear hH0 hlc0
  refine lv_iconst (v := nI 0) hx hb dX6_allGet_0 (by decide +kernel) ?_
  refine lv_istore_n (lv' := [(1, .int (nI 0)), (0, .ref q0)]) hx hb dX6_allGet_1 rfl hl (by decide) rfl (fun ls hl => ?_)
  refine lv_iconst (v := nI 0) hx hb dX6_allGet_2 (by decide +kernel) ?_
  refine lv_istore_n (lv' := [(2, .int (nI 0)), (1, .int (nI 0)), (0, .ref q0)]) hx hb dX6_allGet_3 rfl hl (by decide) rfl (fun ls hl => ?_)
  have L4 : ∀ (fuel : Nat) (i : Nat) (u : Nat) (H : Heap) (locs : List Loc) (ls : Array Slot), (i ≤ 8) → (u = sumTo (gS s) i) → (8 - i < fuel) → va_P D vwCl [(q0, .inl (cI, 118, .inl (ro 118 s)))] H → va_D A9 [(q0, .inl (cI, 118, .inl (ro 118 s)))] → va_S A9 s9.heap H locs → lv_has ls 3 [(0, .ref q0), (1, .int (nI u)), (2, .int (nI i))] → W p9 l e9 ({ frames := 4, cells := 0, slots := 0, locals := 91 } : Room) s9 m9 ar9 be9 me9 c9 H locs 0 0 Q9 (F0 m9 4 ls []) := by
    intro fuel
    induction fuel with
    | zero => intro i u H locs ls hi hu hfu; exact absurd hfu (Nat.not_lt_zero _)
    | succ fuel ih4 =>
      intro i u H locs ls hi hu hfu hP hD hS hl
      refine lv_iload_n hx hb dX6_allGet_4 rfl (lv_at hl 2 rfl) ?_
      refine lv_bipush (v := nI 8) hx hb dX6_allGet_5 (by decide +kernel) ?_
      refine q_ige (tgt := 24) (by omega) (by omega) hx hb dX6_allGet_7 (by decide) (fun c_7 => ?_) (fun c_7 => ?_)
      ·
        refine lv_iload_n hx hb dX6_allGet_24 rfl (lv_at hl 1 rfl) ?_
        exact hret _ _ _ _ (some (.int (nI u))) () 25 ls (by decide) (by decide) (by exact rv (by rw [hu, show i = 8 by omega]; rfl)) hP hD hS (ret_i dX6_allGet_25)
      ·
        refine lv_iload_n hx hb dX6_allGet_10 rfl (lv_at hl 1 rfl) ?_
        refine lv_aload_n hx hb dX6_allGet_11 rfl (lv_at hl 0 rfl) ?_
        refine lv_iload_n hx hb dX6_allGet_12 rfl (lv_at hl 2 rfl) ?_
        refine KM.callS (As := [.ref q0, .int (nI i)]) (rest := [.int (nI u)]) C0 hN (k_X6_gets l D cI cS cL q0 s i  (by first | with_reducible assumption | omega) (by first | with_reducible assumption | omega)) (va_cwS 2 hts gX6_allGet_X6_gets rfl rfl rfl (by decide +kernel) ⟨Nat.le_of_ble_eq_true rfl, Nat.le_of_ble_eq_true rfl⟩) hK hP hD hS hA [0] rfl (by decide) (fun _ => rfl) rfl hl.1 rfl (Nat.le_of_ble_eq_true rfl) dX6_allGet_13 ⟨Nat.le_of_ble_eq_true rfl, Nat.le_of_ble_eq_true rfl⟩ (fun v9 u9 H locs hv hP hD hS => ?_)
        subst hv
        have hP : va_P D vwCl [(q0, .inl (cI, 118, .inl (ro 118 s)))] H := hP
        have hD : va_D A9 [(q0, .inl (cI, 118, .inl (ro 118 s)))] := hD
        refine W.eq (g2 := F0 m9 16 ls [.int (nI (gS s i)), .int (nI u)]) rfl ?_
        refine q_iadd hx hb dX6_allGet_16 ?_
        refine lv_istore_n (lv' := [(1, .int (nI (u + (gS s i)))), (0, .ref q0), (2, .int (nI i))]) hx hb dX6_allGet_17 rfl hl (by decide) rfl (fun ls hl => ?_)
        refine lv_iinc (v := (nI (i + 1))) (lv' := [(2, .int (nI (i + 1))), (1, .int (nI (u + (gS s i)))), (0, .ref q0)]) hx hb dX6_allGet_18 hl (k := 2) rfl (nI_add i 1) (by decide) rfl (fun ls hl => ?_)
        refine lv_goto (tgt := 4) hx hb dX6_allGet_21 (by decide) ?_
        exact ih4  (i + 1) (u + (gS s i)) _ _ ls (by first | with_reducible assumption | omega) (by rw [hu]; rfl) (by omega) hP hD hS (lv_sub hl [2, 1, 0] rfl)
  exact L4 (8 - 0 + 1) 0 0 _ _ ls (by first | with_reducible assumption | omega) (by rfl) (by omega) hP hD hS (lv_sub hl [2, 1, 0] rfl)

set_option maxHeartbeats 4000000 in
set_option maxRecDepth 100000 in
theorem k_X6_goesOut (l : Launch) (D : va_G) (cI cS cL : ClassId) (q0 : Nat) (s : Nat → Nat) (p : Nat) (h8 : s 8 ≤ 16) (hp : p < s 8) : KM l D (TY cI cS cL) yX6_goesOut wsX6_goesOut ({ frames := 0, cells := 0, slots := 0, locals := 0 } : Room) [(q0, .inl (cI, 118, .inl (ro 118 s)))] [.ref q0, .int (nI p)] (fun (v : Option Value) (_ : Unit) => v = none) (fun _ : Unit => [(q0, .inl (cI, 118, .inl (ro 118 (mDrop s p))))]) := by
  refine KM.of (cc := cX6_goesOut) (maxL := 3) (ret := none) (by decide) rfl (Nat.le_of_ble_eq_true rfl) ?_
  intro p9 e9 s9 m9 ar9 be9 me9 c9 Q9 A9 ls C0 hN hnm hlk hK hA hret hP hD hS hl
  obtain ⟨hx, hb, hml, hown, hts⟩ := id C0
  have hl : lv_has ls 3 [(0, .ref q0), (1, .int (nI p))] := hl
  obtain ⟨H, hH0⟩ : ∃ H, H = s9.heap := ⟨_, rfl⟩
  obtain ⟨locs, hlc0⟩ : ∃ z : List Loc, z = [] := ⟨_, rfl⟩
  have hP : va_P D vwCl [(q0, .inl (cI, 118, .inl (ro 118 s)))] H := by rw [hH0]; exact hP
  have hD : va_D A9 [(q0, .inl (cI, 118, .inl (ro 118 s)))] := hD
  have hS : va_S A9 s9.heap H locs := by rw [hH0, hlc0]; exact hS
  suffices hgo : W p9 l e9 ({ frames := 0, cells := 0, slots := 0, locals := 0 } : Room) s9 m9 ar9 be9 me9 c9 H locs 0 0 Q9 (F0 m9 0 ls []) by rw [hH0, hlc0] at hgo; exact hgo
  clear hH0 hlc0
  refine lv_aload_n hx hb dX6_goesOut_0 rfl (lv_at hl 0 rfl) ?_
  refine lv_bipush (v := nI 8) hx hb dX6_goesOut_1 (by decide +kernel) ?_
  refine lv_dup2_11 hx hb dX6_goesOut_3 rfl rfl ?_
  refine q_iald 0 0 (by omega) (by omega) hx hb hK hP rfl rfl dX6_goesOut_4 ?_
  refine lv_iconst (v := nI 1) hx hb dX6_goesOut_5 (by decide +kernel) ?_
  refine q_isub (by omega) hx hb dX6_goesOut_6 ?_
  refine q_iast 0 0 (by omega) (by omega) hx hb hK hP hD hS rfl rfl dX6_goesOut_7 (fun H locs hP hD hS => ?_)
  have hP : va_P D vwCl [(q0, .inl (cI, 118, .inl (ro 118 (upN s 8 ((s 8) - 1)))))] H := hP
  have hD : va_D A9 [(q0, .inl (cI, 118, .inl (ro 118 (upN s 8 ((s 8) - 1)))))] := hD
  have er_1 : ro 118 (upN s 8 ((s 8) - 1)) = ro 118 (gI s p (54 + 4 * p)) := by exact gI_0 s p
  rw [er_1] at hP hD
  refine lv_bipush (v := nI 54) hx hb dX6_goesOut_8 (by decide +kernel) ?_
  refine lv_iconst (v := nI 4) hx hb dX6_goesOut_10 (by decide +kernel) ?_
  refine lv_iload_n hx hb dX6_goesOut_11 rfl (lv_at hl 1 rfl) ?_
  refine q_imul hx hb dX6_goesOut_12 ?_
  refine q_iadd hx hb dX6_goesOut_13 ?_
  refine lv_istore_n (lv' := [(2, .int (nI (54 + (4 * p)))), (0, .ref q0), (1, .int (nI p))]) hx hb dX6_goesOut_14 rfl hl (by decide) rfl (fun ls hl => ?_)
  have L15 : ∀ (fuel : Nat) (x : Nat) (H : Heap) (locs : List Loc) (ls : Array Slot), (54 + 4 * p ≤ x) → (x ≤ 54 + 4 * (s 8 - 1)) → (54 + 4 * (s 8 - 1) - x < fuel) → va_P D vwCl [(q0, .inl (cI, 118, .inl (ro 118 (gI s p x))))] H → va_D A9 [(q0, .inl (cI, 118, .inl (ro 118 (gI s p x))))] → va_S A9 s9.heap H locs → lv_has ls 3 [(0, .ref q0), (1, .int (nI p)), (2, .int (nI x))] → W p9 l e9 ({ frames := 0, cells := 0, slots := 0, locals := 0 } : Room) s9 m9 ar9 be9 me9 c9 H locs 0 0 Q9 (F0 m9 15 ls []) := by
    intro fuel
    induction fuel with
    | zero => intro x H locs ls hx1 hx2 hfu; exact absurd hfu (Nat.not_lt_zero _)
    | succ fuel ih15 =>
      intro x H locs ls hx1 hx2 hfu hP hD hS hl
      refine lv_iload_n hx hb dX6_goesOut_15 rfl (lv_at hl 2 rfl) ?_
      refine lv_bipush (v := nI 54) hx hb dX6_goesOut_16 (by decide +kernel) ?_
      refine lv_iconst (v := nI 4) hx hb dX6_goesOut_18 (by decide +kernel) ?_
      refine lv_aload_n hx hb dX6_goesOut_19 rfl (lv_at hl 0 rfl) ?_
      refine lv_bipush (v := nI 8) hx hb dX6_goesOut_20 (by decide +kernel) ?_
      refine q_iald 0 0 (by omega) (by omega) hx hb hK hP rfl rfl dX6_goesOut_22 ?_
      refine q_topi (y := (nI (s 8 - 1))) (by rfl) ?_
      refine q_imul hx hb dX6_goesOut_23 ?_
      refine q_iadd hx hb dX6_goesOut_24 ?_
      refine q_ige (tgt := 42) (by omega) (by omega) hx hb dX6_goesOut_25 (by decide) (fun c_25 => ?_) (fun c_25 => ?_)
      ·
        have er_2 : ro 118 (gI s p x) = ro 118 (mDrop s p) := by rw [show x = 54 + 4 * (s 8 - 1) by omega]; rfl
        rw [er_2] at hP hD
        exact hret _ _ _ _ none () 42 ls (by decide) (by decide) (by rfl) hP hD hS (ret_v dX6_goesOut_42)
      ·
        refine lv_aload_n hx hb dX6_goesOut_28 rfl (lv_at hl 0 rfl) ?_
        refine lv_iload_n hx hb dX6_goesOut_29 rfl (lv_at hl 2 rfl) ?_
        refine lv_aload_n hx hb dX6_goesOut_30 rfl (lv_at hl 0 rfl) ?_
        refine lv_iload_n hx hb dX6_goesOut_31 rfl (lv_at hl 2 rfl) ?_
        refine lv_iconst (v := nI 4) hx hb dX6_goesOut_32 (by decide +kernel) ?_
        refine q_iadd hx hb dX6_goesOut_33 ?_
        refine q_iald 0 0 (by omega) (by omega) hx hb hK hP rfl rfl dX6_goesOut_34 ?_
        refine q_iast 0 0 (by omega) (by omega) hx hb hK hP hD hS rfl rfl dX6_goesOut_35 (fun H locs hP hD hS => ?_)
        have hP : va_P D vwCl [(q0, .inl (cI, 118, .inl (ro 118 (upN (gI s p x) x ((gI s p x) (x + 4))))))] H := hP
        have hD : va_D A9 [(q0, .inl (cI, 118, .inl (ro 118 (upN (gI s p x) x ((gI s p x) (x + 4))))))] := hD
        refine lv_iinc (v := (nI (x + 1))) (lv' := [(2, .int (nI (x + 1))), (0, .ref q0), (1, .int (nI p))]) hx hb dX6_goesOut_36 hl (k := 2) rfl (nI_add x 1) (by decide) rfl (fun ls hl => ?_)
        have er_3 : ro 118 (upN (gI s p x) x ((gI s p x) (x + 4))) = ro 118 (gI s p (x + 1)) := by exact gI_s hx1
        rw [er_3] at hP hD
        refine lv_goto (tgt := 15) hx hb dX6_goesOut_39 (by decide) ?_
        exact ih15  (x + 1) _ _ ls (by first | with_reducible assumption | omega) (by first | with_reducible assumption | omega) (by omega) hP hD hS (lv_sub hl [1, 2, 0] rfl)
  exact L15 (54 + 4 * (s 8 - 1) - (54 + (4 * p)) + 1) (54 + (4 * p)) _ _ ls (by first | with_reducible assumption | omega) (by first | with_reducible assumption | omega) (by omega) hP hD hS (lv_sub hl [1, 2, 0] rfl)

theorem in_X6_tick_X6 : ∀ w ∈ wsX60, w ∈ wsX6_tick := by decide +kernel
theorem fl_X6_tick_65 : Cond.fieldLink RX6 65 "FountainCuesModel" "high" "I" ∈ wsX6_tick := by decide +kernel
theorem fl_X6_tick_68 : Cond.fieldLink RX6 68 "FountainCuesModel" "burning" "I" ∈ wsX6_tick := by decide +kernel
set_option maxHeartbeats 4000000 in
set_option maxRecDepth 100000 in
theorem k_X6_tick (l : Launch) (D : va_G) (cI cS cL : ClassId) (T : Nat) (m0 : Nat) (m1 : Nat) (m2 : Nat) (m3 : Nat) (m4 : Nat) (m5 : Nat) (k : Nat) (n : Nat) (th : Nat) (ax : Nat) (fa : Nat) (vl : Nat) (tn : Nat) (hg : Nat) (bg : Nat) (q0 : Nat) (s : Nat → Nat) (hI : sI T s) (hT : T ≤ 1001000) : KM l D (TY cI cS cL) yX6_tick wsX6_tick ({ frames := 5, cells := 0, slots := 0, locals := 113 } : Room) [(m0, .inr (6, [.ref m1, .ref m2, .ref m3, .int (nI k), .ref m4, .int (nI n), .int (nI th), .int (nI ax), .int (nI fa), .int (nI vl), .ref m5, .int (nI tn), .int (nI hg), .int (nI bg)])), (q0, .inl (cI, 118, .inl (ro 118 s)))] [.ref m0, .ref q0] (fun (v : Option Value) (_ : Unit) => v = none) (fun _ : Unit => [(m0, .inr (6, [.ref m1, .ref m2, .ref m3, .int (nI k), .ref m4, .int (nI n), .int (nI th), .int (nI ax), .int (nI fa), .int (nI vl), .ref m5, .int (nI tn), .int (nI (hiS (mMove (mCues 16 s)))), .int (nI (brS (mMove (mCues 16 s))))])), (q0, .inl (cI, 118, .inl (ro 118 (mTick s))))]) := by
  refine KM.of (cc := cX6_tick) (maxL := 6) (ret := none) (by decide) rfl (Nat.le_of_ble_eq_true rfl) ?_
  intro p9 e9 s9 m9 ar9 be9 me9 c9 Q9 A9 ls C0 hN hnm hlk hK hA hret hP hD hS hl
  obtain ⟨hx, hb, hml, hown, hts⟩ := id C0
  have hl : lv_has ls 6 [(0, .ref m0), (1, .ref q0)] := hl
  obtain ⟨H, hH0⟩ : ∃ H, H = s9.heap := ⟨_, rfl⟩
  obtain ⟨locs, hlc0⟩ : ∃ z : List Loc, z = [] := ⟨_, rfl⟩
  have hP : va_P D vwCl [(m0, .inr (6, [.ref m1, .ref m2, .ref m3, .int (nI k), .ref m4, .int (nI n), .int (nI th), .int (nI ax), .int (nI fa), .int (nI vl), .ref m5, .int (nI tn), .int (nI hg), .int (nI bg)])), (q0, .inl (cI, 118, .inl (ro 118 s)))] H := by rw [hH0]; exact hP
  have hD : va_D A9 [(m0, .inr (6, [.ref m1, .ref m2, .ref m3, .int (nI k), .ref m4, .int (nI n), .int (nI th), .int (nI ax), .int (nI fa), .int (nI vl), .ref m5, .int (nI tn), .int (nI hg), .int (nI bg)])), (q0, .inl (cI, 118, .inl (ro 118 s)))] := hD
  have hS : va_S A9 s9.heap H locs := by rw [hH0, hlc0]; exact hS
  suffices hgo : W p9 l e9 ({ frames := 5, cells := 0, slots := 0, locals := 113 } : Room) s9 m9 ar9 be9 me9 c9 H locs 0 0 Q9 (F0 m9 0 ls []) by rw [hH0, hlc0] at hgo; exact hgo
  clear hH0 hlc0
  obtain ⟨hI1, hI2, hI3, hI4, hI5, hI6, hI7, hI8, hI9, hI10, hI11⟩ := id hI
  have hIc := sI_cues 16 hI
  have hIu := sI_move hIc
  have ht9 := tS_le hIu
  have hl9 := loss_le hIu
  obtain ⟨⟨hc1, hc2, hc3, hc4, hc5, hc6, hc7, hc8⟩, -⟩ := id hIc
  obtain ⟨hIu1, hIu2, hIu3, hIu4, hIu5, hIu6, hIu7, hIu8, hIu9, hIu10, hIu11⟩ := id hIu
  have hse1 : (mMove (mCues 16 s)) 1 ≤ 50 := hIu1.2.2.2.2.2.1
  have hw5 : (mMove (mCues 16 s)) 5 ≤ 20 := hIu1.2.2.2.2.2.2.2
  have hm1 : tS (mMove (mCues 16 s)) * (mMove (mCues 16 s)) 1 ≤ 1600 * 50 := Nat.mul_le_mul ht9 hse1
  have hm2 : tS (mMove (mCues 16 s)) * (mMove (mCues 16 s)) 5 ≤ 1600 * 20 := Nat.mul_le_mul ht9 hw5
  have hc72 : (mCues 16 s) 2 ≤ 10 := hc7.2
  have L0 : ∀ (fuel : Nat) (t : Nat → Nat) (i0 : Nat) (H : Heap) (locs : List Loc) (ls : Array Slot), (t 8 + i0 ≤ 16) → (mCues 16 s = mCues (16 - i0) t) → (sI T t) → (t 8 < fuel) → va_P D vwCl [(m0, .inr (6, [.ref m1, .ref m2, .ref m3, .int (nI k), .ref m4, .int (nI n), .int (nI th), .int (nI ax), .int (nI fa), .int (nI vl), .ref m5, .int (nI tn), .int (nI hg), .int (nI bg)])), (q0, .inl (cI, 118, .inl (ro 118 t)))] H → va_D A9 [(m0, .inr (6, [.ref m1, .ref m2, .ref m3, .int (nI k), .ref m4, .int (nI n), .int (nI th), .int (nI ax), .int (nI fa), .int (nI vl), .ref m5, .int (nI tn), .int (nI hg), .int (nI bg)])), (q0, .inl (cI, 118, .inl (ro 118 t)))] → va_S A9 s9.heap H locs → lv_has ls 6 [(0, .ref m0), (1, .ref q0)] → W p9 l e9 ({ frames := 5, cells := 0, slots := 0, locals := 113 } : Room) s9 m9 ar9 be9 me9 c9 H locs 0 0 Q9 (F0 m9 0 ls []) := by
    intro fuel
    induction fuel with
    | zero => intro t i0 H locs ls hi0 ht hIt hfu; exact absurd hfu (Nat.not_lt_zero _)
    | succ fuel ih0 =>
      intro t i0 H locs ls hi0 ht hIt hfu hP hD hS hl
      obtain ⟨hJ1, hJ2, hJ3, hJ4, hJ5, hJ6, hJ7, hJ8, hJ9, hJ10, hJ11⟩ := id hIt
      have e88 : mCue1 t 8 = t 8 - 1 := if_pos rfl
      refine lv_aload_n hx hb dX6_tick_0 rfl (lv_at hl 1 rfl) ?_
      refine lv_bipush (v := nI 8) hx hb dX6_tick_1 (by decide +kernel) ?_
      refine q_iald 1 0 (by omega) (by omega) hx hb hK hP rfl rfl dX6_tick_3 ?_
      refine q_fle (tgt := 57) (by omega) hx hb dX6_tick_4 (by decide) (fun c_4 => ?_) (fun c_4 => ?_)
      ·
        have er_1 : ro 118 t = ro 118 (mvI (mCues 16 s) 0) := by rw [ht, mCues_end (by first | (left; omega) | (right; omega) | (right; exact fun z => c_17 z.2))]; exact mvI_0 t
        rw [er_1] at hP hD
        refine lv_iconst (v := nI 0) hx hb dX6_tick_57 (by decide +kernel) ?_
        refine lv_istore_n (lv' := [(2, .int (nI 0)), (0, .ref m0), (1, .ref q0)]) hx hb dX6_tick_58 rfl hl (by decide) rfl (fun ls hl => ?_)
        have L59 : ∀ (fuel : Nat) (i : Nat) (H : Heap) (locs : List Loc) (ls : Array Slot), (i ≤ 8) → (8 - i < fuel) → va_P D vwCl [(m0, .inr (6, [.ref m1, .ref m2, .ref m3, .int (nI k), .ref m4, .int (nI n), .int (nI th), .int (nI ax), .int (nI fa), .int (nI vl), .ref m5, .int (nI tn), .int (nI hg), .int (nI bg)])), (q0, .inl (cI, 118, .inl (ro 118 (mvI (mCues 16 s) i))))] H → va_D A9 [(m0, .inr (6, [.ref m1, .ref m2, .ref m3, .int (nI k), .ref m4, .int (nI n), .int (nI th), .int (nI ax), .int (nI fa), .int (nI vl), .ref m5, .int (nI tn), .int (nI hg), .int (nI bg)])), (q0, .inl (cI, 118, .inl (ro 118 (mvI (mCues 16 s) i))))] → va_S A9 s9.heap H locs → lv_has ls 6 [(0, .ref m0), (1, .ref q0), (2, .int (nI i))] → W p9 l e9 ({ frames := 5, cells := 0, slots := 0, locals := 113 } : Room) s9 m9 ar9 be9 me9 c9 H locs 0 0 Q9 (F0 m9 59 ls []) := by
          intro fuel
          induction fuel with
          | zero => intro i H locs ls hi hfu; exact absurd hfu (Nat.not_lt_zero _)
          | succ fuel ih59 =>
            intro i H locs ls hi hfu hP hD hS hl
            refine lv_iload_n hx hb dX6_tick_59 rfl (lv_at hl 2 rfl) ?_
            refine lv_bipush (v := nI 8) hx hb dX6_tick_60 (by decide +kernel) ?_
            refine q_ige (tgt := 127) (by omega) (by omega) hx hb dX6_tick_62 (by decide) (fun c_62 => ?_) (fun c_62 => ?_)
            ·
              have er_2 : ro 118 (mvI (mCues 16 s) i) = ro 118 (mMove (mCues 16 s)) := by exact mvI_8 (mCues 16 s) (by omega)
              rw [er_2] at hP hD
              refine lv_aload_n hx hb dX6_tick_127 rfl (lv_at hl 0 rfl) ?_
              refine lv_iconst (v := nI 0) hx hb dX6_tick_128 (by decide +kernel) ?_
              refine va_put (D := D) (ci := 6) (v := .int (nI 0)) (ty := tyX6 12) (C := RX6) (T := TX6) (N := 14) hx hb hts in_X6_tick_X6 tyX6 tyX6_ok nmX6 hown hK hP hD hS 0 rfl rfl 12 (by decide) (hts _ fl_X6_tick_65) (fun _ h9 => h9) rfl (by decide +kernel) rfl rfl (Nat.le_of_ble_eq_true rfl) dX6_tick_129 (fun H locs hP hD hS => ?_)
              have hP : va_P D vwCl [(m0, .inr (6, [.ref m1, .ref m2, .ref m3, .int (nI k), .ref m4, .int (nI n), .int (nI th), .int (nI ax), .int (nI fa), .int (nI vl), .ref m5, .int (nI tn), .int (nI 0), .int (nI bg)])), (q0, .inl (cI, 118, .inl (ro 118 (mMove (mCues 16 s)))))] H := hP
              have hD : va_D A9 [(m0, .inr (6, [.ref m1, .ref m2, .ref m3, .int (nI k), .ref m4, .int (nI n), .int (nI th), .int (nI ax), .int (nI fa), .int (nI vl), .ref m5, .int (nI tn), .int (nI 0), .int (nI bg)])), (q0, .inl (cI, 118, .inl (ro 118 (mMove (mCues 16 s)))))] := hD
              refine lv_aload_n hx hb dX6_tick_132 rfl (lv_at hl 0 rfl) ?_
              refine lv_iconst (v := nI 0) hx hb dX6_tick_133 (by decide +kernel) ?_
              refine va_put (D := D) (ci := 6) (v := .int (nI 0)) (ty := tyX6 13) (C := RX6) (T := TX6) (N := 14) hx hb hts in_X6_tick_X6 tyX6 tyX6_ok nmX6 hown hK hP hD hS 0 rfl rfl 13 (by decide) (hts _ fl_X6_tick_68) (fun _ h9 => h9) rfl (by decide +kernel) rfl rfl (Nat.le_of_ble_eq_true rfl) dX6_tick_134 (fun H locs hP hD hS => ?_)
              have hP : va_P D vwCl [(m0, .inr (6, [.ref m1, .ref m2, .ref m3, .int (nI k), .ref m4, .int (nI n), .int (nI th), .int (nI ax), .int (nI fa), .int (nI vl), .ref m5, .int (nI tn), .int (nI 0), .int (nI 0)])), (q0, .inl (cI, 118, .inl (ro 118 (mMove (mCues 16 s)))))] H := hP
              have hD : va_D A9 [(m0, .inr (6, [.ref m1, .ref m2, .ref m3, .int (nI k), .ref m4, .int (nI n), .int (nI th), .int (nI ax), .int (nI fa), .int (nI vl), .ref m5, .int (nI tn), .int (nI 0), .int (nI 0)])), (q0, .inl (cI, 118, .inl (ro 118 (mMove (mCues 16 s)))))] := hD
              refine lv_aload_n hx hb dX6_tick_137 rfl (lv_at hl 1 rfl) ?_
              refine KM.callS (As := [.ref q0]) (rest := []) C0 hN (k_X6_allGet l D cI cS cL q0 (mMove (mCues 16 s))  (by exact hIu1)) (va_cwS 1 hts gX6_tick_X6_allGet rfl rfl rfl (by decide +kernel) ⟨Nat.le_of_ble_eq_true rfl, Nat.le_of_ble_eq_true rfl⟩) hK hP hD hS hA [1] rfl (by decide) (fun _ => rfl) rfl hl.1 rfl (Nat.le_of_ble_eq_true rfl) dX6_tick_138 ⟨Nat.le_of_ble_eq_true rfl, Nat.le_of_ble_eq_true rfl⟩ (fun v9 u9 H locs hv hP hD hS => ?_)
              subst hv
              have hP : va_P D vwCl [(m0, .inr (6, [.ref m1, .ref m2, .ref m3, .int (nI k), .ref m4, .int (nI n), .int (nI th), .int (nI ax), .int (nI fa), .int (nI vl), .ref m5, .int (nI tn), .int (nI 0), .int (nI 0)])), (q0, .inl (cI, 118, .inl (ro 118 (mMove (mCues 16 s)))))] H := hP
              have hD : va_D A9 [(m0, .inr (6, [.ref m1, .ref m2, .ref m3, .int (nI k), .ref m4, .int (nI n), .int (nI th), .int (nI ax), .int (nI fa), .int (nI vl), .ref m5, .int (nI tn), .int (nI 0), .int (nI 0)])), (q0, .inl (cI, 118, .inl (ro 118 (mMove (mCues 16 s)))))] := hD
              refine W.eq (g2 := F0 m9 141 ls [.int (nI (tS (mMove (mCues 16 s))))]) rfl ?_
              refine lv_istore_n (lv' := [(2, .int (nI (tS (mMove (mCues 16 s))))), (0, .ref m0), (1, .ref q0)]) hx hb dX6_tick_141 rfl hl (by decide) rfl (fun ls hl => ?_)
              refine lv_aload_n hx hb dX6_tick_142 rfl (lv_at hl 2 rfl) ?_
              refine lv_bipush (v := nI 6) hx hb dX6_tick_143 (by decide +kernel) ?_
              refine q_iald 1 0 (by omega) (by omega) hx hb hK hP rfl rfl dX6_tick_145 ?_
              refine lv_iload_n hx hb dX6_tick_146 rfl (lv_at hl 0 rfl) ?_
              refine q_ige (tgt := 161) (by omega) (by omega) hx hb dX6_tick_147 (by decide) (fun c_147 => ?_) (fun c_147 => ?_)
              ·
                refine lv_iload_n hx hb dX6_tick_161 rfl (lv_at hl 0 rfl) ?_
                refine lv_aload_n hx hb dX6_tick_162 rfl (lv_at hl 2 rfl) ?_
                refine lv_iconst (v := nI 1) hx hb dX6_tick_163 (by decide +kernel) ?_
                refine q_iald 1 0 (by omega) (by omega) hx hb hK hP rfl rfl dX6_tick_164 ?_
                refine q_imul hx hb dX6_tick_165 ?_
                refine lv_bipush (v := nI 100) hx hb dX6_tick_166 (by decide +kernel) ?_
                refine q_idiv (by omega) (by omega) (by omega) hx hb dX6_tick_168 ?_
                refine lv_iload_n hx hb dX6_tick_169 rfl (lv_at hl 0 rfl) ?_
                refine lv_aload_n hx hb dX6_tick_170 rfl (lv_at hl 2 rfl) ?_
                refine lv_iconst (v := nI 5) hx hb dX6_tick_171 (by decide +kernel) ?_
                refine q_iald 1 0 (by omega) (by omega) hx hb hK hP rfl rfl dX6_tick_172 ?_
                refine q_imul hx hb dX6_tick_173 ?_
                refine lv_bipush (v := nI 100) hx hb dX6_tick_174 (by decide +kernel) ?_
                refine q_idiv (by omega) (by omega) (by omega) hx hb dX6_tick_176 ?_
                refine q_iadd hx hb dX6_tick_177 ?_
                refine q_topi (y := (nI (lossS (mMove (mCues 16 s))))) (by rfl) ?_
                refine lv_istore_n (lv' := [(3, .int (nI (lossS (mMove (mCues 16 s))))), (2, .int (nI (tS (mMove (mCues 16 s))))), (0, .ref m0), (1, .ref q0)]) hx hb dX6_tick_178 rfl hl (by decide) rfl (fun ls hl => ?_)
                refine lv_aload_n hx hb dX6_tick_179 rfl (lv_at hl 3 rfl) ?_
                refine lv_bipush (v := nI 6) hx hb dX6_tick_180 (by decide +kernel) ?_
                refine lv_dup2_11 hx hb dX6_tick_182 rfl rfl ?_
                refine q_iald 1 0 (by omega) (by omega) hx hb hK hP rfl rfl dX6_tick_183 ?_
                refine lv_iload_n hx hb dX6_tick_184 rfl (lv_at hl 0 rfl) ?_
                refine q_isub (by omega) hx hb dX6_tick_185 ?_
                refine q_iast 1 0 (by omega) (by omega) hx hb hK hP hD hS rfl rfl dX6_tick_186 (fun H locs hP hD hS => ?_)
                have hP : va_P D vwCl [(m0, .inr (6, [.ref m1, .ref m2, .ref m3, .int (nI k), .ref m4, .int (nI n), .int (nI th), .int (nI ax), .int (nI fa), .int (nI vl), .ref m5, .int (nI tn), .int (nI 0), .int (nI 0)])), (q0, .inl (cI, 118, .inl (ro 118 (upN (mMove (mCues 16 s)) 6 (((mMove (mCues 16 s)) 6) - (lossS (mMove (mCues 16 s))))))))] H := hP
                have hD : va_D A9 [(m0, .inr (6, [.ref m1, .ref m2, .ref m3, .int (nI k), .ref m4, .int (nI n), .int (nI th), .int (nI ax), .int (nI fa), .int (nI vl), .ref m5, .int (nI tn), .int (nI 0), .int (nI 0)])), (q0, .inl (cI, 118, .inl (ro 118 (upN (mMove (mCues 16 s)) 6 (((mMove (mCues 16 s)) 6) - (lossS (mMove (mCues 16 s))))))))] := hD
                refine lv_aload_n hx hb dX6_tick_187 rfl (lv_at hl 3 rfl) ?_
                refine lv_bipush (v := nI 10) hx hb dX6_tick_188 (by decide +kernel) ?_
                refine lv_dup2_11 hx hb dX6_tick_190 rfl rfl ?_
                refine q_iald 1 0 (by omega) (by omega) hx hb hK hP rfl rfl dX6_tick_191 ?_
                refine q_topi (y := (nI ((mMove (mCues 16 s)) 10))) (by rfl) ?_
                refine lv_iload_n hx hb dX6_tick_192 rfl (lv_at hl 0 rfl) ?_
                refine q_iadd hx hb dX6_tick_193 ?_
                refine q_iast 1 0 (by omega) (by omega) hx hb hK hP hD hS rfl rfl dX6_tick_194 (fun H locs hP hD hS => ?_)
                have hP : va_P D vwCl [(m0, .inr (6, [.ref m1, .ref m2, .ref m3, .int (nI k), .ref m4, .int (nI n), .int (nI th), .int (nI ax), .int (nI fa), .int (nI vl), .ref m5, .int (nI tn), .int (nI 0), .int (nI 0)])), (q0, .inl (cI, 118, .inl (ro 118 (upN (upN (mMove (mCues 16 s)) 6 (((mMove (mCues 16 s)) 6) - (lossS (mMove (mCues 16 s))))) 10 (((mMove (mCues 16 s)) 10) + (lossS (mMove (mCues 16 s))))))))] H := hP
                have hD : va_D A9 [(m0, .inr (6, [.ref m1, .ref m2, .ref m3, .int (nI k), .ref m4, .int (nI n), .int (nI th), .int (nI ax), .int (nI fa), .int (nI vl), .ref m5, .int (nI tn), .int (nI 0), .int (nI 0)])), (q0, .inl (cI, 118, .inl (ro 118 (upN (upN (mMove (mCues 16 s)) 6 (((mMove (mCues 16 s)) 6) - (lossS (mMove (mCues 16 s))))) 10 (((mMove (mCues 16 s)) 10) + (lossS (mMove (mCues 16 s))))))))] := hD
                have er_3 : ro 118 (upN (upN (mMove (mCues 16 s)) 6 (((mMove (mCues 16 s)) 6) - (lossS (mMove (mCues 16 s))))) 10 (((mMove (mCues 16 s)) 10) + (lossS (mMove (mCues 16 s))))) = ro 118 (jtI (mMove (mCues 16 s)) 0) := by exact jtI_0 (mMove (mCues 16 s))
                rw [er_3] at hP hD
                refine lv_iconst (v := nI 0) hx hb dX6_tick_195 (by decide +kernel) ?_
                refine lv_istore (lv' := [(4, .int (nI 0)), (3, .int (nI (lossS (mMove (mCues 16 s))))), (2, .int (nI (tS (mMove (mCues 16 s))))), (0, .ref m0), (1, .ref q0)]) hx hb dX6_tick_196 hl (by decide) rfl (fun ls hl => ?_)
                have L198 : ∀ (fuel : Nat) (i : Nat) (h2 : Nat) (b2 : Nat) (H : Heap) (locs : List Loc) (ls : Array Slot), (i ≤ 8) → (h2 = maxTo (heS (mMove (mCues 16 s))) i) → (b2 = brT (mMove (mCues 16 s)) i) → (8 - i < fuel) → va_P D vwCl [(m0, .inr (6, [.ref m1, .ref m2, .ref m3, .int (nI k), .ref m4, .int (nI n), .int (nI th), .int (nI ax), .int (nI fa), .int (nI vl), .ref m5, .int (nI tn), .int (nI h2), .int (nI b2)])), (q0, .inl (cI, 118, .inl (ro 118 (jtI (mMove (mCues 16 s)) i))))] H → va_D A9 [(m0, .inr (6, [.ref m1, .ref m2, .ref m3, .int (nI k), .ref m4, .int (nI n), .int (nI th), .int (nI ax), .int (nI fa), .int (nI vl), .ref m5, .int (nI tn), .int (nI h2), .int (nI b2)])), (q0, .inl (cI, 118, .inl (ro 118 (jtI (mMove (mCues 16 s)) i))))] → va_S A9 s9.heap H locs → lv_has ls 6 [(0, .ref m0), (1, .ref q0), (4, .int (nI i))] → W p9 l e9 ({ frames := 5, cells := 0, slots := 0, locals := 113 } : Room) s9 m9 ar9 be9 me9 c9 H locs 0 0 Q9 (F0 m9 198 ls []) := by
                  intro fuel
                  induction fuel with
                  | zero => intro i h2 b2 H locs ls hi2 hh hb2 hfu; exact absurd hfu (Nat.not_lt_zero _)
                  | succ fuel ih198 =>
                    intro i h2 b2 H locs ls hi2 hh hb2 hfu hP hD hS hl
                    have hh9 : h2 ≤ 10 := by rw [hh]; exact maxTo_le i (fun z hz => heS_le hIu (by omega))
                    refine lv_iload hx hb dX6_tick_198 (lv_at hl 2 rfl) ?_
                    refine lv_bipush (v := nI 8) hx hb dX6_tick_200 (by decide +kernel) ?_
                    refine q_ige (tgt := 294) (by omega) (by omega) hx hb dX6_tick_202 (by decide) (fun c_202 => ?_) (fun c_202 => ?_)
                    ·
                      refine lv_aload_n hx hb dX6_tick_294 rfl (lv_at hl 1 rfl) ?_
                      refine lv_bipush (v := nI 13) hx hb dX6_tick_295 (by decide +kernel) ?_
                      refine lv_aload_n hx hb dX6_tick_297 rfl (lv_at hl 0 rfl) ?_
                      refine va_get (D := D) (ci := 6) (v := .int (nI h2)) (C := RX6) (T := TX6) (N := 14) hx hb hts in_X6_tick_X6 hown hK hP 0 rfl rfl 12 (by decide) (hts _ fl_X6_tick_65) (fun _ h9 => h9) rfl dX6_tick_298 ?_
                      refine lv_aload_n hx hb dX6_tick_301 rfl (lv_at hl 1 rfl) ?_
                      refine lv_bipush (v := nI 13) hx hb dX6_tick_302 (by decide +kernel) ?_
                      refine q_iald 1 0 (by omega) (by omega) hx hb hK hP rfl rfl dX6_tick_304 ?_
                      refine q_topi (y := (nI ((mMove (mCues 16 s)) 13))) (by first | rfl | exact congrArg nI (jtI_n (mMove (mCues 16 s)) (by omega))) ?_
                      refine q_ile (tgt := 315) (by omega) (by omega) hx hb dX6_tick_305 (by decide) (fun c_305 => ?_) (fun c_305 => ?_)
                      ·
                        refine lv_aload_n hx hb dX6_tick_315 rfl (lv_at hl 1 rfl) ?_
                        refine lv_bipush (v := nI 13) hx hb dX6_tick_316 (by decide +kernel) ?_
                        refine q_iald 1 0 (by omega) (by omega) hx hb hK hP rfl rfl dX6_tick_318 ?_
                        refine q_topi (y := (nI ((mMove (mCues 16 s)) 13))) (by first | rfl | exact congrArg nI (jtI_n (mMove (mCues 16 s)) (by omega))) ?_
                        refine q_iast 1 0 (by omega) (by omega) hx hb hK hP hD hS rfl rfl dX6_tick_319 (fun H locs hP hD hS => ?_)
                        have hP : va_P D vwCl [(m0, .inr (6, [.ref m1, .ref m2, .ref m3, .int (nI k), .ref m4, .int (nI n), .int (nI th), .int (nI ax), .int (nI fa), .int (nI vl), .ref m5, .int (nI tn), .int (nI h2), .int (nI b2)])), (q0, .inl (cI, 118, .inl (ro 118 (upN (jtI (mMove (mCues 16 s)) i) 13 ((mMove (mCues 16 s)) 13)))))] H := hP
                        have hD : va_D A9 [(m0, .inr (6, [.ref m1, .ref m2, .ref m3, .int (nI k), .ref m4, .int (nI n), .int (nI th), .int (nI ax), .int (nI fa), .int (nI vl), .ref m5, .int (nI tn), .int (nI h2), .int (nI b2)])), (q0, .inl (cI, 118, .inl (ro 118 (upN (jtI (mMove (mCues 16 s)) i) 13 ((mMove (mCues 16 s)) 13)))))] := hD
                        refine lv_aload_n hx hb dX6_tick_320 rfl (lv_at hl 1 rfl) ?_
                        refine lv_bipush (v := nI 7) hx hb dX6_tick_321 (by decide +kernel) ?_
                        refine lv_dup2_11 hx hb dX6_tick_323 rfl rfl ?_
                        refine q_iald 1 0 (by omega) (by omega) hx hb hK hP rfl rfl dX6_tick_324 ?_
                        refine lv_iconst (v := nI 1) hx hb dX6_tick_325 (by decide +kernel) ?_
                        refine q_iadd hx hb dX6_tick_326 ?_
                        refine q_iast 1 0 (by omega) (by omega) hx hb hK hP hD hS rfl rfl dX6_tick_327 (fun H locs hP hD hS => ?_)
                        have hP : va_P D vwCl [(m0, .inr (6, [.ref m1, .ref m2, .ref m3, .int (nI k), .ref m4, .int (nI n), .int (nI th), .int (nI ax), .int (nI fa), .int (nI vl), .ref m5, .int (nI tn), .int (nI h2), .int (nI b2)])), (q0, .inl (cI, 118, .inl (ro 118 (upN (upN (jtI (mMove (mCues 16 s)) i) 13 ((mMove (mCues 16 s)) 13)) 7 (((upN (jtI (mMove (mCues 16 s)) i) 13 ((mMove (mCues 16 s)) 13)) 7) + 1)))))] H := hP
                        have hD : va_D A9 [(m0, .inr (6, [.ref m1, .ref m2, .ref m3, .int (nI k), .ref m4, .int (nI n), .int (nI th), .int (nI ax), .int (nI fa), .int (nI vl), .ref m5, .int (nI tn), .int (nI h2), .int (nI b2)])), (q0, .inl (cI, 118, .inl (ro 118 (upN (upN (jtI (mMove (mCues 16 s)) i) 13 ((mMove (mCues 16 s)) 13)) 7 (((upN (jtI (mMove (mCues 16 s)) i) 13 ((mMove (mCues 16 s)) 13)) 7) + 1)))))] := hD
                        have er_4 : ro 118 (upN (upN (jtI (mMove (mCues 16 s)) i) 13 ((mMove (mCues 16 s)) 13)) 7 (((upN (jtI (mMove (mCues 16 s)) i) 13 ((mMove (mCues 16 s)) 13)) 7) + 1)) = ro 118 (mTick s) := by first | exact dry_row c_147 rfl rfl | exact dry_row c_147 (by omega) rfl | exact wet_row (by omega) (by omega) (by rw [show i = 8 by omega] at hh; omega) (congrArg (fun z => z + 1) (jtI_n (i := i) (mMove (mCues 16 s)) (x := 7) (by omega)))
                        rw [er_4] at hP hD
                        first | rw [show hiS (mMove (mCues 16 s)) = 0 from if_pos c_147, show brS (mMove (mCues 16 s)) = 0 from if_pos c_147] at hret | (rw [show i = 8 by omega] at hh hb2; rw [show hiS (mMove (mCues 16 s)) = h2 from (if_neg (by omega)).trans hh.symm, show brS (mMove (mCues 16 s)) = b2 from (if_neg (by omega)).trans hb2.symm] at hret)
                        exact hret _ _ _ _ none () 328 ls (by decide) (by decide) (by rfl) hP hD hS (ret_v dX6_tick_328)
                      ·
                        refine lv_aload_n hx hb dX6_tick_308 rfl (lv_at hl 0 rfl) ?_
                        refine va_get (D := D) (ci := 6) (v := .int (nI h2)) (C := RX6) (T := TX6) (N := 14) hx hb hts in_X6_tick_X6 hown hK hP 0 rfl rfl 12 (by decide) (hts _ fl_X6_tick_65) (fun _ h9 => h9) rfl dX6_tick_309 ?_
                        refine lv_goto (tgt := 319) hx hb dX6_tick_312 (by decide) ?_
                        refine q_iast 1 0 (by omega) (by omega) hx hb hK hP hD hS rfl rfl dX6_tick_319 (fun H locs hP hD hS => ?_)
                        have hP : va_P D vwCl [(m0, .inr (6, [.ref m1, .ref m2, .ref m3, .int (nI k), .ref m4, .int (nI n), .int (nI th), .int (nI ax), .int (nI fa), .int (nI vl), .ref m5, .int (nI tn), .int (nI h2), .int (nI b2)])), (q0, .inl (cI, 118, .inl (ro 118 (upN (jtI (mMove (mCues 16 s)) i) 13 h2))))] H := hP
                        have hD : va_D A9 [(m0, .inr (6, [.ref m1, .ref m2, .ref m3, .int (nI k), .ref m4, .int (nI n), .int (nI th), .int (nI ax), .int (nI fa), .int (nI vl), .ref m5, .int (nI tn), .int (nI h2), .int (nI b2)])), (q0, .inl (cI, 118, .inl (ro 118 (upN (jtI (mMove (mCues 16 s)) i) 13 h2))))] := hD
                        refine lv_aload_n hx hb dX6_tick_320 rfl (lv_at hl 1 rfl) ?_
                        refine lv_bipush (v := nI 7) hx hb dX6_tick_321 (by decide +kernel) ?_
                        refine lv_dup2_11 hx hb dX6_tick_323 rfl rfl ?_
                        refine q_iald 1 0 (by omega) (by omega) hx hb hK hP rfl rfl dX6_tick_324 ?_
                        refine lv_iconst (v := nI 1) hx hb dX6_tick_325 (by decide +kernel) ?_
                        refine q_iadd hx hb dX6_tick_326 ?_
                        refine q_iast 1 0 (by omega) (by omega) hx hb hK hP hD hS rfl rfl dX6_tick_327 (fun H locs hP hD hS => ?_)
                        have hP : va_P D vwCl [(m0, .inr (6, [.ref m1, .ref m2, .ref m3, .int (nI k), .ref m4, .int (nI n), .int (nI th), .int (nI ax), .int (nI fa), .int (nI vl), .ref m5, .int (nI tn), .int (nI h2), .int (nI b2)])), (q0, .inl (cI, 118, .inl (ro 118 (upN (upN (jtI (mMove (mCues 16 s)) i) 13 h2) 7 (((upN (jtI (mMove (mCues 16 s)) i) 13 h2) 7) + 1)))))] H := hP
                        have hD : va_D A9 [(m0, .inr (6, [.ref m1, .ref m2, .ref m3, .int (nI k), .ref m4, .int (nI n), .int (nI th), .int (nI ax), .int (nI fa), .int (nI vl), .ref m5, .int (nI tn), .int (nI h2), .int (nI b2)])), (q0, .inl (cI, 118, .inl (ro 118 (upN (upN (jtI (mMove (mCues 16 s)) i) 13 h2) 7 (((upN (jtI (mMove (mCues 16 s)) i) 13 h2) 7) + 1)))))] := hD
                        have er_5 : ro 118 (upN (upN (jtI (mMove (mCues 16 s)) i) 13 h2) 7 (((upN (jtI (mMove (mCues 16 s)) i) 13 h2) 7) + 1)) = ro 118 (mTick s) := by first | exact dry_row c_147 rfl rfl | exact dry_row c_147 (by omega) rfl | exact wet_row (by omega) (by omega) (by rw [show i = 8 by omega] at hh; omega) (congrArg (fun z => z + 1) (jtI_n (i := i) (mMove (mCues 16 s)) (x := 7) (by omega)))
                        rw [er_5] at hP hD
                        first | rw [show hiS (mMove (mCues 16 s)) = 0 from if_pos c_147, show brS (mMove (mCues 16 s)) = 0 from if_pos c_147] at hret | (rw [show i = 8 by omega] at hh hb2; rw [show hiS (mMove (mCues 16 s)) = h2 from (if_neg (by omega)).trans hh.symm, show brS (mMove (mCues 16 s)) = b2 from (if_neg (by omega)).trans hb2.symm] at hret)
                        exact hret _ _ _ _ none () 328 ls (by decide) (by decide) (by rfl) hP hD hS (ret_v dX6_tick_328)
                    ·
                      refine lv_aload_n hx hb dX6_tick_205 rfl (lv_at hl 1 rfl) ?_
                      refine lv_iload hx hb dX6_tick_206 (lv_at hl 2 rfl) ?_
                      refine KM.callS (As := [.ref q0, .int (nI i)]) (rest := []) C0 hN (k_X6_height l D cI cS cL q0 (jtI (mMove (mCues 16 s)) i) i  (by exact jtI_fB hIu1) (by first | with_reducible assumption | omega)) (va_cwS 2 hts gX6_tick_X6_height rfl rfl rfl (by decide +kernel) ⟨Nat.le_of_ble_eq_true rfl, Nat.le_of_ble_eq_true rfl⟩) hK hP hD hS hA [1] rfl (by decide) (fun _ => rfl) rfl hl.1 rfl (Nat.le_of_ble_eq_true rfl) dX6_tick_208 ⟨Nat.le_of_ble_eq_true rfl, Nat.le_of_ble_eq_true rfl⟩ (fun v9 u9 H locs hv hP hD hS => ?_)
                      subst hv
                      have hP : va_P D vwCl [(m0, .inr (6, [.ref m1, .ref m2, .ref m3, .int (nI k), .ref m4, .int (nI n), .int (nI th), .int (nI ax), .int (nI fa), .int (nI vl), .ref m5, .int (nI tn), .int (nI h2), .int (nI b2)])), (q0, .inl (cI, 118, .inl (ro 118 (jtI (mMove (mCues 16 s)) i))))] H := hP
                      have hD : va_D A9 [(m0, .inr (6, [.ref m1, .ref m2, .ref m3, .int (nI k), .ref m4, .int (nI n), .int (nI th), .int (nI ax), .int (nI fa), .int (nI vl), .ref m5, .int (nI tn), .int (nI h2), .int (nI b2)])), (q0, .inl (cI, 118, .inl (ro 118 (jtI (mMove (mCues 16 s)) i))))] := hD
                      refine W.eq (g2 := F0 m9 211 ls [.int (nI (heS (jtI (mMove (mCues 16 s)) i) i))]) rfl ?_
                      refine q_topi (y := (nI (heS (mMove (mCues 16 s)) i))) (by exact congrArg nI (jtI_gS (mMove (mCues 16 s)) i (by omega))) ?_
                      have hh8 : heS (mMove (mCues 16 s)) i ≤ 10 := heS_le hIu (by omega)
                      refine lv_istore (lv' := [(5, .int (nI (heS (mMove (mCues 16 s)) i))), (0, .ref m0), (1, .ref q0), (4, .int (nI i))]) hx hb dX6_tick_211 hl (by decide) rfl (fun ls hl => ?_)
                      refine lv_aload_n hx hb dX6_tick_213 rfl (lv_at hl 1 rfl) ?_
                      refine lv_iload hx hb dX6_tick_214 (lv_at hl 0 rfl) ?_
                      refine lv_aload_n hx hb dX6_tick_216 rfl (lv_at hl 1 rfl) ?_
                      refine va_get (D := D) (ci := 6) (v := .int (nI h2)) (C := RX6) (T := TX6) (N := 14) hx hb hts in_X6_tick_X6 hown hK hP 0 rfl rfl 12 (by decide) (hts _ fl_X6_tick_65) (fun _ h9 => h9) rfl dX6_tick_217 ?_
                      refine q_ile (tgt := 228) (by omega) (by omega) hx hb dX6_tick_220 (by decide) (fun c_220 => ?_) (fun c_220 => ?_)
                      ·
                        refine lv_aload_n hx hb dX6_tick_228 rfl (lv_at hl 1 rfl) ?_
                        refine va_get (D := D) (ci := 6) (v := .int (nI h2)) (C := RX6) (T := TX6) (N := 14) hx hb hts in_X6_tick_X6 hown hK hP 0 rfl rfl 12 (by decide) (hts _ fl_X6_tick_65) (fun _ h9 => h9) rfl dX6_tick_229 ?_
                        refine va_put (D := D) (ci := 6) (v := .int (nI h2)) (ty := tyX6 12) (C := RX6) (T := TX6) (N := 14) hx hb hts in_X6_tick_X6 tyX6 tyX6_ok nmX6 hown hK hP hD hS 0 rfl rfl 12 (by decide) (hts _ fl_X6_tick_65) (fun _ h9 => h9) rfl (by decide +kernel) rfl rfl (Nat.le_of_ble_eq_true rfl) dX6_tick_232 (fun H locs hP hD hS => ?_)
                        have hP : va_P D vwCl [(m0, .inr (6, [.ref m1, .ref m2, .ref m3, .int (nI k), .ref m4, .int (nI n), .int (nI th), .int (nI ax), .int (nI fa), .int (nI vl), .ref m5, .int (nI tn), .int (nI h2), .int (nI b2)])), (q0, .inl (cI, 118, .inl (ro 118 (jtI (mMove (mCues 16 s)) i))))] H := hP
                        have hD : va_D A9 [(m0, .inr (6, [.ref m1, .ref m2, .ref m3, .int (nI k), .ref m4, .int (nI n), .int (nI th), .int (nI ax), .int (nI fa), .int (nI vl), .ref m5, .int (nI tn), .int (nI h2), .int (nI b2)])), (q0, .inl (cI, 118, .inl (ro 118 (jtI (mMove (mCues 16 s)) i))))] := hD
                        refine lv_aload_n hx hb dX6_tick_235 rfl (lv_at hl 2 rfl) ?_
                        refine lv_bipush (v := nI 14) hx hb dX6_tick_236 (by decide +kernel) ?_
                        refine lv_iconst (v := nI 5) hx hb dX6_tick_238 (by decide +kernel) ?_
                        refine lv_iload hx hb dX6_tick_239 (lv_at hl 3 rfl) ?_
                        refine q_imul hx hb dX6_tick_241 ?_
                        refine q_iadd hx hb dX6_tick_242 ?_
                        refine lv_iconst (v := nI 4) hx hb dX6_tick_243 (by decide +kernel) ?_
                        refine q_iadd hx hb dX6_tick_244 ?_
                        refine lv_dup2_11 hx hb dX6_tick_245 rfl rfl ?_
                        refine q_iald 1 0 (by omega) (by omega) hx hb hK hP rfl rfl dX6_tick_246 ?_
                        refine lv_iload hx hb dX6_tick_247 (lv_at hl 0 rfl) ?_
                        refine q_fle (tgt := 256) (by omega) hx hb dX6_tick_249 (by decide) (fun c_249 => ?_) (fun c_249 => ?_)
                        ·
                          refine lv_iconst (v := nI 0) hx hb dX6_tick_256 (by decide +kernel) ?_
                          refine q_iadd hx hb dX6_tick_257 ?_
                          refine q_iast 1 0 (by omega) (by omega) hx hb hK hP hD hS rfl rfl dX6_tick_258 (fun H locs hP hD hS => ?_)
                          have hP : va_P D vwCl [(m0, .inr (6, [.ref m1, .ref m2, .ref m3, .int (nI k), .ref m4, .int (nI n), .int (nI th), .int (nI ax), .int (nI fa), .int (nI vl), .ref m5, .int (nI tn), .int (nI h2), .int (nI b2)])), (q0, .inl (cI, 118, .inl (ro 118 (upN (jtI (mMove (mCues 16 s)) i) ((14 + (5 * i)) + 4) (((jtI (mMove (mCues 16 s)) i) ((14 + (5 * i)) + 4)) + 0)))))] H := hP
                          have hD : va_D A9 [(m0, .inr (6, [.ref m1, .ref m2, .ref m3, .int (nI k), .ref m4, .int (nI n), .int (nI th), .int (nI ax), .int (nI fa), .int (nI vl), .ref m5, .int (nI tn), .int (nI h2), .int (nI b2)])), (q0, .inl (cI, 118, .inl (ro 118 (upN (jtI (mMove (mCues 16 s)) i) ((14 + (5 * i)) + 4) (((jtI (mMove (mCues 16 s)) i) ((14 + (5 * i)) + 4)) + 0)))))] := hD
                          have er_6 : ro 118 (upN (jtI (mMove (mCues 16 s)) i) ((14 + (5 * i)) + 4) (((jtI (mMove (mCues 16 s)) i) ((14 + (5 * i)) + 4)) + 0)) = ro 118 (jtI (mMove (mCues 16 s)) (i + 1)) := by rw [show 14 + 5 * i + 4 = 18 + 5 * i by omega]; exact jtI_s (by rw [jtI_n (mMove (mCues 16 s)) (by omega)]; first | (rw [if_pos (by omega)]; done) | (rw [if_neg (by omega)]; done))
                          rw [er_6] at hP hD
                          refine lv_aload_n hx hb dX6_tick_259 rfl (lv_at hl 1 rfl) ?_
                          refine lv_dup hx hb dX6_tick_260 rfl ?_
                          refine va_get (D := D) (ci := 6) (v := .int (nI b2)) (C := RX6) (T := TX6) (N := 14) hx hb hts in_X6_tick_X6 hown hK hP 0 rfl rfl 13 (by decide) (hts _ fl_X6_tick_68) (fun _ h9 => h9) rfl dX6_tick_261 ?_
                          refine lv_iload hx hb dX6_tick_264 (lv_at hl 0 rfl) ?_
                          refine q_fle (tgt := 283) (by omega) hx hb dX6_tick_266 (by decide) (fun c_266 => ?_) (fun c_266 => ?_)
                          ·
                            refine lv_iconst (v := nI 0) hx hb dX6_tick_283 (by decide +kernel) ?_
                            refine q_iadd hx hb dX6_tick_284 ?_
                            refine va_put (D := D) (ci := 6) (v := .int (nI (b2 + 0))) (ty := tyX6 13) (C := RX6) (T := TX6) (N := 14) hx hb hts in_X6_tick_X6 tyX6 tyX6_ok nmX6 hown hK hP hD hS 0 rfl rfl 13 (by decide) (hts _ fl_X6_tick_68) (fun _ h9 => h9) rfl (by decide +kernel) rfl rfl (Nat.le_of_ble_eq_true rfl) dX6_tick_285 (fun H locs hP hD hS => ?_)
                            have hP : va_P D vwCl [(m0, .inr (6, [.ref m1, .ref m2, .ref m3, .int (nI k), .ref m4, .int (nI n), .int (nI th), .int (nI ax), .int (nI fa), .int (nI vl), .ref m5, .int (nI tn), .int (nI h2), .int (nI (b2 + 0))])), (q0, .inl (cI, 118, .inl (ro 118 (jtI (mMove (mCues 16 s)) (i + 1)))))] H := hP
                            have hD : va_D A9 [(m0, .inr (6, [.ref m1, .ref m2, .ref m3, .int (nI k), .ref m4, .int (nI n), .int (nI th), .int (nI ax), .int (nI fa), .int (nI vl), .ref m5, .int (nI tn), .int (nI h2), .int (nI (b2 + 0))])), (q0, .inl (cI, 118, .inl (ro 118 (jtI (mMove (mCues 16 s)) (i + 1)))))] := hD
                            refine lv_iinc (v := (nI (i + 1))) (lv' := [(4, .int (nI (i + 1))), (5, .int (nI (heS (mMove (mCues 16 s)) i))), (0, .ref m0), (1, .ref q0)]) hx hb dX6_tick_288 hl (k := 3) rfl (nI_add i 1) (by decide) rfl (fun ls hl => ?_)
                            refine lv_goto (tgt := 198) hx hb dX6_tick_291 (by decide) ?_
                            exact ih198  (i + 1) h2 (b2 + 0) _ _ ls (by first | with_reducible assumption | omega) (by show _ = max (maxTo (heS (mMove (mCues 16 s))) i) (heS (mMove (mCues 16 s)) i); omega) (by show _ = brT (mMove (mCues 16 s)) i + (if 0 < heS (mMove (mCues 16 s)) i ∧ coF (mMove (mCues 16 s)) i = 0 then 1 else 0); first | (rw [if_pos ⟨by omega, by omega⟩]; omega) | (rw [if_neg (by omega)]; omega)) (by omega) hP hD hS (lv_sub hl [2, 3, 0] rfl)
                          ·
                            refine lv_aload_n hx hb dX6_tick_269 rfl (lv_at hl 2 rfl) ?_
                            refine lv_iload hx hb dX6_tick_270 (lv_at hl 3 rfl) ?_
                            refine lv_iconst (v := nI 1) hx hb dX6_tick_272 (by decide +kernel) ?_
                            refine KM.callS (As := [.ref q0, .int (nI i), .int (nI 1)]) (rest := [.int (nI b2), .ref m0]) C0 hN (k_X6_of_1 l D cI cS cL q0 (jtI (mMove (mCues 16 s)) (i + 1)) i  (by first | with_reducible assumption | omega)) (va_cwS 3 hts gX6_tick_X6_of rfl rfl rfl (by decide +kernel) ⟨Nat.le_of_ble_eq_true rfl, Nat.le_of_ble_eq_true rfl⟩) hK hP hD hS hA [1] rfl (by decide) (fun _ => rfl) rfl hl.1 rfl (Nat.le_of_ble_eq_true rfl) dX6_tick_273 ⟨Nat.le_of_ble_eq_true rfl, Nat.le_of_ble_eq_true rfl⟩ (fun v9 u9 H locs hv hP hD hS => ?_)
                            subst hv
                            have hP : va_P D vwCl [(m0, .inr (6, [.ref m1, .ref m2, .ref m3, .int (nI k), .ref m4, .int (nI n), .int (nI th), .int (nI ax), .int (nI fa), .int (nI vl), .ref m5, .int (nI tn), .int (nI h2), .int (nI b2)])), (q0, .inl (cI, 118, .inl (ro 118 (jtI (mMove (mCues 16 s)) (i + 1)))))] H := hP
                            have hD : va_D A9 [(m0, .inr (6, [.ref m1, .ref m2, .ref m3, .int (nI k), .ref m4, .int (nI n), .int (nI th), .int (nI ax), .int (nI fa), .int (nI vl), .ref m5, .int (nI tn), .int (nI h2), .int (nI b2)])), (q0, .inl (cI, 118, .inl (ro 118 (jtI (mMove (mCues 16 s)) (i + 1)))))] := hD
                            refine W.eq (g2 := F0 m9 276 ls [.int (nI (coF (jtI (mMove (mCues 16 s)) (i + 1)) i)), .int (nI b2), .ref m0]) rfl ?_
                            refine q_topi (y := (nI (coF (mMove (mCues 16 s)) i))) (by exact congrArg nI (jtI_n (mMove (mCues 16 s)) (by omega))) ?_
                            have hco : coF (mMove (mCues 16 s)) i ≤ 3 := hIu2 i (by omega)
                            refine q_fne (tgt := 283) (by omega) hx hb dX6_tick_276 (by decide) (fun c_276 => ?_) (fun c_276 => ?_)
                            ·
                              refine lv_iconst (v := nI 0) hx hb dX6_tick_283 (by decide +kernel) ?_
                              refine q_iadd hx hb dX6_tick_284 ?_
                              refine va_put (D := D) (ci := 6) (v := .int (nI (b2 + 0))) (ty := tyX6 13) (C := RX6) (T := TX6) (N := 14) hx hb hts in_X6_tick_X6 tyX6 tyX6_ok nmX6 hown hK hP hD hS 0 rfl rfl 13 (by decide) (hts _ fl_X6_tick_68) (fun _ h9 => h9) rfl (by decide +kernel) rfl rfl (Nat.le_of_ble_eq_true rfl) dX6_tick_285 (fun H locs hP hD hS => ?_)
                              have hP : va_P D vwCl [(m0, .inr (6, [.ref m1, .ref m2, .ref m3, .int (nI k), .ref m4, .int (nI n), .int (nI th), .int (nI ax), .int (nI fa), .int (nI vl), .ref m5, .int (nI tn), .int (nI h2), .int (nI (b2 + 0))])), (q0, .inl (cI, 118, .inl (ro 118 (jtI (mMove (mCues 16 s)) (i + 1)))))] H := hP
                              have hD : va_D A9 [(m0, .inr (6, [.ref m1, .ref m2, .ref m3, .int (nI k), .ref m4, .int (nI n), .int (nI th), .int (nI ax), .int (nI fa), .int (nI vl), .ref m5, .int (nI tn), .int (nI h2), .int (nI (b2 + 0))])), (q0, .inl (cI, 118, .inl (ro 118 (jtI (mMove (mCues 16 s)) (i + 1)))))] := hD
                              refine lv_iinc (v := (nI (i + 1))) (lv' := [(4, .int (nI (i + 1))), (5, .int (nI (heS (mMove (mCues 16 s)) i))), (0, .ref m0), (1, .ref q0)]) hx hb dX6_tick_288 hl (k := 3) rfl (nI_add i 1) (by decide) rfl (fun ls hl => ?_)
                              refine lv_goto (tgt := 198) hx hb dX6_tick_291 (by decide) ?_
                              exact ih198  (i + 1) h2 (b2 + 0) _ _ ls (by first | with_reducible assumption | omega) (by show _ = max (maxTo (heS (mMove (mCues 16 s))) i) (heS (mMove (mCues 16 s)) i); omega) (by show _ = brT (mMove (mCues 16 s)) i + (if 0 < heS (mMove (mCues 16 s)) i ∧ coF (mMove (mCues 16 s)) i = 0 then 1 else 0); first | (rw [if_pos ⟨by omega, by omega⟩]; omega) | (rw [if_neg (by omega)]; omega)) (by omega) hP hD hS (lv_sub hl [2, 3, 0] rfl)
                            ·
                              refine lv_iconst (v := nI 1) hx hb dX6_tick_279 (by decide +kernel) ?_
                              refine lv_goto (tgt := 284) hx hb dX6_tick_280 (by decide) ?_
                              refine q_iadd hx hb dX6_tick_284 ?_
                              refine va_put (D := D) (ci := 6) (v := .int (nI (b2 + 1))) (ty := tyX6 13) (C := RX6) (T := TX6) (N := 14) hx hb hts in_X6_tick_X6 tyX6 tyX6_ok nmX6 hown hK hP hD hS 0 rfl rfl 13 (by decide) (hts _ fl_X6_tick_68) (fun _ h9 => h9) rfl (by decide +kernel) rfl rfl (Nat.le_of_ble_eq_true rfl) dX6_tick_285 (fun H locs hP hD hS => ?_)
                              have hP : va_P D vwCl [(m0, .inr (6, [.ref m1, .ref m2, .ref m3, .int (nI k), .ref m4, .int (nI n), .int (nI th), .int (nI ax), .int (nI fa), .int (nI vl), .ref m5, .int (nI tn), .int (nI h2), .int (nI (b2 + 1))])), (q0, .inl (cI, 118, .inl (ro 118 (jtI (mMove (mCues 16 s)) (i + 1)))))] H := hP
                              have hD : va_D A9 [(m0, .inr (6, [.ref m1, .ref m2, .ref m3, .int (nI k), .ref m4, .int (nI n), .int (nI th), .int (nI ax), .int (nI fa), .int (nI vl), .ref m5, .int (nI tn), .int (nI h2), .int (nI (b2 + 1))])), (q0, .inl (cI, 118, .inl (ro 118 (jtI (mMove (mCues 16 s)) (i + 1)))))] := hD
                              refine lv_iinc (v := (nI (i + 1))) (lv' := [(4, .int (nI (i + 1))), (5, .int (nI (heS (mMove (mCues 16 s)) i))), (0, .ref m0), (1, .ref q0)]) hx hb dX6_tick_288 hl (k := 3) rfl (nI_add i 1) (by decide) rfl (fun ls hl => ?_)
                              refine lv_goto (tgt := 198) hx hb dX6_tick_291 (by decide) ?_
                              exact ih198  (i + 1) h2 (b2 + 1) _ _ ls (by first | with_reducible assumption | omega) (by show _ = max (maxTo (heS (mMove (mCues 16 s))) i) (heS (mMove (mCues 16 s)) i); omega) (by show _ = brT (mMove (mCues 16 s)) i + (if 0 < heS (mMove (mCues 16 s)) i ∧ coF (mMove (mCues 16 s)) i = 0 then 1 else 0); first | (rw [if_pos ⟨by omega, by omega⟩]; omega) | (rw [if_neg (by omega)]; omega)) (by omega) hP hD hS (lv_sub hl [2, 3, 0] rfl)
                        ·
                          refine lv_iconst (v := nI 1) hx hb dX6_tick_252 (by decide +kernel) ?_
                          refine lv_goto (tgt := 257) hx hb dX6_tick_253 (by decide) ?_
                          refine q_iadd hx hb dX6_tick_257 ?_
                          refine q_iast 1 0 (by omega) (by omega) hx hb hK hP hD hS rfl rfl dX6_tick_258 (fun H locs hP hD hS => ?_)
                          have hP : va_P D vwCl [(m0, .inr (6, [.ref m1, .ref m2, .ref m3, .int (nI k), .ref m4, .int (nI n), .int (nI th), .int (nI ax), .int (nI fa), .int (nI vl), .ref m5, .int (nI tn), .int (nI h2), .int (nI b2)])), (q0, .inl (cI, 118, .inl (ro 118 (upN (jtI (mMove (mCues 16 s)) i) ((14 + (5 * i)) + 4) (((jtI (mMove (mCues 16 s)) i) ((14 + (5 * i)) + 4)) + 1)))))] H := hP
                          have hD : va_D A9 [(m0, .inr (6, [.ref m1, .ref m2, .ref m3, .int (nI k), .ref m4, .int (nI n), .int (nI th), .int (nI ax), .int (nI fa), .int (nI vl), .ref m5, .int (nI tn), .int (nI h2), .int (nI b2)])), (q0, .inl (cI, 118, .inl (ro 118 (upN (jtI (mMove (mCues 16 s)) i) ((14 + (5 * i)) + 4) (((jtI (mMove (mCues 16 s)) i) ((14 + (5 * i)) + 4)) + 1)))))] := hD
                          have er_7 : ro 118 (upN (jtI (mMove (mCues 16 s)) i) ((14 + (5 * i)) + 4) (((jtI (mMove (mCues 16 s)) i) ((14 + (5 * i)) + 4)) + 1)) = ro 118 (jtI (mMove (mCues 16 s)) (i + 1)) := by rw [show 14 + 5 * i + 4 = 18 + 5 * i by omega]; exact jtI_s (by rw [jtI_n (mMove (mCues 16 s)) (by omega)]; first | (rw [if_pos (by omega)]; done) | (rw [if_neg (by omega)]; done))
                          rw [er_7] at hP hD
                          refine lv_aload_n hx hb dX6_tick_259 rfl (lv_at hl 1 rfl) ?_
                          refine lv_dup hx hb dX6_tick_260 rfl ?_
                          refine va_get (D := D) (ci := 6) (v := .int (nI b2)) (C := RX6) (T := TX6) (N := 14) hx hb hts in_X6_tick_X6 hown hK hP 0 rfl rfl 13 (by decide) (hts _ fl_X6_tick_68) (fun _ h9 => h9) rfl dX6_tick_261 ?_
                          refine lv_iload hx hb dX6_tick_264 (lv_at hl 0 rfl) ?_
                          refine q_fle (tgt := 283) (by omega) hx hb dX6_tick_266 (by decide) (fun c_266 => ?_) (fun c_266 => ?_)
                          ·
                            refine lv_iconst (v := nI 0) hx hb dX6_tick_283 (by decide +kernel) ?_
                            refine q_iadd hx hb dX6_tick_284 ?_
                            refine va_put (D := D) (ci := 6) (v := .int (nI (b2 + 0))) (ty := tyX6 13) (C := RX6) (T := TX6) (N := 14) hx hb hts in_X6_tick_X6 tyX6 tyX6_ok nmX6 hown hK hP hD hS 0 rfl rfl 13 (by decide) (hts _ fl_X6_tick_68) (fun _ h9 => h9) rfl (by decide +kernel) rfl rfl (Nat.le_of_ble_eq_true rfl) dX6_tick_285 (fun H locs hP hD hS => ?_)
                            have hP : va_P D vwCl [(m0, .inr (6, [.ref m1, .ref m2, .ref m3, .int (nI k), .ref m4, .int (nI n), .int (nI th), .int (nI ax), .int (nI fa), .int (nI vl), .ref m5, .int (nI tn), .int (nI h2), .int (nI (b2 + 0))])), (q0, .inl (cI, 118, .inl (ro 118 (jtI (mMove (mCues 16 s)) (i + 1)))))] H := hP
                            have hD : va_D A9 [(m0, .inr (6, [.ref m1, .ref m2, .ref m3, .int (nI k), .ref m4, .int (nI n), .int (nI th), .int (nI ax), .int (nI fa), .int (nI vl), .ref m5, .int (nI tn), .int (nI h2), .int (nI (b2 + 0))])), (q0, .inl (cI, 118, .inl (ro 118 (jtI (mMove (mCues 16 s)) (i + 1)))))] := hD
                            refine lv_iinc (v := (nI (i + 1))) (lv' := [(4, .int (nI (i + 1))), (5, .int (nI (heS (mMove (mCues 16 s)) i))), (0, .ref m0), (1, .ref q0)]) hx hb dX6_tick_288 hl (k := 3) rfl (nI_add i 1) (by decide) rfl (fun ls hl => ?_)
                            refine lv_goto (tgt := 198) hx hb dX6_tick_291 (by decide) ?_
                            exact ih198  (i + 1) h2 (b2 + 0) _ _ ls (by first | with_reducible assumption | omega) (by show _ = max (maxTo (heS (mMove (mCues 16 s))) i) (heS (mMove (mCues 16 s)) i); omega) (by show _ = brT (mMove (mCues 16 s)) i + (if 0 < heS (mMove (mCues 16 s)) i ∧ coF (mMove (mCues 16 s)) i = 0 then 1 else 0); first | (rw [if_pos ⟨by omega, by omega⟩]; omega) | (rw [if_neg (by omega)]; omega)) (by omega) hP hD hS (lv_sub hl [2, 3, 0] rfl)
                          ·
                            refine lv_aload_n hx hb dX6_tick_269 rfl (lv_at hl 2 rfl) ?_
                            refine lv_iload hx hb dX6_tick_270 (lv_at hl 3 rfl) ?_
                            refine lv_iconst (v := nI 1) hx hb dX6_tick_272 (by decide +kernel) ?_
                            refine KM.callS (As := [.ref q0, .int (nI i), .int (nI 1)]) (rest := [.int (nI b2), .ref m0]) C0 hN (k_X6_of_1 l D cI cS cL q0 (jtI (mMove (mCues 16 s)) (i + 1)) i  (by first | with_reducible assumption | omega)) (va_cwS 3 hts gX6_tick_X6_of rfl rfl rfl (by decide +kernel) ⟨Nat.le_of_ble_eq_true rfl, Nat.le_of_ble_eq_true rfl⟩) hK hP hD hS hA [1] rfl (by decide) (fun _ => rfl) rfl hl.1 rfl (Nat.le_of_ble_eq_true rfl) dX6_tick_273 ⟨Nat.le_of_ble_eq_true rfl, Nat.le_of_ble_eq_true rfl⟩ (fun v9 u9 H locs hv hP hD hS => ?_)
                            subst hv
                            have hP : va_P D vwCl [(m0, .inr (6, [.ref m1, .ref m2, .ref m3, .int (nI k), .ref m4, .int (nI n), .int (nI th), .int (nI ax), .int (nI fa), .int (nI vl), .ref m5, .int (nI tn), .int (nI h2), .int (nI b2)])), (q0, .inl (cI, 118, .inl (ro 118 (jtI (mMove (mCues 16 s)) (i + 1)))))] H := hP
                            have hD : va_D A9 [(m0, .inr (6, [.ref m1, .ref m2, .ref m3, .int (nI k), .ref m4, .int (nI n), .int (nI th), .int (nI ax), .int (nI fa), .int (nI vl), .ref m5, .int (nI tn), .int (nI h2), .int (nI b2)])), (q0, .inl (cI, 118, .inl (ro 118 (jtI (mMove (mCues 16 s)) (i + 1)))))] := hD
                            refine W.eq (g2 := F0 m9 276 ls [.int (nI (coF (jtI (mMove (mCues 16 s)) (i + 1)) i)), .int (nI b2), .ref m0]) rfl ?_
                            refine q_topi (y := (nI (coF (mMove (mCues 16 s)) i))) (by exact congrArg nI (jtI_n (mMove (mCues 16 s)) (by omega))) ?_
                            have hco : coF (mMove (mCues 16 s)) i ≤ 3 := hIu2 i (by omega)
                            refine q_fne (tgt := 283) (by omega) hx hb dX6_tick_276 (by decide) (fun c_276 => ?_) (fun c_276 => ?_)
                            ·
                              refine lv_iconst (v := nI 0) hx hb dX6_tick_283 (by decide +kernel) ?_
                              refine q_iadd hx hb dX6_tick_284 ?_
                              refine va_put (D := D) (ci := 6) (v := .int (nI (b2 + 0))) (ty := tyX6 13) (C := RX6) (T := TX6) (N := 14) hx hb hts in_X6_tick_X6 tyX6 tyX6_ok nmX6 hown hK hP hD hS 0 rfl rfl 13 (by decide) (hts _ fl_X6_tick_68) (fun _ h9 => h9) rfl (by decide +kernel) rfl rfl (Nat.le_of_ble_eq_true rfl) dX6_tick_285 (fun H locs hP hD hS => ?_)
                              have hP : va_P D vwCl [(m0, .inr (6, [.ref m1, .ref m2, .ref m3, .int (nI k), .ref m4, .int (nI n), .int (nI th), .int (nI ax), .int (nI fa), .int (nI vl), .ref m5, .int (nI tn), .int (nI h2), .int (nI (b2 + 0))])), (q0, .inl (cI, 118, .inl (ro 118 (jtI (mMove (mCues 16 s)) (i + 1)))))] H := hP
                              have hD : va_D A9 [(m0, .inr (6, [.ref m1, .ref m2, .ref m3, .int (nI k), .ref m4, .int (nI n), .int (nI th), .int (nI ax), .int (nI fa), .int (nI vl), .ref m5, .int (nI tn), .int (nI h2), .int (nI (b2 + 0))])), (q0, .inl (cI, 118, .inl (ro 118 (jtI (mMove (mCues 16 s)) (i + 1)))))] := hD
                              refine lv_iinc (v := (nI (i + 1))) (lv' := [(4, .int (nI (i + 1))), (5, .int (nI (heS (mMove (mCues 16 s)) i))), (0, .ref m0), (1, .ref q0)]) hx hb dX6_tick_288 hl (k := 3) rfl (nI_add i 1) (by decide) rfl (fun ls hl => ?_)
                              refine lv_goto (tgt := 198) hx hb dX6_tick_291 (by decide) ?_
                              exact ih198  (i + 1) h2 (b2 + 0) _ _ ls (by first | with_reducible assumption | omega) (by show _ = max (maxTo (heS (mMove (mCues 16 s))) i) (heS (mMove (mCues 16 s)) i); omega) (by show _ = brT (mMove (mCues 16 s)) i + (if 0 < heS (mMove (mCues 16 s)) i ∧ coF (mMove (mCues 16 s)) i = 0 then 1 else 0); first | (rw [if_pos ⟨by omega, by omega⟩]; omega) | (rw [if_neg (by omega)]; omega)) (by omega) hP hD hS (lv_sub hl [2, 3, 0] rfl)
                            ·
                              refine lv_iconst (v := nI 1) hx hb dX6_tick_279 (by decide +kernel) ?_
                              refine lv_goto (tgt := 284) hx hb dX6_tick_280 (by decide) ?_
                              refine q_iadd hx hb dX6_tick_284 ?_
                              refine va_put (D := D) (ci := 6) (v := .int (nI (b2 + 1))) (ty := tyX6 13) (C := RX6) (T := TX6) (N := 14) hx hb hts in_X6_tick_X6 tyX6 tyX6_ok nmX6 hown hK hP hD hS 0 rfl rfl 13 (by decide) (hts _ fl_X6_tick_68) (fun _ h9 => h9) rfl (by decide +kernel) rfl rfl (Nat.le_of_ble_eq_true rfl) dX6_tick_285 (fun H locs hP hD hS => ?_)
                              have hP : va_P D vwCl [(m0, .inr (6, [.ref m1, .ref m2, .ref m3, .int (nI k), .ref m4, .int (nI n), .int (nI th), .int (nI ax), .int (nI fa), .int (nI vl), .ref m5, .int (nI tn), .int (nI h2), .int (nI (b2 + 1))])), (q0, .inl (cI, 118, .inl (ro 118 (jtI (mMove (mCues 16 s)) (i + 1)))))] H := hP
                              have hD : va_D A9 [(m0, .inr (6, [.ref m1, .ref m2, .ref m3, .int (nI k), .ref m4, .int (nI n), .int (nI th), .int (nI ax), .int (nI fa), .int (nI vl), .ref m5, .int (nI tn), .int (nI h2), .int (nI (b2 + 1))])), (q0, .inl (cI, 118, .inl (ro 118 (jtI (mMove (mCues 16 s)) (i + 1)))))] := hD
                              refine lv_iinc (v := (nI (i + 1))) (lv' := [(4, .int (nI (i + 1))), (5, .int (nI (heS (mMove (mCues 16 s)) i))), (0, .ref m0), (1, .ref q0)]) hx hb dX6_tick_288 hl (k := 3) rfl (nI_add i 1) (by decide) rfl (fun ls hl => ?_)
                              refine lv_goto (tgt := 198) hx hb dX6_tick_291 (by decide) ?_
                              exact ih198  (i + 1) h2 (b2 + 1) _ _ ls (by first | with_reducible assumption | omega) (by show _ = max (maxTo (heS (mMove (mCues 16 s))) i) (heS (mMove (mCues 16 s)) i); omega) (by show _ = brT (mMove (mCues 16 s)) i + (if 0 < heS (mMove (mCues 16 s)) i ∧ coF (mMove (mCues 16 s)) i = 0 then 1 else 0); first | (rw [if_pos ⟨by omega, by omega⟩]; omega) | (rw [if_neg (by omega)]; omega)) (by omega) hP hD hS (lv_sub hl [2, 3, 0] rfl)
                      ·
                        refine lv_iload hx hb dX6_tick_223 (lv_at hl 0 rfl) ?_
                        refine lv_goto (tgt := 232) hx hb dX6_tick_225 (by decide) ?_
                        refine va_put (D := D) (ci := 6) (v := .int (nI (heS (mMove (mCues 16 s)) i))) (ty := tyX6 12) (C := RX6) (T := TX6) (N := 14) hx hb hts in_X6_tick_X6 tyX6 tyX6_ok nmX6 hown hK hP hD hS 0 rfl rfl 12 (by decide) (hts _ fl_X6_tick_65) (fun _ h9 => h9) rfl (by decide +kernel) rfl rfl (Nat.le_of_ble_eq_true rfl) dX6_tick_232 (fun H locs hP hD hS => ?_)
                        have hP : va_P D vwCl [(m0, .inr (6, [.ref m1, .ref m2, .ref m3, .int (nI k), .ref m4, .int (nI n), .int (nI th), .int (nI ax), .int (nI fa), .int (nI vl), .ref m5, .int (nI tn), .int (nI (heS (mMove (mCues 16 s)) i)), .int (nI b2)])), (q0, .inl (cI, 118, .inl (ro 118 (jtI (mMove (mCues 16 s)) i))))] H := hP
                        have hD : va_D A9 [(m0, .inr (6, [.ref m1, .ref m2, .ref m3, .int (nI k), .ref m4, .int (nI n), .int (nI th), .int (nI ax), .int (nI fa), .int (nI vl), .ref m5, .int (nI tn), .int (nI (heS (mMove (mCues 16 s)) i)), .int (nI b2)])), (q0, .inl (cI, 118, .inl (ro 118 (jtI (mMove (mCues 16 s)) i))))] := hD
                        refine lv_aload_n hx hb dX6_tick_235 rfl (lv_at hl 2 rfl) ?_
                        refine lv_bipush (v := nI 14) hx hb dX6_tick_236 (by decide +kernel) ?_
                        refine lv_iconst (v := nI 5) hx hb dX6_tick_238 (by decide +kernel) ?_
                        refine lv_iload hx hb dX6_tick_239 (lv_at hl 3 rfl) ?_
                        refine q_imul hx hb dX6_tick_241 ?_
                        refine q_iadd hx hb dX6_tick_242 ?_
                        refine lv_iconst (v := nI 4) hx hb dX6_tick_243 (by decide +kernel) ?_
                        refine q_iadd hx hb dX6_tick_244 ?_
                        refine lv_dup2_11 hx hb dX6_tick_245 rfl rfl ?_
                        refine q_iald 1 0 (by omega) (by omega) hx hb hK hP rfl rfl dX6_tick_246 ?_
                        refine lv_iload hx hb dX6_tick_247 (lv_at hl 0 rfl) ?_
                        refine q_fle (tgt := 256) (by omega) hx hb dX6_tick_249 (by decide) (fun c_249 => ?_) (fun c_249 => ?_)
                        ·
                          refine lv_iconst (v := nI 0) hx hb dX6_tick_256 (by decide +kernel) ?_
                          refine q_iadd hx hb dX6_tick_257 ?_
                          refine q_iast 1 0 (by omega) (by omega) hx hb hK hP hD hS rfl rfl dX6_tick_258 (fun H locs hP hD hS => ?_)
                          have hP : va_P D vwCl [(m0, .inr (6, [.ref m1, .ref m2, .ref m3, .int (nI k), .ref m4, .int (nI n), .int (nI th), .int (nI ax), .int (nI fa), .int (nI vl), .ref m5, .int (nI tn), .int (nI (heS (mMove (mCues 16 s)) i)), .int (nI b2)])), (q0, .inl (cI, 118, .inl (ro 118 (upN (jtI (mMove (mCues 16 s)) i) ((14 + (5 * i)) + 4) (((jtI (mMove (mCues 16 s)) i) ((14 + (5 * i)) + 4)) + 0)))))] H := hP
                          have hD : va_D A9 [(m0, .inr (6, [.ref m1, .ref m2, .ref m3, .int (nI k), .ref m4, .int (nI n), .int (nI th), .int (nI ax), .int (nI fa), .int (nI vl), .ref m5, .int (nI tn), .int (nI (heS (mMove (mCues 16 s)) i)), .int (nI b2)])), (q0, .inl (cI, 118, .inl (ro 118 (upN (jtI (mMove (mCues 16 s)) i) ((14 + (5 * i)) + 4) (((jtI (mMove (mCues 16 s)) i) ((14 + (5 * i)) + 4)) + 0)))))] := hD
                          have er_8 : ro 118 (upN (jtI (mMove (mCues 16 s)) i) ((14 + (5 * i)) + 4) (((jtI (mMove (mCues 16 s)) i) ((14 + (5 * i)) + 4)) + 0)) = ro 118 (jtI (mMove (mCues 16 s)) (i + 1)) := by rw [show 14 + 5 * i + 4 = 18 + 5 * i by omega]; exact jtI_s (by rw [jtI_n (mMove (mCues 16 s)) (by omega)]; first | (rw [if_pos (by omega)]; done) | (rw [if_neg (by omega)]; done))
                          rw [er_8] at hP hD
                          refine lv_aload_n hx hb dX6_tick_259 rfl (lv_at hl 1 rfl) ?_
                          refine lv_dup hx hb dX6_tick_260 rfl ?_
                          refine va_get (D := D) (ci := 6) (v := .int (nI b2)) (C := RX6) (T := TX6) (N := 14) hx hb hts in_X6_tick_X6 hown hK hP 0 rfl rfl 13 (by decide) (hts _ fl_X6_tick_68) (fun _ h9 => h9) rfl dX6_tick_261 ?_
                          refine lv_iload hx hb dX6_tick_264 (lv_at hl 0 rfl) ?_
                          refine q_fle (tgt := 283) (by omega) hx hb dX6_tick_266 (by decide) (fun c_266 => ?_) (fun c_266 => ?_)
                          ·
                            refine lv_iconst (v := nI 0) hx hb dX6_tick_283 (by decide +kernel) ?_
                            refine q_iadd hx hb dX6_tick_284 ?_
                            refine va_put (D := D) (ci := 6) (v := .int (nI (b2 + 0))) (ty := tyX6 13) (C := RX6) (T := TX6) (N := 14) hx hb hts in_X6_tick_X6 tyX6 tyX6_ok nmX6 hown hK hP hD hS 0 rfl rfl 13 (by decide) (hts _ fl_X6_tick_68) (fun _ h9 => h9) rfl (by decide +kernel) rfl rfl (Nat.le_of_ble_eq_true rfl) dX6_tick_285 (fun H locs hP hD hS => ?_)
                            have hP : va_P D vwCl [(m0, .inr (6, [.ref m1, .ref m2, .ref m3, .int (nI k), .ref m4, .int (nI n), .int (nI th), .int (nI ax), .int (nI fa), .int (nI vl), .ref m5, .int (nI tn), .int (nI (heS (mMove (mCues 16 s)) i)), .int (nI (b2 + 0))])), (q0, .inl (cI, 118, .inl (ro 118 (jtI (mMove (mCues 16 s)) (i + 1)))))] H := hP
                            have hD : va_D A9 [(m0, .inr (6, [.ref m1, .ref m2, .ref m3, .int (nI k), .ref m4, .int (nI n), .int (nI th), .int (nI ax), .int (nI fa), .int (nI vl), .ref m5, .int (nI tn), .int (nI (heS (mMove (mCues 16 s)) i)), .int (nI (b2 + 0))])), (q0, .inl (cI, 118, .inl (ro 118 (jtI (mMove (mCues 16 s)) (i + 1)))))] := hD
                            refine lv_iinc (v := (nI (i + 1))) (lv' := [(4, .int (nI (i + 1))), (5, .int (nI (heS (mMove (mCues 16 s)) i))), (0, .ref m0), (1, .ref q0)]) hx hb dX6_tick_288 hl (k := 3) rfl (nI_add i 1) (by decide) rfl (fun ls hl => ?_)
                            refine lv_goto (tgt := 198) hx hb dX6_tick_291 (by decide) ?_
                            exact ih198  (i + 1) (heS (mMove (mCues 16 s)) i) (b2 + 0) _ _ ls (by first | with_reducible assumption | omega) (by show _ = max (maxTo (heS (mMove (mCues 16 s))) i) (heS (mMove (mCues 16 s)) i); omega) (by show _ = brT (mMove (mCues 16 s)) i + (if 0 < heS (mMove (mCues 16 s)) i ∧ coF (mMove (mCues 16 s)) i = 0 then 1 else 0); first | (rw [if_pos ⟨by omega, by omega⟩]; omega) | (rw [if_neg (by omega)]; omega)) (by omega) hP hD hS (lv_sub hl [2, 3, 0] rfl)
                          ·
                            refine lv_aload_n hx hb dX6_tick_269 rfl (lv_at hl 2 rfl) ?_
                            refine lv_iload hx hb dX6_tick_270 (lv_at hl 3 rfl) ?_
                            refine lv_iconst (v := nI 1) hx hb dX6_tick_272 (by decide +kernel) ?_
                            refine KM.callS (As := [.ref q0, .int (nI i), .int (nI 1)]) (rest := [.int (nI b2), .ref m0]) C0 hN (k_X6_of_1 l D cI cS cL q0 (jtI (mMove (mCues 16 s)) (i + 1)) i  (by first | with_reducible assumption | omega)) (va_cwS 3 hts gX6_tick_X6_of rfl rfl rfl (by decide +kernel) ⟨Nat.le_of_ble_eq_true rfl, Nat.le_of_ble_eq_true rfl⟩) hK hP hD hS hA [1] rfl (by decide) (fun _ => rfl) rfl hl.1 rfl (Nat.le_of_ble_eq_true rfl) dX6_tick_273 ⟨Nat.le_of_ble_eq_true rfl, Nat.le_of_ble_eq_true rfl⟩ (fun v9 u9 H locs hv hP hD hS => ?_)
                            subst hv
                            have hP : va_P D vwCl [(m0, .inr (6, [.ref m1, .ref m2, .ref m3, .int (nI k), .ref m4, .int (nI n), .int (nI th), .int (nI ax), .int (nI fa), .int (nI vl), .ref m5, .int (nI tn), .int (nI (heS (mMove (mCues 16 s)) i)), .int (nI b2)])), (q0, .inl (cI, 118, .inl (ro 118 (jtI (mMove (mCues 16 s)) (i + 1)))))] H := hP
                            have hD : va_D A9 [(m0, .inr (6, [.ref m1, .ref m2, .ref m3, .int (nI k), .ref m4, .int (nI n), .int (nI th), .int (nI ax), .int (nI fa), .int (nI vl), .ref m5, .int (nI tn), .int (nI (heS (mMove (mCues 16 s)) i)), .int (nI b2)])), (q0, .inl (cI, 118, .inl (ro 118 (jtI (mMove (mCues 16 s)) (i + 1)))))] := hD
                            refine W.eq (g2 := F0 m9 276 ls [.int (nI (coF (jtI (mMove (mCues 16 s)) (i + 1)) i)), .int (nI b2), .ref m0]) rfl ?_
                            refine q_topi (y := (nI (coF (mMove (mCues 16 s)) i))) (by exact congrArg nI (jtI_n (mMove (mCues 16 s)) (by omega))) ?_
                            have hco : coF (mMove (mCues 16 s)) i ≤ 3 := hIu2 i (by omega)
                            refine q_fne (tgt := 283) (by omega) hx hb dX6_tick_276 (by decide) (fun c_276 => ?_) (fun c_276 => ?_)
                            ·
                              refine lv_iconst (v := nI 0) hx hb dX6_tick_283 (by decide +kernel) ?_
                              refine q_iadd hx hb dX6_tick_284 ?_
                              refine va_put (D := D) (ci := 6) (v := .int (nI (b2 + 0))) (ty := tyX6 13) (C := RX6) (T := TX6) (N := 14) hx hb hts in_X6_tick_X6 tyX6 tyX6_ok nmX6 hown hK hP hD hS 0 rfl rfl 13 (by decide) (hts _ fl_X6_tick_68) (fun _ h9 => h9) rfl (by decide +kernel) rfl rfl (Nat.le_of_ble_eq_true rfl) dX6_tick_285 (fun H locs hP hD hS => ?_)
                              have hP : va_P D vwCl [(m0, .inr (6, [.ref m1, .ref m2, .ref m3, .int (nI k), .ref m4, .int (nI n), .int (nI th), .int (nI ax), .int (nI fa), .int (nI vl), .ref m5, .int (nI tn), .int (nI (heS (mMove (mCues 16 s)) i)), .int (nI (b2 + 0))])), (q0, .inl (cI, 118, .inl (ro 118 (jtI (mMove (mCues 16 s)) (i + 1)))))] H := hP
                              have hD : va_D A9 [(m0, .inr (6, [.ref m1, .ref m2, .ref m3, .int (nI k), .ref m4, .int (nI n), .int (nI th), .int (nI ax), .int (nI fa), .int (nI vl), .ref m5, .int (nI tn), .int (nI (heS (mMove (mCues 16 s)) i)), .int (nI (b2 + 0))])), (q0, .inl (cI, 118, .inl (ro 118 (jtI (mMove (mCues 16 s)) (i + 1)))))] := hD
                              refine lv_iinc (v := (nI (i + 1))) (lv' := [(4, .int (nI (i + 1))), (5, .int (nI (heS (mMove (mCues 16 s)) i))), (0, .ref m0), (1, .ref q0)]) hx hb dX6_tick_288 hl (k := 3) rfl (nI_add i 1) (by decide) rfl (fun ls hl => ?_)
                              refine lv_goto (tgt := 198) hx hb dX6_tick_291 (by decide) ?_
                              exact ih198  (i + 1) (heS (mMove (mCues 16 s)) i) (b2 + 0) _ _ ls (by first | with_reducible assumption | omega) (by show _ = max (maxTo (heS (mMove (mCues 16 s))) i) (heS (mMove (mCues 16 s)) i); omega) (by show _ = brT (mMove (mCues 16 s)) i + (if 0 < heS (mMove (mCues 16 s)) i ∧ coF (mMove (mCues 16 s)) i = 0 then 1 else 0); first | (rw [if_pos ⟨by omega, by omega⟩]; omega) | (rw [if_neg (by omega)]; omega)) (by omega) hP hD hS (lv_sub hl [2, 3, 0] rfl)
                            ·
                              refine lv_iconst (v := nI 1) hx hb dX6_tick_279 (by decide +kernel) ?_
                              refine lv_goto (tgt := 284) hx hb dX6_tick_280 (by decide) ?_
                              refine q_iadd hx hb dX6_tick_284 ?_
                              refine va_put (D := D) (ci := 6) (v := .int (nI (b2 + 1))) (ty := tyX6 13) (C := RX6) (T := TX6) (N := 14) hx hb hts in_X6_tick_X6 tyX6 tyX6_ok nmX6 hown hK hP hD hS 0 rfl rfl 13 (by decide) (hts _ fl_X6_tick_68) (fun _ h9 => h9) rfl (by decide +kernel) rfl rfl (Nat.le_of_ble_eq_true rfl) dX6_tick_285 (fun H locs hP hD hS => ?_)
                              have hP : va_P D vwCl [(m0, .inr (6, [.ref m1, .ref m2, .ref m3, .int (nI k), .ref m4, .int (nI n), .int (nI th), .int (nI ax), .int (nI fa), .int (nI vl), .ref m5, .int (nI tn), .int (nI (heS (mMove (mCues 16 s)) i)), .int (nI (b2 + 1))])), (q0, .inl (cI, 118, .inl (ro 118 (jtI (mMove (mCues 16 s)) (i + 1)))))] H := hP
                              have hD : va_D A9 [(m0, .inr (6, [.ref m1, .ref m2, .ref m3, .int (nI k), .ref m4, .int (nI n), .int (nI th), .int (nI ax), .int (nI fa), .int (nI vl), .ref m5, .int (nI tn), .int (nI (heS (mMove (mCues 16 s)) i)), .int (nI (b2 + 1))])), (q0, .inl (cI, 118, .inl (ro 118 (jtI (mMove (mCues 16 s)) (i + 1)))))] := hD
                              refine lv_iinc (v := (nI (i + 1))) (lv' := [(4, .int (nI (i + 1))), (5, .int (nI (heS (mMove (mCues 16 s)) i))), (0, .ref m0), (1, .ref q0)]) hx hb dX6_tick_288 hl (k := 3) rfl (nI_add i 1) (by decide) rfl (fun ls hl => ?_)
                              refine lv_goto (tgt := 198) hx hb dX6_tick_291 (by decide) ?_
                              exact ih198  (i + 1) (heS (mMove (mCues 16 s)) i) (b2 + 1) _ _ ls (by first | with_reducible assumption | omega) (by show _ = max (maxTo (heS (mMove (mCues 16 s))) i) (heS (mMove (mCues 16 s)) i); omega) (by show _ = brT (mMove (mCues 16 s)) i + (if 0 < heS (mMove (mCues 16 s)) i ∧ coF (mMove (mCues 16 s)) i = 0 then 1 else 0); first | (rw [if_pos ⟨by omega, by omega⟩]; omega) | (rw [if_neg (by omega)]; omega)) (by omega) hP hD hS (lv_sub hl [2, 3, 0] rfl)
                        ·
                          refine lv_iconst (v := nI 1) hx hb dX6_tick_252 (by decide +kernel) ?_
                          refine lv_goto (tgt := 257) hx hb dX6_tick_253 (by decide) ?_
                          refine q_iadd hx hb dX6_tick_257 ?_
                          refine q_iast 1 0 (by omega) (by omega) hx hb hK hP hD hS rfl rfl dX6_tick_258 (fun H locs hP hD hS => ?_)
                          have hP : va_P D vwCl [(m0, .inr (6, [.ref m1, .ref m2, .ref m3, .int (nI k), .ref m4, .int (nI n), .int (nI th), .int (nI ax), .int (nI fa), .int (nI vl), .ref m5, .int (nI tn), .int (nI (heS (mMove (mCues 16 s)) i)), .int (nI b2)])), (q0, .inl (cI, 118, .inl (ro 118 (upN (jtI (mMove (mCues 16 s)) i) ((14 + (5 * i)) + 4) (((jtI (mMove (mCues 16 s)) i) ((14 + (5 * i)) + 4)) + 1)))))] H := hP
                          have hD : va_D A9 [(m0, .inr (6, [.ref m1, .ref m2, .ref m3, .int (nI k), .ref m4, .int (nI n), .int (nI th), .int (nI ax), .int (nI fa), .int (nI vl), .ref m5, .int (nI tn), .int (nI (heS (mMove (mCues 16 s)) i)), .int (nI b2)])), (q0, .inl (cI, 118, .inl (ro 118 (upN (jtI (mMove (mCues 16 s)) i) ((14 + (5 * i)) + 4) (((jtI (mMove (mCues 16 s)) i) ((14 + (5 * i)) + 4)) + 1)))))] := hD
                          have er_9 : ro 118 (upN (jtI (mMove (mCues 16 s)) i) ((14 + (5 * i)) + 4) (((jtI (mMove (mCues 16 s)) i) ((14 + (5 * i)) + 4)) + 1)) = ro 118 (jtI (mMove (mCues 16 s)) (i + 1)) := by rw [show 14 + 5 * i + 4 = 18 + 5 * i by omega]; exact jtI_s (by rw [jtI_n (mMove (mCues 16 s)) (by omega)]; first | (rw [if_pos (by omega)]; done) | (rw [if_neg (by omega)]; done))
                          rw [er_9] at hP hD
                          refine lv_aload_n hx hb dX6_tick_259 rfl (lv_at hl 1 rfl) ?_
                          refine lv_dup hx hb dX6_tick_260 rfl ?_
                          refine va_get (D := D) (ci := 6) (v := .int (nI b2)) (C := RX6) (T := TX6) (N := 14) hx hb hts in_X6_tick_X6 hown hK hP 0 rfl rfl 13 (by decide) (hts _ fl_X6_tick_68) (fun _ h9 => h9) rfl dX6_tick_261 ?_
                          refine lv_iload hx hb dX6_tick_264 (lv_at hl 0 rfl) ?_
                          refine q_fle (tgt := 283) (by omega) hx hb dX6_tick_266 (by decide) (fun c_266 => ?_) (fun c_266 => ?_)
                          ·
                            refine lv_iconst (v := nI 0) hx hb dX6_tick_283 (by decide +kernel) ?_
                            refine q_iadd hx hb dX6_tick_284 ?_
                            refine va_put (D := D) (ci := 6) (v := .int (nI (b2 + 0))) (ty := tyX6 13) (C := RX6) (T := TX6) (N := 14) hx hb hts in_X6_tick_X6 tyX6 tyX6_ok nmX6 hown hK hP hD hS 0 rfl rfl 13 (by decide) (hts _ fl_X6_tick_68) (fun _ h9 => h9) rfl (by decide +kernel) rfl rfl (Nat.le_of_ble_eq_true rfl) dX6_tick_285 (fun H locs hP hD hS => ?_)
                            have hP : va_P D vwCl [(m0, .inr (6, [.ref m1, .ref m2, .ref m3, .int (nI k), .ref m4, .int (nI n), .int (nI th), .int (nI ax), .int (nI fa), .int (nI vl), .ref m5, .int (nI tn), .int (nI (heS (mMove (mCues 16 s)) i)), .int (nI (b2 + 0))])), (q0, .inl (cI, 118, .inl (ro 118 (jtI (mMove (mCues 16 s)) (i + 1)))))] H := hP
                            have hD : va_D A9 [(m0, .inr (6, [.ref m1, .ref m2, .ref m3, .int (nI k), .ref m4, .int (nI n), .int (nI th), .int (nI ax), .int (nI fa), .int (nI vl), .ref m5, .int (nI tn), .int (nI (heS (mMove (mCues 16 s)) i)), .int (nI (b2 + 0))])), (q0, .inl (cI, 118, .inl (ro 118 (jtI (mMove (mCues 16 s)) (i + 1)))))] := hD
                            refine lv_iinc (v := (nI (i + 1))) (lv' := [(4, .int (nI (i + 1))), (5, .int (nI (heS (mMove (mCues 16 s)) i))), (0, .ref m0), (1, .ref q0)]) hx hb dX6_tick_288 hl (k := 3) rfl (nI_add i 1) (by decide) rfl (fun ls hl => ?_)
                            refine lv_goto (tgt := 198) hx hb dX6_tick_291 (by decide) ?_
                            exact ih198  (i + 1) (heS (mMove (mCues 16 s)) i) (b2 + 0) _ _ ls (by first | with_reducible assumption | omega) (by show _ = max (maxTo (heS (mMove (mCues 16 s))) i) (heS (mMove (mCues 16 s)) i); omega) (by show _ = brT (mMove (mCues 16 s)) i + (if 0 < heS (mMove (mCues 16 s)) i ∧ coF (mMove (mCues 16 s)) i = 0 then 1 else 0); first | (rw [if_pos ⟨by omega, by omega⟩]; omega) | (rw [if_neg (by omega)]; omega)) (by omega) hP hD hS (lv_sub hl [2, 3, 0] rfl)
                          ·
                            refine lv_aload_n hx hb dX6_tick_269 rfl (lv_at hl 2 rfl) ?_
                            refine lv_iload hx hb dX6_tick_270 (lv_at hl 3 rfl) ?_
                            refine lv_iconst (v := nI 1) hx hb dX6_tick_272 (by decide +kernel) ?_
                            refine KM.callS (As := [.ref q0, .int (nI i), .int (nI 1)]) (rest := [.int (nI b2), .ref m0]) C0 hN (k_X6_of_1 l D cI cS cL q0 (jtI (mMove (mCues 16 s)) (i + 1)) i  (by first | with_reducible assumption | omega)) (va_cwS 3 hts gX6_tick_X6_of rfl rfl rfl (by decide +kernel) ⟨Nat.le_of_ble_eq_true rfl, Nat.le_of_ble_eq_true rfl⟩) hK hP hD hS hA [1] rfl (by decide) (fun _ => rfl) rfl hl.1 rfl (Nat.le_of_ble_eq_true rfl) dX6_tick_273 ⟨Nat.le_of_ble_eq_true rfl, Nat.le_of_ble_eq_true rfl⟩ (fun v9 u9 H locs hv hP hD hS => ?_)
                            subst hv
                            have hP : va_P D vwCl [(m0, .inr (6, [.ref m1, .ref m2, .ref m3, .int (nI k), .ref m4, .int (nI n), .int (nI th), .int (nI ax), .int (nI fa), .int (nI vl), .ref m5, .int (nI tn), .int (nI (heS (mMove (mCues 16 s)) i)), .int (nI b2)])), (q0, .inl (cI, 118, .inl (ro 118 (jtI (mMove (mCues 16 s)) (i + 1)))))] H := hP
                            have hD : va_D A9 [(m0, .inr (6, [.ref m1, .ref m2, .ref m3, .int (nI k), .ref m4, .int (nI n), .int (nI th), .int (nI ax), .int (nI fa), .int (nI vl), .ref m5, .int (nI tn), .int (nI (heS (mMove (mCues 16 s)) i)), .int (nI b2)])), (q0, .inl (cI, 118, .inl (ro 118 (jtI (mMove (mCues 16 s)) (i + 1)))))] := hD
                            refine W.eq (g2 := F0 m9 276 ls [.int (nI (coF (jtI (mMove (mCues 16 s)) (i + 1)) i)), .int (nI b2), .ref m0]) rfl ?_
                            refine q_topi (y := (nI (coF (mMove (mCues 16 s)) i))) (by exact congrArg nI (jtI_n (mMove (mCues 16 s)) (by omega))) ?_
                            have hco : coF (mMove (mCues 16 s)) i ≤ 3 := hIu2 i (by omega)
                            refine q_fne (tgt := 283) (by omega) hx hb dX6_tick_276 (by decide) (fun c_276 => ?_) (fun c_276 => ?_)
                            ·
                              refine lv_iconst (v := nI 0) hx hb dX6_tick_283 (by decide +kernel) ?_
                              refine q_iadd hx hb dX6_tick_284 ?_
                              refine va_put (D := D) (ci := 6) (v := .int (nI (b2 + 0))) (ty := tyX6 13) (C := RX6) (T := TX6) (N := 14) hx hb hts in_X6_tick_X6 tyX6 tyX6_ok nmX6 hown hK hP hD hS 0 rfl rfl 13 (by decide) (hts _ fl_X6_tick_68) (fun _ h9 => h9) rfl (by decide +kernel) rfl rfl (Nat.le_of_ble_eq_true rfl) dX6_tick_285 (fun H locs hP hD hS => ?_)
                              have hP : va_P D vwCl [(m0, .inr (6, [.ref m1, .ref m2, .ref m3, .int (nI k), .ref m4, .int (nI n), .int (nI th), .int (nI ax), .int (nI fa), .int (nI vl), .ref m5, .int (nI tn), .int (nI (heS (mMove (mCues 16 s)) i)), .int (nI (b2 + 0))])), (q0, .inl (cI, 118, .inl (ro 118 (jtI (mMove (mCues 16 s)) (i + 1)))))] H := hP
                              have hD : va_D A9 [(m0, .inr (6, [.ref m1, .ref m2, .ref m3, .int (nI k), .ref m4, .int (nI n), .int (nI th), .int (nI ax), .int (nI fa), .int (nI vl), .ref m5, .int (nI tn), .int (nI (heS (mMove (mCues 16 s)) i)), .int (nI (b2 + 0))])), (q0, .inl (cI, 118, .inl (ro 118 (jtI (mMove (mCues 16 s)) (i + 1)))))] := hD
                              refine lv_iinc (v := (nI (i + 1))) (lv' := [(4, .int (nI (i + 1))), (5, .int (nI (heS (mMove (mCues 16 s)) i))), (0, .ref m0), (1, .ref q0)]) hx hb dX6_tick_288 hl (k := 3) rfl (nI_add i 1) (by decide) rfl (fun ls hl => ?_)
                              refine lv_goto (tgt := 198) hx hb dX6_tick_291 (by decide) ?_
                              exact ih198  (i + 1) (heS (mMove (mCues 16 s)) i) (b2 + 0) _ _ ls (by first | with_reducible assumption | omega) (by show _ = max (maxTo (heS (mMove (mCues 16 s))) i) (heS (mMove (mCues 16 s)) i); omega) (by show _ = brT (mMove (mCues 16 s)) i + (if 0 < heS (mMove (mCues 16 s)) i ∧ coF (mMove (mCues 16 s)) i = 0 then 1 else 0); first | (rw [if_pos ⟨by omega, by omega⟩]; omega) | (rw [if_neg (by omega)]; omega)) (by omega) hP hD hS (lv_sub hl [2, 3, 0] rfl)
                            ·
                              refine lv_iconst (v := nI 1) hx hb dX6_tick_279 (by decide +kernel) ?_
                              refine lv_goto (tgt := 284) hx hb dX6_tick_280 (by decide) ?_
                              refine q_iadd hx hb dX6_tick_284 ?_
                              refine va_put (D := D) (ci := 6) (v := .int (nI (b2 + 1))) (ty := tyX6 13) (C := RX6) (T := TX6) (N := 14) hx hb hts in_X6_tick_X6 tyX6 tyX6_ok nmX6 hown hK hP hD hS 0 rfl rfl 13 (by decide) (hts _ fl_X6_tick_68) (fun _ h9 => h9) rfl (by decide +kernel) rfl rfl (Nat.le_of_ble_eq_true rfl) dX6_tick_285 (fun H locs hP hD hS => ?_)
                              have hP : va_P D vwCl [(m0, .inr (6, [.ref m1, .ref m2, .ref m3, .int (nI k), .ref m4, .int (nI n), .int (nI th), .int (nI ax), .int (nI fa), .int (nI vl), .ref m5, .int (nI tn), .int (nI (heS (mMove (mCues 16 s)) i)), .int (nI (b2 + 1))])), (q0, .inl (cI, 118, .inl (ro 118 (jtI (mMove (mCues 16 s)) (i + 1)))))] H := hP
                              have hD : va_D A9 [(m0, .inr (6, [.ref m1, .ref m2, .ref m3, .int (nI k), .ref m4, .int (nI n), .int (nI th), .int (nI ax), .int (nI fa), .int (nI vl), .ref m5, .int (nI tn), .int (nI (heS (mMove (mCues 16 s)) i)), .int (nI (b2 + 1))])), (q0, .inl (cI, 118, .inl (ro 118 (jtI (mMove (mCues 16 s)) (i + 1)))))] := hD
                              refine lv_iinc (v := (nI (i + 1))) (lv' := [(4, .int (nI (i + 1))), (5, .int (nI (heS (mMove (mCues 16 s)) i))), (0, .ref m0), (1, .ref q0)]) hx hb dX6_tick_288 hl (k := 3) rfl (nI_add i 1) (by decide) rfl (fun ls hl => ?_)
                              refine lv_goto (tgt := 198) hx hb dX6_tick_291 (by decide) ?_
                              exact ih198  (i + 1) (heS (mMove (mCues 16 s)) i) (b2 + 1) _ _ ls (by first | with_reducible assumption | omega) (by show _ = max (maxTo (heS (mMove (mCues 16 s))) i) (heS (mMove (mCues 16 s)) i); omega) (by show _ = brT (mMove (mCues 16 s)) i + (if 0 < heS (mMove (mCues 16 s)) i ∧ coF (mMove (mCues 16 s)) i = 0 then 1 else 0); first | (rw [if_pos ⟨by omega, by omega⟩]; omega) | (rw [if_neg (by omega)]; omega)) (by omega) hP hD hS (lv_sub hl [2, 3, 0] rfl)
                exact L198 (8 - 0 + 1) 0 0 0 _ _ ls (by first | with_reducible assumption | omega) (by rfl) (by rfl) (by omega) hP hD hS (lv_sub hl [3, 4, 0] rfl)
              ·
                refine lv_aload_n hx hb dX6_tick_150 rfl (lv_at hl 2 rfl) ?_
                refine lv_bipush (v := nI 11) hx hb dX6_tick_151 (by decide +kernel) ?_
                refine lv_dup2_11 hx hb dX6_tick_153 rfl rfl ?_
                refine q_iald 1 0 (by omega) (by omega) hx hb hK hP rfl rfl dX6_tick_154 ?_
                refine lv_iconst (v := nI 1) hx hb dX6_tick_155 (by decide +kernel) ?_
                refine q_iadd hx hb dX6_tick_156 ?_
                refine q_iast 1 0 (by omega) (by omega) hx hb hK hP hD hS rfl rfl dX6_tick_157 (fun H locs hP hD hS => ?_)
                have hP : va_P D vwCl [(m0, .inr (6, [.ref m1, .ref m2, .ref m3, .int (nI k), .ref m4, .int (nI n), .int (nI th), .int (nI ax), .int (nI fa), .int (nI vl), .ref m5, .int (nI tn), .int (nI 0), .int (nI 0)])), (q0, .inl (cI, 118, .inl (ro 118 (upN (mMove (mCues 16 s)) 11 (((mMove (mCues 16 s)) 11) + 1)))))] H := hP
                have hD : va_D A9 [(m0, .inr (6, [.ref m1, .ref m2, .ref m3, .int (nI k), .ref m4, .int (nI n), .int (nI th), .int (nI ax), .int (nI fa), .int (nI vl), .ref m5, .int (nI tn), .int (nI 0), .int (nI 0)])), (q0, .inl (cI, 118, .inl (ro 118 (upN (mMove (mCues 16 s)) 11 (((mMove (mCues 16 s)) 11) + 1)))))] := hD
                refine lv_goto (tgt := 294) hx hb dX6_tick_158 (by decide) ?_
                refine lv_aload_n hx hb dX6_tick_294 rfl (lv_at hl 2 rfl) ?_
                refine lv_bipush (v := nI 13) hx hb dX6_tick_295 (by decide +kernel) ?_
                refine lv_aload_n hx hb dX6_tick_297 rfl (lv_at hl 1 rfl) ?_
                refine va_get (D := D) (ci := 6) (v := .int (nI 0)) (C := RX6) (T := TX6) (N := 14) hx hb hts in_X6_tick_X6 hown hK hP 0 rfl rfl 12 (by decide) (hts _ fl_X6_tick_65) (fun _ h9 => h9) rfl dX6_tick_298 ?_
                refine lv_aload_n hx hb dX6_tick_301 rfl (lv_at hl 2 rfl) ?_
                refine lv_bipush (v := nI 13) hx hb dX6_tick_302 (by decide +kernel) ?_
                refine q_iald 1 0 (by omega) (by omega) hx hb hK hP rfl rfl dX6_tick_304 ?_
                refine q_topi (y := (nI ((mMove (mCues 16 s)) 13))) (by first | rfl | exact congrArg nI (jtI_n (mMove (mCues 16 s)) (by omega))) ?_
                refine q_ile (tgt := 315) (by omega) (by omega) hx hb dX6_tick_305 (by decide) (fun c_305 => ?_) (fun c_305 => ?_)
                ·
                  refine lv_aload_n hx hb dX6_tick_315 rfl (lv_at hl 2 rfl) ?_
                  refine lv_bipush (v := nI 13) hx hb dX6_tick_316 (by decide +kernel) ?_
                  refine q_iald 1 0 (by omega) (by omega) hx hb hK hP rfl rfl dX6_tick_318 ?_
                  refine q_topi (y := (nI ((mMove (mCues 16 s)) 13))) (by first | rfl | exact congrArg nI (jtI_n (mMove (mCues 16 s)) (by omega))) ?_
                  refine q_iast 1 0 (by omega) (by omega) hx hb hK hP hD hS rfl rfl dX6_tick_319 (fun H locs hP hD hS => ?_)
                  have hP : va_P D vwCl [(m0, .inr (6, [.ref m1, .ref m2, .ref m3, .int (nI k), .ref m4, .int (nI n), .int (nI th), .int (nI ax), .int (nI fa), .int (nI vl), .ref m5, .int (nI tn), .int (nI 0), .int (nI 0)])), (q0, .inl (cI, 118, .inl (ro 118 (upN (upN (mMove (mCues 16 s)) 11 (((mMove (mCues 16 s)) 11) + 1)) 13 ((mMove (mCues 16 s)) 13)))))] H := hP
                  have hD : va_D A9 [(m0, .inr (6, [.ref m1, .ref m2, .ref m3, .int (nI k), .ref m4, .int (nI n), .int (nI th), .int (nI ax), .int (nI fa), .int (nI vl), .ref m5, .int (nI tn), .int (nI 0), .int (nI 0)])), (q0, .inl (cI, 118, .inl (ro 118 (upN (upN (mMove (mCues 16 s)) 11 (((mMove (mCues 16 s)) 11) + 1)) 13 ((mMove (mCues 16 s)) 13)))))] := hD
                  refine lv_aload_n hx hb dX6_tick_320 rfl (lv_at hl 2 rfl) ?_
                  refine lv_bipush (v := nI 7) hx hb dX6_tick_321 (by decide +kernel) ?_
                  refine lv_dup2_11 hx hb dX6_tick_323 rfl rfl ?_
                  refine q_iald 1 0 (by omega) (by omega) hx hb hK hP rfl rfl dX6_tick_324 ?_
                  refine lv_iconst (v := nI 1) hx hb dX6_tick_325 (by decide +kernel) ?_
                  refine q_iadd hx hb dX6_tick_326 ?_
                  refine q_iast 1 0 (by omega) (by omega) hx hb hK hP hD hS rfl rfl dX6_tick_327 (fun H locs hP hD hS => ?_)
                  have hP : va_P D vwCl [(m0, .inr (6, [.ref m1, .ref m2, .ref m3, .int (nI k), .ref m4, .int (nI n), .int (nI th), .int (nI ax), .int (nI fa), .int (nI vl), .ref m5, .int (nI tn), .int (nI 0), .int (nI 0)])), (q0, .inl (cI, 118, .inl (ro 118 (upN (upN (upN (mMove (mCues 16 s)) 11 (((mMove (mCues 16 s)) 11) + 1)) 13 ((mMove (mCues 16 s)) 13)) 7 (((upN (upN (mMove (mCues 16 s)) 11 (((mMove (mCues 16 s)) 11) + 1)) 13 ((mMove (mCues 16 s)) 13)) 7) + 1)))))] H := hP
                  have hD : va_D A9 [(m0, .inr (6, [.ref m1, .ref m2, .ref m3, .int (nI k), .ref m4, .int (nI n), .int (nI th), .int (nI ax), .int (nI fa), .int (nI vl), .ref m5, .int (nI tn), .int (nI 0), .int (nI 0)])), (q0, .inl (cI, 118, .inl (ro 118 (upN (upN (upN (mMove (mCues 16 s)) 11 (((mMove (mCues 16 s)) 11) + 1)) 13 ((mMove (mCues 16 s)) 13)) 7 (((upN (upN (mMove (mCues 16 s)) 11 (((mMove (mCues 16 s)) 11) + 1)) 13 ((mMove (mCues 16 s)) 13)) 7) + 1)))))] := hD
                  have er_10 : ro 118 (upN (upN (upN (mMove (mCues 16 s)) 11 (((mMove (mCues 16 s)) 11) + 1)) 13 ((mMove (mCues 16 s)) 13)) 7 (((upN (upN (mMove (mCues 16 s)) 11 (((mMove (mCues 16 s)) 11) + 1)) 13 ((mMove (mCues 16 s)) 13)) 7) + 1)) = ro 118 (mTick s) := by first | exact dry_row c_147 rfl rfl | exact dry_row c_147 (by omega) rfl | exact wet_row (by omega) (by omega) (by rw [show i = 8 by omega] at hh; omega) (congrArg (fun z => z + 1) (jtI_n (i := i) (mMove (mCues 16 s)) (x := 7) (by omega)))
                  rw [er_10] at hP hD
                  first | rw [show hiS (mMove (mCues 16 s)) = 0 from if_pos c_147, show brS (mMove (mCues 16 s)) = 0 from if_pos c_147] at hret | (rw [show i = 8 by omega] at hh hb2; rw [show hiS (mMove (mCues 16 s)) = h2 from (if_neg (by omega)).trans hh.symm, show brS (mMove (mCues 16 s)) = b2 from (if_neg (by omega)).trans hb2.symm] at hret)
                  exact hret _ _ _ _ none () 328 ls (by decide) (by decide) (by rfl) hP hD hS (ret_v dX6_tick_328)
                ·
                  refine lv_aload_n hx hb dX6_tick_308 rfl (lv_at hl 1 rfl) ?_
                  refine va_get (D := D) (ci := 6) (v := .int (nI 0)) (C := RX6) (T := TX6) (N := 14) hx hb hts in_X6_tick_X6 hown hK hP 0 rfl rfl 12 (by decide) (hts _ fl_X6_tick_65) (fun _ h9 => h9) rfl dX6_tick_309 ?_
                  refine lv_goto (tgt := 319) hx hb dX6_tick_312 (by decide) ?_
                  refine q_iast 1 0 (by omega) (by omega) hx hb hK hP hD hS rfl rfl dX6_tick_319 (fun H locs hP hD hS => ?_)
                  have hP : va_P D vwCl [(m0, .inr (6, [.ref m1, .ref m2, .ref m3, .int (nI k), .ref m4, .int (nI n), .int (nI th), .int (nI ax), .int (nI fa), .int (nI vl), .ref m5, .int (nI tn), .int (nI 0), .int (nI 0)])), (q0, .inl (cI, 118, .inl (ro 118 (upN (upN (mMove (mCues 16 s)) 11 (((mMove (mCues 16 s)) 11) + 1)) 13 0))))] H := hP
                  have hD : va_D A9 [(m0, .inr (6, [.ref m1, .ref m2, .ref m3, .int (nI k), .ref m4, .int (nI n), .int (nI th), .int (nI ax), .int (nI fa), .int (nI vl), .ref m5, .int (nI tn), .int (nI 0), .int (nI 0)])), (q0, .inl (cI, 118, .inl (ro 118 (upN (upN (mMove (mCues 16 s)) 11 (((mMove (mCues 16 s)) 11) + 1)) 13 0))))] := hD
                  refine lv_aload_n hx hb dX6_tick_320 rfl (lv_at hl 2 rfl) ?_
                  refine lv_bipush (v := nI 7) hx hb dX6_tick_321 (by decide +kernel) ?_
                  refine lv_dup2_11 hx hb dX6_tick_323 rfl rfl ?_
                  refine q_iald 1 0 (by omega) (by omega) hx hb hK hP rfl rfl dX6_tick_324 ?_
                  refine lv_iconst (v := nI 1) hx hb dX6_tick_325 (by decide +kernel) ?_
                  refine q_iadd hx hb dX6_tick_326 ?_
                  refine q_iast 1 0 (by omega) (by omega) hx hb hK hP hD hS rfl rfl dX6_tick_327 (fun H locs hP hD hS => ?_)
                  have hP : va_P D vwCl [(m0, .inr (6, [.ref m1, .ref m2, .ref m3, .int (nI k), .ref m4, .int (nI n), .int (nI th), .int (nI ax), .int (nI fa), .int (nI vl), .ref m5, .int (nI tn), .int (nI 0), .int (nI 0)])), (q0, .inl (cI, 118, .inl (ro 118 (upN (upN (upN (mMove (mCues 16 s)) 11 (((mMove (mCues 16 s)) 11) + 1)) 13 0) 7 (((upN (upN (mMove (mCues 16 s)) 11 (((mMove (mCues 16 s)) 11) + 1)) 13 0) 7) + 1)))))] H := hP
                  have hD : va_D A9 [(m0, .inr (6, [.ref m1, .ref m2, .ref m3, .int (nI k), .ref m4, .int (nI n), .int (nI th), .int (nI ax), .int (nI fa), .int (nI vl), .ref m5, .int (nI tn), .int (nI 0), .int (nI 0)])), (q0, .inl (cI, 118, .inl (ro 118 (upN (upN (upN (mMove (mCues 16 s)) 11 (((mMove (mCues 16 s)) 11) + 1)) 13 0) 7 (((upN (upN (mMove (mCues 16 s)) 11 (((mMove (mCues 16 s)) 11) + 1)) 13 0) 7) + 1)))))] := hD
                  have er_11 : ro 118 (upN (upN (upN (mMove (mCues 16 s)) 11 (((mMove (mCues 16 s)) 11) + 1)) 13 0) 7 (((upN (upN (mMove (mCues 16 s)) 11 (((mMove (mCues 16 s)) 11) + 1)) 13 0) 7) + 1)) = ro 118 (mTick s) := by first | exact dry_row c_147 rfl rfl | exact dry_row c_147 (by omega) rfl | exact wet_row (by omega) (by omega) (by rw [show i = 8 by omega] at hh; omega) (congrArg (fun z => z + 1) (jtI_n (i := i) (mMove (mCues 16 s)) (x := 7) (by omega)))
                  rw [er_11] at hP hD
                  first | rw [show hiS (mMove (mCues 16 s)) = 0 from if_pos c_147, show brS (mMove (mCues 16 s)) = 0 from if_pos c_147] at hret | (rw [show i = 8 by omega] at hh hb2; rw [show hiS (mMove (mCues 16 s)) = h2 from (if_neg (by omega)).trans hh.symm, show brS (mMove (mCues 16 s)) = b2 from (if_neg (by omega)).trans hb2.symm] at hret)
                  exact hret _ _ _ _ none () 328 ls (by decide) (by decide) (by rfl) hP hD hS (ret_v dX6_tick_328)
            ·
              refine lv_aload_n hx hb dX6_tick_65 rfl (lv_at hl 1 rfl) ?_
              refine lv_iload_n hx hb dX6_tick_66 rfl (lv_at hl 2 rfl) ?_
              refine lv_iconst (v := nI 3) hx hb dX6_tick_67 (by decide +kernel) ?_
              have hv9 := hc2 i (by omega)
              have ha9 := hc3 i (by omega)
              refine KM.callS (As := [.ref q0, .int (nI i), .int (nI 3)]) (rest := []) C0 hN (k_X6_of_3 l D cI cS cL q0 (mvI (mCues 16 s) i) i  (by first | with_reducible assumption | omega)) (va_cwS 3 hts gX6_tick_X6_of rfl rfl rfl (by decide +kernel) ⟨Nat.le_of_ble_eq_true rfl, Nat.le_of_ble_eq_true rfl⟩) hK hP hD hS hA [1] rfl (by decide) (fun _ => rfl) rfl hl.1 rfl (Nat.le_of_ble_eq_true rfl) dX6_tick_68 ⟨Nat.le_of_ble_eq_true rfl, Nat.le_of_ble_eq_true rfl⟩ (fun v9 u9 H locs hv hP hD hS => ?_)
              subst hv
              have hP : va_P D vwCl [(m0, .inr (6, [.ref m1, .ref m2, .ref m3, .int (nI k), .ref m4, .int (nI n), .int (nI th), .int (nI ax), .int (nI fa), .int (nI vl), .ref m5, .int (nI tn), .int (nI hg), .int (nI bg)])), (q0, .inl (cI, 118, .inl (ro 118 (mvI (mCues 16 s) i))))] H := hP
              have hD : va_D A9 [(m0, .inr (6, [.ref m1, .ref m2, .ref m3, .int (nI k), .ref m4, .int (nI n), .int (nI th), .int (nI ax), .int (nI fa), .int (nI vl), .ref m5, .int (nI tn), .int (nI hg), .int (nI bg)])), (q0, .inl (cI, 118, .inl (ro 118 (mvI (mCues 16 s) i))))] := hD
              refine W.eq (g2 := F0 m9 71 ls [.int (nI (amF (mvI (mCues 16 s) i) i))]) rfl ?_
              refine q_topi (y := (nI (amF (mCues 16 s) i))) (by exact congrArg nI (mvI_n (mCues 16 s) (by omega))) ?_
              refine lv_aload_n hx hb dX6_tick_71 rfl (lv_at hl 1 rfl) ?_
              refine lv_iload_n hx hb dX6_tick_72 rfl (lv_at hl 2 rfl) ?_
              refine lv_iconst (v := nI 2) hx hb dX6_tick_73 (by decide +kernel) ?_
              refine KM.callS (As := [.ref q0, .int (nI i), .int (nI 2)]) (rest := [.int (nI (amF (mCues 16 s) i))]) C0 hN (k_X6_of_2 l D cI cS cL q0 (mvI (mCues 16 s) i) i  (by first | with_reducible assumption | omega)) (va_cwS 3 hts gX6_tick_X6_of rfl rfl rfl (by decide +kernel) ⟨Nat.le_of_ble_eq_true rfl, Nat.le_of_ble_eq_true rfl⟩) hK hP hD hS hA [1] rfl (by decide) (fun _ => rfl) rfl hl.1 rfl (Nat.le_of_ble_eq_true rfl) dX6_tick_74 ⟨Nat.le_of_ble_eq_true rfl, Nat.le_of_ble_eq_true rfl⟩ (fun v9 u9 H locs hv hP hD hS => ?_)
              subst hv
              have hP : va_P D vwCl [(m0, .inr (6, [.ref m1, .ref m2, .ref m3, .int (nI k), .ref m4, .int (nI n), .int (nI th), .int (nI ax), .int (nI fa), .int (nI vl), .ref m5, .int (nI tn), .int (nI hg), .int (nI bg)])), (q0, .inl (cI, 118, .inl (ro 118 (mvI (mCues 16 s) i))))] H := hP
              have hD : va_D A9 [(m0, .inr (6, [.ref m1, .ref m2, .ref m3, .int (nI k), .ref m4, .int (nI n), .int (nI th), .int (nI ax), .int (nI fa), .int (nI vl), .ref m5, .int (nI tn), .int (nI hg), .int (nI bg)])), (q0, .inl (cI, 118, .inl (ro 118 (mvI (mCues 16 s) i))))] := hD
              refine W.eq (g2 := F0 m9 77 ls [.int (nI (vaF (mvI (mCues 16 s) i) i)), .int (nI (amF (mCues 16 s) i))]) rfl ?_
              refine q_topi (y := (nI (vaF (mCues 16 s) i))) (by exact congrArg nI (mvI_n (mCues 16 s) (by omega))) ?_
              refine lv_isub hx hb dX6_tick_77 ?_
              refine lv_istore_n (lv' := [(3, .int ((nI (amF (mCues 16 s) i)) - (nI (vaF (mCues 16 s) i)))), (0, .ref m0), (1, .ref q0), (2, .int (nI i))]) hx hb dX6_tick_78 rfl hl (by decide) rfl (fun ls hl => ?_)
              refine lv_aload_n hx hb dX6_tick_79 rfl (lv_at hl 2 rfl) ?_
              refine lv_bipush (v := nI 14) hx hb dX6_tick_80 (by decide +kernel) ?_
              refine lv_iconst (v := nI 5) hx hb dX6_tick_82 (by decide +kernel) ?_
              refine lv_iload_n hx hb dX6_tick_83 rfl (lv_at hl 3 rfl) ?_
              refine q_imul hx hb dX6_tick_84 ?_
              refine q_iadd hx hb dX6_tick_85 ?_
              refine lv_iconst (v := nI 2) hx hb dX6_tick_86 (by decide +kernel) ?_
              refine q_iadd hx hb dX6_tick_87 ?_
              refine lv_dup2_11 hx hb dX6_tick_88 rfl rfl ?_
              refine q_iald 1 0 (by omega) (by omega) hx hb hK hP rfl rfl dX6_tick_89 ?_
              refine q_topi (y := (nI (vaF (mCues 16 s) i))) (by exact congrArg nI ((congrArg (mvI (mCues 16 s) i) (show 14 + 5 * i + 2 = 16 + 5 * i by omega)).trans (mvI_n (mCues 16 s) (by omega)))) ?_
              refine lv_iload_n hx hb dX6_tick_90 rfl (lv_at hl 0 rfl) ?_
              refine lv_aload_n hx hb dX6_tick_91 rfl (lv_at hl 2 rfl) ?_
              refine lv_iconst (v := nI 2) hx hb dX6_tick_92 (by decide +kernel) ?_
              refine q_iald 1 0 (by omega) (by omega) hx hb hK hP rfl rfl dX6_tick_93 ?_
              refine q_topi (y := (nI ((mCues 16 s) 2))) (by exact congrArg nI (mvI_n (mCues 16 s) (by omega))) ?_
              refine lv_icmp_le (tgt := 103) hx hb dX6_tick_94 (by decide) (fun c_94 => ?_) (fun c_94 => ?_)
              ·
                refine lv_iload_n hx hb dX6_tick_103 rfl (lv_at hl 0 rfl) ?_
                refine lv_aload_n hx hb dX6_tick_104 rfl (lv_at hl 2 rfl) ?_
                refine lv_iconst (v := nI 2) hx hb dX6_tick_105 (by decide +kernel) ?_
                refine q_iald 1 0 (by omega) (by omega) hx hb hK hP rfl rfl dX6_tick_106 ?_
                refine q_topi (y := (nI ((mCues 16 s) 2))) (by exact congrArg nI (mvI_n (mCues 16 s) (by omega))) ?_
                refine lv_ineg hx hb dX6_tick_107 ?_
                refine lv_icmp_ge (tgt := 118) hx hb dX6_tick_108 (by decide) (fun c_108 => ?_) (fun c_108 => ?_)
                ·
                  refine lv_iload_n hx hb dX6_tick_118 rfl (lv_at hl 0 rfl) ?_
                  refine lv_iadd hx hb dX6_tick_119 ?_
                  refine q_topi (y := (nI (mv (amF (mCues 16 s) i) (vaF (mCues 16 s) i) ((mCues 16 s) 2)))) (by first | exact mvA (by omega) (by omega) (by omega) c_94 | exact mvB (by omega) (by omega) (by omega) c_108 | exact mvC (by omega) (by omega) (by omega) c_94 c_108) ?_
                  refine q_iast 1 0 (by omega) (by omega) hx hb hK hP hD hS rfl rfl dX6_tick_120 (fun H locs hP hD hS => ?_)
                  have hP : va_P D vwCl [(m0, .inr (6, [.ref m1, .ref m2, .ref m3, .int (nI k), .ref m4, .int (nI n), .int (nI th), .int (nI ax), .int (nI fa), .int (nI vl), .ref m5, .int (nI tn), .int (nI hg), .int (nI bg)])), (q0, .inl (cI, 118, .inl (ro 118 (upN (mvI (mCues 16 s) i) ((14 + (5 * i)) + 2) (mv (amF (mCues 16 s) i) (vaF (mCues 16 s) i) ((mCues 16 s) 2))))))] H := hP
                  have hD : va_D A9 [(m0, .inr (6, [.ref m1, .ref m2, .ref m3, .int (nI k), .ref m4, .int (nI n), .int (nI th), .int (nI ax), .int (nI fa), .int (nI vl), .ref m5, .int (nI tn), .int (nI hg), .int (nI bg)])), (q0, .inl (cI, 118, .inl (ro 118 (upN (mvI (mCues 16 s) i) ((14 + (5 * i)) + 2) (mv (amF (mCues 16 s) i) (vaF (mCues 16 s) i) ((mCues 16 s) 2))))))] := hD
                  have er_12 : ro 118 (upN (mvI (mCues 16 s) i) ((14 + (5 * i)) + 2) (mv (amF (mCues 16 s) i) (vaF (mCues 16 s) i) ((mCues 16 s) 2))) = ro 118 (mvI (mCues 16 s) (i + 1)) := by rw [show 14 + 5 * i + 2 = 16 + 5 * i by omega]; exact mvI_s (mCues 16 s) i
                  rw [er_12] at hP hD
                  refine lv_iinc (v := (nI (i + 1))) (lv' := [(2, .int (nI (i + 1))), (3, .int ((nI (amF (mCues 16 s) i)) - (nI (vaF (mCues 16 s) i)))), (0, .ref m0), (1, .ref q0)]) hx hb dX6_tick_121 hl (k := 3) rfl (nI_add i 1) (by decide) rfl (fun ls hl => ?_)
                  refine lv_goto (tgt := 59) hx hb dX6_tick_124 (by decide) ?_
                  exact ih59  (i + 1) _ _ ls (by first | with_reducible assumption | omega) (by omega) hP hD hS (lv_sub hl [2, 3, 0] rfl)
                ·
                  refine lv_aload_n hx hb dX6_tick_111 rfl (lv_at hl 2 rfl) ?_
                  refine lv_iconst (v := nI 2) hx hb dX6_tick_112 (by decide +kernel) ?_
                  refine q_iald 1 0 (by omega) (by omega) hx hb hK hP rfl rfl dX6_tick_113 ?_
                  refine q_topi (y := (nI ((mCues 16 s) 2))) (by exact congrArg nI (mvI_n (mCues 16 s) (by omega))) ?_
                  refine lv_ineg hx hb dX6_tick_114 ?_
                  refine lv_goto (tgt := 119) hx hb dX6_tick_115 (by decide) ?_
                  refine lv_iadd hx hb dX6_tick_119 ?_
                  refine q_topi (y := (nI (mv (amF (mCues 16 s) i) (vaF (mCues 16 s) i) ((mCues 16 s) 2)))) (by first | exact mvA (by omega) (by omega) (by omega) c_94 | exact mvB (by omega) (by omega) (by omega) c_108 | exact mvC (by omega) (by omega) (by omega) c_94 c_108) ?_
                  refine q_iast 1 0 (by omega) (by omega) hx hb hK hP hD hS rfl rfl dX6_tick_120 (fun H locs hP hD hS => ?_)
                  have hP : va_P D vwCl [(m0, .inr (6, [.ref m1, .ref m2, .ref m3, .int (nI k), .ref m4, .int (nI n), .int (nI th), .int (nI ax), .int (nI fa), .int (nI vl), .ref m5, .int (nI tn), .int (nI hg), .int (nI bg)])), (q0, .inl (cI, 118, .inl (ro 118 (upN (mvI (mCues 16 s) i) ((14 + (5 * i)) + 2) (mv (amF (mCues 16 s) i) (vaF (mCues 16 s) i) ((mCues 16 s) 2))))))] H := hP
                  have hD : va_D A9 [(m0, .inr (6, [.ref m1, .ref m2, .ref m3, .int (nI k), .ref m4, .int (nI n), .int (nI th), .int (nI ax), .int (nI fa), .int (nI vl), .ref m5, .int (nI tn), .int (nI hg), .int (nI bg)])), (q0, .inl (cI, 118, .inl (ro 118 (upN (mvI (mCues 16 s) i) ((14 + (5 * i)) + 2) (mv (amF (mCues 16 s) i) (vaF (mCues 16 s) i) ((mCues 16 s) 2))))))] := hD
                  have er_13 : ro 118 (upN (mvI (mCues 16 s) i) ((14 + (5 * i)) + 2) (mv (amF (mCues 16 s) i) (vaF (mCues 16 s) i) ((mCues 16 s) 2))) = ro 118 (mvI (mCues 16 s) (i + 1)) := by rw [show 14 + 5 * i + 2 = 16 + 5 * i by omega]; exact mvI_s (mCues 16 s) i
                  rw [er_13] at hP hD
                  refine lv_iinc (v := (nI (i + 1))) (lv' := [(2, .int (nI (i + 1))), (3, .int ((nI (amF (mCues 16 s) i)) - (nI (vaF (mCues 16 s) i)))), (0, .ref m0), (1, .ref q0)]) hx hb dX6_tick_121 hl (k := 3) rfl (nI_add i 1) (by decide) rfl (fun ls hl => ?_)
                  refine lv_goto (tgt := 59) hx hb dX6_tick_124 (by decide) ?_
                  exact ih59  (i + 1) _ _ ls (by first | with_reducible assumption | omega) (by omega) hP hD hS (lv_sub hl [2, 3, 0] rfl)
              ·
                refine lv_aload_n hx hb dX6_tick_97 rfl (lv_at hl 2 rfl) ?_
                refine lv_iconst (v := nI 2) hx hb dX6_tick_98 (by decide +kernel) ?_
                refine q_iald 1 0 (by omega) (by omega) hx hb hK hP rfl rfl dX6_tick_99 ?_
                refine q_topi (y := (nI ((mCues 16 s) 2))) (by exact congrArg nI (mvI_n (mCues 16 s) (by omega))) ?_
                refine lv_goto (tgt := 119) hx hb dX6_tick_100 (by decide) ?_
                refine q_iadd hx hb dX6_tick_119 ?_
                refine q_topi (y := (nI (mv (amF (mCues 16 s) i) (vaF (mCues 16 s) i) ((mCues 16 s) 2)))) (by first | exact mvA (by omega) (by omega) (by omega) c_94 | exact mvB (by omega) (by omega) (by omega) c_108 | exact mvC (by omega) (by omega) (by omega) c_94 c_108) ?_
                refine q_iast 1 0 (by omega) (by omega) hx hb hK hP hD hS rfl rfl dX6_tick_120 (fun H locs hP hD hS => ?_)
                have hP : va_P D vwCl [(m0, .inr (6, [.ref m1, .ref m2, .ref m3, .int (nI k), .ref m4, .int (nI n), .int (nI th), .int (nI ax), .int (nI fa), .int (nI vl), .ref m5, .int (nI tn), .int (nI hg), .int (nI bg)])), (q0, .inl (cI, 118, .inl (ro 118 (upN (mvI (mCues 16 s) i) ((14 + (5 * i)) + 2) (mv (amF (mCues 16 s) i) (vaF (mCues 16 s) i) ((mCues 16 s) 2))))))] H := hP
                have hD : va_D A9 [(m0, .inr (6, [.ref m1, .ref m2, .ref m3, .int (nI k), .ref m4, .int (nI n), .int (nI th), .int (nI ax), .int (nI fa), .int (nI vl), .ref m5, .int (nI tn), .int (nI hg), .int (nI bg)])), (q0, .inl (cI, 118, .inl (ro 118 (upN (mvI (mCues 16 s) i) ((14 + (5 * i)) + 2) (mv (amF (mCues 16 s) i) (vaF (mCues 16 s) i) ((mCues 16 s) 2))))))] := hD
                have er_14 : ro 118 (upN (mvI (mCues 16 s) i) ((14 + (5 * i)) + 2) (mv (amF (mCues 16 s) i) (vaF (mCues 16 s) i) ((mCues 16 s) 2))) = ro 118 (mvI (mCues 16 s) (i + 1)) := by rw [show 14 + 5 * i + 2 = 16 + 5 * i by omega]; exact mvI_s (mCues 16 s) i
                rw [er_14] at hP hD
                refine lv_iinc (v := (nI (i + 1))) (lv' := [(2, .int (nI (i + 1))), (3, .int ((nI (amF (mCues 16 s) i)) - (nI (vaF (mCues 16 s) i)))), (0, .ref m0), (1, .ref q0)]) hx hb dX6_tick_121 hl (k := 3) rfl (nI_add i 1) (by decide) rfl (fun ls hl => ?_)
                refine lv_goto (tgt := 59) hx hb dX6_tick_124 (by decide) ?_
                exact ih59  (i + 1) _ _ ls (by first | with_reducible assumption | omega) (by omega) hP hD hS (lv_sub hl [2, 3, 0] rfl)
        exact L59 (8 - 0 + 1) 0 _ _ ls (by first | with_reducible assumption | omega) (by omega) hP hD hS (lv_sub hl [1, 2, 0] rfl)
      ·
        refine lv_aload_n hx hb dX6_tick_7 rfl (lv_at hl 1 rfl) ?_
        refine lv_iconst (v := nI 0) hx hb dX6_tick_8 (by decide +kernel) ?_
        refine lv_iconst (v := nI 1) hx hb dX6_tick_9 (by decide +kernel) ?_
        refine KM.callS (As := [.ref q0, .int (nI 0), .int (nI 1)]) (rest := []) C0 hN (k_X6_by_1 l D cI cS cL q0 t 0  (by first | with_reducible assumption | omega)) (va_cwS 3 hts gX6_tick_X6_by rfl rfl rfl (by decide +kernel) ⟨Nat.le_of_ble_eq_true rfl, Nat.le_of_ble_eq_true rfl⟩) hK hP hD hS hA [1] rfl (by decide) (fun _ => rfl) rfl hl.1 rfl (Nat.le_of_ble_eq_true rfl) dX6_tick_10 ⟨Nat.le_of_ble_eq_true rfl, Nat.le_of_ble_eq_true rfl⟩ (fun v9 u9 H locs hv hP hD hS => ?_)
        subst hv
        have hP : va_P D vwCl [(m0, .inr (6, [.ref m1, .ref m2, .ref m3, .int (nI k), .ref m4, .int (nI n), .int (nI th), .int (nI ax), .int (nI fa), .int (nI vl), .ref m5, .int (nI tn), .int (nI hg), .int (nI bg)])), (q0, .inl (cI, 118, .inl (ro 118 t)))] H := hP
        have hD : va_D A9 [(m0, .inr (6, [.ref m1, .ref m2, .ref m3, .int (nI k), .ref m4, .int (nI n), .int (nI th), .int (nI ax), .int (nI fa), .int (nI vl), .ref m5, .int (nI tn), .int (nI hg), .int (nI bg)])), (q0, .inl (cI, 118, .inl (ro 118 t)))] := hD
        refine W.eq (g2 := F0 m9 13 ls [.int (nI (tiF t 0))]) rfl ?_
        refine lv_aload_n hx hb dX6_tick_13 rfl (lv_at hl 1 rfl) ?_
        refine lv_bipush (v := nI 7) hx hb dX6_tick_14 (by decide +kernel) ?_
        refine q_iald 1 0 (by omega) (by omega) hx hb hK hP rfl rfl dX6_tick_16 ?_
        have h91 := hJ9 0 (by omega)
        refine q_ine (tgt := 57) (by omega) (by omega) hx hb dX6_tick_17 (by decide) (fun c_17 => ?_) (fun c_17 => ?_)
        ·
          have er_15 : ro 118 t = ro 118 (mvI (mCues 16 s) 0) := by rw [ht, mCues_end (by first | (left; omega) | (right; omega) | (right; exact fun z => c_17 z.2))]; exact mvI_0 t
          rw [er_15] at hP hD
          refine lv_iconst (v := nI 0) hx hb dX6_tick_57 (by decide +kernel) ?_
          refine lv_istore_n (lv' := [(2, .int (nI 0)), (0, .ref m0), (1, .ref q0)]) hx hb dX6_tick_58 rfl hl (by decide) rfl (fun ls hl => ?_)
          have L59 : ∀ (fuel : Nat) (i : Nat) (H : Heap) (locs : List Loc) (ls : Array Slot), (i ≤ 8) → (8 - i < fuel) → va_P D vwCl [(m0, .inr (6, [.ref m1, .ref m2, .ref m3, .int (nI k), .ref m4, .int (nI n), .int (nI th), .int (nI ax), .int (nI fa), .int (nI vl), .ref m5, .int (nI tn), .int (nI hg), .int (nI bg)])), (q0, .inl (cI, 118, .inl (ro 118 (mvI (mCues 16 s) i))))] H → va_D A9 [(m0, .inr (6, [.ref m1, .ref m2, .ref m3, .int (nI k), .ref m4, .int (nI n), .int (nI th), .int (nI ax), .int (nI fa), .int (nI vl), .ref m5, .int (nI tn), .int (nI hg), .int (nI bg)])), (q0, .inl (cI, 118, .inl (ro 118 (mvI (mCues 16 s) i))))] → va_S A9 s9.heap H locs → lv_has ls 6 [(0, .ref m0), (1, .ref q0), (2, .int (nI i))] → W p9 l e9 ({ frames := 5, cells := 0, slots := 0, locals := 113 } : Room) s9 m9 ar9 be9 me9 c9 H locs 0 0 Q9 (F0 m9 59 ls []) := by
            intro fuel
            induction fuel with
            | zero => intro i H locs ls hi hfu; exact absurd hfu (Nat.not_lt_zero _)
            | succ fuel ih59 =>
              intro i H locs ls hi hfu hP hD hS hl
              refine lv_iload_n hx hb dX6_tick_59 rfl (lv_at hl 2 rfl) ?_
              refine lv_bipush (v := nI 8) hx hb dX6_tick_60 (by decide +kernel) ?_
              refine q_ige (tgt := 127) (by omega) (by omega) hx hb dX6_tick_62 (by decide) (fun c_62 => ?_) (fun c_62 => ?_)
              ·
                have er_16 : ro 118 (mvI (mCues 16 s) i) = ro 118 (mMove (mCues 16 s)) := by exact mvI_8 (mCues 16 s) (by omega)
                rw [er_16] at hP hD
                refine lv_aload_n hx hb dX6_tick_127 rfl (lv_at hl 0 rfl) ?_
                refine lv_iconst (v := nI 0) hx hb dX6_tick_128 (by decide +kernel) ?_
                refine va_put (D := D) (ci := 6) (v := .int (nI 0)) (ty := tyX6 12) (C := RX6) (T := TX6) (N := 14) hx hb hts in_X6_tick_X6 tyX6 tyX6_ok nmX6 hown hK hP hD hS 0 rfl rfl 12 (by decide) (hts _ fl_X6_tick_65) (fun _ h9 => h9) rfl (by decide +kernel) rfl rfl (Nat.le_of_ble_eq_true rfl) dX6_tick_129 (fun H locs hP hD hS => ?_)
                have hP : va_P D vwCl [(m0, .inr (6, [.ref m1, .ref m2, .ref m3, .int (nI k), .ref m4, .int (nI n), .int (nI th), .int (nI ax), .int (nI fa), .int (nI vl), .ref m5, .int (nI tn), .int (nI 0), .int (nI bg)])), (q0, .inl (cI, 118, .inl (ro 118 (mMove (mCues 16 s)))))] H := hP
                have hD : va_D A9 [(m0, .inr (6, [.ref m1, .ref m2, .ref m3, .int (nI k), .ref m4, .int (nI n), .int (nI th), .int (nI ax), .int (nI fa), .int (nI vl), .ref m5, .int (nI tn), .int (nI 0), .int (nI bg)])), (q0, .inl (cI, 118, .inl (ro 118 (mMove (mCues 16 s)))))] := hD
                refine lv_aload_n hx hb dX6_tick_132 rfl (lv_at hl 0 rfl) ?_
                refine lv_iconst (v := nI 0) hx hb dX6_tick_133 (by decide +kernel) ?_
                refine va_put (D := D) (ci := 6) (v := .int (nI 0)) (ty := tyX6 13) (C := RX6) (T := TX6) (N := 14) hx hb hts in_X6_tick_X6 tyX6 tyX6_ok nmX6 hown hK hP hD hS 0 rfl rfl 13 (by decide) (hts _ fl_X6_tick_68) (fun _ h9 => h9) rfl (by decide +kernel) rfl rfl (Nat.le_of_ble_eq_true rfl) dX6_tick_134 (fun H locs hP hD hS => ?_)
                have hP : va_P D vwCl [(m0, .inr (6, [.ref m1, .ref m2, .ref m3, .int (nI k), .ref m4, .int (nI n), .int (nI th), .int (nI ax), .int (nI fa), .int (nI vl), .ref m5, .int (nI tn), .int (nI 0), .int (nI 0)])), (q0, .inl (cI, 118, .inl (ro 118 (mMove (mCues 16 s)))))] H := hP
                have hD : va_D A9 [(m0, .inr (6, [.ref m1, .ref m2, .ref m3, .int (nI k), .ref m4, .int (nI n), .int (nI th), .int (nI ax), .int (nI fa), .int (nI vl), .ref m5, .int (nI tn), .int (nI 0), .int (nI 0)])), (q0, .inl (cI, 118, .inl (ro 118 (mMove (mCues 16 s)))))] := hD
                refine lv_aload_n hx hb dX6_tick_137 rfl (lv_at hl 1 rfl) ?_
                refine KM.callS (As := [.ref q0]) (rest := []) C0 hN (k_X6_allGet l D cI cS cL q0 (mMove (mCues 16 s))  (by exact hIu1)) (va_cwS 1 hts gX6_tick_X6_allGet rfl rfl rfl (by decide +kernel) ⟨Nat.le_of_ble_eq_true rfl, Nat.le_of_ble_eq_true rfl⟩) hK hP hD hS hA [1] rfl (by decide) (fun _ => rfl) rfl hl.1 rfl (Nat.le_of_ble_eq_true rfl) dX6_tick_138 ⟨Nat.le_of_ble_eq_true rfl, Nat.le_of_ble_eq_true rfl⟩ (fun v9 u9 H locs hv hP hD hS => ?_)
                subst hv
                have hP : va_P D vwCl [(m0, .inr (6, [.ref m1, .ref m2, .ref m3, .int (nI k), .ref m4, .int (nI n), .int (nI th), .int (nI ax), .int (nI fa), .int (nI vl), .ref m5, .int (nI tn), .int (nI 0), .int (nI 0)])), (q0, .inl (cI, 118, .inl (ro 118 (mMove (mCues 16 s)))))] H := hP
                have hD : va_D A9 [(m0, .inr (6, [.ref m1, .ref m2, .ref m3, .int (nI k), .ref m4, .int (nI n), .int (nI th), .int (nI ax), .int (nI fa), .int (nI vl), .ref m5, .int (nI tn), .int (nI 0), .int (nI 0)])), (q0, .inl (cI, 118, .inl (ro 118 (mMove (mCues 16 s)))))] := hD
                refine W.eq (g2 := F0 m9 141 ls [.int (nI (tS (mMove (mCues 16 s))))]) rfl ?_
                refine lv_istore_n (lv' := [(2, .int (nI (tS (mMove (mCues 16 s))))), (0, .ref m0), (1, .ref q0)]) hx hb dX6_tick_141 rfl hl (by decide) rfl (fun ls hl => ?_)
                refine lv_aload_n hx hb dX6_tick_142 rfl (lv_at hl 2 rfl) ?_
                refine lv_bipush (v := nI 6) hx hb dX6_tick_143 (by decide +kernel) ?_
                refine q_iald 1 0 (by omega) (by omega) hx hb hK hP rfl rfl dX6_tick_145 ?_
                refine lv_iload_n hx hb dX6_tick_146 rfl (lv_at hl 0 rfl) ?_
                refine q_ige (tgt := 161) (by omega) (by omega) hx hb dX6_tick_147 (by decide) (fun c_147 => ?_) (fun c_147 => ?_)
                ·
                  refine lv_iload_n hx hb dX6_tick_161 rfl (lv_at hl 0 rfl) ?_
                  refine lv_aload_n hx hb dX6_tick_162 rfl (lv_at hl 2 rfl) ?_
                  refine lv_iconst (v := nI 1) hx hb dX6_tick_163 (by decide +kernel) ?_
                  refine q_iald 1 0 (by omega) (by omega) hx hb hK hP rfl rfl dX6_tick_164 ?_
                  refine q_imul hx hb dX6_tick_165 ?_
                  refine lv_bipush (v := nI 100) hx hb dX6_tick_166 (by decide +kernel) ?_
                  refine q_idiv (by omega) (by omega) (by omega) hx hb dX6_tick_168 ?_
                  refine lv_iload_n hx hb dX6_tick_169 rfl (lv_at hl 0 rfl) ?_
                  refine lv_aload_n hx hb dX6_tick_170 rfl (lv_at hl 2 rfl) ?_
                  refine lv_iconst (v := nI 5) hx hb dX6_tick_171 (by decide +kernel) ?_
                  refine q_iald 1 0 (by omega) (by omega) hx hb hK hP rfl rfl dX6_tick_172 ?_
                  refine q_imul hx hb dX6_tick_173 ?_
                  refine lv_bipush (v := nI 100) hx hb dX6_tick_174 (by decide +kernel) ?_
                  refine q_idiv (by omega) (by omega) (by omega) hx hb dX6_tick_176 ?_
                  refine q_iadd hx hb dX6_tick_177 ?_
                  refine q_topi (y := (nI (lossS (mMove (mCues 16 s))))) (by rfl) ?_
                  refine lv_istore_n (lv' := [(3, .int (nI (lossS (mMove (mCues 16 s))))), (2, .int (nI (tS (mMove (mCues 16 s))))), (0, .ref m0), (1, .ref q0)]) hx hb dX6_tick_178 rfl hl (by decide) rfl (fun ls hl => ?_)
                  refine lv_aload_n hx hb dX6_tick_179 rfl (lv_at hl 3 rfl) ?_
                  refine lv_bipush (v := nI 6) hx hb dX6_tick_180 (by decide +kernel) ?_
                  refine lv_dup2_11 hx hb dX6_tick_182 rfl rfl ?_
                  refine q_iald 1 0 (by omega) (by omega) hx hb hK hP rfl rfl dX6_tick_183 ?_
                  refine lv_iload_n hx hb dX6_tick_184 rfl (lv_at hl 0 rfl) ?_
                  refine q_isub (by omega) hx hb dX6_tick_185 ?_
                  refine q_iast 1 0 (by omega) (by omega) hx hb hK hP hD hS rfl rfl dX6_tick_186 (fun H locs hP hD hS => ?_)
                  have hP : va_P D vwCl [(m0, .inr (6, [.ref m1, .ref m2, .ref m3, .int (nI k), .ref m4, .int (nI n), .int (nI th), .int (nI ax), .int (nI fa), .int (nI vl), .ref m5, .int (nI tn), .int (nI 0), .int (nI 0)])), (q0, .inl (cI, 118, .inl (ro 118 (upN (mMove (mCues 16 s)) 6 (((mMove (mCues 16 s)) 6) - (lossS (mMove (mCues 16 s))))))))] H := hP
                  have hD : va_D A9 [(m0, .inr (6, [.ref m1, .ref m2, .ref m3, .int (nI k), .ref m4, .int (nI n), .int (nI th), .int (nI ax), .int (nI fa), .int (nI vl), .ref m5, .int (nI tn), .int (nI 0), .int (nI 0)])), (q0, .inl (cI, 118, .inl (ro 118 (upN (mMove (mCues 16 s)) 6 (((mMove (mCues 16 s)) 6) - (lossS (mMove (mCues 16 s))))))))] := hD
                  refine lv_aload_n hx hb dX6_tick_187 rfl (lv_at hl 3 rfl) ?_
                  refine lv_bipush (v := nI 10) hx hb dX6_tick_188 (by decide +kernel) ?_
                  refine lv_dup2_11 hx hb dX6_tick_190 rfl rfl ?_
                  refine q_iald 1 0 (by omega) (by omega) hx hb hK hP rfl rfl dX6_tick_191 ?_
                  refine q_topi (y := (nI ((mMove (mCues 16 s)) 10))) (by rfl) ?_
                  refine lv_iload_n hx hb dX6_tick_192 rfl (lv_at hl 0 rfl) ?_
                  refine q_iadd hx hb dX6_tick_193 ?_
                  refine q_iast 1 0 (by omega) (by omega) hx hb hK hP hD hS rfl rfl dX6_tick_194 (fun H locs hP hD hS => ?_)
                  have hP : va_P D vwCl [(m0, .inr (6, [.ref m1, .ref m2, .ref m3, .int (nI k), .ref m4, .int (nI n), .int (nI th), .int (nI ax), .int (nI fa), .int (nI vl), .ref m5, .int (nI tn), .int (nI 0), .int (nI 0)])), (q0, .inl (cI, 118, .inl (ro 118 (upN (upN (mMove (mCues 16 s)) 6 (((mMove (mCues 16 s)) 6) - (lossS (mMove (mCues 16 s))))) 10 (((mMove (mCues 16 s)) 10) + (lossS (mMove (mCues 16 s))))))))] H := hP
                  have hD : va_D A9 [(m0, .inr (6, [.ref m1, .ref m2, .ref m3, .int (nI k), .ref m4, .int (nI n), .int (nI th), .int (nI ax), .int (nI fa), .int (nI vl), .ref m5, .int (nI tn), .int (nI 0), .int (nI 0)])), (q0, .inl (cI, 118, .inl (ro 118 (upN (upN (mMove (mCues 16 s)) 6 (((mMove (mCues 16 s)) 6) - (lossS (mMove (mCues 16 s))))) 10 (((mMove (mCues 16 s)) 10) + (lossS (mMove (mCues 16 s))))))))] := hD
                  have er_17 : ro 118 (upN (upN (mMove (mCues 16 s)) 6 (((mMove (mCues 16 s)) 6) - (lossS (mMove (mCues 16 s))))) 10 (((mMove (mCues 16 s)) 10) + (lossS (mMove (mCues 16 s))))) = ro 118 (jtI (mMove (mCues 16 s)) 0) := by exact jtI_0 (mMove (mCues 16 s))
                  rw [er_17] at hP hD
                  refine lv_iconst (v := nI 0) hx hb dX6_tick_195 (by decide +kernel) ?_
                  refine lv_istore (lv' := [(4, .int (nI 0)), (3, .int (nI (lossS (mMove (mCues 16 s))))), (2, .int (nI (tS (mMove (mCues 16 s))))), (0, .ref m0), (1, .ref q0)]) hx hb dX6_tick_196 hl (by decide) rfl (fun ls hl => ?_)
                  have L198 : ∀ (fuel : Nat) (i : Nat) (h2 : Nat) (b2 : Nat) (H : Heap) (locs : List Loc) (ls : Array Slot), (i ≤ 8) → (h2 = maxTo (heS (mMove (mCues 16 s))) i) → (b2 = brT (mMove (mCues 16 s)) i) → (8 - i < fuel) → va_P D vwCl [(m0, .inr (6, [.ref m1, .ref m2, .ref m3, .int (nI k), .ref m4, .int (nI n), .int (nI th), .int (nI ax), .int (nI fa), .int (nI vl), .ref m5, .int (nI tn), .int (nI h2), .int (nI b2)])), (q0, .inl (cI, 118, .inl (ro 118 (jtI (mMove (mCues 16 s)) i))))] H → va_D A9 [(m0, .inr (6, [.ref m1, .ref m2, .ref m3, .int (nI k), .ref m4, .int (nI n), .int (nI th), .int (nI ax), .int (nI fa), .int (nI vl), .ref m5, .int (nI tn), .int (nI h2), .int (nI b2)])), (q0, .inl (cI, 118, .inl (ro 118 (jtI (mMove (mCues 16 s)) i))))] → va_S A9 s9.heap H locs → lv_has ls 6 [(0, .ref m0), (1, .ref q0), (4, .int (nI i))] → W p9 l e9 ({ frames := 5, cells := 0, slots := 0, locals := 113 } : Room) s9 m9 ar9 be9 me9 c9 H locs 0 0 Q9 (F0 m9 198 ls []) := by
                    intro fuel
                    induction fuel with
                    | zero => intro i h2 b2 H locs ls hi2 hh hb2 hfu; exact absurd hfu (Nat.not_lt_zero _)
                    | succ fuel ih198 =>
                      intro i h2 b2 H locs ls hi2 hh hb2 hfu hP hD hS hl
                      have hh9 : h2 ≤ 10 := by rw [hh]; exact maxTo_le i (fun z hz => heS_le hIu (by omega))
                      refine lv_iload hx hb dX6_tick_198 (lv_at hl 2 rfl) ?_
                      refine lv_bipush (v := nI 8) hx hb dX6_tick_200 (by decide +kernel) ?_
                      refine q_ige (tgt := 294) (by omega) (by omega) hx hb dX6_tick_202 (by decide) (fun c_202 => ?_) (fun c_202 => ?_)
                      ·
                        refine lv_aload_n hx hb dX6_tick_294 rfl (lv_at hl 1 rfl) ?_
                        refine lv_bipush (v := nI 13) hx hb dX6_tick_295 (by decide +kernel) ?_
                        refine lv_aload_n hx hb dX6_tick_297 rfl (lv_at hl 0 rfl) ?_
                        refine va_get (D := D) (ci := 6) (v := .int (nI h2)) (C := RX6) (T := TX6) (N := 14) hx hb hts in_X6_tick_X6 hown hK hP 0 rfl rfl 12 (by decide) (hts _ fl_X6_tick_65) (fun _ h9 => h9) rfl dX6_tick_298 ?_
                        refine lv_aload_n hx hb dX6_tick_301 rfl (lv_at hl 1 rfl) ?_
                        refine lv_bipush (v := nI 13) hx hb dX6_tick_302 (by decide +kernel) ?_
                        refine q_iald 1 0 (by omega) (by omega) hx hb hK hP rfl rfl dX6_tick_304 ?_
                        refine q_topi (y := (nI ((mMove (mCues 16 s)) 13))) (by first | rfl | exact congrArg nI (jtI_n (mMove (mCues 16 s)) (by omega))) ?_
                        refine q_ile (tgt := 315) (by omega) (by omega) hx hb dX6_tick_305 (by decide) (fun c_305 => ?_) (fun c_305 => ?_)
                        ·
                          refine lv_aload_n hx hb dX6_tick_315 rfl (lv_at hl 1 rfl) ?_
                          refine lv_bipush (v := nI 13) hx hb dX6_tick_316 (by decide +kernel) ?_
                          refine q_iald 1 0 (by omega) (by omega) hx hb hK hP rfl rfl dX6_tick_318 ?_
                          refine q_topi (y := (nI ((mMove (mCues 16 s)) 13))) (by first | rfl | exact congrArg nI (jtI_n (mMove (mCues 16 s)) (by omega))) ?_
                          refine q_iast 1 0 (by omega) (by omega) hx hb hK hP hD hS rfl rfl dX6_tick_319 (fun H locs hP hD hS => ?_)
                          have hP : va_P D vwCl [(m0, .inr (6, [.ref m1, .ref m2, .ref m3, .int (nI k), .ref m4, .int (nI n), .int (nI th), .int (nI ax), .int (nI fa), .int (nI vl), .ref m5, .int (nI tn), .int (nI h2), .int (nI b2)])), (q0, .inl (cI, 118, .inl (ro 118 (upN (jtI (mMove (mCues 16 s)) i) 13 ((mMove (mCues 16 s)) 13)))))] H := hP
                          have hD : va_D A9 [(m0, .inr (6, [.ref m1, .ref m2, .ref m3, .int (nI k), .ref m4, .int (nI n), .int (nI th), .int (nI ax), .int (nI fa), .int (nI vl), .ref m5, .int (nI tn), .int (nI h2), .int (nI b2)])), (q0, .inl (cI, 118, .inl (ro 118 (upN (jtI (mMove (mCues 16 s)) i) 13 ((mMove (mCues 16 s)) 13)))))] := hD
                          refine lv_aload_n hx hb dX6_tick_320 rfl (lv_at hl 1 rfl) ?_
                          refine lv_bipush (v := nI 7) hx hb dX6_tick_321 (by decide +kernel) ?_
                          refine lv_dup2_11 hx hb dX6_tick_323 rfl rfl ?_
                          refine q_iald 1 0 (by omega) (by omega) hx hb hK hP rfl rfl dX6_tick_324 ?_
                          refine lv_iconst (v := nI 1) hx hb dX6_tick_325 (by decide +kernel) ?_
                          refine q_iadd hx hb dX6_tick_326 ?_
                          refine q_iast 1 0 (by omega) (by omega) hx hb hK hP hD hS rfl rfl dX6_tick_327 (fun H locs hP hD hS => ?_)
                          have hP : va_P D vwCl [(m0, .inr (6, [.ref m1, .ref m2, .ref m3, .int (nI k), .ref m4, .int (nI n), .int (nI th), .int (nI ax), .int (nI fa), .int (nI vl), .ref m5, .int (nI tn), .int (nI h2), .int (nI b2)])), (q0, .inl (cI, 118, .inl (ro 118 (upN (upN (jtI (mMove (mCues 16 s)) i) 13 ((mMove (mCues 16 s)) 13)) 7 (((upN (jtI (mMove (mCues 16 s)) i) 13 ((mMove (mCues 16 s)) 13)) 7) + 1)))))] H := hP
                          have hD : va_D A9 [(m0, .inr (6, [.ref m1, .ref m2, .ref m3, .int (nI k), .ref m4, .int (nI n), .int (nI th), .int (nI ax), .int (nI fa), .int (nI vl), .ref m5, .int (nI tn), .int (nI h2), .int (nI b2)])), (q0, .inl (cI, 118, .inl (ro 118 (upN (upN (jtI (mMove (mCues 16 s)) i) 13 ((mMove (mCues 16 s)) 13)) 7 (((upN (jtI (mMove (mCues 16 s)) i) 13 ((mMove (mCues 16 s)) 13)) 7) + 1)))))] := hD
                          have er_18 : ro 118 (upN (upN (jtI (mMove (mCues 16 s)) i) 13 ((mMove (mCues 16 s)) 13)) 7 (((upN (jtI (mMove (mCues 16 s)) i) 13 ((mMove (mCues 16 s)) 13)) 7) + 1)) = ro 118 (mTick s) := by first | exact dry_row c_147 rfl rfl | exact dry_row c_147 (by omega) rfl | exact wet_row (by omega) (by omega) (by rw [show i = 8 by omega] at hh; omega) (congrArg (fun z => z + 1) (jtI_n (i := i) (mMove (mCues 16 s)) (x := 7) (by omega)))
                          rw [er_18] at hP hD
                          first | rw [show hiS (mMove (mCues 16 s)) = 0 from if_pos c_147, show brS (mMove (mCues 16 s)) = 0 from if_pos c_147] at hret | (rw [show i = 8 by omega] at hh hb2; rw [show hiS (mMove (mCues 16 s)) = h2 from (if_neg (by omega)).trans hh.symm, show brS (mMove (mCues 16 s)) = b2 from (if_neg (by omega)).trans hb2.symm] at hret)
                          exact hret _ _ _ _ none () 328 ls (by decide) (by decide) (by rfl) hP hD hS (ret_v dX6_tick_328)
                        ·
                          refine lv_aload_n hx hb dX6_tick_308 rfl (lv_at hl 0 rfl) ?_
                          refine va_get (D := D) (ci := 6) (v := .int (nI h2)) (C := RX6) (T := TX6) (N := 14) hx hb hts in_X6_tick_X6 hown hK hP 0 rfl rfl 12 (by decide) (hts _ fl_X6_tick_65) (fun _ h9 => h9) rfl dX6_tick_309 ?_
                          refine lv_goto (tgt := 319) hx hb dX6_tick_312 (by decide) ?_
                          refine q_iast 1 0 (by omega) (by omega) hx hb hK hP hD hS rfl rfl dX6_tick_319 (fun H locs hP hD hS => ?_)
                          have hP : va_P D vwCl [(m0, .inr (6, [.ref m1, .ref m2, .ref m3, .int (nI k), .ref m4, .int (nI n), .int (nI th), .int (nI ax), .int (nI fa), .int (nI vl), .ref m5, .int (nI tn), .int (nI h2), .int (nI b2)])), (q0, .inl (cI, 118, .inl (ro 118 (upN (jtI (mMove (mCues 16 s)) i) 13 h2))))] H := hP
                          have hD : va_D A9 [(m0, .inr (6, [.ref m1, .ref m2, .ref m3, .int (nI k), .ref m4, .int (nI n), .int (nI th), .int (nI ax), .int (nI fa), .int (nI vl), .ref m5, .int (nI tn), .int (nI h2), .int (nI b2)])), (q0, .inl (cI, 118, .inl (ro 118 (upN (jtI (mMove (mCues 16 s)) i) 13 h2))))] := hD
                          refine lv_aload_n hx hb dX6_tick_320 rfl (lv_at hl 1 rfl) ?_
                          refine lv_bipush (v := nI 7) hx hb dX6_tick_321 (by decide +kernel) ?_
                          refine lv_dup2_11 hx hb dX6_tick_323 rfl rfl ?_
                          refine q_iald 1 0 (by omega) (by omega) hx hb hK hP rfl rfl dX6_tick_324 ?_
                          refine lv_iconst (v := nI 1) hx hb dX6_tick_325 (by decide +kernel) ?_
                          refine q_iadd hx hb dX6_tick_326 ?_
                          refine q_iast 1 0 (by omega) (by omega) hx hb hK hP hD hS rfl rfl dX6_tick_327 (fun H locs hP hD hS => ?_)
                          have hP : va_P D vwCl [(m0, .inr (6, [.ref m1, .ref m2, .ref m3, .int (nI k), .ref m4, .int (nI n), .int (nI th), .int (nI ax), .int (nI fa), .int (nI vl), .ref m5, .int (nI tn), .int (nI h2), .int (nI b2)])), (q0, .inl (cI, 118, .inl (ro 118 (upN (upN (jtI (mMove (mCues 16 s)) i) 13 h2) 7 (((upN (jtI (mMove (mCues 16 s)) i) 13 h2) 7) + 1)))))] H := hP
                          have hD : va_D A9 [(m0, .inr (6, [.ref m1, .ref m2, .ref m3, .int (nI k), .ref m4, .int (nI n), .int (nI th), .int (nI ax), .int (nI fa), .int (nI vl), .ref m5, .int (nI tn), .int (nI h2), .int (nI b2)])), (q0, .inl (cI, 118, .inl (ro 118 (upN (upN (jtI (mMove (mCues 16 s)) i) 13 h2) 7 (((upN (jtI (mMove (mCues 16 s)) i) 13 h2) 7) + 1)))))] := hD
                          have er_19 : ro 118 (upN (upN (jtI (mMove (mCues 16 s)) i) 13 h2) 7 (((upN (jtI (mMove (mCues 16 s)) i) 13 h2) 7) + 1)) = ro 118 (mTick s) := by first | exact dry_row c_147 rfl rfl | exact dry_row c_147 (by omega) rfl | exact wet_row (by omega) (by omega) (by rw [show i = 8 by omega] at hh; omega) (congrArg (fun z => z + 1) (jtI_n (i := i) (mMove (mCues 16 s)) (x := 7) (by omega)))
                          rw [er_19] at hP hD
                          first | rw [show hiS (mMove (mCues 16 s)) = 0 from if_pos c_147, show brS (mMove (mCues 16 s)) = 0 from if_pos c_147] at hret | (rw [show i = 8 by omega] at hh hb2; rw [show hiS (mMove (mCues 16 s)) = h2 from (if_neg (by omega)).trans hh.symm, show brS (mMove (mCues 16 s)) = b2 from (if_neg (by omega)).trans hb2.symm] at hret)
                          exact hret _ _ _ _ none () 328 ls (by decide) (by decide) (by rfl) hP hD hS (ret_v dX6_tick_328)
                      ·
                        refine lv_aload_n hx hb dX6_tick_205 rfl (lv_at hl 1 rfl) ?_
                        refine lv_iload hx hb dX6_tick_206 (lv_at hl 2 rfl) ?_
                        refine KM.callS (As := [.ref q0, .int (nI i)]) (rest := []) C0 hN (k_X6_height l D cI cS cL q0 (jtI (mMove (mCues 16 s)) i) i  (by exact jtI_fB hIu1) (by first | with_reducible assumption | omega)) (va_cwS 2 hts gX6_tick_X6_height rfl rfl rfl (by decide +kernel) ⟨Nat.le_of_ble_eq_true rfl, Nat.le_of_ble_eq_true rfl⟩) hK hP hD hS hA [1] rfl (by decide) (fun _ => rfl) rfl hl.1 rfl (Nat.le_of_ble_eq_true rfl) dX6_tick_208 ⟨Nat.le_of_ble_eq_true rfl, Nat.le_of_ble_eq_true rfl⟩ (fun v9 u9 H locs hv hP hD hS => ?_)
                        subst hv
                        have hP : va_P D vwCl [(m0, .inr (6, [.ref m1, .ref m2, .ref m3, .int (nI k), .ref m4, .int (nI n), .int (nI th), .int (nI ax), .int (nI fa), .int (nI vl), .ref m5, .int (nI tn), .int (nI h2), .int (nI b2)])), (q0, .inl (cI, 118, .inl (ro 118 (jtI (mMove (mCues 16 s)) i))))] H := hP
                        have hD : va_D A9 [(m0, .inr (6, [.ref m1, .ref m2, .ref m3, .int (nI k), .ref m4, .int (nI n), .int (nI th), .int (nI ax), .int (nI fa), .int (nI vl), .ref m5, .int (nI tn), .int (nI h2), .int (nI b2)])), (q0, .inl (cI, 118, .inl (ro 118 (jtI (mMove (mCues 16 s)) i))))] := hD
                        refine W.eq (g2 := F0 m9 211 ls [.int (nI (heS (jtI (mMove (mCues 16 s)) i) i))]) rfl ?_
                        refine q_topi (y := (nI (heS (mMove (mCues 16 s)) i))) (by exact congrArg nI (jtI_gS (mMove (mCues 16 s)) i (by omega))) ?_
                        have hh8 : heS (mMove (mCues 16 s)) i ≤ 10 := heS_le hIu (by omega)
                        refine lv_istore (lv' := [(5, .int (nI (heS (mMove (mCues 16 s)) i))), (0, .ref m0), (1, .ref q0), (4, .int (nI i))]) hx hb dX6_tick_211 hl (by decide) rfl (fun ls hl => ?_)
                        refine lv_aload_n hx hb dX6_tick_213 rfl (lv_at hl 1 rfl) ?_
                        refine lv_iload hx hb dX6_tick_214 (lv_at hl 0 rfl) ?_
                        refine lv_aload_n hx hb dX6_tick_216 rfl (lv_at hl 1 rfl) ?_
                        refine va_get (D := D) (ci := 6) (v := .int (nI h2)) (C := RX6) (T := TX6) (N := 14) hx hb hts in_X6_tick_X6 hown hK hP 0 rfl rfl 12 (by decide) (hts _ fl_X6_tick_65) (fun _ h9 => h9) rfl dX6_tick_217 ?_
                        refine q_ile (tgt := 228) (by omega) (by omega) hx hb dX6_tick_220 (by decide) (fun c_220 => ?_) (fun c_220 => ?_)
                        ·
                          refine lv_aload_n hx hb dX6_tick_228 rfl (lv_at hl 1 rfl) ?_
                          refine va_get (D := D) (ci := 6) (v := .int (nI h2)) (C := RX6) (T := TX6) (N := 14) hx hb hts in_X6_tick_X6 hown hK hP 0 rfl rfl 12 (by decide) (hts _ fl_X6_tick_65) (fun _ h9 => h9) rfl dX6_tick_229 ?_
                          refine va_put (D := D) (ci := 6) (v := .int (nI h2)) (ty := tyX6 12) (C := RX6) (T := TX6) (N := 14) hx hb hts in_X6_tick_X6 tyX6 tyX6_ok nmX6 hown hK hP hD hS 0 rfl rfl 12 (by decide) (hts _ fl_X6_tick_65) (fun _ h9 => h9) rfl (by decide +kernel) rfl rfl (Nat.le_of_ble_eq_true rfl) dX6_tick_232 (fun H locs hP hD hS => ?_)
                          have hP : va_P D vwCl [(m0, .inr (6, [.ref m1, .ref m2, .ref m3, .int (nI k), .ref m4, .int (nI n), .int (nI th), .int (nI ax), .int (nI fa), .int (nI vl), .ref m5, .int (nI tn), .int (nI h2), .int (nI b2)])), (q0, .inl (cI, 118, .inl (ro 118 (jtI (mMove (mCues 16 s)) i))))] H := hP
                          have hD : va_D A9 [(m0, .inr (6, [.ref m1, .ref m2, .ref m3, .int (nI k), .ref m4, .int (nI n), .int (nI th), .int (nI ax), .int (nI fa), .int (nI vl), .ref m5, .int (nI tn), .int (nI h2), .int (nI b2)])), (q0, .inl (cI, 118, .inl (ro 118 (jtI (mMove (mCues 16 s)) i))))] := hD
                          refine lv_aload_n hx hb dX6_tick_235 rfl (lv_at hl 2 rfl) ?_
                          refine lv_bipush (v := nI 14) hx hb dX6_tick_236 (by decide +kernel) ?_
                          refine lv_iconst (v := nI 5) hx hb dX6_tick_238 (by decide +kernel) ?_
                          refine lv_iload hx hb dX6_tick_239 (lv_at hl 3 rfl) ?_
                          refine q_imul hx hb dX6_tick_241 ?_
                          refine q_iadd hx hb dX6_tick_242 ?_
                          refine lv_iconst (v := nI 4) hx hb dX6_tick_243 (by decide +kernel) ?_
                          refine q_iadd hx hb dX6_tick_244 ?_
                          refine lv_dup2_11 hx hb dX6_tick_245 rfl rfl ?_
                          refine q_iald 1 0 (by omega) (by omega) hx hb hK hP rfl rfl dX6_tick_246 ?_
                          refine lv_iload hx hb dX6_tick_247 (lv_at hl 0 rfl) ?_
                          refine q_fle (tgt := 256) (by omega) hx hb dX6_tick_249 (by decide) (fun c_249 => ?_) (fun c_249 => ?_)
                          ·
                            refine lv_iconst (v := nI 0) hx hb dX6_tick_256 (by decide +kernel) ?_
                            refine q_iadd hx hb dX6_tick_257 ?_
                            refine q_iast 1 0 (by omega) (by omega) hx hb hK hP hD hS rfl rfl dX6_tick_258 (fun H locs hP hD hS => ?_)
                            have hP : va_P D vwCl [(m0, .inr (6, [.ref m1, .ref m2, .ref m3, .int (nI k), .ref m4, .int (nI n), .int (nI th), .int (nI ax), .int (nI fa), .int (nI vl), .ref m5, .int (nI tn), .int (nI h2), .int (nI b2)])), (q0, .inl (cI, 118, .inl (ro 118 (upN (jtI (mMove (mCues 16 s)) i) ((14 + (5 * i)) + 4) (((jtI (mMove (mCues 16 s)) i) ((14 + (5 * i)) + 4)) + 0)))))] H := hP
                            have hD : va_D A9 [(m0, .inr (6, [.ref m1, .ref m2, .ref m3, .int (nI k), .ref m4, .int (nI n), .int (nI th), .int (nI ax), .int (nI fa), .int (nI vl), .ref m5, .int (nI tn), .int (nI h2), .int (nI b2)])), (q0, .inl (cI, 118, .inl (ro 118 (upN (jtI (mMove (mCues 16 s)) i) ((14 + (5 * i)) + 4) (((jtI (mMove (mCues 16 s)) i) ((14 + (5 * i)) + 4)) + 0)))))] := hD
                            have er_20 : ro 118 (upN (jtI (mMove (mCues 16 s)) i) ((14 + (5 * i)) + 4) (((jtI (mMove (mCues 16 s)) i) ((14 + (5 * i)) + 4)) + 0)) = ro 118 (jtI (mMove (mCues 16 s)) (i + 1)) := by rw [show 14 + 5 * i + 4 = 18 + 5 * i by omega]; exact jtI_s (by rw [jtI_n (mMove (mCues 16 s)) (by omega)]; first | (rw [if_pos (by omega)]; done) | (rw [if_neg (by omega)]; done))
                            rw [er_20] at hP hD
                            refine lv_aload_n hx hb dX6_tick_259 rfl (lv_at hl 1 rfl) ?_
                            refine lv_dup hx hb dX6_tick_260 rfl ?_
                            refine va_get (D := D) (ci := 6) (v := .int (nI b2)) (C := RX6) (T := TX6) (N := 14) hx hb hts in_X6_tick_X6 hown hK hP 0 rfl rfl 13 (by decide) (hts _ fl_X6_tick_68) (fun _ h9 => h9) rfl dX6_tick_261 ?_
                            refine lv_iload hx hb dX6_tick_264 (lv_at hl 0 rfl) ?_
                            refine q_fle (tgt := 283) (by omega) hx hb dX6_tick_266 (by decide) (fun c_266 => ?_) (fun c_266 => ?_)
                            ·
                              refine lv_iconst (v := nI 0) hx hb dX6_tick_283 (by decide +kernel) ?_
                              refine q_iadd hx hb dX6_tick_284 ?_
                              refine va_put (D := D) (ci := 6) (v := .int (nI (b2 + 0))) (ty := tyX6 13) (C := RX6) (T := TX6) (N := 14) hx hb hts in_X6_tick_X6 tyX6 tyX6_ok nmX6 hown hK hP hD hS 0 rfl rfl 13 (by decide) (hts _ fl_X6_tick_68) (fun _ h9 => h9) rfl (by decide +kernel) rfl rfl (Nat.le_of_ble_eq_true rfl) dX6_tick_285 (fun H locs hP hD hS => ?_)
                              have hP : va_P D vwCl [(m0, .inr (6, [.ref m1, .ref m2, .ref m3, .int (nI k), .ref m4, .int (nI n), .int (nI th), .int (nI ax), .int (nI fa), .int (nI vl), .ref m5, .int (nI tn), .int (nI h2), .int (nI (b2 + 0))])), (q0, .inl (cI, 118, .inl (ro 118 (jtI (mMove (mCues 16 s)) (i + 1)))))] H := hP
                              have hD : va_D A9 [(m0, .inr (6, [.ref m1, .ref m2, .ref m3, .int (nI k), .ref m4, .int (nI n), .int (nI th), .int (nI ax), .int (nI fa), .int (nI vl), .ref m5, .int (nI tn), .int (nI h2), .int (nI (b2 + 0))])), (q0, .inl (cI, 118, .inl (ro 118 (jtI (mMove (mCues 16 s)) (i + 1)))))] := hD
                              refine lv_iinc (v := (nI (i + 1))) (lv' := [(4, .int (nI (i + 1))), (5, .int (nI (heS (mMove (mCues 16 s)) i))), (0, .ref m0), (1, .ref q0)]) hx hb dX6_tick_288 hl (k := 3) rfl (nI_add i 1) (by decide) rfl (fun ls hl => ?_)
                              refine lv_goto (tgt := 198) hx hb dX6_tick_291 (by decide) ?_
                              exact ih198  (i + 1) h2 (b2 + 0) _ _ ls (by first | with_reducible assumption | omega) (by show _ = max (maxTo (heS (mMove (mCues 16 s))) i) (heS (mMove (mCues 16 s)) i); omega) (by show _ = brT (mMove (mCues 16 s)) i + (if 0 < heS (mMove (mCues 16 s)) i ∧ coF (mMove (mCues 16 s)) i = 0 then 1 else 0); first | (rw [if_pos ⟨by omega, by omega⟩]; omega) | (rw [if_neg (by omega)]; omega)) (by omega) hP hD hS (lv_sub hl [2, 3, 0] rfl)
                            ·
                              refine lv_aload_n hx hb dX6_tick_269 rfl (lv_at hl 2 rfl) ?_
                              refine lv_iload hx hb dX6_tick_270 (lv_at hl 3 rfl) ?_
                              refine lv_iconst (v := nI 1) hx hb dX6_tick_272 (by decide +kernel) ?_
                              refine KM.callS (As := [.ref q0, .int (nI i), .int (nI 1)]) (rest := [.int (nI b2), .ref m0]) C0 hN (k_X6_of_1 l D cI cS cL q0 (jtI (mMove (mCues 16 s)) (i + 1)) i  (by first | with_reducible assumption | omega)) (va_cwS 3 hts gX6_tick_X6_of rfl rfl rfl (by decide +kernel) ⟨Nat.le_of_ble_eq_true rfl, Nat.le_of_ble_eq_true rfl⟩) hK hP hD hS hA [1] rfl (by decide) (fun _ => rfl) rfl hl.1 rfl (Nat.le_of_ble_eq_true rfl) dX6_tick_273 ⟨Nat.le_of_ble_eq_true rfl, Nat.le_of_ble_eq_true rfl⟩ (fun v9 u9 H locs hv hP hD hS => ?_)
                              subst hv
                              have hP : va_P D vwCl [(m0, .inr (6, [.ref m1, .ref m2, .ref m3, .int (nI k), .ref m4, .int (nI n), .int (nI th), .int (nI ax), .int (nI fa), .int (nI vl), .ref m5, .int (nI tn), .int (nI h2), .int (nI b2)])), (q0, .inl (cI, 118, .inl (ro 118 (jtI (mMove (mCues 16 s)) (i + 1)))))] H := hP
                              have hD : va_D A9 [(m0, .inr (6, [.ref m1, .ref m2, .ref m3, .int (nI k), .ref m4, .int (nI n), .int (nI th), .int (nI ax), .int (nI fa), .int (nI vl), .ref m5, .int (nI tn), .int (nI h2), .int (nI b2)])), (q0, .inl (cI, 118, .inl (ro 118 (jtI (mMove (mCues 16 s)) (i + 1)))))] := hD
                              refine W.eq (g2 := F0 m9 276 ls [.int (nI (coF (jtI (mMove (mCues 16 s)) (i + 1)) i)), .int (nI b2), .ref m0]) rfl ?_
                              refine q_topi (y := (nI (coF (mMove (mCues 16 s)) i))) (by exact congrArg nI (jtI_n (mMove (mCues 16 s)) (by omega))) ?_
                              have hco : coF (mMove (mCues 16 s)) i ≤ 3 := hIu2 i (by omega)
                              refine q_fne (tgt := 283) (by omega) hx hb dX6_tick_276 (by decide) (fun c_276 => ?_) (fun c_276 => ?_)
                              ·
                                refine lv_iconst (v := nI 0) hx hb dX6_tick_283 (by decide +kernel) ?_
                                refine q_iadd hx hb dX6_tick_284 ?_
                                refine va_put (D := D) (ci := 6) (v := .int (nI (b2 + 0))) (ty := tyX6 13) (C := RX6) (T := TX6) (N := 14) hx hb hts in_X6_tick_X6 tyX6 tyX6_ok nmX6 hown hK hP hD hS 0 rfl rfl 13 (by decide) (hts _ fl_X6_tick_68) (fun _ h9 => h9) rfl (by decide +kernel) rfl rfl (Nat.le_of_ble_eq_true rfl) dX6_tick_285 (fun H locs hP hD hS => ?_)
                                have hP : va_P D vwCl [(m0, .inr (6, [.ref m1, .ref m2, .ref m3, .int (nI k), .ref m4, .int (nI n), .int (nI th), .int (nI ax), .int (nI fa), .int (nI vl), .ref m5, .int (nI tn), .int (nI h2), .int (nI (b2 + 0))])), (q0, .inl (cI, 118, .inl (ro 118 (jtI (mMove (mCues 16 s)) (i + 1)))))] H := hP
                                have hD : va_D A9 [(m0, .inr (6, [.ref m1, .ref m2, .ref m3, .int (nI k), .ref m4, .int (nI n), .int (nI th), .int (nI ax), .int (nI fa), .int (nI vl), .ref m5, .int (nI tn), .int (nI h2), .int (nI (b2 + 0))])), (q0, .inl (cI, 118, .inl (ro 118 (jtI (mMove (mCues 16 s)) (i + 1)))))] := hD
                                refine lv_iinc (v := (nI (i + 1))) (lv' := [(4, .int (nI (i + 1))), (5, .int (nI (heS (mMove (mCues 16 s)) i))), (0, .ref m0), (1, .ref q0)]) hx hb dX6_tick_288 hl (k := 3) rfl (nI_add i 1) (by decide) rfl (fun ls hl => ?_)
                                refine lv_goto (tgt := 198) hx hb dX6_tick_291 (by decide) ?_
                                exact ih198  (i + 1) h2 (b2 + 0) _ _ ls (by first | with_reducible assumption | omega) (by show _ = max (maxTo (heS (mMove (mCues 16 s))) i) (heS (mMove (mCues 16 s)) i); omega) (by show _ = brT (mMove (mCues 16 s)) i + (if 0 < heS (mMove (mCues 16 s)) i ∧ coF (mMove (mCues 16 s)) i = 0 then 1 else 0); first | (rw [if_pos ⟨by omega, by omega⟩]; omega) | (rw [if_neg (by omega)]; omega)) (by omega) hP hD hS (lv_sub hl [2, 3, 0] rfl)
                              ·
                                refine lv_iconst (v := nI 1) hx hb dX6_tick_279 (by decide +kernel) ?_
                                refine lv_goto (tgt := 284) hx hb dX6_tick_280 (by decide) ?_
                                refine q_iadd hx hb dX6_tick_284 ?_
                                refine va_put (D := D) (ci := 6) (v := .int (nI (b2 + 1))) (ty := tyX6 13) (C := RX6) (T := TX6) (N := 14) hx hb hts in_X6_tick_X6 tyX6 tyX6_ok nmX6 hown hK hP hD hS 0 rfl rfl 13 (by decide) (hts _ fl_X6_tick_68) (fun _ h9 => h9) rfl (by decide +kernel) rfl rfl (Nat.le_of_ble_eq_true rfl) dX6_tick_285 (fun H locs hP hD hS => ?_)
                                have hP : va_P D vwCl [(m0, .inr (6, [.ref m1, .ref m2, .ref m3, .int (nI k), .ref m4, .int (nI n), .int (nI th), .int (nI ax), .int (nI fa), .int (nI vl), .ref m5, .int (nI tn), .int (nI h2), .int (nI (b2 + 1))])), (q0, .inl (cI, 118, .inl (ro 118 (jtI (mMove (mCues 16 s)) (i + 1)))))] H := hP
                                have hD : va_D A9 [(m0, .inr (6, [.ref m1, .ref m2, .ref m3, .int (nI k), .ref m4, .int (nI n), .int (nI th), .int (nI ax), .int (nI fa), .int (nI vl), .ref m5, .int (nI tn), .int (nI h2), .int (nI (b2 + 1))])), (q0, .inl (cI, 118, .inl (ro 118 (jtI (mMove (mCues 16 s)) (i + 1)))))] := hD
                                refine lv_iinc (v := (nI (i + 1))) (lv' := [(4, .int (nI (i + 1))), (5, .int (nI (heS (mMove (mCues 16 s)) i))), (0, .ref m0), (1, .ref q0)]) hx hb dX6_tick_288 hl (k := 3) rfl (nI_add i 1) (by decide) rfl (fun ls hl => ?_)
                                refine lv_goto (tgt := 198) hx hb dX6_tick_291 (by decide) ?_
                                exact ih198  (i + 1) h2 (b2 + 1) _ _ ls (by first | with_reducible assumption | omega) (by show _ = max (maxTo (heS (mMove (mCues 16 s))) i) (heS (mMove (mCues 16 s)) i); omega) (by show _ = brT (mMove (mCues 16 s)) i + (if 0 < heS (mMove (mCues 16 s)) i ∧ coF (mMove (mCues 16 s)) i = 0 then 1 else 0); first | (rw [if_pos ⟨by omega, by omega⟩]; omega) | (rw [if_neg (by omega)]; omega)) (by omega) hP hD hS (lv_sub hl [2, 3, 0] rfl)
                          ·
                            refine lv_iconst (v := nI 1) hx hb dX6_tick_252 (by decide +kernel) ?_
                            refine lv_goto (tgt := 257) hx hb dX6_tick_253 (by decide) ?_
                            refine q_iadd hx hb dX6_tick_257 ?_
                            refine q_iast 1 0 (by omega) (by omega) hx hb hK hP hD hS rfl rfl dX6_tick_258 (fun H locs hP hD hS => ?_)
                            have hP : va_P D vwCl [(m0, .inr (6, [.ref m1, .ref m2, .ref m3, .int (nI k), .ref m4, .int (nI n), .int (nI th), .int (nI ax), .int (nI fa), .int (nI vl), .ref m5, .int (nI tn), .int (nI h2), .int (nI b2)])), (q0, .inl (cI, 118, .inl (ro 118 (upN (jtI (mMove (mCues 16 s)) i) ((14 + (5 * i)) + 4) (((jtI (mMove (mCues 16 s)) i) ((14 + (5 * i)) + 4)) + 1)))))] H := hP
                            have hD : va_D A9 [(m0, .inr (6, [.ref m1, .ref m2, .ref m3, .int (nI k), .ref m4, .int (nI n), .int (nI th), .int (nI ax), .int (nI fa), .int (nI vl), .ref m5, .int (nI tn), .int (nI h2), .int (nI b2)])), (q0, .inl (cI, 118, .inl (ro 118 (upN (jtI (mMove (mCues 16 s)) i) ((14 + (5 * i)) + 4) (((jtI (mMove (mCues 16 s)) i) ((14 + (5 * i)) + 4)) + 1)))))] := hD
                            have er_21 : ro 118 (upN (jtI (mMove (mCues 16 s)) i) ((14 + (5 * i)) + 4) (((jtI (mMove (mCues 16 s)) i) ((14 + (5 * i)) + 4)) + 1)) = ro 118 (jtI (mMove (mCues 16 s)) (i + 1)) := by rw [show 14 + 5 * i + 4 = 18 + 5 * i by omega]; exact jtI_s (by rw [jtI_n (mMove (mCues 16 s)) (by omega)]; first | (rw [if_pos (by omega)]; done) | (rw [if_neg (by omega)]; done))
                            rw [er_21] at hP hD
                            refine lv_aload_n hx hb dX6_tick_259 rfl (lv_at hl 1 rfl) ?_
                            refine lv_dup hx hb dX6_tick_260 rfl ?_
                            refine va_get (D := D) (ci := 6) (v := .int (nI b2)) (C := RX6) (T := TX6) (N := 14) hx hb hts in_X6_tick_X6 hown hK hP 0 rfl rfl 13 (by decide) (hts _ fl_X6_tick_68) (fun _ h9 => h9) rfl dX6_tick_261 ?_
                            refine lv_iload hx hb dX6_tick_264 (lv_at hl 0 rfl) ?_
                            refine q_fle (tgt := 283) (by omega) hx hb dX6_tick_266 (by decide) (fun c_266 => ?_) (fun c_266 => ?_)
                            ·
                              refine lv_iconst (v := nI 0) hx hb dX6_tick_283 (by decide +kernel) ?_
                              refine q_iadd hx hb dX6_tick_284 ?_
                              refine va_put (D := D) (ci := 6) (v := .int (nI (b2 + 0))) (ty := tyX6 13) (C := RX6) (T := TX6) (N := 14) hx hb hts in_X6_tick_X6 tyX6 tyX6_ok nmX6 hown hK hP hD hS 0 rfl rfl 13 (by decide) (hts _ fl_X6_tick_68) (fun _ h9 => h9) rfl (by decide +kernel) rfl rfl (Nat.le_of_ble_eq_true rfl) dX6_tick_285 (fun H locs hP hD hS => ?_)
                              have hP : va_P D vwCl [(m0, .inr (6, [.ref m1, .ref m2, .ref m3, .int (nI k), .ref m4, .int (nI n), .int (nI th), .int (nI ax), .int (nI fa), .int (nI vl), .ref m5, .int (nI tn), .int (nI h2), .int (nI (b2 + 0))])), (q0, .inl (cI, 118, .inl (ro 118 (jtI (mMove (mCues 16 s)) (i + 1)))))] H := hP
                              have hD : va_D A9 [(m0, .inr (6, [.ref m1, .ref m2, .ref m3, .int (nI k), .ref m4, .int (nI n), .int (nI th), .int (nI ax), .int (nI fa), .int (nI vl), .ref m5, .int (nI tn), .int (nI h2), .int (nI (b2 + 0))])), (q0, .inl (cI, 118, .inl (ro 118 (jtI (mMove (mCues 16 s)) (i + 1)))))] := hD
                              refine lv_iinc (v := (nI (i + 1))) (lv' := [(4, .int (nI (i + 1))), (5, .int (nI (heS (mMove (mCues 16 s)) i))), (0, .ref m0), (1, .ref q0)]) hx hb dX6_tick_288 hl (k := 3) rfl (nI_add i 1) (by decide) rfl (fun ls hl => ?_)
                              refine lv_goto (tgt := 198) hx hb dX6_tick_291 (by decide) ?_
                              exact ih198  (i + 1) h2 (b2 + 0) _ _ ls (by first | with_reducible assumption | omega) (by show _ = max (maxTo (heS (mMove (mCues 16 s))) i) (heS (mMove (mCues 16 s)) i); omega) (by show _ = brT (mMove (mCues 16 s)) i + (if 0 < heS (mMove (mCues 16 s)) i ∧ coF (mMove (mCues 16 s)) i = 0 then 1 else 0); first | (rw [if_pos ⟨by omega, by omega⟩]; omega) | (rw [if_neg (by omega)]; omega)) (by omega) hP hD hS (lv_sub hl [2, 3, 0] rfl)
                            ·
                              refine lv_aload_n hx hb dX6_tick_269 rfl (lv_at hl 2 rfl) ?_
                              refine lv_iload hx hb dX6_tick_270 (lv_at hl 3 rfl) ?_
                              refine lv_iconst (v := nI 1) hx hb dX6_tick_272 (by decide +kernel) ?_
                              refine KM.callS (As := [.ref q0, .int (nI i), .int (nI 1)]) (rest := [.int (nI b2), .ref m0]) C0 hN (k_X6_of_1 l D cI cS cL q0 (jtI (mMove (mCues 16 s)) (i + 1)) i  (by first | with_reducible assumption | omega)) (va_cwS 3 hts gX6_tick_X6_of rfl rfl rfl (by decide +kernel) ⟨Nat.le_of_ble_eq_true rfl, Nat.le_of_ble_eq_true rfl⟩) hK hP hD hS hA [1] rfl (by decide) (fun _ => rfl) rfl hl.1 rfl (Nat.le_of_ble_eq_true rfl) dX6_tick_273 ⟨Nat.le_of_ble_eq_true rfl, Nat.le_of_ble_eq_true rfl⟩ (fun v9 u9 H locs hv hP hD hS => ?_)
                              subst hv
                              have hP : va_P D vwCl [(m0, .inr (6, [.ref m1, .ref m2, .ref m3, .int (nI k), .ref m4, .int (nI n), .int (nI th), .int (nI ax), .int (nI fa), .int (nI vl), .ref m5, .int (nI tn), .int (nI h2), .int (nI b2)])), (q0, .inl (cI, 118, .inl (ro 118 (jtI (mMove (mCues 16 s)) (i + 1)))))] H := hP
                              have hD : va_D A9 [(m0, .inr (6, [.ref m1, .ref m2, .ref m3, .int (nI k), .ref m4, .int (nI n), .int (nI th), .int (nI ax), .int (nI fa), .int (nI vl), .ref m5, .int (nI tn), .int (nI h2), .int (nI b2)])), (q0, .inl (cI, 118, .inl (ro 118 (jtI (mMove (mCues 16 s)) (i + 1)))))] := hD
                              refine W.eq (g2 := F0 m9 276 ls [.int (nI (coF (jtI (mMove (mCues 16 s)) (i + 1)) i)), .int (nI b2), .ref m0]) rfl ?_
                              refine q_topi (y := (nI (coF (mMove (mCues 16 s)) i))) (by exact congrArg nI (jtI_n (mMove (mCues 16 s)) (by omega))) ?_
                              have hco : coF (mMove (mCues 16 s)) i ≤ 3 := hIu2 i (by omega)
                              refine q_fne (tgt := 283) (by omega) hx hb dX6_tick_276 (by decide) (fun c_276 => ?_) (fun c_276 => ?_)
                              ·
                                refine lv_iconst (v := nI 0) hx hb dX6_tick_283 (by decide +kernel) ?_
                                refine q_iadd hx hb dX6_tick_284 ?_
                                refine va_put (D := D) (ci := 6) (v := .int (nI (b2 + 0))) (ty := tyX6 13) (C := RX6) (T := TX6) (N := 14) hx hb hts in_X6_tick_X6 tyX6 tyX6_ok nmX6 hown hK hP hD hS 0 rfl rfl 13 (by decide) (hts _ fl_X6_tick_68) (fun _ h9 => h9) rfl (by decide +kernel) rfl rfl (Nat.le_of_ble_eq_true rfl) dX6_tick_285 (fun H locs hP hD hS => ?_)
                                have hP : va_P D vwCl [(m0, .inr (6, [.ref m1, .ref m2, .ref m3, .int (nI k), .ref m4, .int (nI n), .int (nI th), .int (nI ax), .int (nI fa), .int (nI vl), .ref m5, .int (nI tn), .int (nI h2), .int (nI (b2 + 0))])), (q0, .inl (cI, 118, .inl (ro 118 (jtI (mMove (mCues 16 s)) (i + 1)))))] H := hP
                                have hD : va_D A9 [(m0, .inr (6, [.ref m1, .ref m2, .ref m3, .int (nI k), .ref m4, .int (nI n), .int (nI th), .int (nI ax), .int (nI fa), .int (nI vl), .ref m5, .int (nI tn), .int (nI h2), .int (nI (b2 + 0))])), (q0, .inl (cI, 118, .inl (ro 118 (jtI (mMove (mCues 16 s)) (i + 1)))))] := hD
                                refine lv_iinc (v := (nI (i + 1))) (lv' := [(4, .int (nI (i + 1))), (5, .int (nI (heS (mMove (mCues 16 s)) i))), (0, .ref m0), (1, .ref q0)]) hx hb dX6_tick_288 hl (k := 3) rfl (nI_add i 1) (by decide) rfl (fun ls hl => ?_)
                                refine lv_goto (tgt := 198) hx hb dX6_tick_291 (by decide) ?_
                                exact ih198  (i + 1) h2 (b2 + 0) _ _ ls (by first | with_reducible assumption | omega) (by show _ = max (maxTo (heS (mMove (mCues 16 s))) i) (heS (mMove (mCues 16 s)) i); omega) (by show _ = brT (mMove (mCues 16 s)) i + (if 0 < heS (mMove (mCues 16 s)) i ∧ coF (mMove (mCues 16 s)) i = 0 then 1 else 0); first | (rw [if_pos ⟨by omega, by omega⟩]; omega) | (rw [if_neg (by omega)]; omega)) (by omega) hP hD hS (lv_sub hl [2, 3, 0] rfl)
                              ·
                                refine lv_iconst (v := nI 1) hx hb dX6_tick_279 (by decide +kernel) ?_
                                refine lv_goto (tgt := 284) hx hb dX6_tick_280 (by decide) ?_
                                refine q_iadd hx hb dX6_tick_284 ?_
                                refine va_put (D := D) (ci := 6) (v := .int (nI (b2 + 1))) (ty := tyX6 13) (C := RX6) (T := TX6) (N := 14) hx hb hts in_X6_tick_X6 tyX6 tyX6_ok nmX6 hown hK hP hD hS 0 rfl rfl 13 (by decide) (hts _ fl_X6_tick_68) (fun _ h9 => h9) rfl (by decide +kernel) rfl rfl (Nat.le_of_ble_eq_true rfl) dX6_tick_285 (fun H locs hP hD hS => ?_)
                                have hP : va_P D vwCl [(m0, .inr (6, [.ref m1, .ref m2, .ref m3, .int (nI k), .ref m4, .int (nI n), .int (nI th), .int (nI ax), .int (nI fa), .int (nI vl), .ref m5, .int (nI tn), .int (nI h2), .int (nI (b2 + 1))])), (q0, .inl (cI, 118, .inl (ro 118 (jtI (mMove (mCues 16 s)) (i + 1)))))] H := hP
                                have hD : va_D A9 [(m0, .inr (6, [.ref m1, .ref m2, .ref m3, .int (nI k), .ref m4, .int (nI n), .int (nI th), .int (nI ax), .int (nI fa), .int (nI vl), .ref m5, .int (nI tn), .int (nI h2), .int (nI (b2 + 1))])), (q0, .inl (cI, 118, .inl (ro 118 (jtI (mMove (mCues 16 s)) (i + 1)))))] := hD
                                refine lv_iinc (v := (nI (i + 1))) (lv' := [(4, .int (nI (i + 1))), (5, .int (nI (heS (mMove (mCues 16 s)) i))), (0, .ref m0), (1, .ref q0)]) hx hb dX6_tick_288 hl (k := 3) rfl (nI_add i 1) (by decide) rfl (fun ls hl => ?_)
                                refine lv_goto (tgt := 198) hx hb dX6_tick_291 (by decide) ?_
                                exact ih198  (i + 1) h2 (b2 + 1) _ _ ls (by first | with_reducible assumption | omega) (by show _ = max (maxTo (heS (mMove (mCues 16 s))) i) (heS (mMove (mCues 16 s)) i); omega) (by show _ = brT (mMove (mCues 16 s)) i + (if 0 < heS (mMove (mCues 16 s)) i ∧ coF (mMove (mCues 16 s)) i = 0 then 1 else 0); first | (rw [if_pos ⟨by omega, by omega⟩]; omega) | (rw [if_neg (by omega)]; omega)) (by omega) hP hD hS (lv_sub hl [2, 3, 0] rfl)
                        ·
                          refine lv_iload hx hb dX6_tick_223 (lv_at hl 0 rfl) ?_
                          refine lv_goto (tgt := 232) hx hb dX6_tick_225 (by decide) ?_
                          refine va_put (D := D) (ci := 6) (v := .int (nI (heS (mMove (mCues 16 s)) i))) (ty := tyX6 12) (C := RX6) (T := TX6) (N := 14) hx hb hts in_X6_tick_X6 tyX6 tyX6_ok nmX6 hown hK hP hD hS 0 rfl rfl 12 (by decide) (hts _ fl_X6_tick_65) (fun _ h9 => h9) rfl (by decide +kernel) rfl rfl (Nat.le_of_ble_eq_true rfl) dX6_tick_232 (fun H locs hP hD hS => ?_)
                          have hP : va_P D vwCl [(m0, .inr (6, [.ref m1, .ref m2, .ref m3, .int (nI k), .ref m4, .int (nI n), .int (nI th), .int (nI ax), .int (nI fa), .int (nI vl), .ref m5, .int (nI tn), .int (nI (heS (mMove (mCues 16 s)) i)), .int (nI b2)])), (q0, .inl (cI, 118, .inl (ro 118 (jtI (mMove (mCues 16 s)) i))))] H := hP
                          have hD : va_D A9 [(m0, .inr (6, [.ref m1, .ref m2, .ref m3, .int (nI k), .ref m4, .int (nI n), .int (nI th), .int (nI ax), .int (nI fa), .int (nI vl), .ref m5, .int (nI tn), .int (nI (heS (mMove (mCues 16 s)) i)), .int (nI b2)])), (q0, .inl (cI, 118, .inl (ro 118 (jtI (mMove (mCues 16 s)) i))))] := hD
                          refine lv_aload_n hx hb dX6_tick_235 rfl (lv_at hl 2 rfl) ?_
                          refine lv_bipush (v := nI 14) hx hb dX6_tick_236 (by decide +kernel) ?_
                          refine lv_iconst (v := nI 5) hx hb dX6_tick_238 (by decide +kernel) ?_
                          refine lv_iload hx hb dX6_tick_239 (lv_at hl 3 rfl) ?_
                          refine q_imul hx hb dX6_tick_241 ?_
                          refine q_iadd hx hb dX6_tick_242 ?_
                          refine lv_iconst (v := nI 4) hx hb dX6_tick_243 (by decide +kernel) ?_
                          refine q_iadd hx hb dX6_tick_244 ?_
                          refine lv_dup2_11 hx hb dX6_tick_245 rfl rfl ?_
                          refine q_iald 1 0 (by omega) (by omega) hx hb hK hP rfl rfl dX6_tick_246 ?_
                          refine lv_iload hx hb dX6_tick_247 (lv_at hl 0 rfl) ?_
                          refine q_fle (tgt := 256) (by omega) hx hb dX6_tick_249 (by decide) (fun c_249 => ?_) (fun c_249 => ?_)
                          ·
                            refine lv_iconst (v := nI 0) hx hb dX6_tick_256 (by decide +kernel) ?_
                            refine q_iadd hx hb dX6_tick_257 ?_
                            refine q_iast 1 0 (by omega) (by omega) hx hb hK hP hD hS rfl rfl dX6_tick_258 (fun H locs hP hD hS => ?_)
                            have hP : va_P D vwCl [(m0, .inr (6, [.ref m1, .ref m2, .ref m3, .int (nI k), .ref m4, .int (nI n), .int (nI th), .int (nI ax), .int (nI fa), .int (nI vl), .ref m5, .int (nI tn), .int (nI (heS (mMove (mCues 16 s)) i)), .int (nI b2)])), (q0, .inl (cI, 118, .inl (ro 118 (upN (jtI (mMove (mCues 16 s)) i) ((14 + (5 * i)) + 4) (((jtI (mMove (mCues 16 s)) i) ((14 + (5 * i)) + 4)) + 0)))))] H := hP
                            have hD : va_D A9 [(m0, .inr (6, [.ref m1, .ref m2, .ref m3, .int (nI k), .ref m4, .int (nI n), .int (nI th), .int (nI ax), .int (nI fa), .int (nI vl), .ref m5, .int (nI tn), .int (nI (heS (mMove (mCues 16 s)) i)), .int (nI b2)])), (q0, .inl (cI, 118, .inl (ro 118 (upN (jtI (mMove (mCues 16 s)) i) ((14 + (5 * i)) + 4) (((jtI (mMove (mCues 16 s)) i) ((14 + (5 * i)) + 4)) + 0)))))] := hD
                            have er_22 : ro 118 (upN (jtI (mMove (mCues 16 s)) i) ((14 + (5 * i)) + 4) (((jtI (mMove (mCues 16 s)) i) ((14 + (5 * i)) + 4)) + 0)) = ro 118 (jtI (mMove (mCues 16 s)) (i + 1)) := by rw [show 14 + 5 * i + 4 = 18 + 5 * i by omega]; exact jtI_s (by rw [jtI_n (mMove (mCues 16 s)) (by omega)]; first | (rw [if_pos (by omega)]; done) | (rw [if_neg (by omega)]; done))
                            rw [er_22] at hP hD
                            refine lv_aload_n hx hb dX6_tick_259 rfl (lv_at hl 1 rfl) ?_
                            refine lv_dup hx hb dX6_tick_260 rfl ?_
                            refine va_get (D := D) (ci := 6) (v := .int (nI b2)) (C := RX6) (T := TX6) (N := 14) hx hb hts in_X6_tick_X6 hown hK hP 0 rfl rfl 13 (by decide) (hts _ fl_X6_tick_68) (fun _ h9 => h9) rfl dX6_tick_261 ?_
                            refine lv_iload hx hb dX6_tick_264 (lv_at hl 0 rfl) ?_
                            refine q_fle (tgt := 283) (by omega) hx hb dX6_tick_266 (by decide) (fun c_266 => ?_) (fun c_266 => ?_)
                            ·
                              refine lv_iconst (v := nI 0) hx hb dX6_tick_283 (by decide +kernel) ?_
                              refine q_iadd hx hb dX6_tick_284 ?_
                              refine va_put (D := D) (ci := 6) (v := .int (nI (b2 + 0))) (ty := tyX6 13) (C := RX6) (T := TX6) (N := 14) hx hb hts in_X6_tick_X6 tyX6 tyX6_ok nmX6 hown hK hP hD hS 0 rfl rfl 13 (by decide) (hts _ fl_X6_tick_68) (fun _ h9 => h9) rfl (by decide +kernel) rfl rfl (Nat.le_of_ble_eq_true rfl) dX6_tick_285 (fun H locs hP hD hS => ?_)
                              have hP : va_P D vwCl [(m0, .inr (6, [.ref m1, .ref m2, .ref m3, .int (nI k), .ref m4, .int (nI n), .int (nI th), .int (nI ax), .int (nI fa), .int (nI vl), .ref m5, .int (nI tn), .int (nI (heS (mMove (mCues 16 s)) i)), .int (nI (b2 + 0))])), (q0, .inl (cI, 118, .inl (ro 118 (jtI (mMove (mCues 16 s)) (i + 1)))))] H := hP
                              have hD : va_D A9 [(m0, .inr (6, [.ref m1, .ref m2, .ref m3, .int (nI k), .ref m4, .int (nI n), .int (nI th), .int (nI ax), .int (nI fa), .int (nI vl), .ref m5, .int (nI tn), .int (nI (heS (mMove (mCues 16 s)) i)), .int (nI (b2 + 0))])), (q0, .inl (cI, 118, .inl (ro 118 (jtI (mMove (mCues 16 s)) (i + 1)))))] := hD
                              refine lv_iinc (v := (nI (i + 1))) (lv' := [(4, .int (nI (i + 1))), (5, .int (nI (heS (mMove (mCues 16 s)) i))), (0, .ref m0), (1, .ref q0)]) hx hb dX6_tick_288 hl (k := 3) rfl (nI_add i 1) (by decide) rfl (fun ls hl => ?_)
                              refine lv_goto (tgt := 198) hx hb dX6_tick_291 (by decide) ?_
                              exact ih198  (i + 1) (heS (mMove (mCues 16 s)) i) (b2 + 0) _ _ ls (by first | with_reducible assumption | omega) (by show _ = max (maxTo (heS (mMove (mCues 16 s))) i) (heS (mMove (mCues 16 s)) i); omega) (by show _ = brT (mMove (mCues 16 s)) i + (if 0 < heS (mMove (mCues 16 s)) i ∧ coF (mMove (mCues 16 s)) i = 0 then 1 else 0); first | (rw [if_pos ⟨by omega, by omega⟩]; omega) | (rw [if_neg (by omega)]; omega)) (by omega) hP hD hS (lv_sub hl [2, 3, 0] rfl)
                            ·
                              refine lv_aload_n hx hb dX6_tick_269 rfl (lv_at hl 2 rfl) ?_
                              refine lv_iload hx hb dX6_tick_270 (lv_at hl 3 rfl) ?_
                              refine lv_iconst (v := nI 1) hx hb dX6_tick_272 (by decide +kernel) ?_
                              refine KM.callS (As := [.ref q0, .int (nI i), .int (nI 1)]) (rest := [.int (nI b2), .ref m0]) C0 hN (k_X6_of_1 l D cI cS cL q0 (jtI (mMove (mCues 16 s)) (i + 1)) i  (by first | with_reducible assumption | omega)) (va_cwS 3 hts gX6_tick_X6_of rfl rfl rfl (by decide +kernel) ⟨Nat.le_of_ble_eq_true rfl, Nat.le_of_ble_eq_true rfl⟩) hK hP hD hS hA [1] rfl (by decide) (fun _ => rfl) rfl hl.1 rfl (Nat.le_of_ble_eq_true rfl) dX6_tick_273 ⟨Nat.le_of_ble_eq_true rfl, Nat.le_of_ble_eq_true rfl⟩ (fun v9 u9 H locs hv hP hD hS => ?_)
                              subst hv
                              have hP : va_P D vwCl [(m0, .inr (6, [.ref m1, .ref m2, .ref m3, .int (nI k), .ref m4, .int (nI n), .int (nI th), .int (nI ax), .int (nI fa), .int (nI vl), .ref m5, .int (nI tn), .int (nI (heS (mMove (mCues 16 s)) i)), .int (nI b2)])), (q0, .inl (cI, 118, .inl (ro 118 (jtI (mMove (mCues 16 s)) (i + 1)))))] H := hP
                              have hD : va_D A9 [(m0, .inr (6, [.ref m1, .ref m2, .ref m3, .int (nI k), .ref m4, .int (nI n), .int (nI th), .int (nI ax), .int (nI fa), .int (nI vl), .ref m5, .int (nI tn), .int (nI (heS (mMove (mCues 16 s)) i)), .int (nI b2)])), (q0, .inl (cI, 118, .inl (ro 118 (jtI (mMove (mCues 16 s)) (i + 1)))))] := hD
                              refine W.eq (g2 := F0 m9 276 ls [.int (nI (coF (jtI (mMove (mCues 16 s)) (i + 1)) i)), .int (nI b2), .ref m0]) rfl ?_
                              refine q_topi (y := (nI (coF (mMove (mCues 16 s)) i))) (by exact congrArg nI (jtI_n (mMove (mCues 16 s)) (by omega))) ?_
                              have hco : coF (mMove (mCues 16 s)) i ≤ 3 := hIu2 i (by omega)
                              refine q_fne (tgt := 283) (by omega) hx hb dX6_tick_276 (by decide) (fun c_276 => ?_) (fun c_276 => ?_)
                              ·
                                refine lv_iconst (v := nI 0) hx hb dX6_tick_283 (by decide +kernel) ?_
                                refine q_iadd hx hb dX6_tick_284 ?_
                                refine va_put (D := D) (ci := 6) (v := .int (nI (b2 + 0))) (ty := tyX6 13) (C := RX6) (T := TX6) (N := 14) hx hb hts in_X6_tick_X6 tyX6 tyX6_ok nmX6 hown hK hP hD hS 0 rfl rfl 13 (by decide) (hts _ fl_X6_tick_68) (fun _ h9 => h9) rfl (by decide +kernel) rfl rfl (Nat.le_of_ble_eq_true rfl) dX6_tick_285 (fun H locs hP hD hS => ?_)
                                have hP : va_P D vwCl [(m0, .inr (6, [.ref m1, .ref m2, .ref m3, .int (nI k), .ref m4, .int (nI n), .int (nI th), .int (nI ax), .int (nI fa), .int (nI vl), .ref m5, .int (nI tn), .int (nI (heS (mMove (mCues 16 s)) i)), .int (nI (b2 + 0))])), (q0, .inl (cI, 118, .inl (ro 118 (jtI (mMove (mCues 16 s)) (i + 1)))))] H := hP
                                have hD : va_D A9 [(m0, .inr (6, [.ref m1, .ref m2, .ref m3, .int (nI k), .ref m4, .int (nI n), .int (nI th), .int (nI ax), .int (nI fa), .int (nI vl), .ref m5, .int (nI tn), .int (nI (heS (mMove (mCues 16 s)) i)), .int (nI (b2 + 0))])), (q0, .inl (cI, 118, .inl (ro 118 (jtI (mMove (mCues 16 s)) (i + 1)))))] := hD
                                refine lv_iinc (v := (nI (i + 1))) (lv' := [(4, .int (nI (i + 1))), (5, .int (nI (heS (mMove (mCues 16 s)) i))), (0, .ref m0), (1, .ref q0)]) hx hb dX6_tick_288 hl (k := 3) rfl (nI_add i 1) (by decide) rfl (fun ls hl => ?_)
                                refine lv_goto (tgt := 198) hx hb dX6_tick_291 (by decide) ?_
                                exact ih198  (i + 1) (heS (mMove (mCues 16 s)) i) (b2 + 0) _ _ ls (by first | with_reducible assumption | omega) (by show _ = max (maxTo (heS (mMove (mCues 16 s))) i) (heS (mMove (mCues 16 s)) i); omega) (by show _ = brT (mMove (mCues 16 s)) i + (if 0 < heS (mMove (mCues 16 s)) i ∧ coF (mMove (mCues 16 s)) i = 0 then 1 else 0); first | (rw [if_pos ⟨by omega, by omega⟩]; omega) | (rw [if_neg (by omega)]; omega)) (by omega) hP hD hS (lv_sub hl [2, 3, 0] rfl)
                              ·
                                refine lv_iconst (v := nI 1) hx hb dX6_tick_279 (by decide +kernel) ?_
                                refine lv_goto (tgt := 284) hx hb dX6_tick_280 (by decide) ?_
                                refine q_iadd hx hb dX6_tick_284 ?_
                                refine va_put (D := D) (ci := 6) (v := .int (nI (b2 + 1))) (ty := tyX6 13) (C := RX6) (T := TX6) (N := 14) hx hb hts in_X6_tick_X6 tyX6 tyX6_ok nmX6 hown hK hP hD hS 0 rfl rfl 13 (by decide) (hts _ fl_X6_tick_68) (fun _ h9 => h9) rfl (by decide +kernel) rfl rfl (Nat.le_of_ble_eq_true rfl) dX6_tick_285 (fun H locs hP hD hS => ?_)
                                have hP : va_P D vwCl [(m0, .inr (6, [.ref m1, .ref m2, .ref m3, .int (nI k), .ref m4, .int (nI n), .int (nI th), .int (nI ax), .int (nI fa), .int (nI vl), .ref m5, .int (nI tn), .int (nI (heS (mMove (mCues 16 s)) i)), .int (nI (b2 + 1))])), (q0, .inl (cI, 118, .inl (ro 118 (jtI (mMove (mCues 16 s)) (i + 1)))))] H := hP
                                have hD : va_D A9 [(m0, .inr (6, [.ref m1, .ref m2, .ref m3, .int (nI k), .ref m4, .int (nI n), .int (nI th), .int (nI ax), .int (nI fa), .int (nI vl), .ref m5, .int (nI tn), .int (nI (heS (mMove (mCues 16 s)) i)), .int (nI (b2 + 1))])), (q0, .inl (cI, 118, .inl (ro 118 (jtI (mMove (mCues 16 s)) (i + 1)))))] := hD
                                refine lv_iinc (v := (nI (i + 1))) (lv' := [(4, .int (nI (i + 1))), (5, .int (nI (heS (mMove (mCues 16 s)) i))), (0, .ref m0), (1, .ref q0)]) hx hb dX6_tick_288 hl (k := 3) rfl (nI_add i 1) (by decide) rfl (fun ls hl => ?_)
                                refine lv_goto (tgt := 198) hx hb dX6_tick_291 (by decide) ?_
                                exact ih198  (i + 1) (heS (mMove (mCues 16 s)) i) (b2 + 1) _ _ ls (by first | with_reducible assumption | omega) (by show _ = max (maxTo (heS (mMove (mCues 16 s))) i) (heS (mMove (mCues 16 s)) i); omega) (by show _ = brT (mMove (mCues 16 s)) i + (if 0 < heS (mMove (mCues 16 s)) i ∧ coF (mMove (mCues 16 s)) i = 0 then 1 else 0); first | (rw [if_pos ⟨by omega, by omega⟩]; omega) | (rw [if_neg (by omega)]; omega)) (by omega) hP hD hS (lv_sub hl [2, 3, 0] rfl)
                          ·
                            refine lv_iconst (v := nI 1) hx hb dX6_tick_252 (by decide +kernel) ?_
                            refine lv_goto (tgt := 257) hx hb dX6_tick_253 (by decide) ?_
                            refine q_iadd hx hb dX6_tick_257 ?_
                            refine q_iast 1 0 (by omega) (by omega) hx hb hK hP hD hS rfl rfl dX6_tick_258 (fun H locs hP hD hS => ?_)
                            have hP : va_P D vwCl [(m0, .inr (6, [.ref m1, .ref m2, .ref m3, .int (nI k), .ref m4, .int (nI n), .int (nI th), .int (nI ax), .int (nI fa), .int (nI vl), .ref m5, .int (nI tn), .int (nI (heS (mMove (mCues 16 s)) i)), .int (nI b2)])), (q0, .inl (cI, 118, .inl (ro 118 (upN (jtI (mMove (mCues 16 s)) i) ((14 + (5 * i)) + 4) (((jtI (mMove (mCues 16 s)) i) ((14 + (5 * i)) + 4)) + 1)))))] H := hP
                            have hD : va_D A9 [(m0, .inr (6, [.ref m1, .ref m2, .ref m3, .int (nI k), .ref m4, .int (nI n), .int (nI th), .int (nI ax), .int (nI fa), .int (nI vl), .ref m5, .int (nI tn), .int (nI (heS (mMove (mCues 16 s)) i)), .int (nI b2)])), (q0, .inl (cI, 118, .inl (ro 118 (upN (jtI (mMove (mCues 16 s)) i) ((14 + (5 * i)) + 4) (((jtI (mMove (mCues 16 s)) i) ((14 + (5 * i)) + 4)) + 1)))))] := hD
                            have er_23 : ro 118 (upN (jtI (mMove (mCues 16 s)) i) ((14 + (5 * i)) + 4) (((jtI (mMove (mCues 16 s)) i) ((14 + (5 * i)) + 4)) + 1)) = ro 118 (jtI (mMove (mCues 16 s)) (i + 1)) := by rw [show 14 + 5 * i + 4 = 18 + 5 * i by omega]; exact jtI_s (by rw [jtI_n (mMove (mCues 16 s)) (by omega)]; first | (rw [if_pos (by omega)]; done) | (rw [if_neg (by omega)]; done))
                            rw [er_23] at hP hD
                            refine lv_aload_n hx hb dX6_tick_259 rfl (lv_at hl 1 rfl) ?_
                            refine lv_dup hx hb dX6_tick_260 rfl ?_
                            refine va_get (D := D) (ci := 6) (v := .int (nI b2)) (C := RX6) (T := TX6) (N := 14) hx hb hts in_X6_tick_X6 hown hK hP 0 rfl rfl 13 (by decide) (hts _ fl_X6_tick_68) (fun _ h9 => h9) rfl dX6_tick_261 ?_
                            refine lv_iload hx hb dX6_tick_264 (lv_at hl 0 rfl) ?_
                            refine q_fle (tgt := 283) (by omega) hx hb dX6_tick_266 (by decide) (fun c_266 => ?_) (fun c_266 => ?_)
                            ·
                              refine lv_iconst (v := nI 0) hx hb dX6_tick_283 (by decide +kernel) ?_
                              refine q_iadd hx hb dX6_tick_284 ?_
                              refine va_put (D := D) (ci := 6) (v := .int (nI (b2 + 0))) (ty := tyX6 13) (C := RX6) (T := TX6) (N := 14) hx hb hts in_X6_tick_X6 tyX6 tyX6_ok nmX6 hown hK hP hD hS 0 rfl rfl 13 (by decide) (hts _ fl_X6_tick_68) (fun _ h9 => h9) rfl (by decide +kernel) rfl rfl (Nat.le_of_ble_eq_true rfl) dX6_tick_285 (fun H locs hP hD hS => ?_)
                              have hP : va_P D vwCl [(m0, .inr (6, [.ref m1, .ref m2, .ref m3, .int (nI k), .ref m4, .int (nI n), .int (nI th), .int (nI ax), .int (nI fa), .int (nI vl), .ref m5, .int (nI tn), .int (nI (heS (mMove (mCues 16 s)) i)), .int (nI (b2 + 0))])), (q0, .inl (cI, 118, .inl (ro 118 (jtI (mMove (mCues 16 s)) (i + 1)))))] H := hP
                              have hD : va_D A9 [(m0, .inr (6, [.ref m1, .ref m2, .ref m3, .int (nI k), .ref m4, .int (nI n), .int (nI th), .int (nI ax), .int (nI fa), .int (nI vl), .ref m5, .int (nI tn), .int (nI (heS (mMove (mCues 16 s)) i)), .int (nI (b2 + 0))])), (q0, .inl (cI, 118, .inl (ro 118 (jtI (mMove (mCues 16 s)) (i + 1)))))] := hD
                              refine lv_iinc (v := (nI (i + 1))) (lv' := [(4, .int (nI (i + 1))), (5, .int (nI (heS (mMove (mCues 16 s)) i))), (0, .ref m0), (1, .ref q0)]) hx hb dX6_tick_288 hl (k := 3) rfl (nI_add i 1) (by decide) rfl (fun ls hl => ?_)
                              refine lv_goto (tgt := 198) hx hb dX6_tick_291 (by decide) ?_
                              exact ih198  (i + 1) (heS (mMove (mCues 16 s)) i) (b2 + 0) _ _ ls (by first | with_reducible assumption | omega) (by show _ = max (maxTo (heS (mMove (mCues 16 s))) i) (heS (mMove (mCues 16 s)) i); omega) (by show _ = brT (mMove (mCues 16 s)) i + (if 0 < heS (mMove (mCues 16 s)) i ∧ coF (mMove (mCues 16 s)) i = 0 then 1 else 0); first | (rw [if_pos ⟨by omega, by omega⟩]; omega) | (rw [if_neg (by omega)]; omega)) (by omega) hP hD hS (lv_sub hl [2, 3, 0] rfl)
                            ·
                              refine lv_aload_n hx hb dX6_tick_269 rfl (lv_at hl 2 rfl) ?_
                              refine lv_iload hx hb dX6_tick_270 (lv_at hl 3 rfl) ?_
                              refine lv_iconst (v := nI 1) hx hb dX6_tick_272 (by decide +kernel) ?_
                              refine KM.callS (As := [.ref q0, .int (nI i), .int (nI 1)]) (rest := [.int (nI b2), .ref m0]) C0 hN (k_X6_of_1 l D cI cS cL q0 (jtI (mMove (mCues 16 s)) (i + 1)) i  (by first | with_reducible assumption | omega)) (va_cwS 3 hts gX6_tick_X6_of rfl rfl rfl (by decide +kernel) ⟨Nat.le_of_ble_eq_true rfl, Nat.le_of_ble_eq_true rfl⟩) hK hP hD hS hA [1] rfl (by decide) (fun _ => rfl) rfl hl.1 rfl (Nat.le_of_ble_eq_true rfl) dX6_tick_273 ⟨Nat.le_of_ble_eq_true rfl, Nat.le_of_ble_eq_true rfl⟩ (fun v9 u9 H locs hv hP hD hS => ?_)
                              subst hv
                              have hP : va_P D vwCl [(m0, .inr (6, [.ref m1, .ref m2, .ref m3, .int (nI k), .ref m4, .int (nI n), .int (nI th), .int (nI ax), .int (nI fa), .int (nI vl), .ref m5, .int (nI tn), .int (nI (heS (mMove (mCues 16 s)) i)), .int (nI b2)])), (q0, .inl (cI, 118, .inl (ro 118 (jtI (mMove (mCues 16 s)) (i + 1)))))] H := hP
                              have hD : va_D A9 [(m0, .inr (6, [.ref m1, .ref m2, .ref m3, .int (nI k), .ref m4, .int (nI n), .int (nI th), .int (nI ax), .int (nI fa), .int (nI vl), .ref m5, .int (nI tn), .int (nI (heS (mMove (mCues 16 s)) i)), .int (nI b2)])), (q0, .inl (cI, 118, .inl (ro 118 (jtI (mMove (mCues 16 s)) (i + 1)))))] := hD
                              refine W.eq (g2 := F0 m9 276 ls [.int (nI (coF (jtI (mMove (mCues 16 s)) (i + 1)) i)), .int (nI b2), .ref m0]) rfl ?_
                              refine q_topi (y := (nI (coF (mMove (mCues 16 s)) i))) (by exact congrArg nI (jtI_n (mMove (mCues 16 s)) (by omega))) ?_
                              have hco : coF (mMove (mCues 16 s)) i ≤ 3 := hIu2 i (by omega)
                              refine q_fne (tgt := 283) (by omega) hx hb dX6_tick_276 (by decide) (fun c_276 => ?_) (fun c_276 => ?_)
                              ·
                                refine lv_iconst (v := nI 0) hx hb dX6_tick_283 (by decide +kernel) ?_
                                refine q_iadd hx hb dX6_tick_284 ?_
                                refine va_put (D := D) (ci := 6) (v := .int (nI (b2 + 0))) (ty := tyX6 13) (C := RX6) (T := TX6) (N := 14) hx hb hts in_X6_tick_X6 tyX6 tyX6_ok nmX6 hown hK hP hD hS 0 rfl rfl 13 (by decide) (hts _ fl_X6_tick_68) (fun _ h9 => h9) rfl (by decide +kernel) rfl rfl (Nat.le_of_ble_eq_true rfl) dX6_tick_285 (fun H locs hP hD hS => ?_)
                                have hP : va_P D vwCl [(m0, .inr (6, [.ref m1, .ref m2, .ref m3, .int (nI k), .ref m4, .int (nI n), .int (nI th), .int (nI ax), .int (nI fa), .int (nI vl), .ref m5, .int (nI tn), .int (nI (heS (mMove (mCues 16 s)) i)), .int (nI (b2 + 0))])), (q0, .inl (cI, 118, .inl (ro 118 (jtI (mMove (mCues 16 s)) (i + 1)))))] H := hP
                                have hD : va_D A9 [(m0, .inr (6, [.ref m1, .ref m2, .ref m3, .int (nI k), .ref m4, .int (nI n), .int (nI th), .int (nI ax), .int (nI fa), .int (nI vl), .ref m5, .int (nI tn), .int (nI (heS (mMove (mCues 16 s)) i)), .int (nI (b2 + 0))])), (q0, .inl (cI, 118, .inl (ro 118 (jtI (mMove (mCues 16 s)) (i + 1)))))] := hD
                                refine lv_iinc (v := (nI (i + 1))) (lv' := [(4, .int (nI (i + 1))), (5, .int (nI (heS (mMove (mCues 16 s)) i))), (0, .ref m0), (1, .ref q0)]) hx hb dX6_tick_288 hl (k := 3) rfl (nI_add i 1) (by decide) rfl (fun ls hl => ?_)
                                refine lv_goto (tgt := 198) hx hb dX6_tick_291 (by decide) ?_
                                exact ih198  (i + 1) (heS (mMove (mCues 16 s)) i) (b2 + 0) _ _ ls (by first | with_reducible assumption | omega) (by show _ = max (maxTo (heS (mMove (mCues 16 s))) i) (heS (mMove (mCues 16 s)) i); omega) (by show _ = brT (mMove (mCues 16 s)) i + (if 0 < heS (mMove (mCues 16 s)) i ∧ coF (mMove (mCues 16 s)) i = 0 then 1 else 0); first | (rw [if_pos ⟨by omega, by omega⟩]; omega) | (rw [if_neg (by omega)]; omega)) (by omega) hP hD hS (lv_sub hl [2, 3, 0] rfl)
                              ·
                                refine lv_iconst (v := nI 1) hx hb dX6_tick_279 (by decide +kernel) ?_
                                refine lv_goto (tgt := 284) hx hb dX6_tick_280 (by decide) ?_
                                refine q_iadd hx hb dX6_tick_284 ?_
                                refine va_put (D := D) (ci := 6) (v := .int (nI (b2 + 1))) (ty := tyX6 13) (C := RX6) (T := TX6) (N := 14) hx hb hts in_X6_tick_X6 tyX6 tyX6_ok nmX6 hown hK hP hD hS 0 rfl rfl 13 (by decide) (hts _ fl_X6_tick_68) (fun _ h9 => h9) rfl (by decide +kernel) rfl rfl (Nat.le_of_ble_eq_true rfl) dX6_tick_285 (fun H locs hP hD hS => ?_)
                                have hP : va_P D vwCl [(m0, .inr (6, [.ref m1, .ref m2, .ref m3, .int (nI k), .ref m4, .int (nI n), .int (nI th), .int (nI ax), .int (nI fa), .int (nI vl), .ref m5, .int (nI tn), .int (nI (heS (mMove (mCues 16 s)) i)), .int (nI (b2 + 1))])), (q0, .inl (cI, 118, .inl (ro 118 (jtI (mMove (mCues 16 s)) (i + 1)))))] H := hP
                                have hD : va_D A9 [(m0, .inr (6, [.ref m1, .ref m2, .ref m3, .int (nI k), .ref m4, .int (nI n), .int (nI th), .int (nI ax), .int (nI fa), .int (nI vl), .ref m5, .int (nI tn), .int (nI (heS (mMove (mCues 16 s)) i)), .int (nI (b2 + 1))])), (q0, .inl (cI, 118, .inl (ro 118 (jtI (mMove (mCues 16 s)) (i + 1)))))] := hD
                                refine lv_iinc (v := (nI (i + 1))) (lv' := [(4, .int (nI (i + 1))), (5, .int (nI (heS (mMove (mCues 16 s)) i))), (0, .ref m0), (1, .ref q0)]) hx hb dX6_tick_288 hl (k := 3) rfl (nI_add i 1) (by decide) rfl (fun ls hl => ?_)
                                refine lv_goto (tgt := 198) hx hb dX6_tick_291 (by decide) ?_
                                exact ih198  (i + 1) (heS (mMove (mCues 16 s)) i) (b2 + 1) _ _ ls (by first | with_reducible assumption | omega) (by show _ = max (maxTo (heS (mMove (mCues 16 s))) i) (heS (mMove (mCues 16 s)) i); omega) (by show _ = brT (mMove (mCues 16 s)) i + (if 0 < heS (mMove (mCues 16 s)) i ∧ coF (mMove (mCues 16 s)) i = 0 then 1 else 0); first | (rw [if_pos ⟨by omega, by omega⟩]; omega) | (rw [if_neg (by omega)]; omega)) (by omega) hP hD hS (lv_sub hl [2, 3, 0] rfl)
                  exact L198 (8 - 0 + 1) 0 0 0 _ _ ls (by first | with_reducible assumption | omega) (by rfl) (by rfl) (by omega) hP hD hS (lv_sub hl [3, 4, 0] rfl)
                ·
                  refine lv_aload_n hx hb dX6_tick_150 rfl (lv_at hl 2 rfl) ?_
                  refine lv_bipush (v := nI 11) hx hb dX6_tick_151 (by decide +kernel) ?_
                  refine lv_dup2_11 hx hb dX6_tick_153 rfl rfl ?_
                  refine q_iald 1 0 (by omega) (by omega) hx hb hK hP rfl rfl dX6_tick_154 ?_
                  refine lv_iconst (v := nI 1) hx hb dX6_tick_155 (by decide +kernel) ?_
                  refine q_iadd hx hb dX6_tick_156 ?_
                  refine q_iast 1 0 (by omega) (by omega) hx hb hK hP hD hS rfl rfl dX6_tick_157 (fun H locs hP hD hS => ?_)
                  have hP : va_P D vwCl [(m0, .inr (6, [.ref m1, .ref m2, .ref m3, .int (nI k), .ref m4, .int (nI n), .int (nI th), .int (nI ax), .int (nI fa), .int (nI vl), .ref m5, .int (nI tn), .int (nI 0), .int (nI 0)])), (q0, .inl (cI, 118, .inl (ro 118 (upN (mMove (mCues 16 s)) 11 (((mMove (mCues 16 s)) 11) + 1)))))] H := hP
                  have hD : va_D A9 [(m0, .inr (6, [.ref m1, .ref m2, .ref m3, .int (nI k), .ref m4, .int (nI n), .int (nI th), .int (nI ax), .int (nI fa), .int (nI vl), .ref m5, .int (nI tn), .int (nI 0), .int (nI 0)])), (q0, .inl (cI, 118, .inl (ro 118 (upN (mMove (mCues 16 s)) 11 (((mMove (mCues 16 s)) 11) + 1)))))] := hD
                  refine lv_goto (tgt := 294) hx hb dX6_tick_158 (by decide) ?_
                  refine lv_aload_n hx hb dX6_tick_294 rfl (lv_at hl 2 rfl) ?_
                  refine lv_bipush (v := nI 13) hx hb dX6_tick_295 (by decide +kernel) ?_
                  refine lv_aload_n hx hb dX6_tick_297 rfl (lv_at hl 1 rfl) ?_
                  refine va_get (D := D) (ci := 6) (v := .int (nI 0)) (C := RX6) (T := TX6) (N := 14) hx hb hts in_X6_tick_X6 hown hK hP 0 rfl rfl 12 (by decide) (hts _ fl_X6_tick_65) (fun _ h9 => h9) rfl dX6_tick_298 ?_
                  refine lv_aload_n hx hb dX6_tick_301 rfl (lv_at hl 2 rfl) ?_
                  refine lv_bipush (v := nI 13) hx hb dX6_tick_302 (by decide +kernel) ?_
                  refine q_iald 1 0 (by omega) (by omega) hx hb hK hP rfl rfl dX6_tick_304 ?_
                  refine q_topi (y := (nI ((mMove (mCues 16 s)) 13))) (by first | rfl | exact congrArg nI (jtI_n (mMove (mCues 16 s)) (by omega))) ?_
                  refine q_ile (tgt := 315) (by omega) (by omega) hx hb dX6_tick_305 (by decide) (fun c_305 => ?_) (fun c_305 => ?_)
                  ·
                    refine lv_aload_n hx hb dX6_tick_315 rfl (lv_at hl 2 rfl) ?_
                    refine lv_bipush (v := nI 13) hx hb dX6_tick_316 (by decide +kernel) ?_
                    refine q_iald 1 0 (by omega) (by omega) hx hb hK hP rfl rfl dX6_tick_318 ?_
                    refine q_topi (y := (nI ((mMove (mCues 16 s)) 13))) (by first | rfl | exact congrArg nI (jtI_n (mMove (mCues 16 s)) (by omega))) ?_
                    refine q_iast 1 0 (by omega) (by omega) hx hb hK hP hD hS rfl rfl dX6_tick_319 (fun H locs hP hD hS => ?_)
                    have hP : va_P D vwCl [(m0, .inr (6, [.ref m1, .ref m2, .ref m3, .int (nI k), .ref m4, .int (nI n), .int (nI th), .int (nI ax), .int (nI fa), .int (nI vl), .ref m5, .int (nI tn), .int (nI 0), .int (nI 0)])), (q0, .inl (cI, 118, .inl (ro 118 (upN (upN (mMove (mCues 16 s)) 11 (((mMove (mCues 16 s)) 11) + 1)) 13 ((mMove (mCues 16 s)) 13)))))] H := hP
                    have hD : va_D A9 [(m0, .inr (6, [.ref m1, .ref m2, .ref m3, .int (nI k), .ref m4, .int (nI n), .int (nI th), .int (nI ax), .int (nI fa), .int (nI vl), .ref m5, .int (nI tn), .int (nI 0), .int (nI 0)])), (q0, .inl (cI, 118, .inl (ro 118 (upN (upN (mMove (mCues 16 s)) 11 (((mMove (mCues 16 s)) 11) + 1)) 13 ((mMove (mCues 16 s)) 13)))))] := hD
                    refine lv_aload_n hx hb dX6_tick_320 rfl (lv_at hl 2 rfl) ?_
                    refine lv_bipush (v := nI 7) hx hb dX6_tick_321 (by decide +kernel) ?_
                    refine lv_dup2_11 hx hb dX6_tick_323 rfl rfl ?_
                    refine q_iald 1 0 (by omega) (by omega) hx hb hK hP rfl rfl dX6_tick_324 ?_
                    refine lv_iconst (v := nI 1) hx hb dX6_tick_325 (by decide +kernel) ?_
                    refine q_iadd hx hb dX6_tick_326 ?_
                    refine q_iast 1 0 (by omega) (by omega) hx hb hK hP hD hS rfl rfl dX6_tick_327 (fun H locs hP hD hS => ?_)
                    have hP : va_P D vwCl [(m0, .inr (6, [.ref m1, .ref m2, .ref m3, .int (nI k), .ref m4, .int (nI n), .int (nI th), .int (nI ax), .int (nI fa), .int (nI vl), .ref m5, .int (nI tn), .int (nI 0), .int (nI 0)])), (q0, .inl (cI, 118, .inl (ro 118 (upN (upN (upN (mMove (mCues 16 s)) 11 (((mMove (mCues 16 s)) 11) + 1)) 13 ((mMove (mCues 16 s)) 13)) 7 (((upN (upN (mMove (mCues 16 s)) 11 (((mMove (mCues 16 s)) 11) + 1)) 13 ((mMove (mCues 16 s)) 13)) 7) + 1)))))] H := hP
                    have hD : va_D A9 [(m0, .inr (6, [.ref m1, .ref m2, .ref m3, .int (nI k), .ref m4, .int (nI n), .int (nI th), .int (nI ax), .int (nI fa), .int (nI vl), .ref m5, .int (nI tn), .int (nI 0), .int (nI 0)])), (q0, .inl (cI, 118, .inl (ro 118 (upN (upN (upN (mMove (mCues 16 s)) 11 (((mMove (mCues 16 s)) 11) + 1)) 13 ((mMove (mCues 16 s)) 13)) 7 (((upN (upN (mMove (mCues 16 s)) 11 (((mMove (mCues 16 s)) 11) + 1)) 13 ((mMove (mCues 16 s)) 13)) 7) + 1)))))] := hD
                    have er_24 : ro 118 (upN (upN (upN (mMove (mCues 16 s)) 11 (((mMove (mCues 16 s)) 11) + 1)) 13 ((mMove (mCues 16 s)) 13)) 7 (((upN (upN (mMove (mCues 16 s)) 11 (((mMove (mCues 16 s)) 11) + 1)) 13 ((mMove (mCues 16 s)) 13)) 7) + 1)) = ro 118 (mTick s) := by first | exact dry_row c_147 rfl rfl | exact dry_row c_147 (by omega) rfl | exact wet_row (by omega) (by omega) (by rw [show i = 8 by omega] at hh; omega) (congrArg (fun z => z + 1) (jtI_n (i := i) (mMove (mCues 16 s)) (x := 7) (by omega)))
                    rw [er_24] at hP hD
                    first | rw [show hiS (mMove (mCues 16 s)) = 0 from if_pos c_147, show brS (mMove (mCues 16 s)) = 0 from if_pos c_147] at hret | (rw [show i = 8 by omega] at hh hb2; rw [show hiS (mMove (mCues 16 s)) = h2 from (if_neg (by omega)).trans hh.symm, show brS (mMove (mCues 16 s)) = b2 from (if_neg (by omega)).trans hb2.symm] at hret)
                    exact hret _ _ _ _ none () 328 ls (by decide) (by decide) (by rfl) hP hD hS (ret_v dX6_tick_328)
                  ·
                    refine lv_aload_n hx hb dX6_tick_308 rfl (lv_at hl 1 rfl) ?_
                    refine va_get (D := D) (ci := 6) (v := .int (nI 0)) (C := RX6) (T := TX6) (N := 14) hx hb hts in_X6_tick_X6 hown hK hP 0 rfl rfl 12 (by decide) (hts _ fl_X6_tick_65) (fun _ h9 => h9) rfl dX6_tick_309 ?_
                    refine lv_goto (tgt := 319) hx hb dX6_tick_312 (by decide) ?_
                    refine q_iast 1 0 (by omega) (by omega) hx hb hK hP hD hS rfl rfl dX6_tick_319 (fun H locs hP hD hS => ?_)
                    have hP : va_P D vwCl [(m0, .inr (6, [.ref m1, .ref m2, .ref m3, .int (nI k), .ref m4, .int (nI n), .int (nI th), .int (nI ax), .int (nI fa), .int (nI vl), .ref m5, .int (nI tn), .int (nI 0), .int (nI 0)])), (q0, .inl (cI, 118, .inl (ro 118 (upN (upN (mMove (mCues 16 s)) 11 (((mMove (mCues 16 s)) 11) + 1)) 13 0))))] H := hP
                    have hD : va_D A9 [(m0, .inr (6, [.ref m1, .ref m2, .ref m3, .int (nI k), .ref m4, .int (nI n), .int (nI th), .int (nI ax), .int (nI fa), .int (nI vl), .ref m5, .int (nI tn), .int (nI 0), .int (nI 0)])), (q0, .inl (cI, 118, .inl (ro 118 (upN (upN (mMove (mCues 16 s)) 11 (((mMove (mCues 16 s)) 11) + 1)) 13 0))))] := hD
                    refine lv_aload_n hx hb dX6_tick_320 rfl (lv_at hl 2 rfl) ?_
                    refine lv_bipush (v := nI 7) hx hb dX6_tick_321 (by decide +kernel) ?_
                    refine lv_dup2_11 hx hb dX6_tick_323 rfl rfl ?_
                    refine q_iald 1 0 (by omega) (by omega) hx hb hK hP rfl rfl dX6_tick_324 ?_
                    refine lv_iconst (v := nI 1) hx hb dX6_tick_325 (by decide +kernel) ?_
                    refine q_iadd hx hb dX6_tick_326 ?_
                    refine q_iast 1 0 (by omega) (by omega) hx hb hK hP hD hS rfl rfl dX6_tick_327 (fun H locs hP hD hS => ?_)
                    have hP : va_P D vwCl [(m0, .inr (6, [.ref m1, .ref m2, .ref m3, .int (nI k), .ref m4, .int (nI n), .int (nI th), .int (nI ax), .int (nI fa), .int (nI vl), .ref m5, .int (nI tn), .int (nI 0), .int (nI 0)])), (q0, .inl (cI, 118, .inl (ro 118 (upN (upN (upN (mMove (mCues 16 s)) 11 (((mMove (mCues 16 s)) 11) + 1)) 13 0) 7 (((upN (upN (mMove (mCues 16 s)) 11 (((mMove (mCues 16 s)) 11) + 1)) 13 0) 7) + 1)))))] H := hP
                    have hD : va_D A9 [(m0, .inr (6, [.ref m1, .ref m2, .ref m3, .int (nI k), .ref m4, .int (nI n), .int (nI th), .int (nI ax), .int (nI fa), .int (nI vl), .ref m5, .int (nI tn), .int (nI 0), .int (nI 0)])), (q0, .inl (cI, 118, .inl (ro 118 (upN (upN (upN (mMove (mCues 16 s)) 11 (((mMove (mCues 16 s)) 11) + 1)) 13 0) 7 (((upN (upN (mMove (mCues 16 s)) 11 (((mMove (mCues 16 s)) 11) + 1)) 13 0) 7) + 1)))))] := hD
                    have er_25 : ro 118 (upN (upN (upN (mMove (mCues 16 s)) 11 (((mMove (mCues 16 s)) 11) + 1)) 13 0) 7 (((upN (upN (mMove (mCues 16 s)) 11 (((mMove (mCues 16 s)) 11) + 1)) 13 0) 7) + 1)) = ro 118 (mTick s) := by first | exact dry_row c_147 rfl rfl | exact dry_row c_147 (by omega) rfl | exact wet_row (by omega) (by omega) (by rw [show i = 8 by omega] at hh; omega) (congrArg (fun z => z + 1) (jtI_n (i := i) (mMove (mCues 16 s)) (x := 7) (by omega)))
                    rw [er_25] at hP hD
                    first | rw [show hiS (mMove (mCues 16 s)) = 0 from if_pos c_147, show brS (mMove (mCues 16 s)) = 0 from if_pos c_147] at hret | (rw [show i = 8 by omega] at hh hb2; rw [show hiS (mMove (mCues 16 s)) = h2 from (if_neg (by omega)).trans hh.symm, show brS (mMove (mCues 16 s)) = b2 from (if_neg (by omega)).trans hb2.symm] at hret)
                    exact hret _ _ _ _ none () 328 ls (by decide) (by decide) (by rfl) hP hD hS (ret_v dX6_tick_328)
              ·
                refine lv_aload_n hx hb dX6_tick_65 rfl (lv_at hl 1 rfl) ?_
                refine lv_iload_n hx hb dX6_tick_66 rfl (lv_at hl 2 rfl) ?_
                refine lv_iconst (v := nI 3) hx hb dX6_tick_67 (by decide +kernel) ?_
                have hv9 := hc2 i (by omega)
                have ha9 := hc3 i (by omega)
                refine KM.callS (As := [.ref q0, .int (nI i), .int (nI 3)]) (rest := []) C0 hN (k_X6_of_3 l D cI cS cL q0 (mvI (mCues 16 s) i) i  (by first | with_reducible assumption | omega)) (va_cwS 3 hts gX6_tick_X6_of rfl rfl rfl (by decide +kernel) ⟨Nat.le_of_ble_eq_true rfl, Nat.le_of_ble_eq_true rfl⟩) hK hP hD hS hA [1] rfl (by decide) (fun _ => rfl) rfl hl.1 rfl (Nat.le_of_ble_eq_true rfl) dX6_tick_68 ⟨Nat.le_of_ble_eq_true rfl, Nat.le_of_ble_eq_true rfl⟩ (fun v9 u9 H locs hv hP hD hS => ?_)
                subst hv
                have hP : va_P D vwCl [(m0, .inr (6, [.ref m1, .ref m2, .ref m3, .int (nI k), .ref m4, .int (nI n), .int (nI th), .int (nI ax), .int (nI fa), .int (nI vl), .ref m5, .int (nI tn), .int (nI hg), .int (nI bg)])), (q0, .inl (cI, 118, .inl (ro 118 (mvI (mCues 16 s) i))))] H := hP
                have hD : va_D A9 [(m0, .inr (6, [.ref m1, .ref m2, .ref m3, .int (nI k), .ref m4, .int (nI n), .int (nI th), .int (nI ax), .int (nI fa), .int (nI vl), .ref m5, .int (nI tn), .int (nI hg), .int (nI bg)])), (q0, .inl (cI, 118, .inl (ro 118 (mvI (mCues 16 s) i))))] := hD
                refine W.eq (g2 := F0 m9 71 ls [.int (nI (amF (mvI (mCues 16 s) i) i))]) rfl ?_
                refine q_topi (y := (nI (amF (mCues 16 s) i))) (by exact congrArg nI (mvI_n (mCues 16 s) (by omega))) ?_
                refine lv_aload_n hx hb dX6_tick_71 rfl (lv_at hl 1 rfl) ?_
                refine lv_iload_n hx hb dX6_tick_72 rfl (lv_at hl 2 rfl) ?_
                refine lv_iconst (v := nI 2) hx hb dX6_tick_73 (by decide +kernel) ?_
                refine KM.callS (As := [.ref q0, .int (nI i), .int (nI 2)]) (rest := [.int (nI (amF (mCues 16 s) i))]) C0 hN (k_X6_of_2 l D cI cS cL q0 (mvI (mCues 16 s) i) i  (by first | with_reducible assumption | omega)) (va_cwS 3 hts gX6_tick_X6_of rfl rfl rfl (by decide +kernel) ⟨Nat.le_of_ble_eq_true rfl, Nat.le_of_ble_eq_true rfl⟩) hK hP hD hS hA [1] rfl (by decide) (fun _ => rfl) rfl hl.1 rfl (Nat.le_of_ble_eq_true rfl) dX6_tick_74 ⟨Nat.le_of_ble_eq_true rfl, Nat.le_of_ble_eq_true rfl⟩ (fun v9 u9 H locs hv hP hD hS => ?_)
                subst hv
                have hP : va_P D vwCl [(m0, .inr (6, [.ref m1, .ref m2, .ref m3, .int (nI k), .ref m4, .int (nI n), .int (nI th), .int (nI ax), .int (nI fa), .int (nI vl), .ref m5, .int (nI tn), .int (nI hg), .int (nI bg)])), (q0, .inl (cI, 118, .inl (ro 118 (mvI (mCues 16 s) i))))] H := hP
                have hD : va_D A9 [(m0, .inr (6, [.ref m1, .ref m2, .ref m3, .int (nI k), .ref m4, .int (nI n), .int (nI th), .int (nI ax), .int (nI fa), .int (nI vl), .ref m5, .int (nI tn), .int (nI hg), .int (nI bg)])), (q0, .inl (cI, 118, .inl (ro 118 (mvI (mCues 16 s) i))))] := hD
                refine W.eq (g2 := F0 m9 77 ls [.int (nI (vaF (mvI (mCues 16 s) i) i)), .int (nI (amF (mCues 16 s) i))]) rfl ?_
                refine q_topi (y := (nI (vaF (mCues 16 s) i))) (by exact congrArg nI (mvI_n (mCues 16 s) (by omega))) ?_
                refine lv_isub hx hb dX6_tick_77 ?_
                refine lv_istore_n (lv' := [(3, .int ((nI (amF (mCues 16 s) i)) - (nI (vaF (mCues 16 s) i)))), (0, .ref m0), (1, .ref q0), (2, .int (nI i))]) hx hb dX6_tick_78 rfl hl (by decide) rfl (fun ls hl => ?_)
                refine lv_aload_n hx hb dX6_tick_79 rfl (lv_at hl 2 rfl) ?_
                refine lv_bipush (v := nI 14) hx hb dX6_tick_80 (by decide +kernel) ?_
                refine lv_iconst (v := nI 5) hx hb dX6_tick_82 (by decide +kernel) ?_
                refine lv_iload_n hx hb dX6_tick_83 rfl (lv_at hl 3 rfl) ?_
                refine q_imul hx hb dX6_tick_84 ?_
                refine q_iadd hx hb dX6_tick_85 ?_
                refine lv_iconst (v := nI 2) hx hb dX6_tick_86 (by decide +kernel) ?_
                refine q_iadd hx hb dX6_tick_87 ?_
                refine lv_dup2_11 hx hb dX6_tick_88 rfl rfl ?_
                refine q_iald 1 0 (by omega) (by omega) hx hb hK hP rfl rfl dX6_tick_89 ?_
                refine q_topi (y := (nI (vaF (mCues 16 s) i))) (by exact congrArg nI ((congrArg (mvI (mCues 16 s) i) (show 14 + 5 * i + 2 = 16 + 5 * i by omega)).trans (mvI_n (mCues 16 s) (by omega)))) ?_
                refine lv_iload_n hx hb dX6_tick_90 rfl (lv_at hl 0 rfl) ?_
                refine lv_aload_n hx hb dX6_tick_91 rfl (lv_at hl 2 rfl) ?_
                refine lv_iconst (v := nI 2) hx hb dX6_tick_92 (by decide +kernel) ?_
                refine q_iald 1 0 (by omega) (by omega) hx hb hK hP rfl rfl dX6_tick_93 ?_
                refine q_topi (y := (nI ((mCues 16 s) 2))) (by exact congrArg nI (mvI_n (mCues 16 s) (by omega))) ?_
                refine lv_icmp_le (tgt := 103) hx hb dX6_tick_94 (by decide) (fun c_94 => ?_) (fun c_94 => ?_)
                ·
                  refine lv_iload_n hx hb dX6_tick_103 rfl (lv_at hl 0 rfl) ?_
                  refine lv_aload_n hx hb dX6_tick_104 rfl (lv_at hl 2 rfl) ?_
                  refine lv_iconst (v := nI 2) hx hb dX6_tick_105 (by decide +kernel) ?_
                  refine q_iald 1 0 (by omega) (by omega) hx hb hK hP rfl rfl dX6_tick_106 ?_
                  refine q_topi (y := (nI ((mCues 16 s) 2))) (by exact congrArg nI (mvI_n (mCues 16 s) (by omega))) ?_
                  refine lv_ineg hx hb dX6_tick_107 ?_
                  refine lv_icmp_ge (tgt := 118) hx hb dX6_tick_108 (by decide) (fun c_108 => ?_) (fun c_108 => ?_)
                  ·
                    refine lv_iload_n hx hb dX6_tick_118 rfl (lv_at hl 0 rfl) ?_
                    refine lv_iadd hx hb dX6_tick_119 ?_
                    refine q_topi (y := (nI (mv (amF (mCues 16 s) i) (vaF (mCues 16 s) i) ((mCues 16 s) 2)))) (by first | exact mvA (by omega) (by omega) (by omega) c_94 | exact mvB (by omega) (by omega) (by omega) c_108 | exact mvC (by omega) (by omega) (by omega) c_94 c_108) ?_
                    refine q_iast 1 0 (by omega) (by omega) hx hb hK hP hD hS rfl rfl dX6_tick_120 (fun H locs hP hD hS => ?_)
                    have hP : va_P D vwCl [(m0, .inr (6, [.ref m1, .ref m2, .ref m3, .int (nI k), .ref m4, .int (nI n), .int (nI th), .int (nI ax), .int (nI fa), .int (nI vl), .ref m5, .int (nI tn), .int (nI hg), .int (nI bg)])), (q0, .inl (cI, 118, .inl (ro 118 (upN (mvI (mCues 16 s) i) ((14 + (5 * i)) + 2) (mv (amF (mCues 16 s) i) (vaF (mCues 16 s) i) ((mCues 16 s) 2))))))] H := hP
                    have hD : va_D A9 [(m0, .inr (6, [.ref m1, .ref m2, .ref m3, .int (nI k), .ref m4, .int (nI n), .int (nI th), .int (nI ax), .int (nI fa), .int (nI vl), .ref m5, .int (nI tn), .int (nI hg), .int (nI bg)])), (q0, .inl (cI, 118, .inl (ro 118 (upN (mvI (mCues 16 s) i) ((14 + (5 * i)) + 2) (mv (amF (mCues 16 s) i) (vaF (mCues 16 s) i) ((mCues 16 s) 2))))))] := hD
                    have er_26 : ro 118 (upN (mvI (mCues 16 s) i) ((14 + (5 * i)) + 2) (mv (amF (mCues 16 s) i) (vaF (mCues 16 s) i) ((mCues 16 s) 2))) = ro 118 (mvI (mCues 16 s) (i + 1)) := by rw [show 14 + 5 * i + 2 = 16 + 5 * i by omega]; exact mvI_s (mCues 16 s) i
                    rw [er_26] at hP hD
                    refine lv_iinc (v := (nI (i + 1))) (lv' := [(2, .int (nI (i + 1))), (3, .int ((nI (amF (mCues 16 s) i)) - (nI (vaF (mCues 16 s) i)))), (0, .ref m0), (1, .ref q0)]) hx hb dX6_tick_121 hl (k := 3) rfl (nI_add i 1) (by decide) rfl (fun ls hl => ?_)
                    refine lv_goto (tgt := 59) hx hb dX6_tick_124 (by decide) ?_
                    exact ih59  (i + 1) _ _ ls (by first | with_reducible assumption | omega) (by omega) hP hD hS (lv_sub hl [2, 3, 0] rfl)
                  ·
                    refine lv_aload_n hx hb dX6_tick_111 rfl (lv_at hl 2 rfl) ?_
                    refine lv_iconst (v := nI 2) hx hb dX6_tick_112 (by decide +kernel) ?_
                    refine q_iald 1 0 (by omega) (by omega) hx hb hK hP rfl rfl dX6_tick_113 ?_
                    refine q_topi (y := (nI ((mCues 16 s) 2))) (by exact congrArg nI (mvI_n (mCues 16 s) (by omega))) ?_
                    refine lv_ineg hx hb dX6_tick_114 ?_
                    refine lv_goto (tgt := 119) hx hb dX6_tick_115 (by decide) ?_
                    refine lv_iadd hx hb dX6_tick_119 ?_
                    refine q_topi (y := (nI (mv (amF (mCues 16 s) i) (vaF (mCues 16 s) i) ((mCues 16 s) 2)))) (by first | exact mvA (by omega) (by omega) (by omega) c_94 | exact mvB (by omega) (by omega) (by omega) c_108 | exact mvC (by omega) (by omega) (by omega) c_94 c_108) ?_
                    refine q_iast 1 0 (by omega) (by omega) hx hb hK hP hD hS rfl rfl dX6_tick_120 (fun H locs hP hD hS => ?_)
                    have hP : va_P D vwCl [(m0, .inr (6, [.ref m1, .ref m2, .ref m3, .int (nI k), .ref m4, .int (nI n), .int (nI th), .int (nI ax), .int (nI fa), .int (nI vl), .ref m5, .int (nI tn), .int (nI hg), .int (nI bg)])), (q0, .inl (cI, 118, .inl (ro 118 (upN (mvI (mCues 16 s) i) ((14 + (5 * i)) + 2) (mv (amF (mCues 16 s) i) (vaF (mCues 16 s) i) ((mCues 16 s) 2))))))] H := hP
                    have hD : va_D A9 [(m0, .inr (6, [.ref m1, .ref m2, .ref m3, .int (nI k), .ref m4, .int (nI n), .int (nI th), .int (nI ax), .int (nI fa), .int (nI vl), .ref m5, .int (nI tn), .int (nI hg), .int (nI bg)])), (q0, .inl (cI, 118, .inl (ro 118 (upN (mvI (mCues 16 s) i) ((14 + (5 * i)) + 2) (mv (amF (mCues 16 s) i) (vaF (mCues 16 s) i) ((mCues 16 s) 2))))))] := hD
                    have er_27 : ro 118 (upN (mvI (mCues 16 s) i) ((14 + (5 * i)) + 2) (mv (amF (mCues 16 s) i) (vaF (mCues 16 s) i) ((mCues 16 s) 2))) = ro 118 (mvI (mCues 16 s) (i + 1)) := by rw [show 14 + 5 * i + 2 = 16 + 5 * i by omega]; exact mvI_s (mCues 16 s) i
                    rw [er_27] at hP hD
                    refine lv_iinc (v := (nI (i + 1))) (lv' := [(2, .int (nI (i + 1))), (3, .int ((nI (amF (mCues 16 s) i)) - (nI (vaF (mCues 16 s) i)))), (0, .ref m0), (1, .ref q0)]) hx hb dX6_tick_121 hl (k := 3) rfl (nI_add i 1) (by decide) rfl (fun ls hl => ?_)
                    refine lv_goto (tgt := 59) hx hb dX6_tick_124 (by decide) ?_
                    exact ih59  (i + 1) _ _ ls (by first | with_reducible assumption | omega) (by omega) hP hD hS (lv_sub hl [2, 3, 0] rfl)
                ·
                  refine lv_aload_n hx hb dX6_tick_97 rfl (lv_at hl 2 rfl) ?_
                  refine lv_iconst (v := nI 2) hx hb dX6_tick_98 (by decide +kernel) ?_
                  refine q_iald 1 0 (by omega) (by omega) hx hb hK hP rfl rfl dX6_tick_99 ?_
                  refine q_topi (y := (nI ((mCues 16 s) 2))) (by exact congrArg nI (mvI_n (mCues 16 s) (by omega))) ?_
                  refine lv_goto (tgt := 119) hx hb dX6_tick_100 (by decide) ?_
                  refine q_iadd hx hb dX6_tick_119 ?_
                  refine q_topi (y := (nI (mv (amF (mCues 16 s) i) (vaF (mCues 16 s) i) ((mCues 16 s) 2)))) (by first | exact mvA (by omega) (by omega) (by omega) c_94 | exact mvB (by omega) (by omega) (by omega) c_108 | exact mvC (by omega) (by omega) (by omega) c_94 c_108) ?_
                  refine q_iast 1 0 (by omega) (by omega) hx hb hK hP hD hS rfl rfl dX6_tick_120 (fun H locs hP hD hS => ?_)
                  have hP : va_P D vwCl [(m0, .inr (6, [.ref m1, .ref m2, .ref m3, .int (nI k), .ref m4, .int (nI n), .int (nI th), .int (nI ax), .int (nI fa), .int (nI vl), .ref m5, .int (nI tn), .int (nI hg), .int (nI bg)])), (q0, .inl (cI, 118, .inl (ro 118 (upN (mvI (mCues 16 s) i) ((14 + (5 * i)) + 2) (mv (amF (mCues 16 s) i) (vaF (mCues 16 s) i) ((mCues 16 s) 2))))))] H := hP
                  have hD : va_D A9 [(m0, .inr (6, [.ref m1, .ref m2, .ref m3, .int (nI k), .ref m4, .int (nI n), .int (nI th), .int (nI ax), .int (nI fa), .int (nI vl), .ref m5, .int (nI tn), .int (nI hg), .int (nI bg)])), (q0, .inl (cI, 118, .inl (ro 118 (upN (mvI (mCues 16 s) i) ((14 + (5 * i)) + 2) (mv (amF (mCues 16 s) i) (vaF (mCues 16 s) i) ((mCues 16 s) 2))))))] := hD
                  have er_28 : ro 118 (upN (mvI (mCues 16 s) i) ((14 + (5 * i)) + 2) (mv (amF (mCues 16 s) i) (vaF (mCues 16 s) i) ((mCues 16 s) 2))) = ro 118 (mvI (mCues 16 s) (i + 1)) := by rw [show 14 + 5 * i + 2 = 16 + 5 * i by omega]; exact mvI_s (mCues 16 s) i
                  rw [er_28] at hP hD
                  refine lv_iinc (v := (nI (i + 1))) (lv' := [(2, .int (nI (i + 1))), (3, .int ((nI (amF (mCues 16 s) i)) - (nI (vaF (mCues 16 s) i)))), (0, .ref m0), (1, .ref q0)]) hx hb dX6_tick_121 hl (k := 3) rfl (nI_add i 1) (by decide) rfl (fun ls hl => ?_)
                  refine lv_goto (tgt := 59) hx hb dX6_tick_124 (by decide) ?_
                  exact ih59  (i + 1) _ _ ls (by first | with_reducible assumption | omega) (by omega) hP hD hS (lv_sub hl [2, 3, 0] rfl)
          exact L59 (8 - 0 + 1) 0 _ _ ls (by first | with_reducible assumption | omega) (by omega) hP hD hS (lv_sub hl [1, 2, 0] rfl)
        ·
          refine lv_aload_n hx hb dX6_tick_20 rfl (lv_at hl 1 rfl) ?_
          refine lv_bipush (v := nI 14) hx hb dX6_tick_21 (by decide +kernel) ?_
          refine lv_iconst (v := nI 5) hx hb dX6_tick_23 (by decide +kernel) ?_
          refine lv_aload_n hx hb dX6_tick_24 rfl (lv_at hl 1 rfl) ?_
          refine lv_iconst (v := nI 0) hx hb dX6_tick_25 (by decide +kernel) ?_
          refine lv_iconst (v := nI 2) hx hb dX6_tick_26 (by decide +kernel) ?_
          refine KM.callS (As := [.ref q0, .int (nI 0), .int (nI 2)]) (rest := [.int (nI 5), .int (nI 14), .ref q0]) C0 hN (k_X6_by_2 l D cI cS cL q0 t 0  (by first | with_reducible assumption | omega)) (va_cwS 3 hts gX6_tick_X6_by rfl rfl rfl (by decide +kernel) ⟨Nat.le_of_ble_eq_true rfl, Nat.le_of_ble_eq_true rfl⟩) hK hP hD hS hA [1] rfl (by decide) (fun _ => rfl) rfl hl.1 rfl (Nat.le_of_ble_eq_true rfl) dX6_tick_27 ⟨Nat.le_of_ble_eq_true rfl, Nat.le_of_ble_eq_true rfl⟩ (fun v9 u9 H locs hv hP hD hS => ?_)
          subst hv
          have hP : va_P D vwCl [(m0, .inr (6, [.ref m1, .ref m2, .ref m3, .int (nI k), .ref m4, .int (nI n), .int (nI th), .int (nI ax), .int (nI fa), .int (nI vl), .ref m5, .int (nI tn), .int (nI hg), .int (nI bg)])), (q0, .inl (cI, 118, .inl (ro 118 t)))] H := hP
          have hD : va_D A9 [(m0, .inr (6, [.ref m1, .ref m2, .ref m3, .int (nI k), .ref m4, .int (nI n), .int (nI th), .int (nI ax), .int (nI fa), .int (nI vl), .ref m5, .int (nI tn), .int (nI hg), .int (nI bg)])), (q0, .inl (cI, 118, .inl (ro 118 t)))] := hD
          refine W.eq (g2 := F0 m9 30 ls [.int (nI (jeF t 0)), .int (nI 5), .int (nI 14), .ref q0]) rfl ?_
          refine q_imul hx hb dX6_tick_30 ?_
          refine q_iadd hx hb dX6_tick_31 ?_
          refine lv_iconst (v := nI 3) hx hb dX6_tick_32 (by decide +kernel) ?_
          refine q_iadd hx hb dX6_tick_33 ?_
          refine lv_aload_n hx hb dX6_tick_34 rfl (lv_at hl 1 rfl) ?_
          refine lv_iconst (v := nI 0) hx hb dX6_tick_35 (by decide +kernel) ?_
          refine lv_iconst (v := nI 3) hx hb dX6_tick_36 (by decide +kernel) ?_
          refine KM.callS (As := [.ref q0, .int (nI 0), .int (nI 3)]) (rest := [.int (nI ((14 + (5 * (jeF t 0))) + 3)), .ref q0]) C0 hN (k_X6_by_3 l D cI cS cL q0 t 0  (by first | with_reducible assumption | omega)) (va_cwS 3 hts gX6_tick_X6_by rfl rfl rfl (by decide +kernel) ⟨Nat.le_of_ble_eq_true rfl, Nat.le_of_ble_eq_true rfl⟩) hK hP hD hS hA [1] rfl (by decide) (fun _ => rfl) rfl hl.1 rfl (Nat.le_of_ble_eq_true rfl) dX6_tick_37 ⟨Nat.le_of_ble_eq_true rfl, Nat.le_of_ble_eq_true rfl⟩ (fun v9 u9 H locs hv hP hD hS => ?_)
          subst hv
          have hP : va_P D vwCl [(m0, .inr (6, [.ref m1, .ref m2, .ref m3, .int (nI k), .ref m4, .int (nI n), .int (nI th), .int (nI ax), .int (nI fa), .int (nI vl), .ref m5, .int (nI tn), .int (nI hg), .int (nI bg)])), (q0, .inl (cI, 118, .inl (ro 118 t)))] H := hP
          have hD : va_D A9 [(m0, .inr (6, [.ref m1, .ref m2, .ref m3, .int (nI k), .ref m4, .int (nI n), .int (nI th), .int (nI ax), .int (nI fa), .int (nI vl), .ref m5, .int (nI tn), .int (nI hg), .int (nI bg)])), (q0, .inl (cI, 118, .inl (ro 118 t)))] := hD
          refine W.eq (g2 := F0 m9 40 ls [.int (nI (acF t 0)), .int (nI ((14 + (5 * (jeF t 0))) + 3)), .ref q0]) rfl ?_
          refine q_iast 1 0 (by have h92 := h91.2.2.1; omega) (by omega) hx hb hK hP hD hS rfl rfl dX6_tick_40 (fun H locs hP hD hS => ?_)
          have hP : va_P D vwCl [(m0, .inr (6, [.ref m1, .ref m2, .ref m3, .int (nI k), .ref m4, .int (nI n), .int (nI th), .int (nI ax), .int (nI fa), .int (nI vl), .ref m5, .int (nI tn), .int (nI hg), .int (nI bg)])), (q0, .inl (cI, 118, .inl (ro 118 (upN t ((14 + (5 * (jeF t 0))) + 3) (acF t 0)))))] H := hP
          have hD : va_D A9 [(m0, .inr (6, [.ref m1, .ref m2, .ref m3, .int (nI k), .ref m4, .int (nI n), .int (nI th), .int (nI ax), .int (nI fa), .int (nI vl), .ref m5, .int (nI tn), .int (nI hg), .int (nI bg)])), (q0, .inl (cI, 118, .inl (ro 118 (upN t ((14 + (5 * (jeF t 0))) + 3) (acF t 0)))))] := hD
          have er_29 : ro 118 (upN t ((14 + (5 * (jeF t 0))) + 3) (acF t 0)) = ro 118 (upN t (17 + 5 * t 56) (t 57)) := by rw [show 14 + 5 * jeF t 0 + 3 = 17 + 5 * t 56 by (show 14 + 5 * t 56 + 3 = _; omega)]; rfl
          rw [er_29] at hP hD
          refine lv_aload_n hx hb dX6_tick_41 rfl (lv_at hl 1 rfl) ?_
          refine lv_iconst (v := nI 0) hx hb dX6_tick_42 (by decide +kernel) ?_
          refine KM.callS (As := [.ref q0, .int (nI 0)]) (rest := []) C0 hN (k_X6_goesOut l D cI cS cL q0 (upN t (17 + 5 * t 56) (t 57)) 0  (by show (if 8 = 17 + 5 * t 56 then _ else _) ≤ 16; rw [if_neg (by omega)]; omega) (by show 0 < (if 8 = 17 + 5 * t 56 then _ else _); rw [if_neg (by omega)]; omega)) (va_cwS 2 hts gX6_tick_X6_goesOut rfl rfl rfl (by decide +kernel) ⟨Nat.le_of_ble_eq_true rfl, Nat.le_of_ble_eq_true rfl⟩) hK hP hD hS hA [1] rfl (by decide) (fun _ => rfl) rfl hl.1 rfl (Nat.le_of_ble_eq_true rfl) dX6_tick_43 ⟨Nat.le_of_ble_eq_true rfl, Nat.le_of_ble_eq_true rfl⟩ (fun v9 u9 H locs hv hP hD hS => ?_)
          subst hv
          have hP : va_P D vwCl [(m0, .inr (6, [.ref m1, .ref m2, .ref m3, .int (nI k), .ref m4, .int (nI n), .int (nI th), .int (nI ax), .int (nI fa), .int (nI vl), .ref m5, .int (nI tn), .int (nI hg), .int (nI bg)])), (q0, .inl (cI, 118, .inl (ro 118 (mDrop (upN t (17 + 5 * t 56) (t 57)) 0))))] H := hP
          have hD : va_D A9 [(m0, .inr (6, [.ref m1, .ref m2, .ref m3, .int (nI k), .ref m4, .int (nI n), .int (nI th), .int (nI ax), .int (nI fa), .int (nI vl), .ref m5, .int (nI tn), .int (nI hg), .int (nI bg)])), (q0, .inl (cI, 118, .inl (ro 118 (mDrop (upN t (17 + 5 * t 56) (t 57)) 0))))] := hD
          refine W.eq (g2 := F0 m9 46 ls []) rfl ?_
          refine lv_aload_n hx hb dX6_tick_46 rfl (lv_at hl 1 rfl) ?_
          refine lv_bipush (v := nI 12) hx hb dX6_tick_47 (by decide +kernel) ?_
          refine lv_dup2_11 hx hb dX6_tick_49 rfl rfl ?_
          refine q_iald 1 0 (by omega) (by omega) hx hb hK hP rfl rfl dX6_tick_50 ?_
          refine q_topi (y := (nI (t 12))) (by exact congrArg nI (by unfold mDrop upN; rw [if_neg (by omega), if_neg (by omega), if_neg (by omega)])) ?_
          refine lv_iconst (v := nI 1) hx hb dX6_tick_51 (by decide +kernel) ?_
          refine q_iadd hx hb dX6_tick_52 ?_
          refine q_iast 1 0 (by omega) (by omega) hx hb hK hP hD hS rfl rfl dX6_tick_53 (fun H locs hP hD hS => ?_)
          have hP : va_P D vwCl [(m0, .inr (6, [.ref m1, .ref m2, .ref m3, .int (nI k), .ref m4, .int (nI n), .int (nI th), .int (nI ax), .int (nI fa), .int (nI vl), .ref m5, .int (nI tn), .int (nI hg), .int (nI bg)])), (q0, .inl (cI, 118, .inl (ro 118 (upN (mDrop (upN t (17 + 5 * t 56) (t 57)) 0) 12 ((t 12) + 1)))))] H := hP
          have hD : va_D A9 [(m0, .inr (6, [.ref m1, .ref m2, .ref m3, .int (nI k), .ref m4, .int (nI n), .int (nI th), .int (nI ax), .int (nI fa), .int (nI vl), .ref m5, .int (nI tn), .int (nI hg), .int (nI bg)])), (q0, .inl (cI, 118, .inl (ro 118 (upN (mDrop (upN t (17 + 5 * t 56) (t 57)) 0) 12 ((t 12) + 1)))))] := hD
          have er_30 : ro 118 (upN (mDrop (upN t (17 + 5 * t 56) (t 57)) 0) 12 ((t 12) + 1)) = ro 118 (mCue1 t) := by exact cue1_row h91.2.2.1
          rw [er_30] at hP hD
          refine lv_goto (tgt := 0) hx hb dX6_tick_54 (by decide) ?_
          exact ih0  (mCue1 t) (i0 + 1) _ _ ls (by have e8 : mCue1 t 8 = t 8 - 1 := if_pos rfl; omega) (by rw [ht]; exact mCues_go (by omega) (by omega) (by exact c_17)) (by exact sI_cue1 hIt (by omega)) (by omega) hP hD hS (lv_sub hl [0, 1] rfl)
  exact L0 (s 8 + 1) s 0 _ _ ls (by first | with_reducible assumption | omega) (by rfl) (by exact hI) (by omega) hP hD hS (lv_sub hl [0, 1] rfl)
