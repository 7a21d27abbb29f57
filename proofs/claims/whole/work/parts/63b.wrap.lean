set_option maxHeartbeats 4000000 in
set_option maxRecDepth 100000 in
theorem k_L_undo_ok (l : Launch) (D : va_G) (cI cS cL : ClassId) (T : Nat) (f0 : Nat) (a : Nat → Nat) (s : Nat → Nat) (fl : Nat → Nat) (c0 : Nat) (c1 : Nat) (n : Nat) (cs : Nat → Nat) (b : Nat → Nat) (r : Nat → Nat) (gl : Nat → Nat) (sv : Nat) (ad : Nat → Nat → Nat) (t : Nat → Nat → Nat) (f6 : Nat → Nat → Nat) (k : Nat) (o0 : Nat) (xo : Int64) (hst : l.stackTraces = false) (hI : sI T s) (hT : T ≤ 900000) (hk : k ≤ 6) (hn : n ≤ 60) (hcs : ∀ j, j < n → cs j < 2 ^ 31) (hk0 : k ≠ 0) : KC l D (TY cI cS cL) yL_undo wsL_undo ({ frames := 5, cells := 0, slots := 0, locals := 106 } : Room) ([(o0, .inl (cL, 1, .inr (.inl (lo xo))))] ++ (fcW cI cS f0 a s fl c0 c1 n cs b r gl sv ad t f6 k)) [.ref f0, .ref o0] (fun (v : Option Value) (_ : Unit) => v = some (.int (nI 0))) (fun _ : Unit => ([(o0, .inl (cL, 1, .inr (.inl (lo ((nI (k - 1)).toInt64)))))] ++ (fcW cI cS f0 a (t (k - 1)) fl c0 c1 n cs b r gl sv ad t f6 (k - 1)))) := by
  refine KC.of (cc := cL_undo) (maxL := 3) (ret := (some .int)) (hh := [(0, 8, 11, 31)]) (by decide) rfl (Nat.le_of_ble_eq_true rfl) ?_
  intro p9 e9 s9 m9 ar9 be9 me9 c9 Q9 A9 ls C0 hN hAm hXN hTab hnm hlk hK hA hret hP hD hS hl
  obtain ⟨hx, hb, hml, hown, hts⟩ := id C0
  have hl : lv_has ls 3 [(0, .ref f0), (1, .ref o0)] := hl
  obtain ⟨H, hH0⟩ : ∃ H, H = s9.heap := ⟨_, rfl⟩
  obtain ⟨locs, hlc0⟩ : ∃ z : List Loc, z = [] := ⟨_, rfl⟩
  have hP : va_P D vwCl ([(o0, .inl (cL, 1, .inr (.inl (lo xo))))] ++ (fcW cI cS f0 a s fl c0 c1 n cs b r gl sv ad t f6 k)) H := by rw [hH0]; exact hP
  have hD : va_D A9 ([(o0, .inl (cL, 1, .inr (.inl (lo xo))))] ++ (fcW cI cS f0 a s fl c0 c1 n cs b r gl sv ad t f6 k)) := hD
  have hS : va_S A9 s9.heap H locs := by rw [hH0, hlc0]; exact hS
  suffices hgo : W p9 l e9 ({ frames := 5, cells := 0, slots := 0, locals := 106 } : Room) s9 m9 ar9 be9 me9 c9 H locs 0 0 Q9 (F0 m9 0 ls []) by rw [hH0, hlc0] at hgo; exact hgo
  clear hH0 hlc0
  refine lv_aload_n hx hb dL_undo_0 rfl (lv_at hl 1 rfl) ?_
  refine lv_iconst (v := nI 0) hx hb dL_undo_1 (by decide +kernel) ?_
  refine lv_aload_n hx hb dL_undo_2 rfl (lv_at hl 0 rfl) ?_
  have hm9 := fun (_ : Unit) => suf_mem (X' := (fcW cI cS f0 a (t (k - 1)) fl c0 c1 n cs b r gl sv ad t f6 (k - 1))) (R := [(o0, .inl (cL, 1, .inr (.inl (lo xo))))]) (show va_D A9 ([(o0, .inl (cL, 1, .inr (.inl (lo xo))))] ++ (fcW cI cS f0 a s fl c0 c1 n cs b r gl sv ad t f6 k)) from hD) (fcW_perm (List.Perm.refl _))
  refine KM.callVM (As := []) (rest := [.int (nI 0), .ref o0]) (W0 := (fcW cI cS f0 a s fl c0 c1 n cs b r gl sv ad t f6 k)) (ws := ([(o0, .inl (cL, 1, .inr (.inl (lo xo))))] ++ (fcW cI cS f0 a s fl c0 c1 n cs b r gl sv ad t f6 k))) (ws' := fun (_ : Unit) => ([(o0, .inl (cL, 1, .inr (.inl (lo xo))))] ++ (fcW cI cS f0 a (t (k - 1)) fl c0 c1 n cs b r gl sv ad t f6 (k - 1)))) C0 hN (k_X5_undo_ok l D cI cS cL T f0 a s fl c0 c1 n cs b r gl sv ad t f6 k hI hT hk hn hcs hk0) (cwV 0 hts gL_undo_X5_undo rfl rfl rfl (by decide +kernel) ⟨Nat.le_of_ble_eq_true rfl, Nat.le_of_ble_eq_true rfl⟩) hK hP hD hS hA (hm9 ()).1 (hm9 ()).2.1 (fun u => (hm9 u).2.2.1) (fun u => (hm9 u).2.2.2) 0 5 rfl rfl rfl rfl hl.1 rfl (Nat.le_of_ble_eq_true rfl) dL_undo_3 ⟨Nat.le_of_ble_eq_true rfl, Nat.le_of_ble_eq_true rfl⟩ (fun v9 u9 H locs hv hP hD hS => ?_)
  subst hv
  have hP : va_P D vwCl ([(o0, .inl (cL, 1, .inr (.inl (lo xo))))] ++ (fcW cI cS f0 a (t (k - 1)) fl c0 c1 n cs b r gl sv ad t f6 (k - 1))) H := hP
  have hD : va_D A9 ([(o0, .inl (cL, 1, .inr (.inl (lo xo))))] ++ (fcW cI cS f0 a (t (k - 1)) fl c0 c1 n cs b r gl sv ad t f6 (k - 1))) := hD
  refine W.eq (g2 := F0 m9 6 ls [.int (nI (k - 1)), .int (nI 0), .ref o0]) rfl ?_
  refine lv_i2l (v := (nI (k - 1)).toInt64) hx hb dL_undo_6 rfl ?_
  refine va_last (D := D) (i := nI 0) hx hb hK hP hD hS 0 2 rfl rfl (vp_in_nI (n := 0) (by decide) (by decide)) dL_undo_7 (fun H locs hP hD hS => ?_)
  rw [lo_up] at hP hD
  have hP : va_P D vwCl ([(o0, .inl (cL, 1, .inr (.inl (lo ((nI (k - 1)).toInt64)))))] ++ (fcW cI cS f0 a (t (k - 1)) fl c0 c1 n cs b r gl sv ad t f6 (k - 1))) H := hP
  have hD : va_D A9 ([(o0, .inl (cL, 1, .inr (.inl (lo ((nI (k - 1)).toInt64)))))] ++ (fcW cI cS f0 a (t (k - 1)) fl c0 c1 n cs b r gl sv ad t f6 (k - 1))) := hD
  refine lv_goto (tgt := 14) hx hb dL_undo_8 (by decide) ?_
  refine lv_iconst (v := nI 0) hx hb dL_undo_14 (by decide +kernel) ?_
  exact hret _ _ _ _ (some (.int (nI 0))) () 15 ls (by decide) (by decide) (by rfl) hP hD hS (ret_i dL_undo_15)

set_option maxHeartbeats 4000000 in
set_option maxRecDepth 100000 in
theorem k_L_undo_bad (l : Launch) (D : va_G) (cI cS cL : ClassId) (T : Nat) (f0 : Nat) (a : Nat → Nat) (s : Nat → Nat) (fl : Nat → Nat) (c0 : Nat) (c1 : Nat) (n : Nat) (cs : Nat → Nat) (b : Nat → Nat) (r : Nat → Nat) (gl : Nat → Nat) (sv : Nat) (ad : Nat → Nat → Nat) (t : Nat → Nat → Nat) (f6 : Nat → Nat → Nat) (k : Nat) (o0 : Nat) (xo : Int64) (hst : l.stackTraces = false) (hI : sI T s) (hT : T ≤ 900000) (hk : k ≤ 6) (hn : n ≤ 60) (hcs : ∀ j, j < n → cs j < 2 ^ 31) (hbad : k = 0) : KC l D (TY cI cS cL) yL_undo wsL_undo ({ frames := 7, cells := 1, slots := 6, locals := 110 } : Room) ([(o0, .inl (cL, 1, .inr (.inl (lo xo))))] ++ (fcW cI cS f0 a s fl c0 c1 n cs b r gl sv ad t f6 k)) [.ref f0, .ref o0] (fun (v : Option Value) (_ : Unit) => v = some (.int (nI 1))) (fun _ : Unit => ([(o0, .inl (cL, 1, .inr (.inl (lo xo))))] ++ (fcW cI cS f0 a s fl c0 c1 n cs b r gl sv ad t f6 k))) := by
  refine KC.of (cc := cL_undo) (maxL := 3) (ret := (some .int)) (hh := [(0, 8, 11, 31)]) (by decide) rfl (Nat.le_of_ble_eq_true rfl) ?_
  intro p9 e9 s9 m9 ar9 be9 me9 c9 Q9 A9 ls C0 hN hAm hXN hTab hnm hlk hK hA hret hP hD hS hl
  obtain ⟨hx, hb, hml, hown, hts⟩ := id C0
  have hl : lv_has ls 3 [(0, .ref f0), (1, .ref o0)] := hl
  obtain ⟨H, hH0⟩ : ∃ H, H = s9.heap := ⟨_, rfl⟩
  obtain ⟨locs, hlc0⟩ : ∃ z : List Loc, z = [] := ⟨_, rfl⟩
  have hP : va_P D vwCl ([(o0, .inl (cL, 1, .inr (.inl (lo xo))))] ++ (fcW cI cS f0 a s fl c0 c1 n cs b r gl sv ad t f6 k)) H := by rw [hH0]; exact hP
  have hD : va_D A9 ([(o0, .inl (cL, 1, .inr (.inl (lo xo))))] ++ (fcW cI cS f0 a s fl c0 c1 n cs b r gl sv ad t f6 k)) := hD
  have hS : va_S A9 s9.heap H locs := by rw [hH0, hlc0]; exact hS
  suffices hgo : W p9 l e9 ({ frames := 7, cells := 1, slots := 6, locals := 110 } : Room) s9 m9 ar9 be9 me9 c9 H locs 0 0 Q9 (F0 m9 0 ls []) by rw [hH0, hlc0] at hgo; exact hgo
  clear hH0 hlc0
  refine lv_aload_n hx hb dL_undo_0 rfl (lv_at hl 1 rfl) ?_
  refine lv_iconst (v := nI 0) hx hb dL_undo_1 (by decide +kernel) ?_
  refine lv_aload_n hx hb dL_undo_2 rfl (lv_at hl 0 rfl) ?_
  have hm9 := fun (_ : Unit) => suf_mem (X' := (fcW cI cS f0 a s fl c0 c1 n cs b r gl sv ad t f6 k)) (R := [(o0, .inl (cL, 1, .inr (.inl (lo xo))))]) (show va_D A9 ([(o0, .inl (cL, 1, .inr (.inl (lo xo))))] ++ (fcW cI cS f0 a s fl c0 c1 n cs b r gl sv ad t f6 k)) from hD) (fcW_perm (List.Perm.refl _))
  refine KX.callVM (As := []) (rest := [.int (nI 0), .ref o0]) (W0 := (fcW cI cS f0 a s fl c0 c1 n cs b r gl sv ad t f6 k)) (ws := ([(o0, .inl (cL, 1, .inr (.inl (lo xo))))] ++ (fcW cI cS f0 a s fl c0 c1 n cs b r gl sv ad t f6 k))) (ws' := fun (_ : Unit) => ([(o0, .inl (cL, 1, .inr (.inl (lo xo))))] ++ (fcW cI cS f0 a s fl c0 c1 n cs b r gl sv ad t f6 k))) C0 hN hAm (k_X5_undo_bad l D cI cS cL T f0 a s fl c0 c1 n cs b r gl sv ad t f6 k hst hI hT hk hn hcs hbad) (cwV 0 hts gL_undo_X5_undo rfl rfl rfl (by decide +kernel) ⟨Nat.le_of_ble_eq_true rfl, Nat.le_of_ble_eq_true rfl⟩) hK hP hD hS hA (hm9 ()).1 (hm9 ()).2.1 (fun u => (hm9 u).2.2.1) (fun u => (hm9 u).2.2.2) 0 5 rfl rfl rfl rfl hl.1 rfl (Nat.le_of_ble_eq_true rfl) dL_undo_3 ⟨Nat.le_of_ble_eq_true rfl, Nat.le_of_ble_eq_true rfl⟩ (fun E ce q9 H locs hE hP hS hq9 hv9 hcl9 => ?_) (fun v9 u9 H locs hv hP hD hS => ?_)
  ·
    ·
      have hEe := hE
      subst hEe
      refine vx_catch (own := RL) (name := "java/lang/IllegalStateException") hown [] ⟨0, 8, 11, 31⟩ [] (hTab.trans rfl) (fun z hz => absurd hz List.not_mem_nil) (by decide) (by decide) (hts (.classLink RL 31 "java/lang/IllegalStateException") (by decide +kernel)) (va_Nw.use rfl (hAm.2.2.2.2.2.2 ("java/lang/IllegalStateException", "java/lang/IllegalStateException") (by decide))) hq9 hv9 hcl9 ?_
      refine lv_astore_n (lv' := [(2, .ref q9), (0, .ref f0), (1, .ref o0)]) hx hb dL_undo_11 rfl hl (by decide) rfl (fun ls hl => ?_)
      refine lv_iconst (v := nI 1) hx hb dL_undo_12 (by decide +kernel) ?_
      exact hret _ _ _ _ (some (.int (nI 1))) () 13 ls (by decide) (by decide) (by exact rv (by (repeat' split) <;> first | rfl | (exfalso; omega))) hP hD hS (ret_i dL_undo_13)
  · exact hv.1.elim

set_option maxHeartbeats 4000000 in
set_option maxRecDepth 100000 in
theorem k_L_jetOf_ok (l : Launch) (D : va_G) (cI cS cL : ClassId) (T : Nat) (f0 : Nat) (a : Nat → Nat) (s : Nat → Nat) (fl : Nat → Nat) (c0 : Nat) (c1 : Nat) (n : Nat) (cs : Nat → Nat) (b : Nat → Nat) (r : Nat → Nat) (gl : Nat → Nat) (sv : Nat) (ad : Nat → Nat → Nat) (t : Nat → Nat → Nat) (f6 : Nat → Nat → Nat) (k : Nat) (j : Nat) (y : Nat) (o0 : Nat) (xo : Int64) (hst : l.stackTraces = false) (hI : sI T s) (hT : T ≤ 900000) (hk : k ≤ 6) (hn : n ≤ 60) (hcs : ∀ j, j < n → cs j < 2 ^ 31) (hj : j < 8) (hy2 : y ≤ 7) : KC l D (TY cI cS cL) yL_jetOf wsL_jetOf ({ frames := 6, cells := 0, slots := 0, locals := 131 } : Room) ([(o0, .inl (cL, 1, .inr (.inl (lo xo))))] ++ (fcW cI cS f0 a s fl c0 c1 n cs b r gl sv ad t f6 k)) [.ref f0, .int (nI j), .int (nI y), .ref o0] (fun (v : Option Value) (_ : Unit) => v = some (.int (nI 0))) (fun _ : Unit => ([(o0, .inl (cL, 1, .inr (.inl (lo ((nI (jetS s j y)).toInt64)))))] ++ (fcW cI cS f0 a s fl c0 c1 n cs b r gl sv ad t f6 k))) := by
  refine KC.of (cc := cL_jetOf) (maxL := 5) (ret := (some .int)) (hh := [(0, 10, 13, 13), (0, 10, 17, 15)]) (by decide) rfl (Nat.le_of_ble_eq_true rfl) ?_
  intro p9 e9 s9 m9 ar9 be9 me9 c9 Q9 A9 ls C0 hN hAm hXN hTab hnm hlk hK hA hret hP hD hS hl
  obtain ⟨hx, hb, hml, hown, hts⟩ := id C0
  have hl : lv_has ls 5 [(0, .ref f0), (1, .int (nI j)), (2, .int (nI y)), (3, .ref o0)] := hl
  obtain ⟨H, hH0⟩ : ∃ H, H = s9.heap := ⟨_, rfl⟩
  obtain ⟨locs, hlc0⟩ : ∃ z : List Loc, z = [] := ⟨_, rfl⟩
  have hP : va_P D vwCl ([(o0, .inl (cL, 1, .inr (.inl (lo xo))))] ++ (fcW cI cS f0 a s fl c0 c1 n cs b r gl sv ad t f6 k)) H := by rw [hH0]; exact hP
  have hD : va_D A9 ([(o0, .inl (cL, 1, .inr (.inl (lo xo))))] ++ (fcW cI cS f0 a s fl c0 c1 n cs b r gl sv ad t f6 k)) := hD
  have hS : va_S A9 s9.heap H locs := by rw [hH0, hlc0]; exact hS
  suffices hgo : W p9 l e9 ({ frames := 6, cells := 0, slots := 0, locals := 131 } : Room) s9 m9 ar9 be9 me9 c9 H locs 0 0 Q9 (F0 m9 0 ls []) by rw [hH0, hlc0] at hgo; exact hgo
  clear hH0 hlc0
  refine lv_aload_n hx hb dL_jetOf_0 rfl (lv_at hl 3 rfl) ?_
  refine lv_iconst (v := nI 0) hx hb dL_jetOf_1 (by decide +kernel) ?_
  refine lv_aload_n hx hb dL_jetOf_2 rfl (lv_at hl 0 rfl) ?_
  refine lv_iload_n hx hb dL_jetOf_3 rfl (lv_at hl 1 rfl) ?_
  refine lv_iload_n hx hb dL_jetOf_4 rfl (lv_at hl 2 rfl) ?_
  have hm9 := fun (_ : Unit) => suf_mem (X' := (fcW cI cS f0 a s fl c0 c1 n cs b r gl sv ad t f6 k)) (R := [(o0, .inl (cL, 1, .inr (.inl (lo xo))))]) (show va_D A9 ([(o0, .inl (cL, 1, .inr (.inl (lo xo))))] ++ (fcW cI cS f0 a s fl c0 c1 n cs b r gl sv ad t f6 k)) from hD) (fcW_perm (List.Perm.refl _))
  refine KM.callVM (As := [.int (nI j), .int (nI y)]) (rest := [.int (nI 0), .ref o0]) (W0 := (fcW cI cS f0 a s fl c0 c1 n cs b r gl sv ad t f6 k)) (ws := ([(o0, .inl (cL, 1, .inr (.inl (lo xo))))] ++ (fcW cI cS f0 a s fl c0 c1 n cs b r gl sv ad t f6 k))) (ws' := fun (_ : Unit) => ([(o0, .inl (cL, 1, .inr (.inl (lo xo))))] ++ (fcW cI cS f0 a s fl c0 c1 n cs b r gl sv ad t f6 k))) C0 hN (k_X5_jetOf_ok l D cI cS cL T f0 a s fl c0 c1 n cs b r gl sv ad t f6 k j y hI hT hk hn hcs hj hy2) (cwV 2 hts gL_jetOf_X5_jetOf rfl rfl rfl (by decide +kernel) ⟨Nat.le_of_ble_eq_true rfl, Nat.le_of_ble_eq_true rfl⟩) hK hP hD hS hA (hm9 ()).1 (hm9 ()).2.1 (fun u => (hm9 u).2.2.1) (fun u => (hm9 u).2.2.2) 0 5 rfl rfl rfl rfl hl.1 rfl (Nat.le_of_ble_eq_true rfl) dL_jetOf_5 ⟨Nat.le_of_ble_eq_true rfl, Nat.le_of_ble_eq_true rfl⟩ (fun v9 u9 H locs hv hP hD hS => ?_)
  subst hv
  have hP : va_P D vwCl ([(o0, .inl (cL, 1, .inr (.inl (lo xo))))] ++ (fcW cI cS f0 a s fl c0 c1 n cs b r gl sv ad t f6 k)) H := hP
  have hD : va_D A9 ([(o0, .inl (cL, 1, .inr (.inl (lo xo))))] ++ (fcW cI cS f0 a s fl c0 c1 n cs b r gl sv ad t f6 k)) := hD
  refine W.eq (g2 := F0 m9 8 ls [.int (nI (jetS s j y)), .int (nI 0), .ref o0]) rfl ?_
  refine lv_i2l (v := (nI (jetS s j y)).toInt64) hx hb dL_jetOf_8 rfl ?_
  refine va_last (D := D) (i := nI 0) hx hb hK hP hD hS 0 2 rfl rfl (vp_in_nI (n := 0) (by decide) (by decide)) dL_jetOf_9 (fun H locs hP hD hS => ?_)
  rw [lo_up] at hP hD
  have hP : va_P D vwCl ([(o0, .inl (cL, 1, .inr (.inl (lo ((nI (jetS s j y)).toInt64)))))] ++ (fcW cI cS f0 a s fl c0 c1 n cs b r gl sv ad t f6 k)) H := hP
  have hD : va_D A9 ([(o0, .inl (cL, 1, .inr (.inl (lo ((nI (jetS s j y)).toInt64)))))] ++ (fcW cI cS f0 a s fl c0 c1 n cs b r gl sv ad t f6 k)) := hD
  refine lv_goto (tgt := 21) hx hb dL_jetOf_10 (by decide) ?_
  refine lv_iconst (v := nI 0) hx hb dL_jetOf_21 (by decide +kernel) ?_
  exact hret _ _ _ _ (some (.int (nI 0))) () 22 ls (by decide) (by decide) (by rfl) hP hD hS (ret_i dL_jetOf_22)

set_option maxHeartbeats 4000000 in
set_option maxRecDepth 100000 in
theorem k_L_jetOf_bad (l : Launch) (D : va_G) (cI cS cL : ClassId) (T : Nat) (f0 : Nat) (a : Nat → Nat) (s : Nat → Nat) (fl : Nat → Nat) (c0 : Nat) (c1 : Nat) (n : Nat) (cs : Nat → Nat) (b : Nat → Nat) (r : Nat → Nat) (gl : Nat → Nat) (sv : Nat) (ad : Nat → Nat → Nat) (t : Nat → Nat → Nat) (f6 : Nat → Nat → Nat) (k : Nat) (v1 : Int32) (v2 : Int32) (o0 : Nat) (xo : Int64) (hst : l.stackTraces = false) (hI : sI T s) (hT : T ≤ 900000) (hk : k ≤ 6) (hn : n ≤ 60) (hcs : ∀ j, j < n → cs j < 2 ^ 31) (hbad : ¬ (inR v1 0 7 ∧ inR v2 0 7)) : KC l D (TY cI cS cL) yL_jetOf wsL_jetOf ({ frames := 8, cells := 2, slots := 12, locals := 134 } : Room) ([(o0, .inl (cL, 1, .inr (.inl (lo xo))))] ++ (fcW cI cS f0 a s fl c0 c1 n cs b r gl sv ad t f6 k)) [.ref f0, .int v1, .int v2, .ref o0] (fun (v : Option Value) (_ : Unit) => v = some (.int (nI (if inR v1 0 7 then 2 else 1)))) (fun _ : Unit => ([(o0, .inl (cL, 1, .inr (.inl (lo xo))))] ++ (fcW cI cS f0 a s fl c0 c1 n cs b r gl sv ad t f6 k))) := by
  refine KC.of (cc := cL_jetOf) (maxL := 5) (ret := (some .int)) (hh := [(0, 10, 13, 13), (0, 10, 17, 15)]) (by decide) rfl (Nat.le_of_ble_eq_true rfl) ?_
  intro p9 e9 s9 m9 ar9 be9 me9 c9 Q9 A9 ls C0 hN hAm hXN hTab hnm hlk hK hA hret hP hD hS hl
  obtain ⟨hx, hb, hml, hown, hts⟩ := id C0
  have hl : lv_has ls 5 [(0, .ref f0), (1, .int v1), (2, .int v2), (3, .ref o0)] := hl
  obtain ⟨H, hH0⟩ : ∃ H, H = s9.heap := ⟨_, rfl⟩
  obtain ⟨locs, hlc0⟩ : ∃ z : List Loc, z = [] := ⟨_, rfl⟩
  have hP : va_P D vwCl ([(o0, .inl (cL, 1, .inr (.inl (lo xo))))] ++ (fcW cI cS f0 a s fl c0 c1 n cs b r gl sv ad t f6 k)) H := by rw [hH0]; exact hP
  have hD : va_D A9 ([(o0, .inl (cL, 1, .inr (.inl (lo xo))))] ++ (fcW cI cS f0 a s fl c0 c1 n cs b r gl sv ad t f6 k)) := hD
  have hS : va_S A9 s9.heap H locs := by rw [hH0, hlc0]; exact hS
  suffices hgo : W p9 l e9 ({ frames := 8, cells := 2, slots := 12, locals := 134 } : Room) s9 m9 ar9 be9 me9 c9 H locs 0 0 Q9 (F0 m9 0 ls []) by rw [hH0, hlc0] at hgo; exact hgo
  clear hH0 hlc0
  refine lv_aload_n hx hb dL_jetOf_0 rfl (lv_at hl 3 rfl) ?_
  refine lv_iconst (v := nI 0) hx hb dL_jetOf_1 (by decide +kernel) ?_
  refine lv_aload_n hx hb dL_jetOf_2 rfl (lv_at hl 0 rfl) ?_
  refine lv_iload_n hx hb dL_jetOf_3 rfl (lv_at hl 1 rfl) ?_
  refine lv_iload_n hx hb dL_jetOf_4 rfl (lv_at hl 2 rfl) ?_
  have hm9 := fun (_ : Unit) => suf_mem (X' := (fcW cI cS f0 a s fl c0 c1 n cs b r gl sv ad t f6 k)) (R := [(o0, .inl (cL, 1, .inr (.inl (lo xo))))]) (show va_D A9 ([(o0, .inl (cL, 1, .inr (.inl (lo xo))))] ++ (fcW cI cS f0 a s fl c0 c1 n cs b r gl sv ad t f6 k)) from hD) (fcW_perm (List.Perm.refl _))
  refine KX.callVM (As := [.int v1, .int v2]) (rest := [.int (nI 0), .ref o0]) (W0 := (fcW cI cS f0 a s fl c0 c1 n cs b r gl sv ad t f6 k)) (ws := ([(o0, .inl (cL, 1, .inr (.inl (lo xo))))] ++ (fcW cI cS f0 a s fl c0 c1 n cs b r gl sv ad t f6 k))) (ws' := fun (_ : Unit) => ([(o0, .inl (cL, 1, .inr (.inl (lo xo))))] ++ (fcW cI cS f0 a s fl c0 c1 n cs b r gl sv ad t f6 k))) C0 hN hAm (k_X5_jetOf_bad l D cI cS cL T f0 a s fl c0 c1 n cs b r gl sv ad t f6 k v1 v2 hst hI hT hk hn hcs hbad) (cwV 2 hts gL_jetOf_X5_jetOf rfl rfl rfl (by decide +kernel) ⟨Nat.le_of_ble_eq_true rfl, Nat.le_of_ble_eq_true rfl⟩) hK hP hD hS hA (hm9 ()).1 (hm9 ()).2.1 (fun u => (hm9 u).2.2.1) (fun u => (hm9 u).2.2.2) 0 5 rfl rfl rfl rfl hl.1 rfl (Nat.le_of_ble_eq_true rfl) dL_jetOf_5 ⟨Nat.le_of_ble_eq_true rfl, Nat.le_of_ble_eq_true rfl⟩ (fun E ce q9 H locs hE hP hS hq9 hv9 hcl9 => ?_) (fun v9 u9 H locs hv hP hD hS => ?_)
  ·
    rcases hE with hE | hE
    ·
      obtain ⟨hEe, hEc⟩ := hE
      subst hEe
      refine vx_catch (own := RL) (name := "java/lang/IndexOutOfBoundsException") hown [] ⟨0, 10, 13, 13⟩ [⟨0, 10, 17, 15⟩] (hTab.trans rfl) (fun z hz => absurd hz List.not_mem_nil) (by decide) (by decide) (hts (.classLink RL 13 "java/lang/IndexOutOfBoundsException") (by decide +kernel)) (va_Nw.use rfl (hAm.2.2.2.2.2.2 ("java/lang/IndexOutOfBoundsException", "java/lang/IndexOutOfBoundsException") (by decide))) hq9 hv9 hcl9 ?_
      refine lv_astore (lv' := [(4, .ref q9), (0, .ref f0), (1, .int v1), (2, .int v2), (3, .ref o0)]) hx hb dL_jetOf_13 hl (by decide) rfl (fun ls hl => ?_)
      refine lv_iconst (v := nI 1) hx hb dL_jetOf_15 (by decide +kernel) ?_
      exact hret _ _ _ _ (some (.int (nI 1))) () 16 ls (by decide) (by decide) (by exact rv (by (repeat' split) <;> first | rfl | (exfalso; omega))) hP hD hS (ret_i dL_jetOf_16)
    ·
      obtain ⟨hEe, hEc⟩ := hE
      subst hEe
      refine vx_catch (own := RL) (name := "java/lang/IllegalArgumentException") hown [⟨0, 10, 13, 13⟩] ⟨0, 10, 17, 15⟩ [] (hTab.trans rfl) (fun z hz => Or.inr (by rw [List.mem_singleton.mp hz]; exact ⟨by decide, "java/lang/IndexOutOfBoundsException", hts (.classLink RL 13 "java/lang/IndexOutOfBoundsException") (by decide +kernel), hXN ("java/lang/IllegalArgumentException", "java/lang/IndexOutOfBoundsException") (by decide)⟩)) (by decide) (by decide) (hts (.classLink RL 15 "java/lang/IllegalArgumentException") (by decide +kernel)) (va_Nw.use rfl (hAm.2.2.2.2.2.2 ("java/lang/IllegalArgumentException", "java/lang/IllegalArgumentException") (by decide))) hq9 hv9 hcl9 ?_
      refine lv_astore (lv' := [(4, .ref q9), (0, .ref f0), (1, .int v1), (2, .int v2), (3, .ref o0)]) hx hb dL_jetOf_17 hl (by decide) rfl (fun ls hl => ?_)
      refine lv_iconst (v := nI 2) hx hb dL_jetOf_19 (by decide +kernel) ?_
      exact hret _ _ _ _ (some (.int (nI 2))) () 20 ls (by decide) (by decide) (by exact rv (by (repeat' split) <;> first | rfl | (exfalso; omega))) hP hD hS (ret_i dL_jetOf_20)
  · exact hv.1.elim

set_option maxHeartbeats 4000000 in
set_option maxRecDepth 100000 in
theorem k_L_pumpOf_ok (l : Launch) (D : va_G) (cI cS cL : ClassId) (T : Nat) (f0 : Nat) (a : Nat → Nat) (s : Nat → Nat) (fl : Nat → Nat) (c0 : Nat) (c1 : Nat) (n : Nat) (cs : Nat → Nat) (b : Nat → Nat) (r : Nat → Nat) (gl : Nat → Nat) (sv : Nat) (ad : Nat → Nat → Nat) (t : Nat → Nat → Nat) (f6 : Nat → Nat → Nat) (k : Nat) (j : Nat) (y : Nat) (o0 : Nat) (xo : Int64) (hst : l.stackTraces = false) (hI : sI T s) (hT : T ≤ 900000) (hk : k ≤ 6) (hn : n ≤ 60) (hcs : ∀ j, j < n → cs j < 2 ^ 31) (hj : j < 2) (hy2 : y ≤ 2) : KC l D (TY cI cS cL) yL_pumpOf wsL_pumpOf ({ frames := 5, cells := 0, slots := 0, locals := 112 } : Room) ([(o0, .inl (cL, 1, .inr (.inl (lo xo))))] ++ (fcW cI cS f0 a s fl c0 c1 n cs b r gl sv ad t f6 k)) [.ref f0, .int (nI j), .int (nI y), .ref o0] (fun (v : Option Value) (_ : Unit) => v = some (.int (nI 0))) (fun _ : Unit => ([(o0, .inl (cL, 1, .inr (.inl (lo ((nI (pmpS s j y)).toInt64)))))] ++ (fcW cI cS f0 a s fl c0 c1 n cs b r gl sv ad t f6 k))) := by
  refine KC.of (cc := cL_pumpOf) (maxL := 5) (ret := (some .int)) (hh := [(0, 10, 13, 13), (0, 10, 17, 15)]) (by decide) rfl (Nat.le_of_ble_eq_true rfl) ?_
  intro p9 e9 s9 m9 ar9 be9 me9 c9 Q9 A9 ls C0 hN hAm hXN hTab hnm hlk hK hA hret hP hD hS hl
  obtain ⟨hx, hb, hml, hown, hts⟩ := id C0
  have hl : lv_has ls 5 [(0, .ref f0), (1, .int (nI j)), (2, .int (nI y)), (3, .ref o0)] := hl
  obtain ⟨H, hH0⟩ : ∃ H, H = s9.heap := ⟨_, rfl⟩
  obtain ⟨locs, hlc0⟩ : ∃ z : List Loc, z = [] := ⟨_, rfl⟩
  have hP : va_P D vwCl ([(o0, .inl (cL, 1, .inr (.inl (lo xo))))] ++ (fcW cI cS f0 a s fl c0 c1 n cs b r gl sv ad t f6 k)) H := by rw [hH0]; exact hP
  have hD : va_D A9 ([(o0, .inl (cL, 1, .inr (.inl (lo xo))))] ++ (fcW cI cS f0 a s fl c0 c1 n cs b r gl sv ad t f6 k)) := hD
  have hS : va_S A9 s9.heap H locs := by rw [hH0, hlc0]; exact hS
  suffices hgo : W p9 l e9 ({ frames := 5, cells := 0, slots := 0, locals := 112 } : Room) s9 m9 ar9 be9 me9 c9 H locs 0 0 Q9 (F0 m9 0 ls []) by rw [hH0, hlc0] at hgo; exact hgo
  clear hH0 hlc0
  refine lv_aload_n hx hb dL_pumpOf_0 rfl (lv_at hl 3 rfl) ?_
  refine lv_iconst (v := nI 0) hx hb dL_pumpOf_1 (by decide +kernel) ?_
  refine lv_aload_n hx hb dL_pumpOf_2 rfl (lv_at hl 0 rfl) ?_
  refine lv_iload_n hx hb dL_pumpOf_3 rfl (lv_at hl 1 rfl) ?_
  refine lv_iload_n hx hb dL_pumpOf_4 rfl (lv_at hl 2 rfl) ?_
  have hm9 := fun (_ : Unit) => suf_mem (X' := (fcW cI cS f0 a s fl c0 c1 n cs b r gl sv ad t f6 k)) (R := [(o0, .inl (cL, 1, .inr (.inl (lo xo))))]) (show va_D A9 ([(o0, .inl (cL, 1, .inr (.inl (lo xo))))] ++ (fcW cI cS f0 a s fl c0 c1 n cs b r gl sv ad t f6 k)) from hD) (fcW_perm (List.Perm.refl _))
  refine KM.callVM (As := [.int (nI j), .int (nI y)]) (rest := [.int (nI 0), .ref o0]) (W0 := (fcW cI cS f0 a s fl c0 c1 n cs b r gl sv ad t f6 k)) (ws := ([(o0, .inl (cL, 1, .inr (.inl (lo xo))))] ++ (fcW cI cS f0 a s fl c0 c1 n cs b r gl sv ad t f6 k))) (ws' := fun (_ : Unit) => ([(o0, .inl (cL, 1, .inr (.inl (lo xo))))] ++ (fcW cI cS f0 a s fl c0 c1 n cs b r gl sv ad t f6 k))) C0 hN (k_X5_pumpOf_ok l D cI cS cL T f0 a s fl c0 c1 n cs b r gl sv ad t f6 k j y hI hT hk hn hcs hj hy2) (cwV 2 hts gL_pumpOf_X5_pumpOf rfl rfl rfl (by decide +kernel) ⟨Nat.le_of_ble_eq_true rfl, Nat.le_of_ble_eq_true rfl⟩) hK hP hD hS hA (hm9 ()).1 (hm9 ()).2.1 (fun u => (hm9 u).2.2.1) (fun u => (hm9 u).2.2.2) 0 5 rfl rfl rfl rfl hl.1 rfl (Nat.le_of_ble_eq_true rfl) dL_pumpOf_5 ⟨Nat.le_of_ble_eq_true rfl, Nat.le_of_ble_eq_true rfl⟩ (fun v9 u9 H locs hv hP hD hS => ?_)
  subst hv
  have hP : va_P D vwCl ([(o0, .inl (cL, 1, .inr (.inl (lo xo))))] ++ (fcW cI cS f0 a s fl c0 c1 n cs b r gl sv ad t f6 k)) H := hP
  have hD : va_D A9 ([(o0, .inl (cL, 1, .inr (.inl (lo xo))))] ++ (fcW cI cS f0 a s fl c0 c1 n cs b r gl sv ad t f6 k)) := hD
  refine W.eq (g2 := F0 m9 8 ls [.int (nI (pmpS s j y)), .int (nI 0), .ref o0]) rfl ?_
  refine lv_i2l (v := (nI (pmpS s j y)).toInt64) hx hb dL_pumpOf_8 rfl ?_
  refine va_last (D := D) (i := nI 0) hx hb hK hP hD hS 0 2 rfl rfl (vp_in_nI (n := 0) (by decide) (by decide)) dL_pumpOf_9 (fun H locs hP hD hS => ?_)
  rw [lo_up] at hP hD
  have hP : va_P D vwCl ([(o0, .inl (cL, 1, .inr (.inl (lo ((nI (pmpS s j y)).toInt64)))))] ++ (fcW cI cS f0 a s fl c0 c1 n cs b r gl sv ad t f6 k)) H := hP
  have hD : va_D A9 ([(o0, .inl (cL, 1, .inr (.inl (lo ((nI (pmpS s j y)).toInt64)))))] ++ (fcW cI cS f0 a s fl c0 c1 n cs b r gl sv ad t f6 k)) := hD
  refine lv_goto (tgt := 21) hx hb dL_pumpOf_10 (by decide) ?_
  refine lv_iconst (v := nI 0) hx hb dL_pumpOf_21 (by decide +kernel) ?_
  exact hret _ _ _ _ (some (.int (nI 0))) () 22 ls (by decide) (by decide) (by rfl) hP hD hS (ret_i dL_pumpOf_22)

set_option maxHeartbeats 4000000 in
set_option maxRecDepth 100000 in
theorem k_L_pumpOf_bad (l : Launch) (D : va_G) (cI cS cL : ClassId) (T : Nat) (f0 : Nat) (a : Nat → Nat) (s : Nat → Nat) (fl : Nat → Nat) (c0 : Nat) (c1 : Nat) (n : Nat) (cs : Nat → Nat) (b : Nat → Nat) (r : Nat → Nat) (gl : Nat → Nat) (sv : Nat) (ad : Nat → Nat → Nat) (t : Nat → Nat → Nat) (f6 : Nat → Nat → Nat) (k : Nat) (v1 : Int32) (v2 : Int32) (o0 : Nat) (xo : Int64) (hst : l.stackTraces = false) (hI : sI T s) (hT : T ≤ 900000) (hk : k ≤ 6) (hn : n ≤ 60) (hcs : ∀ j, j < n → cs j < 2 ^ 31) (hbad : ¬ (inR v1 0 1 ∧ inR v2 0 2)) : KC l D (TY cI cS cL) yL_pumpOf wsL_pumpOf ({ frames := 8, cells := 2, slots := 12, locals := 134 } : Room) ([(o0, .inl (cL, 1, .inr (.inl (lo xo))))] ++ (fcW cI cS f0 a s fl c0 c1 n cs b r gl sv ad t f6 k)) [.ref f0, .int v1, .int v2, .ref o0] (fun (v : Option Value) (_ : Unit) => v = some (.int (nI (if inR v1 0 1 then 2 else 1)))) (fun _ : Unit => ([(o0, .inl (cL, 1, .inr (.inl (lo xo))))] ++ (fcW cI cS f0 a s fl c0 c1 n cs b r gl sv ad t f6 k))) := by
  refine KC.of (cc := cL_pumpOf) (maxL := 5) (ret := (some .int)) (hh := [(0, 10, 13, 13), (0, 10, 17, 15)]) (by decide) rfl (Nat.le_of_ble_eq_true rfl) ?_
  intro p9 e9 s9 m9 ar9 be9 me9 c9 Q9 A9 ls C0 hN hAm hXN hTab hnm hlk hK hA hret hP hD hS hl
  obtain ⟨hx, hb, hml, hown, hts⟩ := id C0
  have hl : lv_has ls 5 [(0, .ref f0), (1, .int v1), (2, .int v2), (3, .ref o0)] := hl
  obtain ⟨H, hH0⟩ : ∃ H, H = s9.heap := ⟨_, rfl⟩
  obtain ⟨locs, hlc0⟩ : ∃ z : List Loc, z = [] := ⟨_, rfl⟩
  have hP : va_P D vwCl ([(o0, .inl (cL, 1, .inr (.inl (lo xo))))] ++ (fcW cI cS f0 a s fl c0 c1 n cs b r gl sv ad t f6 k)) H := by rw [hH0]; exact hP
  have hD : va_D A9 ([(o0, .inl (cL, 1, .inr (.inl (lo xo))))] ++ (fcW cI cS f0 a s fl c0 c1 n cs b r gl sv ad t f6 k)) := hD
  have hS : va_S A9 s9.heap H locs := by rw [hH0, hlc0]; exact hS
  suffices hgo : W p9 l e9 ({ frames := 8, cells := 2, slots := 12, locals := 134 } : Room) s9 m9 ar9 be9 me9 c9 H locs 0 0 Q9 (F0 m9 0 ls []) by rw [hH0, hlc0] at hgo; exact hgo
  clear hH0 hlc0
  refine lv_aload_n hx hb dL_pumpOf_0 rfl (lv_at hl 3 rfl) ?_
  refine lv_iconst (v := nI 0) hx hb dL_pumpOf_1 (by decide +kernel) ?_
  refine lv_aload_n hx hb dL_pumpOf_2 rfl (lv_at hl 0 rfl) ?_
  refine lv_iload_n hx hb dL_pumpOf_3 rfl (lv_at hl 1 rfl) ?_
  refine lv_iload_n hx hb dL_pumpOf_4 rfl (lv_at hl 2 rfl) ?_
  have hm9 := fun (_ : Unit) => suf_mem (X' := (fcW cI cS f0 a s fl c0 c1 n cs b r gl sv ad t f6 k)) (R := [(o0, .inl (cL, 1, .inr (.inl (lo xo))))]) (show va_D A9 ([(o0, .inl (cL, 1, .inr (.inl (lo xo))))] ++ (fcW cI cS f0 a s fl c0 c1 n cs b r gl sv ad t f6 k)) from hD) (fcW_perm (List.Perm.refl _))
  refine KX.callVM (As := [.int v1, .int v2]) (rest := [.int (nI 0), .ref o0]) (W0 := (fcW cI cS f0 a s fl c0 c1 n cs b r gl sv ad t f6 k)) (ws := ([(o0, .inl (cL, 1, .inr (.inl (lo xo))))] ++ (fcW cI cS f0 a s fl c0 c1 n cs b r gl sv ad t f6 k))) (ws' := fun (_ : Unit) => ([(o0, .inl (cL, 1, .inr (.inl (lo xo))))] ++ (fcW cI cS f0 a s fl c0 c1 n cs b r gl sv ad t f6 k))) C0 hN hAm (k_X5_pumpOf_bad l D cI cS cL T f0 a s fl c0 c1 n cs b r gl sv ad t f6 k v1 v2 hst hI hT hk hn hcs hbad) (cwV 2 hts gL_pumpOf_X5_pumpOf rfl rfl rfl (by decide +kernel) ⟨Nat.le_of_ble_eq_true rfl, Nat.le_of_ble_eq_true rfl⟩) hK hP hD hS hA (hm9 ()).1 (hm9 ()).2.1 (fun u => (hm9 u).2.2.1) (fun u => (hm9 u).2.2.2) 0 5 rfl rfl rfl rfl hl.1 rfl (Nat.le_of_ble_eq_true rfl) dL_pumpOf_5 ⟨Nat.le_of_ble_eq_true rfl, Nat.le_of_ble_eq_true rfl⟩ (fun E ce q9 H locs hE hP hS hq9 hv9 hcl9 => ?_) (fun v9 u9 H locs hv hP hD hS => ?_)
  ·
    rcases hE with hE | hE
    ·
      obtain ⟨hEe, hEc⟩ := hE
      subst hEe
      refine vx_catch (own := RL) (name := "java/lang/IndexOutOfBoundsException") hown [] ⟨0, 10, 13, 13⟩ [⟨0, 10, 17, 15⟩] (hTab.trans rfl) (fun z hz => absurd hz List.not_mem_nil) (by decide) (by decide) (hts (.classLink RL 13 "java/lang/IndexOutOfBoundsException") (by decide +kernel)) (va_Nw.use rfl (hAm.2.2.2.2.2.2 ("java/lang/IndexOutOfBoundsException", "java/lang/IndexOutOfBoundsException") (by decide))) hq9 hv9 hcl9 ?_
      refine lv_astore (lv' := [(4, .ref q9), (0, .ref f0), (1, .int v1), (2, .int v2), (3, .ref o0)]) hx hb dL_pumpOf_13 hl (by decide) rfl (fun ls hl => ?_)
      refine lv_iconst (v := nI 1) hx hb dL_pumpOf_15 (by decide +kernel) ?_
      exact hret _ _ _ _ (some (.int (nI 1))) () 16 ls (by decide) (by decide) (by exact rv (by (repeat' split) <;> first | rfl | (exfalso; omega))) hP hD hS (ret_i dL_pumpOf_16)
    ·
      obtain ⟨hEe, hEc⟩ := hE
      subst hEe
      refine vx_catch (own := RL) (name := "java/lang/IllegalArgumentException") hown [⟨0, 10, 13, 13⟩] ⟨0, 10, 17, 15⟩ [] (hTab.trans rfl) (fun z hz => Or.inr (by rw [List.mem_singleton.mp hz]; exact ⟨by decide, "java/lang/IndexOutOfBoundsException", hts (.classLink RL 13 "java/lang/IndexOutOfBoundsException") (by decide +kernel), hXN ("java/lang/IllegalArgumentException", "java/lang/IndexOutOfBoundsException") (by decide)⟩)) (by decide) (by decide) (hts (.classLink RL 15 "java/lang/IllegalArgumentException") (by decide +kernel)) (va_Nw.use rfl (hAm.2.2.2.2.2.2 ("java/lang/IllegalArgumentException", "java/lang/IllegalArgumentException") (by decide))) hq9 hv9 hcl9 ?_
      refine lv_astore (lv' := [(4, .ref q9), (0, .ref f0), (1, .int v1), (2, .int v2), (3, .ref o0)]) hx hb dL_pumpOf_17 hl (by decide) rfl (fun ls hl => ?_)
      refine lv_iconst (v := nI 2) hx hb dL_pumpOf_19 (by decide +kernel) ?_
      exact hret _ _ _ _ (some (.int (nI 2))) () 20 ls (by decide) (by decide) (by exact rv (by (repeat' split) <;> first | rfl | (exfalso; omega))) hP hD hS (ret_i dL_pumpOf_20)
  · exact hv.1.elim

set_option maxHeartbeats 4000000 in
set_option maxRecDepth 100000 in
theorem k_L_cueOf_ok (l : Launch) (D : va_G) (cI cS cL : ClassId) (T : Nat) (f0 : Nat) (a : Nat → Nat) (s : Nat → Nat) (fl : Nat → Nat) (c0 : Nat) (c1 : Nat) (n : Nat) (cs : Nat → Nat) (b : Nat → Nat) (r : Nat → Nat) (gl : Nat → Nat) (sv : Nat) (ad : Nat → Nat → Nat) (t : Nat → Nat → Nat) (f6 : Nat → Nat → Nat) (k : Nat) (x : Nat) (y : Nat) (o0 : Nat) (xo : Int64) (hst : l.stackTraces = false) (hI : sI T s) (hT : T ≤ 900000) (hk : k ≤ 6) (hn : n ≤ 60) (hcs : ∀ j, j < n → cs j < 2 ^ 31) (hx2 : x < 2 ^ 31) (hy2 : y ≤ 3) : KC l D (TY cI cS cL) yL_cueOf wsL_cueOf ({ frames := 2, cells := 0, slots := 0, locals := 44 } : Room) ([(o0, .inl (cL, 1, .inr (.inl (lo xo))))] ++ (fcW cI cS f0 a s fl c0 c1 n cs b r gl sv ad t f6 k)) [.ref f0, .int (nI x), .int (nI y), .ref o0] (fun (v : Option Value) (_ : Unit) => v = some (.int (nI 0))) (fun _ : Unit => ([(o0, .inl (cL, 1, .inr (.inl (lo ((if x < s 8 then nI (numS (nuF s) (tiF s) (jeF s) (acF s) y x) else -1).toInt64)))))] ++ (fcW cI cS f0 a s fl c0 c1 n cs b r gl sv ad t f6 k))) := by
  refine KC.of (cc := cL_cueOf) (maxL := 5) (ret := (some .int)) (hh := [(0, 10, 13, 15)]) (by decide) rfl (Nat.le_of_ble_eq_true rfl) ?_
  intro p9 e9 s9 m9 ar9 be9 me9 c9 Q9 A9 ls C0 hN hAm hXN hTab hnm hlk hK hA hret hP hD hS hl
  obtain ⟨hx, hb, hml, hown, hts⟩ := id C0
  have hl : lv_has ls 5 [(0, .ref f0), (1, .int (nI x)), (2, .int (nI y)), (3, .ref o0)] := hl
  obtain ⟨H, hH0⟩ : ∃ H, H = s9.heap := ⟨_, rfl⟩
  obtain ⟨locs, hlc0⟩ : ∃ z : List Loc, z = [] := ⟨_, rfl⟩
  have hP : va_P D vwCl ([(o0, .inl (cL, 1, .inr (.inl (lo xo))))] ++ (fcW cI cS f0 a s fl c0 c1 n cs b r gl sv ad t f6 k)) H := by rw [hH0]; exact hP
  have hD : va_D A9 ([(o0, .inl (cL, 1, .inr (.inl (lo xo))))] ++ (fcW cI cS f0 a s fl c0 c1 n cs b r gl sv ad t f6 k)) := hD
  have hS : va_S A9 s9.heap H locs := by rw [hH0, hlc0]; exact hS
  suffices hgo : W p9 l e9 ({ frames := 2, cells := 0, slots := 0, locals := 44 } : Room) s9 m9 ar9 be9 me9 c9 H locs 0 0 Q9 (F0 m9 0 ls []) by rw [hH0, hlc0] at hgo; exact hgo
  clear hH0 hlc0
  refine lv_aload_n hx hb dL_cueOf_0 rfl (lv_at hl 3 rfl) ?_
  refine lv_iconst (v := nI 0) hx hb dL_cueOf_1 (by decide +kernel) ?_
  refine lv_aload_n hx hb dL_cueOf_2 rfl (lv_at hl 0 rfl) ?_
  refine lv_iload_n hx hb dL_cueOf_3 rfl (lv_at hl 1 rfl) ?_
  refine lv_iload_n hx hb dL_cueOf_4 rfl (lv_at hl 2 rfl) ?_
  have hm9 := fun (_ : Unit) => suf_mem (X' := (fcW cI cS f0 a s fl c0 c1 n cs b r gl sv ad t f6 k)) (R := [(o0, .inl (cL, 1, .inr (.inl (lo xo))))]) (show va_D A9 ([(o0, .inl (cL, 1, .inr (.inl (lo xo))))] ++ (fcW cI cS f0 a s fl c0 c1 n cs b r gl sv ad t f6 k)) from hD) (fcW_perm (List.Perm.refl _))
  refine KM.callVM (As := [.int (nI x), .int (nI y)]) (rest := [.int (nI 0), .ref o0]) (W0 := (fcW cI cS f0 a s fl c0 c1 n cs b r gl sv ad t f6 k)) (ws := ([(o0, .inl (cL, 1, .inr (.inl (lo xo))))] ++ (fcW cI cS f0 a s fl c0 c1 n cs b r gl sv ad t f6 k))) (ws' := fun (_ : Unit) => ([(o0, .inl (cL, 1, .inr (.inl (lo xo))))] ++ (fcW cI cS f0 a s fl c0 c1 n cs b r gl sv ad t f6 k))) C0 hN (k_X5_cueOf_ok l D cI cS cL T f0 a s fl c0 c1 n cs b r gl sv ad t f6 k x y hI hT hk hn hcs hx2 hy2) (cwV 2 hts gL_cueOf_X5_cueOf rfl rfl rfl (by decide +kernel) ⟨Nat.le_of_ble_eq_true rfl, Nat.le_of_ble_eq_true rfl⟩) hK hP hD hS hA (hm9 ()).1 (hm9 ()).2.1 (fun u => (hm9 u).2.2.1) (fun u => (hm9 u).2.2.2) 0 5 rfl rfl rfl rfl hl.1 rfl (Nat.le_of_ble_eq_true rfl) dL_cueOf_5 ⟨Nat.le_of_ble_eq_true rfl, Nat.le_of_ble_eq_true rfl⟩ (fun v9 u9 H locs hv hP hD hS => ?_)
  subst hv
  have hP : va_P D vwCl ([(o0, .inl (cL, 1, .inr (.inl (lo xo))))] ++ (fcW cI cS f0 a s fl c0 c1 n cs b r gl sv ad t f6 k)) H := hP
  have hD : va_D A9 ([(o0, .inl (cL, 1, .inr (.inl (lo xo))))] ++ (fcW cI cS f0 a s fl c0 c1 n cs b r gl sv ad t f6 k)) := hD
  refine W.eq (g2 := F0 m9 8 ls [.int (if x < s 8 then nI (numS (nuF s) (tiF s) (jeF s) (acF s) y x) else -1), .int (nI 0), .ref o0]) rfl ?_
  refine lv_i2l (v := (if x < s 8 then nI (numS (nuF s) (tiF s) (jeF s) (acF s) y x) else -1).toInt64) hx hb dL_cueOf_8 rfl ?_
  refine va_last (D := D) (i := nI 0) hx hb hK hP hD hS 0 2 rfl rfl (vp_in_nI (n := 0) (by decide) (by decide)) dL_cueOf_9 (fun H locs hP hD hS => ?_)
  rw [lo_up] at hP hD
  have hP : va_P D vwCl ([(o0, .inl (cL, 1, .inr (.inl (lo ((if x < s 8 then nI (numS (nuF s) (tiF s) (jeF s) (acF s) y x) else -1).toInt64)))))] ++ (fcW cI cS f0 a s fl c0 c1 n cs b r gl sv ad t f6 k)) H := hP
  have hD : va_D A9 ([(o0, .inl (cL, 1, .inr (.inl (lo ((if x < s 8 then nI (numS (nuF s) (tiF s) (jeF s) (acF s) y x) else -1).toInt64)))))] ++ (fcW cI cS f0 a s fl c0 c1 n cs b r gl sv ad t f6 k)) := hD
  refine lv_goto (tgt := 17) hx hb dL_cueOf_10 (by decide) ?_
  refine lv_iconst (v := nI 0) hx hb dL_cueOf_17 (by decide +kernel) ?_
  exact hret _ _ _ _ (some (.int (nI 0))) () 18 ls (by decide) (by decide) (by rfl) hP hD hS (ret_i dL_cueOf_18)

set_option maxHeartbeats 4000000 in
set_option maxRecDepth 100000 in
theorem k_L_cueOf_bad (l : Launch) (D : va_G) (cI cS cL : ClassId) (T : Nat) (f0 : Nat) (a : Nat → Nat) (s : Nat → Nat) (fl : Nat → Nat) (c0 : Nat) (c1 : Nat) (n : Nat) (cs : Nat → Nat) (b : Nat → Nat) (r : Nat → Nat) (gl : Nat → Nat) (sv : Nat) (ad : Nat → Nat → Nat) (t : Nat → Nat → Nat) (f6 : Nat → Nat → Nat) (k : Nat) (v1 : Int32) (v2 : Int32) (o0 : Nat) (xo : Int64) (hst : l.stackTraces = false) (hI : sI T s) (hT : T ≤ 900000) (hk : k ≤ 6) (hn : n ≤ 60) (hcs : ∀ j, j < n → cs j < 2 ^ 31) (hbad : ¬ (0 ≤ v1.toInt ∧ inR v2 0 3)) : KC l D (TY cI cS cL) yL_cueOf wsL_cueOf ({ frames := 8, cells := 2, slots := 12, locals := 134 } : Room) ([(o0, .inl (cL, 1, .inr (.inl (lo xo))))] ++ (fcW cI cS f0 a s fl c0 c1 n cs b r gl sv ad t f6 k)) [.ref f0, .int v1, .int v2, .ref o0] (fun (v : Option Value) (_ : Unit) => v = some (.int (nI 1))) (fun _ : Unit => ([(o0, .inl (cL, 1, .inr (.inl (lo xo))))] ++ (fcW cI cS f0 a s fl c0 c1 n cs b r gl sv ad t f6 k))) := by
  refine KC.of (cc := cL_cueOf) (maxL := 5) (ret := (some .int)) (hh := [(0, 10, 13, 15)]) (by decide) rfl (Nat.le_of_ble_eq_true rfl) ?_
  intro p9 e9 s9 m9 ar9 be9 me9 c9 Q9 A9 ls C0 hN hAm hXN hTab hnm hlk hK hA hret hP hD hS hl
  obtain ⟨hx, hb, hml, hown, hts⟩ := id C0
  have hl : lv_has ls 5 [(0, .ref f0), (1, .int v1), (2, .int v2), (3, .ref o0)] := hl
  obtain ⟨H, hH0⟩ : ∃ H, H = s9.heap := ⟨_, rfl⟩
  obtain ⟨locs, hlc0⟩ : ∃ z : List Loc, z = [] := ⟨_, rfl⟩
  have hP : va_P D vwCl ([(o0, .inl (cL, 1, .inr (.inl (lo xo))))] ++ (fcW cI cS f0 a s fl c0 c1 n cs b r gl sv ad t f6 k)) H := by rw [hH0]; exact hP
  have hD : va_D A9 ([(o0, .inl (cL, 1, .inr (.inl (lo xo))))] ++ (fcW cI cS f0 a s fl c0 c1 n cs b r gl sv ad t f6 k)) := hD
  have hS : va_S A9 s9.heap H locs := by rw [hH0, hlc0]; exact hS
  suffices hgo : W p9 l e9 ({ frames := 8, cells := 2, slots := 12, locals := 134 } : Room) s9 m9 ar9 be9 me9 c9 H locs 0 0 Q9 (F0 m9 0 ls []) by rw [hH0, hlc0] at hgo; exact hgo
  clear hH0 hlc0
  refine lv_aload_n hx hb dL_cueOf_0 rfl (lv_at hl 3 rfl) ?_
  refine lv_iconst (v := nI 0) hx hb dL_cueOf_1 (by decide +kernel) ?_
  refine lv_aload_n hx hb dL_cueOf_2 rfl (lv_at hl 0 rfl) ?_
  refine lv_iload_n hx hb dL_cueOf_3 rfl (lv_at hl 1 rfl) ?_
  refine lv_iload_n hx hb dL_cueOf_4 rfl (lv_at hl 2 rfl) ?_
  have hm9 := fun (_ : Unit) => suf_mem (X' := (fcW cI cS f0 a s fl c0 c1 n cs b r gl sv ad t f6 k)) (R := [(o0, .inl (cL, 1, .inr (.inl (lo xo))))]) (show va_D A9 ([(o0, .inl (cL, 1, .inr (.inl (lo xo))))] ++ (fcW cI cS f0 a s fl c0 c1 n cs b r gl sv ad t f6 k)) from hD) (fcW_perm (List.Perm.refl _))
  refine KX.callVM (As := [.int v1, .int v2]) (rest := [.int (nI 0), .ref o0]) (W0 := (fcW cI cS f0 a s fl c0 c1 n cs b r gl sv ad t f6 k)) (ws := ([(o0, .inl (cL, 1, .inr (.inl (lo xo))))] ++ (fcW cI cS f0 a s fl c0 c1 n cs b r gl sv ad t f6 k))) (ws' := fun (_ : Unit) => ([(o0, .inl (cL, 1, .inr (.inl (lo xo))))] ++ (fcW cI cS f0 a s fl c0 c1 n cs b r gl sv ad t f6 k))) C0 hN hAm (k_X5_cueOf_bad l D cI cS cL T f0 a s fl c0 c1 n cs b r gl sv ad t f6 k v1 v2 hst hI hT hk hn hcs hbad) (cwV 2 hts gL_cueOf_X5_cueOf rfl rfl rfl (by decide +kernel) ⟨Nat.le_of_ble_eq_true rfl, Nat.le_of_ble_eq_true rfl⟩) hK hP hD hS hA (hm9 ()).1 (hm9 ()).2.1 (fun u => (hm9 u).2.2.1) (fun u => (hm9 u).2.2.2) 0 5 rfl rfl rfl rfl hl.1 rfl (Nat.le_of_ble_eq_true rfl) dL_cueOf_5 ⟨Nat.le_of_ble_eq_true rfl, Nat.le_of_ble_eq_true rfl⟩ (fun E ce q9 H locs hE hP hS hq9 hv9 hcl9 => ?_) (fun v9 u9 H locs hv hP hD hS => ?_)
  ·
    ·
      have hEe := hE
      subst hEe
      refine vx_catch (own := RL) (name := "java/lang/IllegalArgumentException") hown [] ⟨0, 10, 13, 15⟩ [] (hTab.trans rfl) (fun z hz => absurd hz List.not_mem_nil) (by decide) (by decide) (hts (.classLink RL 15 "java/lang/IllegalArgumentException") (by decide +kernel)) (va_Nw.use rfl (hAm.2.2.2.2.2.2 ("java/lang/IllegalArgumentException", "java/lang/IllegalArgumentException") (by decide))) hq9 hv9 hcl9 ?_
      refine lv_astore (lv' := [(4, .ref q9), (0, .ref f0), (1, .int v1), (2, .int v2), (3, .ref o0)]) hx hb dL_cueOf_13 hl (by decide) rfl (fun ls hl => ?_)
      refine lv_iconst (v := nI 1) hx hb dL_cueOf_15 (by decide +kernel) ?_
      exact hret _ _ _ _ (some (.int (nI 1))) () 16 ls (by decide) (by decide) (by exact rv (by (repeat' split) <;> first | rfl | (exfalso; omega))) hP hD hS (ret_i dL_cueOf_16)
  · exact hv.1.elim

set_option maxHeartbeats 4000000 in
set_option maxRecDepth 100000 in
theorem k_L_count_ok (l : Launch) (D : va_G) (cI cS cL : ClassId) (T : Nat) (f0 : Nat) (a : Nat → Nat) (s : Nat → Nat) (fl : Nat → Nat) (c0 : Nat) (c1 : Nat) (n : Nat) (cs : Nat → Nat) (b : Nat → Nat) (r : Nat → Nat) (gl : Nat → Nat) (sv : Nat) (ad : Nat → Nat → Nat) (t : Nat → Nat → Nat) (f6 : Nat → Nat → Nat) (k : Nat) (y : Nat) (o0 : Nat) (xo : Int64) (hst : l.stackTraces = false) (hI : sI T s) (hT : T ≤ 900000) (hk : k ≤ 6) (hn : n ≤ 60) (hcs : ∀ j, j < n → cs j < 2 ^ 31) (hy2 : y ≤ 9) : KC l D (TY cI cS cL) yL_count wsL_count ({ frames := 6, cells := 0, slots := 0, locals := 130 } : Room) ([(o0, .inl (cL, 1, .inr (.inl (lo xo))))] ++ (fcW cI cS f0 a s fl c0 c1 n cs b r gl sv ad t f6 k)) [.ref f0, .int (nI y), .ref o0] (fun (v : Option Value) (_ : Unit) => v = some (.int (nI 0))) (fun _ : Unit => ([(o0, .inl (cL, 1, .inr (.inl (lo ((nI (cntS s k y)).toInt64)))))] ++ (fcW cI cS f0 a s fl c0 c1 n cs b r gl sv ad t f6 k))) := by
  refine KC.of (cc := cL_count) (maxL := 4) (ret := (some .int)) (hh := [(0, 9, 12, 15)]) (by decide) rfl (Nat.le_of_ble_eq_true rfl) ?_
  intro p9 e9 s9 m9 ar9 be9 me9 c9 Q9 A9 ls C0 hN hAm hXN hTab hnm hlk hK hA hret hP hD hS hl
  obtain ⟨hx, hb, hml, hown, hts⟩ := id C0
  have hl : lv_has ls 4 [(0, .ref f0), (1, .int (nI y)), (2, .ref o0)] := hl
  obtain ⟨H, hH0⟩ : ∃ H, H = s9.heap := ⟨_, rfl⟩
  obtain ⟨locs, hlc0⟩ : ∃ z : List Loc, z = [] := ⟨_, rfl⟩
  have hP : va_P D vwCl ([(o0, .inl (cL, 1, .inr (.inl (lo xo))))] ++ (fcW cI cS f0 a s fl c0 c1 n cs b r gl sv ad t f6 k)) H := by rw [hH0]; exact hP
  have hD : va_D A9 ([(o0, .inl (cL, 1, .inr (.inl (lo xo))))] ++ (fcW cI cS f0 a s fl c0 c1 n cs b r gl sv ad t f6 k)) := hD
  have hS : va_S A9 s9.heap H locs := by rw [hH0, hlc0]; exact hS
  suffices hgo : W p9 l e9 ({ frames := 6, cells := 0, slots := 0, locals := 130 } : Room) s9 m9 ar9 be9 me9 c9 H locs 0 0 Q9 (F0 m9 0 ls []) by rw [hH0, hlc0] at hgo; exact hgo
  clear hH0 hlc0
  refine lv_aload_n hx hb dL_count_0 rfl (lv_at hl 2 rfl) ?_
  refine lv_iconst (v := nI 0) hx hb dL_count_1 (by decide +kernel) ?_
  refine lv_aload_n hx hb dL_count_2 rfl (lv_at hl 0 rfl) ?_
  refine lv_iload_n hx hb dL_count_3 rfl (lv_at hl 1 rfl) ?_
  have hm9 := fun (_ : Unit) => suf_mem (X' := (fcW cI cS f0 a s fl c0 c1 n cs b r gl sv ad t f6 k)) (R := [(o0, .inl (cL, 1, .inr (.inl (lo xo))))]) (show va_D A9 ([(o0, .inl (cL, 1, .inr (.inl (lo xo))))] ++ (fcW cI cS f0 a s fl c0 c1 n cs b r gl sv ad t f6 k)) from hD) (fcW_perm (List.Perm.refl _))
  refine KM.callVM (As := [.int (nI y)]) (rest := [.int (nI 0), .ref o0]) (W0 := (fcW cI cS f0 a s fl c0 c1 n cs b r gl sv ad t f6 k)) (ws := ([(o0, .inl (cL, 1, .inr (.inl (lo xo))))] ++ (fcW cI cS f0 a s fl c0 c1 n cs b r gl sv ad t f6 k))) (ws' := fun (_ : Unit) => ([(o0, .inl (cL, 1, .inr (.inl (lo xo))))] ++ (fcW cI cS f0 a s fl c0 c1 n cs b r gl sv ad t f6 k))) C0 hN (k_X5_count_ok l D cI cS cL T f0 a s fl c0 c1 n cs b r gl sv ad t f6 k y hI hT hk hn hcs hy2) (cwV 1 hts gL_count_X5_count rfl rfl rfl (by decide +kernel) ⟨Nat.le_of_ble_eq_true rfl, Nat.le_of_ble_eq_true rfl⟩) hK hP hD hS hA (hm9 ()).1 (hm9 ()).2.1 (fun u => (hm9 u).2.2.1) (fun u => (hm9 u).2.2.2) 0 5 rfl rfl rfl rfl hl.1 rfl (Nat.le_of_ble_eq_true rfl) dL_count_4 ⟨Nat.le_of_ble_eq_true rfl, Nat.le_of_ble_eq_true rfl⟩ (fun v9 u9 H locs hv hP hD hS => ?_)
  subst hv
  have hP : va_P D vwCl ([(o0, .inl (cL, 1, .inr (.inl (lo xo))))] ++ (fcW cI cS f0 a s fl c0 c1 n cs b r gl sv ad t f6 k)) H := hP
  have hD : va_D A9 ([(o0, .inl (cL, 1, .inr (.inl (lo xo))))] ++ (fcW cI cS f0 a s fl c0 c1 n cs b r gl sv ad t f6 k)) := hD
  refine W.eq (g2 := F0 m9 7 ls [.int (nI (cntS s k y)), .int (nI 0), .ref o0]) rfl ?_
  refine lv_i2l (v := (nI (cntS s k y)).toInt64) hx hb dL_count_7 rfl ?_
  refine va_last (D := D) (i := nI 0) hx hb hK hP hD hS 0 2 rfl rfl (vp_in_nI (n := 0) (by decide) (by decide)) dL_count_8 (fun H locs hP hD hS => ?_)
  rw [lo_up] at hP hD
  have hP : va_P D vwCl ([(o0, .inl (cL, 1, .inr (.inl (lo ((nI (cntS s k y)).toInt64)))))] ++ (fcW cI cS f0 a s fl c0 c1 n cs b r gl sv ad t f6 k)) H := hP
  have hD : va_D A9 ([(o0, .inl (cL, 1, .inr (.inl (lo ((nI (cntS s k y)).toInt64)))))] ++ (fcW cI cS f0 a s fl c0 c1 n cs b r gl sv ad t f6 k)) := hD
  refine lv_goto (tgt := 15) hx hb dL_count_9 (by decide) ?_
  refine lv_iconst (v := nI 0) hx hb dL_count_15 (by decide +kernel) ?_
  exact hret _ _ _ _ (some (.int (nI 0))) () 16 ls (by decide) (by decide) (by rfl) hP hD hS (ret_i dL_count_16)

set_option maxHeartbeats 4000000 in
set_option maxRecDepth 100000 in
theorem k_L_count_bad (l : Launch) (D : va_G) (cI cS cL : ClassId) (T : Nat) (f0 : Nat) (a : Nat → Nat) (s : Nat → Nat) (fl : Nat → Nat) (c0 : Nat) (c1 : Nat) (n : Nat) (cs : Nat → Nat) (b : Nat → Nat) (r : Nat → Nat) (gl : Nat → Nat) (sv : Nat) (ad : Nat → Nat → Nat) (t : Nat → Nat → Nat) (f6 : Nat → Nat → Nat) (k : Nat) (v1 : Int32) (o0 : Nat) (xo : Int64) (hst : l.stackTraces = false) (hI : sI T s) (hT : T ≤ 900000) (hk : k ≤ 6) (hn : n ≤ 60) (hcs : ∀ j, j < n → cs j < 2 ^ 31) (hbad : ¬ (inR v1 0 9)) : KC l D (TY cI cS cL) yL_count wsL_count ({ frames := 8, cells := 1, slots := 6, locals := 133 } : Room) ([(o0, .inl (cL, 1, .inr (.inl (lo xo))))] ++ (fcW cI cS f0 a s fl c0 c1 n cs b r gl sv ad t f6 k)) [.ref f0, .int v1, .ref o0] (fun (v : Option Value) (_ : Unit) => v = some (.int (nI 1))) (fun _ : Unit => ([(o0, .inl (cL, 1, .inr (.inl (lo xo))))] ++ (fcW cI cS f0 a s fl c0 c1 n cs b r gl sv ad t f6 k))) := by
  refine KC.of (cc := cL_count) (maxL := 4) (ret := (some .int)) (hh := [(0, 9, 12, 15)]) (by decide) rfl (Nat.le_of_ble_eq_true rfl) ?_
  intro p9 e9 s9 m9 ar9 be9 me9 c9 Q9 A9 ls C0 hN hAm hXN hTab hnm hlk hK hA hret hP hD hS hl
  obtain ⟨hx, hb, hml, hown, hts⟩ := id C0
  have hl : lv_has ls 4 [(0, .ref f0), (1, .int v1), (2, .ref o0)] := hl
  obtain ⟨H, hH0⟩ : ∃ H, H = s9.heap := ⟨_, rfl⟩
  obtain ⟨locs, hlc0⟩ : ∃ z : List Loc, z = [] := ⟨_, rfl⟩
  have hP : va_P D vwCl ([(o0, .inl (cL, 1, .inr (.inl (lo xo))))] ++ (fcW cI cS f0 a s fl c0 c1 n cs b r gl sv ad t f6 k)) H := by rw [hH0]; exact hP
  have hD : va_D A9 ([(o0, .inl (cL, 1, .inr (.inl (lo xo))))] ++ (fcW cI cS f0 a s fl c0 c1 n cs b r gl sv ad t f6 k)) := hD
  have hS : va_S A9 s9.heap H locs := by rw [hH0, hlc0]; exact hS
  suffices hgo : W p9 l e9 ({ frames := 8, cells := 1, slots := 6, locals := 133 } : Room) s9 m9 ar9 be9 me9 c9 H locs 0 0 Q9 (F0 m9 0 ls []) by rw [hH0, hlc0] at hgo; exact hgo
  clear hH0 hlc0
  refine lv_aload_n hx hb dL_count_0 rfl (lv_at hl 2 rfl) ?_
  refine lv_iconst (v := nI 0) hx hb dL_count_1 (by decide +kernel) ?_
  refine lv_aload_n hx hb dL_count_2 rfl (lv_at hl 0 rfl) ?_
  refine lv_iload_n hx hb dL_count_3 rfl (lv_at hl 1 rfl) ?_
  have hm9 := fun (_ : Unit) => suf_mem (X' := (fcW cI cS f0 a s fl c0 c1 n cs b r gl sv ad t f6 k)) (R := [(o0, .inl (cL, 1, .inr (.inl (lo xo))))]) (show va_D A9 ([(o0, .inl (cL, 1, .inr (.inl (lo xo))))] ++ (fcW cI cS f0 a s fl c0 c1 n cs b r gl sv ad t f6 k)) from hD) (fcW_perm (List.Perm.refl _))
  refine KX.callVM (As := [.int v1]) (rest := [.int (nI 0), .ref o0]) (W0 := (fcW cI cS f0 a s fl c0 c1 n cs b r gl sv ad t f6 k)) (ws := ([(o0, .inl (cL, 1, .inr (.inl (lo xo))))] ++ (fcW cI cS f0 a s fl c0 c1 n cs b r gl sv ad t f6 k))) (ws' := fun (_ : Unit) => ([(o0, .inl (cL, 1, .inr (.inl (lo xo))))] ++ (fcW cI cS f0 a s fl c0 c1 n cs b r gl sv ad t f6 k))) C0 hN hAm (k_X5_count_bad l D cI cS cL T f0 a s fl c0 c1 n cs b r gl sv ad t f6 k v1 hst hI hT hk hn hcs hbad) (cwV 1 hts gL_count_X5_count rfl rfl rfl (by decide +kernel) ⟨Nat.le_of_ble_eq_true rfl, Nat.le_of_ble_eq_true rfl⟩) hK hP hD hS hA (hm9 ()).1 (hm9 ()).2.1 (fun u => (hm9 u).2.2.1) (fun u => (hm9 u).2.2.2) 0 5 rfl rfl rfl rfl hl.1 rfl (Nat.le_of_ble_eq_true rfl) dL_count_4 ⟨Nat.le_of_ble_eq_true rfl, Nat.le_of_ble_eq_true rfl⟩ (fun E ce q9 H locs hE hP hS hq9 hv9 hcl9 => ?_) (fun v9 u9 H locs hv hP hD hS => ?_)
  ·
    ·
      have hEe := hE
      subst hEe
      refine vx_catch (own := RL) (name := "java/lang/IllegalArgumentException") hown [] ⟨0, 9, 12, 15⟩ [] (hTab.trans rfl) (fun z hz => absurd hz List.not_mem_nil) (by decide) (by decide) (hts (.classLink RL 15 "java/lang/IllegalArgumentException") (by decide +kernel)) (va_Nw.use rfl (hAm.2.2.2.2.2.2 ("java/lang/IllegalArgumentException", "java/lang/IllegalArgumentException") (by decide))) hq9 hv9 hcl9 ?_
      refine lv_astore_n (lv' := [(3, .ref q9), (0, .ref f0), (1, .int v1), (2, .ref o0)]) hx hb dL_count_12 rfl hl (by decide) rfl (fun ls hl => ?_)
      refine lv_iconst (v := nI 1) hx hb dL_count_13 (by decide +kernel) ?_
      exact hret _ _ _ _ (some (.int (nI 1))) () 14 ls (by decide) (by decide) (by exact rv (by (repeat' split) <;> first | rfl | (exfalso; omega))) hP hD hS (ret_i dL_count_14)
  · exact hv.1.elim

set_option maxHeartbeats 4000000 in
set_option maxRecDepth 100000 in
theorem k_L_setting_ok (l : Launch) (D : va_G) (cI cS cL : ClassId) (T : Nat) (f0 : Nat) (a : Nat → Nat) (s : Nat → Nat) (fl : Nat → Nat) (c0 : Nat) (c1 : Nat) (n : Nat) (cs : Nat → Nat) (b : Nat → Nat) (r : Nat → Nat) (gl : Nat → Nat) (sv : Nat) (ad : Nat → Nat → Nat) (t : Nat → Nat → Nat) (f6 : Nat → Nat → Nat) (k : Nat) (j : Nat) (o0 : Nat) (xo : Int64) (hst : l.stackTraces = false) (hI : sI T s) (hT : T ≤ 900000) (hk : k ≤ 6) (hn : n ≤ 60) (hcs : ∀ j, j < n → cs j < 2 ^ 31) (hj : j < 3) : KC l D (TY cI cS cL) yL_setting wsL_setting ({ frames := 2, cells := 0, slots := 0, locals := 41 } : Room) ([(o0, .inl (cL, 1, .inr (.inl (lo xo))))] ++ (fcW cI cS f0 a s fl c0 c1 n cs b r gl sv ad t f6 k)) [.ref f0, .int (nI j), .ref o0] (fun (v : Option Value) (_ : Unit) => v = some (.int (nI 0))) (fun _ : Unit => ([(o0, .inl (cL, 1, .inr (.inl (lo ((nI (seF s j)).toInt64)))))] ++ (fcW cI cS f0 a s fl c0 c1 n cs b r gl sv ad t f6 k))) := by
  refine KC.of (cc := cL_setting) (maxL := 4) (ret := (some .int)) (hh := [(0, 9, 12, 13)]) (by decide) rfl (Nat.le_of_ble_eq_true rfl) ?_
  intro p9 e9 s9 m9 ar9 be9 me9 c9 Q9 A9 ls C0 hN hAm hXN hTab hnm hlk hK hA hret hP hD hS hl
  obtain ⟨hx, hb, hml, hown, hts⟩ := id C0
  have hl : lv_has ls 4 [(0, .ref f0), (1, .int (nI j)), (2, .ref o0)] := hl
  obtain ⟨H, hH0⟩ : ∃ H, H = s9.heap := ⟨_, rfl⟩
  obtain ⟨locs, hlc0⟩ : ∃ z : List Loc, z = [] := ⟨_, rfl⟩
  have hP : va_P D vwCl ([(o0, .inl (cL, 1, .inr (.inl (lo xo))))] ++ (fcW cI cS f0 a s fl c0 c1 n cs b r gl sv ad t f6 k)) H := by rw [hH0]; exact hP
  have hD : va_D A9 ([(o0, .inl (cL, 1, .inr (.inl (lo xo))))] ++ (fcW cI cS f0 a s fl c0 c1 n cs b r gl sv ad t f6 k)) := hD
  have hS : va_S A9 s9.heap H locs := by rw [hH0, hlc0]; exact hS
  suffices hgo : W p9 l e9 ({ frames := 2, cells := 0, slots := 0, locals := 41 } : Room) s9 m9 ar9 be9 me9 c9 H locs 0 0 Q9 (F0 m9 0 ls []) by rw [hH0, hlc0] at hgo; exact hgo
  clear hH0 hlc0
  refine lv_aload_n hx hb dL_setting_0 rfl (lv_at hl 2 rfl) ?_
  refine lv_iconst (v := nI 0) hx hb dL_setting_1 (by decide +kernel) ?_
  refine lv_aload_n hx hb dL_setting_2 rfl (lv_at hl 0 rfl) ?_
  refine lv_iload_n hx hb dL_setting_3 rfl (lv_at hl 1 rfl) ?_
  have hm9 := fun (_ : Unit) => suf_mem (X' := (fcW cI cS f0 a s fl c0 c1 n cs b r gl sv ad t f6 k)) (R := [(o0, .inl (cL, 1, .inr (.inl (lo xo))))]) (show va_D A9 ([(o0, .inl (cL, 1, .inr (.inl (lo xo))))] ++ (fcW cI cS f0 a s fl c0 c1 n cs b r gl sv ad t f6 k)) from hD) (fcW_perm (List.Perm.refl _))
  refine KM.callVM (As := [.int (nI j)]) (rest := [.int (nI 0), .ref o0]) (W0 := (fcW cI cS f0 a s fl c0 c1 n cs b r gl sv ad t f6 k)) (ws := ([(o0, .inl (cL, 1, .inr (.inl (lo xo))))] ++ (fcW cI cS f0 a s fl c0 c1 n cs b r gl sv ad t f6 k))) (ws' := fun (_ : Unit) => ([(o0, .inl (cL, 1, .inr (.inl (lo xo))))] ++ (fcW cI cS f0 a s fl c0 c1 n cs b r gl sv ad t f6 k))) C0 hN (k_X5_setting_ok l D cI cS cL T f0 a s fl c0 c1 n cs b r gl sv ad t f6 k j hI hT hk hn hcs hj) (cwV 1 hts gL_setting_X5_setting rfl rfl rfl (by decide +kernel) ⟨Nat.le_of_ble_eq_true rfl, Nat.le_of_ble_eq_true rfl⟩) hK hP hD hS hA (hm9 ()).1 (hm9 ()).2.1 (fun u => (hm9 u).2.2.1) (fun u => (hm9 u).2.2.2) 0 5 rfl rfl rfl rfl hl.1 rfl (Nat.le_of_ble_eq_true rfl) dL_setting_4 ⟨Nat.le_of_ble_eq_true rfl, Nat.le_of_ble_eq_true rfl⟩ (fun v9 u9 H locs hv hP hD hS => ?_)
  subst hv
  have hP : va_P D vwCl ([(o0, .inl (cL, 1, .inr (.inl (lo xo))))] ++ (fcW cI cS f0 a s fl c0 c1 n cs b r gl sv ad t f6 k)) H := hP
  have hD : va_D A9 ([(o0, .inl (cL, 1, .inr (.inl (lo xo))))] ++ (fcW cI cS f0 a s fl c0 c1 n cs b r gl sv ad t f6 k)) := hD
  refine W.eq (g2 := F0 m9 7 ls [.int (nI (seF s j)), .int (nI 0), .ref o0]) rfl ?_
  refine lv_i2l (v := (nI (seF s j)).toInt64) hx hb dL_setting_7 rfl ?_
  refine va_last (D := D) (i := nI 0) hx hb hK hP hD hS 0 2 rfl rfl (vp_in_nI (n := 0) (by decide) (by decide)) dL_setting_8 (fun H locs hP hD hS => ?_)
  rw [lo_up] at hP hD
  have hP : va_P D vwCl ([(o0, .inl (cL, 1, .inr (.inl (lo ((nI (seF s j)).toInt64)))))] ++ (fcW cI cS f0 a s fl c0 c1 n cs b r gl sv ad t f6 k)) H := hP
  have hD : va_D A9 ([(o0, .inl (cL, 1, .inr (.inl (lo ((nI (seF s j)).toInt64)))))] ++ (fcW cI cS f0 a s fl c0 c1 n cs b r gl sv ad t f6 k)) := hD
  refine lv_goto (tgt := 15) hx hb dL_setting_9 (by decide) ?_
  refine lv_iconst (v := nI 0) hx hb dL_setting_15 (by decide +kernel) ?_
  exact hret _ _ _ _ (some (.int (nI 0))) () 16 ls (by decide) (by decide) (by rfl) hP hD hS (ret_i dL_setting_16)

set_option maxHeartbeats 4000000 in
set_option maxRecDepth 100000 in
theorem k_L_setting_bad (l : Launch) (D : va_G) (cI cS cL : ClassId) (T : Nat) (f0 : Nat) (a : Nat → Nat) (s : Nat → Nat) (fl : Nat → Nat) (c0 : Nat) (c1 : Nat) (n : Nat) (cs : Nat → Nat) (b : Nat → Nat) (r : Nat → Nat) (gl : Nat → Nat) (sv : Nat) (ad : Nat → Nat → Nat) (t : Nat → Nat → Nat) (f6 : Nat → Nat → Nat) (k : Nat) (v1 : Int32) (o0 : Nat) (xo : Int64) (hst : l.stackTraces = false) (hI : sI T s) (hT : T ≤ 900000) (hk : k ≤ 6) (hn : n ≤ 60) (hcs : ∀ j, j < n → cs j < 2 ^ 31) (hbad : ¬ (inR v1 0 2)) : KC l D (TY cI cS cL) yL_setting wsL_setting ({ frames := 8, cells := 1, slots := 6, locals := 131 } : Room) ([(o0, .inl (cL, 1, .inr (.inl (lo xo))))] ++ (fcW cI cS f0 a s fl c0 c1 n cs b r gl sv ad t f6 k)) [.ref f0, .int v1, .ref o0] (fun (v : Option Value) (_ : Unit) => v = some (.int (nI 1))) (fun _ : Unit => ([(o0, .inl (cL, 1, .inr (.inl (lo xo))))] ++ (fcW cI cS f0 a s fl c0 c1 n cs b r gl sv ad t f6 k))) := by
  refine KC.of (cc := cL_setting) (maxL := 4) (ret := (some .int)) (hh := [(0, 9, 12, 13)]) (by decide) rfl (Nat.le_of_ble_eq_true rfl) ?_
  intro p9 e9 s9 m9 ar9 be9 me9 c9 Q9 A9 ls C0 hN hAm hXN hTab hnm hlk hK hA hret hP hD hS hl
  obtain ⟨hx, hb, hml, hown, hts⟩ := id C0
  have hl : lv_has ls 4 [(0, .ref f0), (1, .int v1), (2, .ref o0)] := hl
  obtain ⟨H, hH0⟩ : ∃ H, H = s9.heap := ⟨_, rfl⟩
  obtain ⟨locs, hlc0⟩ : ∃ z : List Loc, z = [] := ⟨_, rfl⟩
  have hP : va_P D vwCl ([(o0, .inl (cL, 1, .inr (.inl (lo xo))))] ++ (fcW cI cS f0 a s fl c0 c1 n cs b r gl sv ad t f6 k)) H := by rw [hH0]; exact hP
  have hD : va_D A9 ([(o0, .inl (cL, 1, .inr (.inl (lo xo))))] ++ (fcW cI cS f0 a s fl c0 c1 n cs b r gl sv ad t f6 k)) := hD
  have hS : va_S A9 s9.heap H locs := by rw [hH0, hlc0]; exact hS
  suffices hgo : W p9 l e9 ({ frames := 8, cells := 1, slots := 6, locals := 131 } : Room) s9 m9 ar9 be9 me9 c9 H locs 0 0 Q9 (F0 m9 0 ls []) by rw [hH0, hlc0] at hgo; exact hgo
  clear hH0 hlc0
  refine lv_aload_n hx hb dL_setting_0 rfl (lv_at hl 2 rfl) ?_
  refine lv_iconst (v := nI 0) hx hb dL_setting_1 (by decide +kernel) ?_
  refine lv_aload_n hx hb dL_setting_2 rfl (lv_at hl 0 rfl) ?_
  refine lv_iload_n hx hb dL_setting_3 rfl (lv_at hl 1 rfl) ?_
  have hm9 := fun (_ : Unit) => suf_mem (X' := (fcW cI cS f0 a s fl c0 c1 n cs b r gl sv ad t f6 k)) (R := [(o0, .inl (cL, 1, .inr (.inl (lo xo))))]) (show va_D A9 ([(o0, .inl (cL, 1, .inr (.inl (lo xo))))] ++ (fcW cI cS f0 a s fl c0 c1 n cs b r gl sv ad t f6 k)) from hD) (fcW_perm (List.Perm.refl _))
  refine KX.callVM (As := [.int v1]) (rest := [.int (nI 0), .ref o0]) (W0 := (fcW cI cS f0 a s fl c0 c1 n cs b r gl sv ad t f6 k)) (ws := ([(o0, .inl (cL, 1, .inr (.inl (lo xo))))] ++ (fcW cI cS f0 a s fl c0 c1 n cs b r gl sv ad t f6 k))) (ws' := fun (_ : Unit) => ([(o0, .inl (cL, 1, .inr (.inl (lo xo))))] ++ (fcW cI cS f0 a s fl c0 c1 n cs b r gl sv ad t f6 k))) C0 hN hAm (k_X5_setting_bad l D cI cS cL T f0 a s fl c0 c1 n cs b r gl sv ad t f6 k v1 hst hI hT hk hn hcs hbad) (cwV 1 hts gL_setting_X5_setting rfl rfl rfl (by decide +kernel) ⟨Nat.le_of_ble_eq_true rfl, Nat.le_of_ble_eq_true rfl⟩) hK hP hD hS hA (hm9 ()).1 (hm9 ()).2.1 (fun u => (hm9 u).2.2.1) (fun u => (hm9 u).2.2.2) 0 5 rfl rfl rfl rfl hl.1 rfl (Nat.le_of_ble_eq_true rfl) dL_setting_4 ⟨Nat.le_of_ble_eq_true rfl, Nat.le_of_ble_eq_true rfl⟩ (fun E ce q9 H locs hE hP hS hq9 hv9 hcl9 => ?_) (fun v9 u9 H locs hv hP hD hS => ?_)
  ·
    ·
      have hEe := hE
      subst hEe
      refine vx_catch (own := RL) (name := "java/lang/IndexOutOfBoundsException") hown [] ⟨0, 9, 12, 13⟩ [] (hTab.trans rfl) (fun z hz => absurd hz List.not_mem_nil) (by decide) (by decide) (hts (.classLink RL 13 "java/lang/IndexOutOfBoundsException") (by decide +kernel)) (va_Nw.use rfl (hAm.2.2.2.2.2.2 ("java/lang/IndexOutOfBoundsException", "java/lang/IndexOutOfBoundsException") (by decide))) hq9 hv9 hcl9 ?_
      refine lv_astore_n (lv' := [(3, .ref q9), (0, .ref f0), (1, .int v1), (2, .ref o0)]) hx hb dL_setting_12 rfl hl (by decide) rfl (fun ls hl => ?_)
      refine lv_iconst (v := nI 1) hx hb dL_setting_13 (by decide +kernel) ?_
      exact hret _ _ _ _ (some (.int (nI 1))) () 14 ls (by decide) (by decide) (by exact rv (by (repeat' split) <;> first | rfl | (exfalso; omega))) hP hD hS (ret_i dL_setting_14)
  · exact hv.1.elim

set_option maxHeartbeats 4000000 in
set_option maxRecDepth 100000 in
theorem k_L_refusal_ok (l : Launch) (D : va_G) (cI cS cL : ClassId) (T : Nat) (f0 : Nat) (a : Nat → Nat) (s : Nat → Nat) (fl : Nat → Nat) (c0 : Nat) (c1 : Nat) (n : Nat) (cs : Nat → Nat) (b : Nat → Nat) (r : Nat → Nat) (gl : Nat → Nat) (sv : Nat) (ad : Nat → Nat → Nat) (t : Nat → Nat → Nat) (f6 : Nat → Nat → Nat) (k : Nat) (q : Nat) (j : Nat) (x : Nat) (o0 : Nat) (xo : Int64) (hst : l.stackTraces = false) (hI : sI T s) (hT : T ≤ 900000) (hk : k ≤ 6) (hn : n ≤ 60) (hcs : ∀ j, j < n → cs j < 2 ^ 31) (hq : q ≤ 999) (hj : j < 8) (hx2 : x ≤ 10) : KC l D (TY cI cS cL) yL_refusal wsL_refusal ({ frames := 4, cells := 0, slots := 0, locals := 99 } : Room) ([(o0, .inl (cL, 1, .inr (.inl (lo xo))))] ++ (fcW cI cS f0 a s fl c0 c1 n cs b r gl sv ad t f6 k)) [.ref f0, .int (nI q), .int (nI j), .int (nI x), .ref o0] (fun (v : Option Value) (_ : Unit) => v = some (.int (nI 0))) (fun _ : Unit => ([(o0, .inl (cL, 1, .inr (.inl (lo ((nI (rS s q j x)).toInt64)))))] ++ (fcW cI cS f0 a s fl c0 c1 n cs b r gl sv ad t f6 k))) := by
  refine KC.of (cc := cL_refusal) (maxL := 6) (ret := (some .int)) (hh := [(0, 12, 15, 13), (0, 12, 19, 15)]) (by decide) rfl (Nat.le_of_ble_eq_true rfl) ?_
  intro p9 e9 s9 m9 ar9 be9 me9 c9 Q9 A9 ls C0 hN hAm hXN hTab hnm hlk hK hA hret hP hD hS hl
  obtain ⟨hx, hb, hml, hown, hts⟩ := id C0
  have hl : lv_has ls 6 [(0, .ref f0), (1, .int (nI q)), (2, .int (nI j)), (3, .int (nI x)), (4, .ref o0)] := hl
  obtain ⟨H, hH0⟩ : ∃ H, H = s9.heap := ⟨_, rfl⟩
  obtain ⟨locs, hlc0⟩ : ∃ z : List Loc, z = [] := ⟨_, rfl⟩
  have hP : va_P D vwCl ([(o0, .inl (cL, 1, .inr (.inl (lo xo))))] ++ (fcW cI cS f0 a s fl c0 c1 n cs b r gl sv ad t f6 k)) H := by rw [hH0]; exact hP
  have hD : va_D A9 ([(o0, .inl (cL, 1, .inr (.inl (lo xo))))] ++ (fcW cI cS f0 a s fl c0 c1 n cs b r gl sv ad t f6 k)) := hD
  have hS : va_S A9 s9.heap H locs := by rw [hH0, hlc0]; exact hS
  suffices hgo : W p9 l e9 ({ frames := 4, cells := 0, slots := 0, locals := 99 } : Room) s9 m9 ar9 be9 me9 c9 H locs 0 0 Q9 (F0 m9 0 ls []) by rw [hH0, hlc0] at hgo; exact hgo
  clear hH0 hlc0
  refine lv_aload hx hb dL_refusal_0 (lv_at hl 4 rfl) ?_
  refine lv_iconst (v := nI 0) hx hb dL_refusal_2 (by decide +kernel) ?_
  refine lv_aload_n hx hb dL_refusal_3 rfl (lv_at hl 0 rfl) ?_
  refine lv_iload_n hx hb dL_refusal_4 rfl (lv_at hl 1 rfl) ?_
  refine lv_iload_n hx hb dL_refusal_5 rfl (lv_at hl 2 rfl) ?_
  refine lv_iload_n hx hb dL_refusal_6 rfl (lv_at hl 3 rfl) ?_
  have hm9 := fun (_ : Unit) => suf_mem (X' := (fcW cI cS f0 a s fl c0 c1 n cs b r gl sv ad t f6 k)) (R := [(o0, .inl (cL, 1, .inr (.inl (lo xo))))]) (show va_D A9 ([(o0, .inl (cL, 1, .inr (.inl (lo xo))))] ++ (fcW cI cS f0 a s fl c0 c1 n cs b r gl sv ad t f6 k)) from hD) (fcW_perm (List.Perm.refl _))
  refine KM.callVM (As := [.int (nI q), .int (nI j), .int (nI x)]) (rest := [.int (nI 0), .ref o0]) (W0 := (fcW cI cS f0 a s fl c0 c1 n cs b r gl sv ad t f6 k)) (ws := ([(o0, .inl (cL, 1, .inr (.inl (lo xo))))] ++ (fcW cI cS f0 a s fl c0 c1 n cs b r gl sv ad t f6 k))) (ws' := fun (_ : Unit) => ([(o0, .inl (cL, 1, .inr (.inl (lo xo))))] ++ (fcW cI cS f0 a s fl c0 c1 n cs b r gl sv ad t f6 k))) C0 hN (k_X5_refusal_ok l D cI cS cL T f0 a s fl c0 c1 n cs b r gl sv ad t f6 k q j x hI hT hk hn hcs hq hj hx2) (cwV 3 hts gL_refusal_X5_refusal rfl rfl rfl (by decide +kernel) ⟨Nat.le_of_ble_eq_true rfl, Nat.le_of_ble_eq_true rfl⟩) hK hP hD hS hA (hm9 ()).1 (hm9 ()).2.1 (fun u => (hm9 u).2.2.1) (fun u => (hm9 u).2.2.2) 0 5 rfl rfl rfl rfl hl.1 rfl (Nat.le_of_ble_eq_true rfl) dL_refusal_7 ⟨Nat.le_of_ble_eq_true rfl, Nat.le_of_ble_eq_true rfl⟩ (fun v9 u9 H locs hv hP hD hS => ?_)
  subst hv
  have hP : va_P D vwCl ([(o0, .inl (cL, 1, .inr (.inl (lo xo))))] ++ (fcW cI cS f0 a s fl c0 c1 n cs b r gl sv ad t f6 k)) H := hP
  have hD : va_D A9 ([(o0, .inl (cL, 1, .inr (.inl (lo xo))))] ++ (fcW cI cS f0 a s fl c0 c1 n cs b r gl sv ad t f6 k)) := hD
  refine W.eq (g2 := F0 m9 10 ls [.int (nI (rS s q j x)), .int (nI 0), .ref o0]) rfl ?_
  refine lv_i2l (v := (nI (rS s q j x)).toInt64) hx hb dL_refusal_10 rfl ?_
  refine va_last (D := D) (i := nI 0) hx hb hK hP hD hS 0 2 rfl rfl (vp_in_nI (n := 0) (by decide) (by decide)) dL_refusal_11 (fun H locs hP hD hS => ?_)
  rw [lo_up] at hP hD
  have hP : va_P D vwCl ([(o0, .inl (cL, 1, .inr (.inl (lo ((nI (rS s q j x)).toInt64)))))] ++ (fcW cI cS f0 a s fl c0 c1 n cs b r gl sv ad t f6 k)) H := hP
  have hD : va_D A9 ([(o0, .inl (cL, 1, .inr (.inl (lo ((nI (rS s q j x)).toInt64)))))] ++ (fcW cI cS f0 a s fl c0 c1 n cs b r gl sv ad t f6 k)) := hD
  refine lv_goto (tgt := 23) hx hb dL_refusal_12 (by decide) ?_
  refine lv_iconst (v := nI 0) hx hb dL_refusal_23 (by decide +kernel) ?_
  exact hret _ _ _ _ (some (.int (nI 0))) () 24 ls (by decide) (by decide) (by rfl) hP hD hS (ret_i dL_refusal_24)

set_option maxHeartbeats 4000000 in
set_option maxRecDepth 100000 in
theorem k_L_refusal_bad (l : Launch) (D : va_G) (cI cS cL : ClassId) (T : Nat) (f0 : Nat) (a : Nat → Nat) (s : Nat → Nat) (fl : Nat → Nat) (c0 : Nat) (c1 : Nat) (n : Nat) (cs : Nat → Nat) (b : Nat → Nat) (r : Nat → Nat) (gl : Nat → Nat) (sv : Nat) (ad : Nat → Nat → Nat) (t : Nat → Nat → Nat) (f6 : Nat → Nat → Nat) (k : Nat) (v1 : Int32) (v2 : Int32) (v3 : Int32) (o0 : Nat) (xo : Int64) (hst : l.stackTraces = false) (hI : sI T s) (hT : T ≤ 900000) (hk : k ≤ 6) (hn : n ≤ 60) (hcs : ∀ j, j < n → cs j < 2 ^ 31) (hbad : ¬ (inR v2 0 7 ∧ inR v1 0 999 ∧ inR v3 0 10)) : KC l D (TY cI cS cL) yL_refusal wsL_refusal ({ frames := 9, cells := 3, slots := 18, locals := 157 } : Room) ([(o0, .inl (cL, 1, .inr (.inl (lo xo))))] ++ (fcW cI cS f0 a s fl c0 c1 n cs b r gl sv ad t f6 k)) [.ref f0, .int v1, .int v2, .int v3, .ref o0] (fun (v : Option Value) (_ : Unit) => v = some (.int (nI (if inR v2 0 7 then 2 else 1)))) (fun _ : Unit => ([(o0, .inl (cL, 1, .inr (.inl (lo xo))))] ++ (fcW cI cS f0 a s fl c0 c1 n cs b r gl sv ad t f6 k))) := by
  refine KC.of (cc := cL_refusal) (maxL := 6) (ret := (some .int)) (hh := [(0, 12, 15, 13), (0, 12, 19, 15)]) (by decide) rfl (Nat.le_of_ble_eq_true rfl) ?_
  intro p9 e9 s9 m9 ar9 be9 me9 c9 Q9 A9 ls C0 hN hAm hXN hTab hnm hlk hK hA hret hP hD hS hl
  obtain ⟨hx, hb, hml, hown, hts⟩ := id C0
  have hl : lv_has ls 6 [(0, .ref f0), (1, .int v1), (2, .int v2), (3, .int v3), (4, .ref o0)] := hl
  obtain ⟨H, hH0⟩ : ∃ H, H = s9.heap := ⟨_, rfl⟩
  obtain ⟨locs, hlc0⟩ : ∃ z : List Loc, z = [] := ⟨_, rfl⟩
  have hP : va_P D vwCl ([(o0, .inl (cL, 1, .inr (.inl (lo xo))))] ++ (fcW cI cS f0 a s fl c0 c1 n cs b r gl sv ad t f6 k)) H := by rw [hH0]; exact hP
  have hD : va_D A9 ([(o0, .inl (cL, 1, .inr (.inl (lo xo))))] ++ (fcW cI cS f0 a s fl c0 c1 n cs b r gl sv ad t f6 k)) := hD
  have hS : va_S A9 s9.heap H locs := by rw [hH0, hlc0]; exact hS
  suffices hgo : W p9 l e9 ({ frames := 9, cells := 3, slots := 18, locals := 157 } : Room) s9 m9 ar9 be9 me9 c9 H locs 0 0 Q9 (F0 m9 0 ls []) by rw [hH0, hlc0] at hgo; exact hgo
  clear hH0 hlc0
  refine lv_aload hx hb dL_refusal_0 (lv_at hl 4 rfl) ?_
  refine lv_iconst (v := nI 0) hx hb dL_refusal_2 (by decide +kernel) ?_
  refine lv_aload_n hx hb dL_refusal_3 rfl (lv_at hl 0 rfl) ?_
  refine lv_iload_n hx hb dL_refusal_4 rfl (lv_at hl 1 rfl) ?_
  refine lv_iload_n hx hb dL_refusal_5 rfl (lv_at hl 2 rfl) ?_
  refine lv_iload_n hx hb dL_refusal_6 rfl (lv_at hl 3 rfl) ?_
  have hm9 := fun (_ : Unit) => suf_mem (X' := (fcW cI cS f0 a s fl c0 c1 n cs b r gl sv ad t f6 k)) (R := [(o0, .inl (cL, 1, .inr (.inl (lo xo))))]) (show va_D A9 ([(o0, .inl (cL, 1, .inr (.inl (lo xo))))] ++ (fcW cI cS f0 a s fl c0 c1 n cs b r gl sv ad t f6 k)) from hD) (fcW_perm (List.Perm.refl _))
  refine KX.callVM (As := [.int v1, .int v2, .int v3]) (rest := [.int (nI 0), .ref o0]) (W0 := (fcW cI cS f0 a s fl c0 c1 n cs b r gl sv ad t f6 k)) (ws := ([(o0, .inl (cL, 1, .inr (.inl (lo xo))))] ++ (fcW cI cS f0 a s fl c0 c1 n cs b r gl sv ad t f6 k))) (ws' := fun (_ : Unit) => ([(o0, .inl (cL, 1, .inr (.inl (lo xo))))] ++ (fcW cI cS f0 a s fl c0 c1 n cs b r gl sv ad t f6 k))) C0 hN hAm (k_X5_refusal_bad l D cI cS cL T f0 a s fl c0 c1 n cs b r gl sv ad t f6 k v1 v2 v3 hst hI hT hk hn hcs hbad) (cwV 3 hts gL_refusal_X5_refusal rfl rfl rfl (by decide +kernel) ⟨Nat.le_of_ble_eq_true rfl, Nat.le_of_ble_eq_true rfl⟩) hK hP hD hS hA (hm9 ()).1 (hm9 ()).2.1 (fun u => (hm9 u).2.2.1) (fun u => (hm9 u).2.2.2) 0 5 rfl rfl rfl rfl hl.1 rfl (Nat.le_of_ble_eq_true rfl) dL_refusal_7 ⟨Nat.le_of_ble_eq_true rfl, Nat.le_of_ble_eq_true rfl⟩ (fun E ce q9 H locs hE hP hS hq9 hv9 hcl9 => ?_) (fun v9 u9 H locs hv hP hD hS => ?_)
  ·
    rcases hE with hE | hE
    ·
      obtain ⟨hEe, hEc⟩ := hE
      subst hEe
      refine vx_catch (own := RL) (name := "java/lang/IndexOutOfBoundsException") hown [] ⟨0, 12, 15, 13⟩ [⟨0, 12, 19, 15⟩] (hTab.trans rfl) (fun z hz => absurd hz List.not_mem_nil) (by decide) (by decide) (hts (.classLink RL 13 "java/lang/IndexOutOfBoundsException") (by decide +kernel)) (va_Nw.use rfl (hAm.2.2.2.2.2.2 ("java/lang/IndexOutOfBoundsException", "java/lang/IndexOutOfBoundsException") (by decide))) hq9 hv9 hcl9 ?_
      refine lv_astore (lv' := [(5, .ref q9), (0, .ref f0), (1, .int v1), (2, .int v2), (3, .int v3), (4, .ref o0)]) hx hb dL_refusal_15 hl (by decide) rfl (fun ls hl => ?_)
      refine lv_iconst (v := nI 1) hx hb dL_refusal_17 (by decide +kernel) ?_
      exact hret _ _ _ _ (some (.int (nI 1))) () 18 ls (by decide) (by decide) (by exact rv (by (repeat' split) <;> first | rfl | (exfalso; omega))) hP hD hS (ret_i dL_refusal_18)
    ·
      obtain ⟨hEe, hEc⟩ := hE
      subst hEe
      refine vx_catch (own := RL) (name := "java/lang/IllegalArgumentException") hown [⟨0, 12, 15, 13⟩] ⟨0, 12, 19, 15⟩ [] (hTab.trans rfl) (fun z hz => Or.inr (by rw [List.mem_singleton.mp hz]; exact ⟨by decide, "java/lang/IndexOutOfBoundsException", hts (.classLink RL 13 "java/lang/IndexOutOfBoundsException") (by decide +kernel), hXN ("java/lang/IllegalArgumentException", "java/lang/IndexOutOfBoundsException") (by decide)⟩)) (by decide) (by decide) (hts (.classLink RL 15 "java/lang/IllegalArgumentException") (by decide +kernel)) (va_Nw.use rfl (hAm.2.2.2.2.2.2 ("java/lang/IllegalArgumentException", "java/lang/IllegalArgumentException") (by decide))) hq9 hv9 hcl9 ?_
      refine lv_astore (lv' := [(5, .ref q9), (0, .ref f0), (1, .int v1), (2, .int v2), (3, .int v3), (4, .ref o0)]) hx hb dL_refusal_19 hl (by decide) rfl (fun ls hl => ?_)
      refine lv_iconst (v := nI 2) hx hb dL_refusal_21 (by decide +kernel) ?_
      exact hret _ _ _ _ (some (.int (nI 2))) () 22 ls (by decide) (by decide) (by exact rv (by (repeat' split) <;> first | rfl | (exfalso; omega))) hP hD hS (ret_i dL_refusal_22)
  · exact hv.1.elim

set_option maxHeartbeats 4000000 in
set_option maxRecDepth 100000 in
theorem k_L_ifPlayed_ok (l : Launch) (D : va_G) (cI cS cL : ClassId) (T : Nat) (f0 : Nat) (a : Nat → Nat) (s : Nat → Nat) (fl : Nat → Nat) (c0 : Nat) (c1 : Nat) (n : Nat) (cs : Nat → Nat) (b : Nat → Nat) (r : Nat → Nat) (gl : Nat → Nat) (sv : Nat) (ad : Nat → Nat → Nat) (t : Nat → Nat → Nat) (f6 : Nat → Nat → Nat) (k : Nat) (x : Nat) (y : Nat) (o0 : Nat) (xo : Int64) (hst : l.stackTraces = false) (hI : sI T s) (hT : T ≤ 900000) (hk : k ≤ 6) (hn : n ≤ 60) (hcs : ∀ j, j < n → cs j < 2 ^ 31) (hx1 : 1 ≤ x) (hx2 : x ≤ 100) (hy2 : y ≤ 3) : KC l D (TY cI cS cL) yL_ifPlayed wsL_ifPlayed ({ frames := 7, cells := 0, slots := 0, locals := 159 } : Room) ([(o0, .inl (cL, 1, .inr (.inl (lo xo))))] ++ (fcW cI cS f0 a s fl c0 c1 n cs b r gl sv ad t f6 k)) [.ref f0, .int (nI x), .int (nI y), .ref o0] (fun (v : Option Value) (z : Nat → Nat) => v = some (.int (nI 0))) (fun (z : Nat → Nat) => ([(o0, .inl (cL, 1, .inr (.inl (lo ((nI (ifpS s x y)).toInt64)))))] ++ (fcW cI cS f0 a s fl c0 c1 n cs b (mPlay x (mZero s)) z sv ad t f6 k))) := by
  refine KC.of (cc := cL_ifPlayed) (maxL := 5) (ret := (some .int)) (hh := [(0, 10, 13, 15)]) (by decide) rfl (Nat.le_of_ble_eq_true rfl) ?_
  intro p9 e9 s9 m9 ar9 be9 me9 c9 Q9 A9 ls C0 hN hAm hXN hTab hnm hlk hK hA hret hP hD hS hl
  obtain ⟨hx, hb, hml, hown, hts⟩ := id C0
  have hl : lv_has ls 5 [(0, .ref f0), (1, .int (nI x)), (2, .int (nI y)), (3, .ref o0)] := hl
  obtain ⟨H, hH0⟩ : ∃ H, H = s9.heap := ⟨_, rfl⟩
  obtain ⟨locs, hlc0⟩ : ∃ z : List Loc, z = [] := ⟨_, rfl⟩
  have hP : va_P D vwCl ([(o0, .inl (cL, 1, .inr (.inl (lo xo))))] ++ (fcW cI cS f0 a s fl c0 c1 n cs b r gl sv ad t f6 k)) H := by rw [hH0]; exact hP
  have hD : va_D A9 ([(o0, .inl (cL, 1, .inr (.inl (lo xo))))] ++ (fcW cI cS f0 a s fl c0 c1 n cs b r gl sv ad t f6 k)) := hD
  have hS : va_S A9 s9.heap H locs := by rw [hH0, hlc0]; exact hS
  suffices hgo : W p9 l e9 ({ frames := 7, cells := 0, slots := 0, locals := 159 } : Room) s9 m9 ar9 be9 me9 c9 H locs 0 0 Q9 (F0 m9 0 ls []) by rw [hH0, hlc0] at hgo; exact hgo
  clear hH0 hlc0
  refine lv_aload_n hx hb dL_ifPlayed_0 rfl (lv_at hl 3 rfl) ?_
  refine lv_iconst (v := nI 0) hx hb dL_ifPlayed_1 (by decide +kernel) ?_
  refine lv_aload_n hx hb dL_ifPlayed_2 rfl (lv_at hl 0 rfl) ?_
  refine lv_iload_n hx hb dL_ifPlayed_3 rfl (lv_at hl 1 rfl) ?_
  refine lv_iload_n hx hb dL_ifPlayed_4 rfl (lv_at hl 2 rfl) ?_
  have hm9 := fun (z : Nat → Nat) => suf_mem (X' := (fcW cI cS f0 a s fl c0 c1 n cs b (mPlay x (mZero s)) z sv ad t f6 k)) (R := [(o0, .inl (cL, 1, .inr (.inl (lo xo))))]) (show va_D A9 ([(o0, .inl (cL, 1, .inr (.inl (lo xo))))] ++ (fcW cI cS f0 a s fl c0 c1 n cs b r gl sv ad t f6 k)) from hD) (fcW_perm (List.Perm.refl _))
  refine KM.callVM (As := [.int (nI x), .int (nI y)]) (rest := [.int (nI 0), .ref o0]) (W0 := (fcW cI cS f0 a s fl c0 c1 n cs b r gl sv ad t f6 k)) (ws := ([(o0, .inl (cL, 1, .inr (.inl (lo xo))))] ++ (fcW cI cS f0 a s fl c0 c1 n cs b r gl sv ad t f6 k))) (ws' := fun (z : Nat → Nat) => ([(o0, .inl (cL, 1, .inr (.inl (lo xo))))] ++ (fcW cI cS f0 a s fl c0 c1 n cs b (mPlay x (mZero s)) z sv ad t f6 k))) C0 hN (k_X5_ifPlayed_ok l D cI cS cL T f0 a s fl c0 c1 n cs b r gl sv ad t f6 k x y hI hT hk hn hcs hx1 hx2 hy2) (cwV 2 hts gL_ifPlayed_X5_ifPlayed rfl rfl rfl (by decide +kernel) ⟨Nat.le_of_ble_eq_true rfl, Nat.le_of_ble_eq_true rfl⟩) hK hP hD hS hA (hm9 (fun _ => 0)).1 (hm9 (fun _ => 0)).2.1 (fun u => (hm9 u).2.2.1) (fun u => (hm9 u).2.2.2) 0 5 rfl rfl rfl rfl hl.1 rfl (Nat.le_of_ble_eq_true rfl) dL_ifPlayed_5 ⟨Nat.le_of_ble_eq_true rfl, Nat.le_of_ble_eq_true rfl⟩ (fun v9 u9 H locs hv hP hD hS => ?_)
  obtain ⟨z, rfl⟩ : ∃ z, z = u9 := ⟨_, rfl⟩
  subst hv
  have hP : va_P D vwCl ([(o0, .inl (cL, 1, .inr (.inl (lo xo))))] ++ (fcW cI cS f0 a s fl c0 c1 n cs b (mPlay x (mZero s)) z sv ad t f6 k)) H := hP
  have hD : va_D A9 ([(o0, .inl (cL, 1, .inr (.inl (lo xo))))] ++ (fcW cI cS f0 a s fl c0 c1 n cs b (mPlay x (mZero s)) z sv ad t f6 k)) := hD
  refine W.eq (g2 := F0 m9 8 ls [.int (nI (ifpS s x y)), .int (nI 0), .ref o0]) rfl ?_
  refine lv_i2l (v := (nI (ifpS s x y)).toInt64) hx hb dL_ifPlayed_8 rfl ?_
  refine va_last (D := D) (i := nI 0) hx hb hK hP hD hS 0 2 rfl rfl (vp_in_nI (n := 0) (by decide) (by decide)) dL_ifPlayed_9 (fun H locs hP hD hS => ?_)
  rw [lo_up] at hP hD
  have hP : va_P D vwCl ([(o0, .inl (cL, 1, .inr (.inl (lo ((nI (ifpS s x y)).toInt64)))))] ++ (fcW cI cS f0 a s fl c0 c1 n cs b (mPlay x (mZero s)) z sv ad t f6 k)) H := hP
  have hD : va_D A9 ([(o0, .inl (cL, 1, .inr (.inl (lo ((nI (ifpS s x y)).toInt64)))))] ++ (fcW cI cS f0 a s fl c0 c1 n cs b (mPlay x (mZero s)) z sv ad t f6 k)) := hD
  refine lv_goto (tgt := 17) hx hb dL_ifPlayed_10 (by decide) ?_
  refine lv_iconst (v := nI 0) hx hb dL_ifPlayed_17 (by decide +kernel) ?_
  exact hret _ _ _ _ (some (.int (nI 0))) z 18 ls (by decide) (by decide) (by rfl) hP hD hS (ret_i dL_ifPlayed_18)

set_option maxHeartbeats 4000000 in
set_option maxRecDepth 100000 in
theorem k_L_ifPlayed_bad (l : Launch) (D : va_G) (cI cS cL : ClassId) (T : Nat) (f0 : Nat) (a : Nat → Nat) (s : Nat → Nat) (fl : Nat → Nat) (c0 : Nat) (c1 : Nat) (n : Nat) (cs : Nat → Nat) (b : Nat → Nat) (r : Nat → Nat) (gl : Nat → Nat) (sv : Nat) (ad : Nat → Nat → Nat) (t : Nat → Nat → Nat) (f6 : Nat → Nat → Nat) (k : Nat) (v1 : Int32) (v2 : Int32) (o0 : Nat) (xo : Int64) (hst : l.stackTraces = false) (hI : sI T s) (hT : T ≤ 900000) (hk : k ≤ 6) (hn : n ≤ 60) (hcs : ∀ j, j < n → cs j < 2 ^ 31) (hbad : ¬ (inR v1 1 100 ∧ inR v2 0 3)) : KC l D (TY cI cS cL) yL_ifPlayed wsL_ifPlayed ({ frames := 8, cells := 2, slots := 12, locals := 134 } : Room) ([(o0, .inl (cL, 1, .inr (.inl (lo xo))))] ++ (fcW cI cS f0 a s fl c0 c1 n cs b r gl sv ad t f6 k)) [.ref f0, .int v1, .int v2, .ref o0] (fun (v : Option Value) (_ : Unit) => v = some (.int (nI 1))) (fun _ : Unit => ([(o0, .inl (cL, 1, .inr (.inl (lo xo))))] ++ (fcW cI cS f0 a s fl c0 c1 n cs b r gl sv ad t f6 k))) := by
  refine KC.of (cc := cL_ifPlayed) (maxL := 5) (ret := (some .int)) (hh := [(0, 10, 13, 15)]) (by decide) rfl (Nat.le_of_ble_eq_true rfl) ?_
  intro p9 e9 s9 m9 ar9 be9 me9 c9 Q9 A9 ls C0 hN hAm hXN hTab hnm hlk hK hA hret hP hD hS hl
  obtain ⟨hx, hb, hml, hown, hts⟩ := id C0
  have hl : lv_has ls 5 [(0, .ref f0), (1, .int v1), (2, .int v2), (3, .ref o0)] := hl
  obtain ⟨H, hH0⟩ : ∃ H, H = s9.heap := ⟨_, rfl⟩
  obtain ⟨locs, hlc0⟩ : ∃ z : List Loc, z = [] := ⟨_, rfl⟩
  have hP : va_P D vwCl ([(o0, .inl (cL, 1, .inr (.inl (lo xo))))] ++ (fcW cI cS f0 a s fl c0 c1 n cs b r gl sv ad t f6 k)) H := by rw [hH0]; exact hP
  have hD : va_D A9 ([(o0, .inl (cL, 1, .inr (.inl (lo xo))))] ++ (fcW cI cS f0 a s fl c0 c1 n cs b r gl sv ad t f6 k)) := hD
  have hS : va_S A9 s9.heap H locs := by rw [hH0, hlc0]; exact hS
  suffices hgo : W p9 l e9 ({ frames := 8, cells := 2, slots := 12, locals := 134 } : Room) s9 m9 ar9 be9 me9 c9 H locs 0 0 Q9 (F0 m9 0 ls []) by rw [hH0, hlc0] at hgo; exact hgo
  clear hH0 hlc0
  refine lv_aload_n hx hb dL_ifPlayed_0 rfl (lv_at hl 3 rfl) ?_
  refine lv_iconst (v := nI 0) hx hb dL_ifPlayed_1 (by decide +kernel) ?_
  refine lv_aload_n hx hb dL_ifPlayed_2 rfl (lv_at hl 0 rfl) ?_
  refine lv_iload_n hx hb dL_ifPlayed_3 rfl (lv_at hl 1 rfl) ?_
  refine lv_iload_n hx hb dL_ifPlayed_4 rfl (lv_at hl 2 rfl) ?_
  have hm9 := fun (_ : Unit) => suf_mem (X' := (fcW cI cS f0 a s fl c0 c1 n cs b r gl sv ad t f6 k)) (R := [(o0, .inl (cL, 1, .inr (.inl (lo xo))))]) (show va_D A9 ([(o0, .inl (cL, 1, .inr (.inl (lo xo))))] ++ (fcW cI cS f0 a s fl c0 c1 n cs b r gl sv ad t f6 k)) from hD) (fcW_perm (List.Perm.refl _))
  refine KX.callVM (As := [.int v1, .int v2]) (rest := [.int (nI 0), .ref o0]) (W0 := (fcW cI cS f0 a s fl c0 c1 n cs b r gl sv ad t f6 k)) (ws := ([(o0, .inl (cL, 1, .inr (.inl (lo xo))))] ++ (fcW cI cS f0 a s fl c0 c1 n cs b r gl sv ad t f6 k))) (ws' := fun (_ : Unit) => ([(o0, .inl (cL, 1, .inr (.inl (lo xo))))] ++ (fcW cI cS f0 a s fl c0 c1 n cs b r gl sv ad t f6 k))) C0 hN hAm (k_X5_ifPlayed_bad l D cI cS cL T f0 a s fl c0 c1 n cs b r gl sv ad t f6 k v1 v2 hst hI hT hk hn hcs hbad) (cwV 2 hts gL_ifPlayed_X5_ifPlayed rfl rfl rfl (by decide +kernel) ⟨Nat.le_of_ble_eq_true rfl, Nat.le_of_ble_eq_true rfl⟩) hK hP hD hS hA (hm9 ()).1 (hm9 ()).2.1 (fun u => (hm9 u).2.2.1) (fun u => (hm9 u).2.2.2) 0 5 rfl rfl rfl rfl hl.1 rfl (Nat.le_of_ble_eq_true rfl) dL_ifPlayed_5 ⟨Nat.le_of_ble_eq_true rfl, Nat.le_of_ble_eq_true rfl⟩ (fun E ce q9 H locs hE hP hS hq9 hv9 hcl9 => ?_) (fun v9 u9 H locs hv hP hD hS => ?_)
  ·
    ·
      have hEe := hE
      subst hEe
      refine vx_catch (own := RL) (name := "java/lang/IllegalArgumentException") hown [] ⟨0, 10, 13, 15⟩ [] (hTab.trans rfl) (fun z hz => absurd hz List.not_mem_nil) (by decide) (by decide) (hts (.classLink RL 15 "java/lang/IllegalArgumentException") (by decide +kernel)) (va_Nw.use rfl (hAm.2.2.2.2.2.2 ("java/lang/IllegalArgumentException", "java/lang/IllegalArgumentException") (by decide))) hq9 hv9 hcl9 ?_
      refine lv_astore (lv' := [(4, .ref q9), (0, .ref f0), (1, .int v1), (2, .int v2), (3, .ref o0)]) hx hb dL_ifPlayed_13 hl (by decide) rfl (fun ls hl => ?_)
      refine lv_iconst (v := nI 1) hx hb dL_ifPlayed_15 (by decide +kernel) ?_
      exact hret _ _ _ _ (some (.int (nI 1))) () 16 ls (by decide) (by decide) (by exact rv (by (repeat' split) <;> first | rfl | (exfalso; omega))) hP hD hS (ret_i dL_ifPlayed_16)
  · exact hv.1.elim

set_option maxHeartbeats 4000000 in
set_option maxRecDepth 100000 in
theorem k_L_mostAim_ok (l : Launch) (D : va_G) (cI cS cL : ClassId) (T : Nat) (f0 : Nat) (a : Nat → Nat) (s : Nat → Nat) (fl : Nat → Nat) (c0 : Nat) (c1 : Nat) (n : Nat) (cs : Nat → Nat) (b : Nat → Nat) (r : Nat → Nat) (gl : Nat → Nat) (sv : Nat) (ad : Nat → Nat → Nat) (t : Nat → Nat → Nat) (f6 : Nat → Nat → Nat) (k : Nat) (q : Nat) (j : Nat) (o0 : Nat) (xo : Int64) (hst : l.stackTraces = false) (hI : sI T s) (hT : T ≤ 900000) (hk : k ≤ 6) (hn : n ≤ 60) (hcs : ∀ j, j < n → cs j < 2 ^ 31) (hq : q ≤ 999) (hj : j < 8) : KC l D (TY cI cS cL) yL_mostAim wsL_mostAim ({ frames := 4, cells := 0, slots := 0, locals := 99 } : Room) ([(o0, .inl (cL, 1, .inr (.inl (lo xo))))] ++ (fcW cI cS f0 a s fl c0 c1 n cs b r gl sv ad t f6 k)) [.ref f0, .int (nI q), .int (nI j), .ref o0] (fun (v : Option Value) (_ : Unit) => v = some (.int (nI 0))) (fun _ : Unit => ([(o0, .inl (cL, 1, .inr (.inl (lo ((mostD s q j 11).toInt64)))))] ++ (fcW cI cS f0 a s fl c0 c1 n cs b r gl sv ad t f6 k))) := by
  refine KC.of (cc := cL_mostAim) (maxL := 5) (ret := (some .int)) (hh := [(0, 10, 13, 13), (0, 10, 17, 15)]) (by decide) rfl (Nat.le_of_ble_eq_true rfl) ?_
  intro p9 e9 s9 m9 ar9 be9 me9 c9 Q9 A9 ls C0 hN hAm hXN hTab hnm hlk hK hA hret hP hD hS hl
  obtain ⟨hx, hb, hml, hown, hts⟩ := id C0
  have hl : lv_has ls 5 [(0, .ref f0), (1, .int (nI q)), (2, .int (nI j)), (3, .ref o0)] := hl
  obtain ⟨H, hH0⟩ : ∃ H, H = s9.heap := ⟨_, rfl⟩
  obtain ⟨locs, hlc0⟩ : ∃ z : List Loc, z = [] := ⟨_, rfl⟩
  have hP : va_P D vwCl ([(o0, .inl (cL, 1, .inr (.inl (lo xo))))] ++ (fcW cI cS f0 a s fl c0 c1 n cs b r gl sv ad t f6 k)) H := by rw [hH0]; exact hP
  have hD : va_D A9 ([(o0, .inl (cL, 1, .inr (.inl (lo xo))))] ++ (fcW cI cS f0 a s fl c0 c1 n cs b r gl sv ad t f6 k)) := hD
  have hS : va_S A9 s9.heap H locs := by rw [hH0, hlc0]; exact hS
  suffices hgo : W p9 l e9 ({ frames := 4, cells := 0, slots := 0, locals := 99 } : Room) s9 m9 ar9 be9 me9 c9 H locs 0 0 Q9 (F0 m9 0 ls []) by rw [hH0, hlc0] at hgo; exact hgo
  clear hH0 hlc0
  refine lv_aload_n hx hb dL_mostAim_0 rfl (lv_at hl 3 rfl) ?_
  refine lv_iconst (v := nI 0) hx hb dL_mostAim_1 (by decide +kernel) ?_
  refine lv_aload_n hx hb dL_mostAim_2 rfl (lv_at hl 0 rfl) ?_
  refine lv_iload_n hx hb dL_mostAim_3 rfl (lv_at hl 1 rfl) ?_
  refine lv_iload_n hx hb dL_mostAim_4 rfl (lv_at hl 2 rfl) ?_
  have hm9 := fun (_ : Unit) => suf_mem (X' := (fcW cI cS f0 a s fl c0 c1 n cs b r gl sv ad t f6 k)) (R := [(o0, .inl (cL, 1, .inr (.inl (lo xo))))]) (show va_D A9 ([(o0, .inl (cL, 1, .inr (.inl (lo xo))))] ++ (fcW cI cS f0 a s fl c0 c1 n cs b r gl sv ad t f6 k)) from hD) (fcW_perm (List.Perm.refl _))
  refine KM.callVM (As := [.int (nI q), .int (nI j)]) (rest := [.int (nI 0), .ref o0]) (W0 := (fcW cI cS f0 a s fl c0 c1 n cs b r gl sv ad t f6 k)) (ws := ([(o0, .inl (cL, 1, .inr (.inl (lo xo))))] ++ (fcW cI cS f0 a s fl c0 c1 n cs b r gl sv ad t f6 k))) (ws' := fun (_ : Unit) => ([(o0, .inl (cL, 1, .inr (.inl (lo xo))))] ++ (fcW cI cS f0 a s fl c0 c1 n cs b r gl sv ad t f6 k))) C0 hN (k_X5_mostAim_ok l D cI cS cL T f0 a s fl c0 c1 n cs b r gl sv ad t f6 k q j hI hT hk hn hcs hq hj) (cwV 2 hts gL_mostAim_X5_mostAim rfl rfl rfl (by decide +kernel) ⟨Nat.le_of_ble_eq_true rfl, Nat.le_of_ble_eq_true rfl⟩) hK hP hD hS hA (hm9 ()).1 (hm9 ()).2.1 (fun u => (hm9 u).2.2.1) (fun u => (hm9 u).2.2.2) 0 5 rfl rfl rfl rfl hl.1 rfl (Nat.le_of_ble_eq_true rfl) dL_mostAim_5 ⟨Nat.le_of_ble_eq_true rfl, Nat.le_of_ble_eq_true rfl⟩ (fun v9 u9 H locs hv hP hD hS => ?_)
  subst hv
  have hP : va_P D vwCl ([(o0, .inl (cL, 1, .inr (.inl (lo xo))))] ++ (fcW cI cS f0 a s fl c0 c1 n cs b r gl sv ad t f6 k)) H := hP
  have hD : va_D A9 ([(o0, .inl (cL, 1, .inr (.inl (lo xo))))] ++ (fcW cI cS f0 a s fl c0 c1 n cs b r gl sv ad t f6 k)) := hD
  refine W.eq (g2 := F0 m9 8 ls [.int (mostD s q j 11), .int (nI 0), .ref o0]) rfl ?_
  refine lv_i2l (v := (mostD s q j 11).toInt64) hx hb dL_mostAim_8 rfl ?_
  refine va_last (D := D) (i := nI 0) hx hb hK hP hD hS 0 2 rfl rfl (vp_in_nI (n := 0) (by decide) (by decide)) dL_mostAim_9 (fun H locs hP hD hS => ?_)
  rw [lo_up] at hP hD
  have hP : va_P D vwCl ([(o0, .inl (cL, 1, .inr (.inl (lo ((mostD s q j 11).toInt64)))))] ++ (fcW cI cS f0 a s fl c0 c1 n cs b r gl sv ad t f6 k)) H := hP
  have hD : va_D A9 ([(o0, .inl (cL, 1, .inr (.inl (lo ((mostD s q j 11).toInt64)))))] ++ (fcW cI cS f0 a s fl c0 c1 n cs b r gl sv ad t f6 k)) := hD
  refine lv_goto (tgt := 21) hx hb dL_mostAim_10 (by decide) ?_
  refine lv_iconst (v := nI 0) hx hb dL_mostAim_21 (by decide +kernel) ?_
  exact hret _ _ _ _ (some (.int (nI 0))) () 22 ls (by decide) (by decide) (by rfl) hP hD hS (ret_i dL_mostAim_22)

set_option maxHeartbeats 4000000 in
set_option maxRecDepth 100000 in
theorem k_L_mostAim_bad (l : Launch) (D : va_G) (cI cS cL : ClassId) (T : Nat) (f0 : Nat) (a : Nat → Nat) (s : Nat → Nat) (fl : Nat → Nat) (c0 : Nat) (c1 : Nat) (n : Nat) (cs : Nat → Nat) (b : Nat → Nat) (r : Nat → Nat) (gl : Nat → Nat) (sv : Nat) (ad : Nat → Nat → Nat) (t : Nat → Nat → Nat) (f6 : Nat → Nat → Nat) (k : Nat) (v1 : Int32) (v2 : Int32) (o0 : Nat) (xo : Int64) (hst : l.stackTraces = false) (hI : sI T s) (hT : T ≤ 900000) (hk : k ≤ 6) (hn : n ≤ 60) (hcs : ∀ j, j < n → cs j < 2 ^ 31) (hbad : ¬ (inR v2 0 7 ∧ inR v1 0 999)) : KC l D (TY cI cS cL) yL_mostAim wsL_mostAim ({ frames := 9, cells := 3, slots := 18, locals := 157 } : Room) ([(o0, .inl (cL, 1, .inr (.inl (lo xo))))] ++ (fcW cI cS f0 a s fl c0 c1 n cs b r gl sv ad t f6 k)) [.ref f0, .int v1, .int v2, .ref o0] (fun (v : Option Value) (_ : Unit) => v = some (.int (nI (if inR v2 0 7 then 2 else 1)))) (fun _ : Unit => ([(o0, .inl (cL, 1, .inr (.inl (lo xo))))] ++ (fcW cI cS f0 a s fl c0 c1 n cs b r gl sv ad t f6 k))) := by
  refine KC.of (cc := cL_mostAim) (maxL := 5) (ret := (some .int)) (hh := [(0, 10, 13, 13), (0, 10, 17, 15)]) (by decide) rfl (Nat.le_of_ble_eq_true rfl) ?_
  intro p9 e9 s9 m9 ar9 be9 me9 c9 Q9 A9 ls C0 hN hAm hXN hTab hnm hlk hK hA hret hP hD hS hl
  obtain ⟨hx, hb, hml, hown, hts⟩ := id C0
  have hl : lv_has ls 5 [(0, .ref f0), (1, .int v1), (2, .int v2), (3, .ref o0)] := hl
  obtain ⟨H, hH0⟩ : ∃ H, H = s9.heap := ⟨_, rfl⟩
  obtain ⟨locs, hlc0⟩ : ∃ z : List Loc, z = [] := ⟨_, rfl⟩
  have hP : va_P D vwCl ([(o0, .inl (cL, 1, .inr (.inl (lo xo))))] ++ (fcW cI cS f0 a s fl c0 c1 n cs b r gl sv ad t f6 k)) H := by rw [hH0]; exact hP
  have hD : va_D A9 ([(o0, .inl (cL, 1, .inr (.inl (lo xo))))] ++ (fcW cI cS f0 a s fl c0 c1 n cs b r gl sv ad t f6 k)) := hD
  have hS : va_S A9 s9.heap H locs := by rw [hH0, hlc0]; exact hS
  suffices hgo : W p9 l e9 ({ frames := 9, cells := 3, slots := 18, locals := 157 } : Room) s9 m9 ar9 be9 me9 c9 H locs 0 0 Q9 (F0 m9 0 ls []) by rw [hH0, hlc0] at hgo; exact hgo
  clear hH0 hlc0
  refine lv_aload_n hx hb dL_mostAim_0 rfl (lv_at hl 3 rfl) ?_
  refine lv_iconst (v := nI 0) hx hb dL_mostAim_1 (by decide +kernel) ?_
  refine lv_aload_n hx hb dL_mostAim_2 rfl (lv_at hl 0 rfl) ?_
  refine lv_iload_n hx hb dL_mostAim_3 rfl (lv_at hl 1 rfl) ?_
  refine lv_iload_n hx hb dL_mostAim_4 rfl (lv_at hl 2 rfl) ?_
  have hm9 := fun (_ : Unit) => suf_mem (X' := (fcW cI cS f0 a s fl c0 c1 n cs b r gl sv ad t f6 k)) (R := [(o0, .inl (cL, 1, .inr (.inl (lo xo))))]) (show va_D A9 ([(o0, .inl (cL, 1, .inr (.inl (lo xo))))] ++ (fcW cI cS f0 a s fl c0 c1 n cs b r gl sv ad t f6 k)) from hD) (fcW_perm (List.Perm.refl _))
  refine KX.callVM (As := [.int v1, .int v2]) (rest := [.int (nI 0), .ref o0]) (W0 := (fcW cI cS f0 a s fl c0 c1 n cs b r gl sv ad t f6 k)) (ws := ([(o0, .inl (cL, 1, .inr (.inl (lo xo))))] ++ (fcW cI cS f0 a s fl c0 c1 n cs b r gl sv ad t f6 k))) (ws' := fun (_ : Unit) => ([(o0, .inl (cL, 1, .inr (.inl (lo xo))))] ++ (fcW cI cS f0 a s fl c0 c1 n cs b r gl sv ad t f6 k))) C0 hN hAm (k_X5_mostAim_bad l D cI cS cL T f0 a s fl c0 c1 n cs b r gl sv ad t f6 k v1 v2 hst hI hT hk hn hcs hbad) (cwV 2 hts gL_mostAim_X5_mostAim rfl rfl rfl (by decide +kernel) ⟨Nat.le_of_ble_eq_true rfl, Nat.le_of_ble_eq_true rfl⟩) hK hP hD hS hA (hm9 ()).1 (hm9 ()).2.1 (fun u => (hm9 u).2.2.1) (fun u => (hm9 u).2.2.2) 0 5 rfl rfl rfl rfl hl.1 rfl (Nat.le_of_ble_eq_true rfl) dL_mostAim_5 ⟨Nat.le_of_ble_eq_true rfl, Nat.le_of_ble_eq_true rfl⟩ (fun E ce q9 H locs hE hP hS hq9 hv9 hcl9 => ?_) (fun v9 u9 H locs hv hP hD hS => ?_)
  ·
    rcases hE with hE | hE
    ·
      obtain ⟨hEe, hEc⟩ := hE
      subst hEe
      refine vx_catch (own := RL) (name := "java/lang/IndexOutOfBoundsException") hown [] ⟨0, 10, 13, 13⟩ [⟨0, 10, 17, 15⟩] (hTab.trans rfl) (fun z hz => absurd hz List.not_mem_nil) (by decide) (by decide) (hts (.classLink RL 13 "java/lang/IndexOutOfBoundsException") (by decide +kernel)) (va_Nw.use rfl (hAm.2.2.2.2.2.2 ("java/lang/IndexOutOfBoundsException", "java/lang/IndexOutOfBoundsException") (by decide))) hq9 hv9 hcl9 ?_
      refine lv_astore (lv' := [(4, .ref q9), (0, .ref f0), (1, .int v1), (2, .int v2), (3, .ref o0)]) hx hb dL_mostAim_13 hl (by decide) rfl (fun ls hl => ?_)
      refine lv_iconst (v := nI 1) hx hb dL_mostAim_15 (by decide +kernel) ?_
      exact hret _ _ _ _ (some (.int (nI 1))) () 16 ls (by decide) (by decide) (by exact rv (by (repeat' split) <;> first | rfl | (exfalso; omega))) hP hD hS (ret_i dL_mostAim_16)
    ·
      obtain ⟨hEe, hEc⟩ := hE
      subst hEe
      refine vx_catch (own := RL) (name := "java/lang/IllegalArgumentException") hown [⟨0, 10, 13, 13⟩] ⟨0, 10, 17, 15⟩ [] (hTab.trans rfl) (fun z hz => Or.inr (by rw [List.mem_singleton.mp hz]; exact ⟨by decide, "java/lang/IndexOutOfBoundsException", hts (.classLink RL 13 "java/lang/IndexOutOfBoundsException") (by decide +kernel), hXN ("java/lang/IllegalArgumentException", "java/lang/IndexOutOfBoundsException") (by decide)⟩)) (by decide) (by decide) (hts (.classLink RL 15 "java/lang/IllegalArgumentException") (by decide +kernel)) (va_Nw.use rfl (hAm.2.2.2.2.2.2 ("java/lang/IllegalArgumentException", "java/lang/IllegalArgumentException") (by decide))) hq9 hv9 hcl9 ?_
      refine lv_astore (lv' := [(4, .ref q9), (0, .ref f0), (1, .int v1), (2, .int v2), (3, .ref o0)]) hx hb dL_mostAim_17 hl (by decide) rfl (fun ls hl => ?_)
      refine lv_iconst (v := nI 2) hx hb dL_mostAim_19 (by decide +kernel) ?_
      exact hret _ _ _ _ (some (.int (nI 2))) () 20 ls (by decide) (by decide) (by exact rv (by (repeat' split) <;> first | rfl | (exfalso; omega))) hP hD hS (ret_i dL_mostAim_20)
  · exact hv.1.elim

set_option maxHeartbeats 4000000 in
set_option maxRecDepth 100000 in
theorem k_L_fits_ok (l : Launch) (D : va_G) (cI cS cL : ClassId) (T : Nat) (f0 : Nat) (a : Nat → Nat) (s : Nat → Nat) (fl : Nat → Nat) (c0 : Nat) (c1 : Nat) (n : Nat) (cs : Nat → Nat) (b : Nat → Nat) (r : Nat → Nat) (gl : Nat → Nat) (sv : Nat) (ad : Nat → Nat → Nat) (t : Nat → Nat → Nat) (f6 : Nat → Nat → Nat) (k : Nat) (q : Nat) (j : Nat) (x : Nat) (o0 : Nat) (xo : Int64) (hst : l.stackTraces = false) (hI : sI T s) (hT : T ≤ 900000) (hk : k ≤ 6) (hn : n ≤ 60) (hcs : ∀ j, j < n → cs j < 2 ^ 31) (hq : q ≤ 999) (hj : j < 8) (hx2 : x ≤ 10) : KC l D (TY cI cS cL) yL_fits wsL_fits ({ frames := 4, cells := 0, slots := 0, locals := 101 } : Room) ([(o0, .inl (cL, 1, .inr (.inl (lo xo))))] ++ (fcW cI cS f0 a s fl c0 c1 n cs b r gl sv ad t f6 k)) [.ref f0, .int (nI q), .int (nI j), .int (nI x), .ref o0] (fun (v : Option Value) (_ : Unit) => v = some (.int (nI 0))) (fun _ : Unit => ([(o0, .inl (cL, 1, .inr (.inl (lo ((fitD s j x (1000 - q) q).toInt64)))))] ++ (fcW cI cS f0 a s fl c0 c1 n cs b r gl sv ad t f6 k))) := by
  refine KC.of (cc := cL_fits) (maxL := 6) (ret := (some .int)) (hh := [(0, 12, 15, 13), (0, 12, 19, 15)]) (by decide) rfl (Nat.le_of_ble_eq_true rfl) ?_
  intro p9 e9 s9 m9 ar9 be9 me9 c9 Q9 A9 ls C0 hN hAm hXN hTab hnm hlk hK hA hret hP hD hS hl
  obtain ⟨hx, hb, hml, hown, hts⟩ := id C0
  have hl : lv_has ls 6 [(0, .ref f0), (1, .int (nI q)), (2, .int (nI j)), (3, .int (nI x)), (4, .ref o0)] := hl
  obtain ⟨H, hH0⟩ : ∃ H, H = s9.heap := ⟨_, rfl⟩
  obtain ⟨locs, hlc0⟩ : ∃ z : List Loc, z = [] := ⟨_, rfl⟩
  have hP : va_P D vwCl ([(o0, .inl (cL, 1, .inr (.inl (lo xo))))] ++ (fcW cI cS f0 a s fl c0 c1 n cs b r gl sv ad t f6 k)) H := by rw [hH0]; exact hP
  have hD : va_D A9 ([(o0, .inl (cL, 1, .inr (.inl (lo xo))))] ++ (fcW cI cS f0 a s fl c0 c1 n cs b r gl sv ad t f6 k)) := hD
  have hS : va_S A9 s9.heap H locs := by rw [hH0, hlc0]; exact hS
  suffices hgo : W p9 l e9 ({ frames := 4, cells := 0, slots := 0, locals := 101 } : Room) s9 m9 ar9 be9 me9 c9 H locs 0 0 Q9 (F0 m9 0 ls []) by rw [hH0, hlc0] at hgo; exact hgo
  clear hH0 hlc0
  refine lv_aload hx hb dL_fits_0 (lv_at hl 4 rfl) ?_
  refine lv_iconst (v := nI 0) hx hb dL_fits_2 (by decide +kernel) ?_
  refine lv_aload_n hx hb dL_fits_3 rfl (lv_at hl 0 rfl) ?_
  refine lv_iload_n hx hb dL_fits_4 rfl (lv_at hl 1 rfl) ?_
  refine lv_iload_n hx hb dL_fits_5 rfl (lv_at hl 2 rfl) ?_
  refine lv_iload_n hx hb dL_fits_6 rfl (lv_at hl 3 rfl) ?_
  have hm9 := fun (_ : Unit) => suf_mem (X' := (fcW cI cS f0 a s fl c0 c1 n cs b r gl sv ad t f6 k)) (R := [(o0, .inl (cL, 1, .inr (.inl (lo xo))))]) (show va_D A9 ([(o0, .inl (cL, 1, .inr (.inl (lo xo))))] ++ (fcW cI cS f0 a s fl c0 c1 n cs b r gl sv ad t f6 k)) from hD) (fcW_perm (List.Perm.refl _))
  refine KM.callVM (As := [.int (nI q), .int (nI j), .int (nI x)]) (rest := [.int (nI 0), .ref o0]) (W0 := (fcW cI cS f0 a s fl c0 c1 n cs b r gl sv ad t f6 k)) (ws := ([(o0, .inl (cL, 1, .inr (.inl (lo xo))))] ++ (fcW cI cS f0 a s fl c0 c1 n cs b r gl sv ad t f6 k))) (ws' := fun (_ : Unit) => ([(o0, .inl (cL, 1, .inr (.inl (lo xo))))] ++ (fcW cI cS f0 a s fl c0 c1 n cs b r gl sv ad t f6 k))) C0 hN (k_X5_fits_ok l D cI cS cL T f0 a s fl c0 c1 n cs b r gl sv ad t f6 k q j x hI hT hk hn hcs hq hj hx2) (cwV 3 hts gL_fits_X5_fits rfl rfl rfl (by decide +kernel) ⟨Nat.le_of_ble_eq_true rfl, Nat.le_of_ble_eq_true rfl⟩) hK hP hD hS hA (hm9 ()).1 (hm9 ()).2.1 (fun u => (hm9 u).2.2.1) (fun u => (hm9 u).2.2.2) 0 5 rfl rfl rfl rfl hl.1 rfl (Nat.le_of_ble_eq_true rfl) dL_fits_7 ⟨Nat.le_of_ble_eq_true rfl, Nat.le_of_ble_eq_true rfl⟩ (fun v9 u9 H locs hv hP hD hS => ?_)
  subst hv
  have hP : va_P D vwCl ([(o0, .inl (cL, 1, .inr (.inl (lo xo))))] ++ (fcW cI cS f0 a s fl c0 c1 n cs b r gl sv ad t f6 k)) H := hP
  have hD : va_D A9 ([(o0, .inl (cL, 1, .inr (.inl (lo xo))))] ++ (fcW cI cS f0 a s fl c0 c1 n cs b r gl sv ad t f6 k)) := hD
  refine W.eq (g2 := F0 m9 10 ls [.int (fitD s j x (1000 - q) q), .int (nI 0), .ref o0]) rfl ?_
  refine lv_i2l (v := (fitD s j x (1000 - q) q).toInt64) hx hb dL_fits_10 rfl ?_
  refine va_last (D := D) (i := nI 0) hx hb hK hP hD hS 0 2 rfl rfl (vp_in_nI (n := 0) (by decide) (by decide)) dL_fits_11 (fun H locs hP hD hS => ?_)
  rw [lo_up] at hP hD
  have hP : va_P D vwCl ([(o0, .inl (cL, 1, .inr (.inl (lo ((fitD s j x (1000 - q) q).toInt64)))))] ++ (fcW cI cS f0 a s fl c0 c1 n cs b r gl sv ad t f6 k)) H := hP
  have hD : va_D A9 ([(o0, .inl (cL, 1, .inr (.inl (lo ((fitD s j x (1000 - q) q).toInt64)))))] ++ (fcW cI cS f0 a s fl c0 c1 n cs b r gl sv ad t f6 k)) := hD
  refine lv_goto (tgt := 23) hx hb dL_fits_12 (by decide) ?_
  refine lv_iconst (v := nI 0) hx hb dL_fits_23 (by decide +kernel) ?_
  exact hret _ _ _ _ (some (.int (nI 0))) () 24 ls (by decide) (by decide) (by rfl) hP hD hS (ret_i dL_fits_24)

set_option maxHeartbeats 4000000 in
set_option maxRecDepth 100000 in
theorem k_L_fits_bad (l : Launch) (D : va_G) (cI cS cL : ClassId) (T : Nat) (f0 : Nat) (a : Nat → Nat) (s : Nat → Nat) (fl : Nat → Nat) (c0 : Nat) (c1 : Nat) (n : Nat) (cs : Nat → Nat) (b : Nat → Nat) (r : Nat → Nat) (gl : Nat → Nat) (sv : Nat) (ad : Nat → Nat → Nat) (t : Nat → Nat → Nat) (f6 : Nat → Nat → Nat) (k : Nat) (v1 : Int32) (v2 : Int32) (v3 : Int32) (o0 : Nat) (xo : Int64) (hst : l.stackTraces = false) (hI : sI T s) (hT : T ≤ 900000) (hk : k ≤ 6) (hn : n ≤ 60) (hcs : ∀ j, j < n → cs j < 2 ^ 31) (hbad : ¬ (inR v2 0 7 ∧ inR v1 0 999 ∧ inR v3 0 10)) : KC l D (TY cI cS cL) yL_fits wsL_fits ({ frames := 9, cells := 3, slots := 18, locals := 159 } : Room) ([(o0, .inl (cL, 1, .inr (.inl (lo xo))))] ++ (fcW cI cS f0 a s fl c0 c1 n cs b r gl sv ad t f6 k)) [.ref f0, .int v1, .int v2, .int v3, .ref o0] (fun (v : Option Value) (_ : Unit) => v = some (.int (nI (if inR v2 0 7 then 2 else 1)))) (fun _ : Unit => ([(o0, .inl (cL, 1, .inr (.inl (lo xo))))] ++ (fcW cI cS f0 a s fl c0 c1 n cs b r gl sv ad t f6 k))) := by
  refine KC.of (cc := cL_fits) (maxL := 6) (ret := (some .int)) (hh := [(0, 12, 15, 13), (0, 12, 19, 15)]) (by decide) rfl (Nat.le_of_ble_eq_true rfl) ?_
  intro p9 e9 s9 m9 ar9 be9 me9 c9 Q9 A9 ls C0 hN hAm hXN hTab hnm hlk hK hA hret hP hD hS hl
  obtain ⟨hx, hb, hml, hown, hts⟩ := id C0
  have hl : lv_has ls 6 [(0, .ref f0), (1, .int v1), (2, .int v2), (3, .int v3), (4, .ref o0)] := hl
  obtain ⟨H, hH0⟩ : ∃ H, H = s9.heap := ⟨_, rfl⟩
  obtain ⟨locs, hlc0⟩ : ∃ z : List Loc, z = [] := ⟨_, rfl⟩
  have hP : va_P D vwCl ([(o0, .inl (cL, 1, .inr (.inl (lo xo))))] ++ (fcW cI cS f0 a s fl c0 c1 n cs b r gl sv ad t f6 k)) H := by rw [hH0]; exact hP
  have hD : va_D A9 ([(o0, .inl (cL, 1, .inr (.inl (lo xo))))] ++ (fcW cI cS f0 a s fl c0 c1 n cs b r gl sv ad t f6 k)) := hD
  have hS : va_S A9 s9.heap H locs := by rw [hH0, hlc0]; exact hS
  suffices hgo : W p9 l e9 ({ frames := 9, cells := 3, slots := 18, locals := 159 } : Room) s9 m9 ar9 be9 me9 c9 H locs 0 0 Q9 (F0 m9 0 ls []) by rw [hH0, hlc0] at hgo; exact hgo
  clear hH0 hlc0
  refine lv_aload hx hb dL_fits_0 (lv_at hl 4 rfl) ?_
  refine lv_iconst (v := nI 0) hx hb dL_fits_2 (by decide +kernel) ?_
  refine lv_aload_n hx hb dL_fits_3 rfl (lv_at hl 0 rfl) ?_
  refine lv_iload_n hx hb dL_fits_4 rfl (lv_at hl 1 rfl) ?_
  refine lv_iload_n hx hb dL_fits_5 rfl (lv_at hl 2 rfl) ?_
  refine lv_iload_n hx hb dL_fits_6 rfl (lv_at hl 3 rfl) ?_
  have hm9 := fun (_ : Unit) => suf_mem (X' := (fcW cI cS f0 a s fl c0 c1 n cs b r gl sv ad t f6 k)) (R := [(o0, .inl (cL, 1, .inr (.inl (lo xo))))]) (show va_D A9 ([(o0, .inl (cL, 1, .inr (.inl (lo xo))))] ++ (fcW cI cS f0 a s fl c0 c1 n cs b r gl sv ad t f6 k)) from hD) (fcW_perm (List.Perm.refl _))
  refine KX.callVM (As := [.int v1, .int v2, .int v3]) (rest := [.int (nI 0), .ref o0]) (W0 := (fcW cI cS f0 a s fl c0 c1 n cs b r gl sv ad t f6 k)) (ws := ([(o0, .inl (cL, 1, .inr (.inl (lo xo))))] ++ (fcW cI cS f0 a s fl c0 c1 n cs b r gl sv ad t f6 k))) (ws' := fun (_ : Unit) => ([(o0, .inl (cL, 1, .inr (.inl (lo xo))))] ++ (fcW cI cS f0 a s fl c0 c1 n cs b r gl sv ad t f6 k))) C0 hN hAm (k_X5_fits_bad l D cI cS cL T f0 a s fl c0 c1 n cs b r gl sv ad t f6 k v1 v2 v3 hst hI hT hk hn hcs hbad) (cwV 3 hts gL_fits_X5_fits rfl rfl rfl (by decide +kernel) ⟨Nat.le_of_ble_eq_true rfl, Nat.le_of_ble_eq_true rfl⟩) hK hP hD hS hA (hm9 ()).1 (hm9 ()).2.1 (fun u => (hm9 u).2.2.1) (fun u => (hm9 u).2.2.2) 0 5 rfl rfl rfl rfl hl.1 rfl (Nat.le_of_ble_eq_true rfl) dL_fits_7 ⟨Nat.le_of_ble_eq_true rfl, Nat.le_of_ble_eq_true rfl⟩ (fun E ce q9 H locs hE hP hS hq9 hv9 hcl9 => ?_) (fun v9 u9 H locs hv hP hD hS => ?_)
  ·
    rcases hE with hE | hE
    ·
      obtain ⟨hEe, hEc⟩ := hE
      subst hEe
      refine vx_catch (own := RL) (name := "java/lang/IndexOutOfBoundsException") hown [] ⟨0, 12, 15, 13⟩ [⟨0, 12, 19, 15⟩] (hTab.trans rfl) (fun z hz => absurd hz List.not_mem_nil) (by decide) (by decide) (hts (.classLink RL 13 "java/lang/IndexOutOfBoundsException") (by decide +kernel)) (va_Nw.use rfl (hAm.2.2.2.2.2.2 ("java/lang/IndexOutOfBoundsException", "java/lang/IndexOutOfBoundsException") (by decide))) hq9 hv9 hcl9 ?_
      refine lv_astore (lv' := [(5, .ref q9), (0, .ref f0), (1, .int v1), (2, .int v2), (3, .int v3), (4, .ref o0)]) hx hb dL_fits_15 hl (by decide) rfl (fun ls hl => ?_)
      refine lv_iconst (v := nI 1) hx hb dL_fits_17 (by decide +kernel) ?_
      exact hret _ _ _ _ (some (.int (nI 1))) () 18 ls (by decide) (by decide) (by exact rv (by (repeat' split) <;> first | rfl | (exfalso; omega))) hP hD hS (ret_i dL_fits_18)
    ·
      obtain ⟨hEe, hEc⟩ := hE
      subst hEe
      refine vx_catch (own := RL) (name := "java/lang/IllegalArgumentException") hown [⟨0, 12, 15, 13⟩] ⟨0, 12, 19, 15⟩ [] (hTab.trans rfl) (fun z hz => Or.inr (by rw [List.mem_singleton.mp hz]; exact ⟨by decide, "java/lang/IndexOutOfBoundsException", hts (.classLink RL 13 "java/lang/IndexOutOfBoundsException") (by decide +kernel), hXN ("java/lang/IllegalArgumentException", "java/lang/IndexOutOfBoundsException") (by decide)⟩)) (by decide) (by decide) (hts (.classLink RL 15 "java/lang/IllegalArgumentException") (by decide +kernel)) (va_Nw.use rfl (hAm.2.2.2.2.2.2 ("java/lang/IllegalArgumentException", "java/lang/IllegalArgumentException") (by decide))) hq9 hv9 hcl9 ?_
      refine lv_astore (lv' := [(5, .ref q9), (0, .ref f0), (1, .int v1), (2, .int v2), (3, .int v3), (4, .ref o0)]) hx hb dL_fits_19 hl (by decide) rfl (fun ls hl => ?_)
      refine lv_iconst (v := nI 2) hx hb dL_fits_21 (by decide +kernel) ?_
      exact hret _ _ _ _ (some (.int (nI 2))) () 22 ls (by decide) (by decide) (by exact rv (by (repeat' split) <;> first | rfl | (exfalso; omega))) hP hD hS (ret_i dL_fits_22)
  · exact hv.1.elim
