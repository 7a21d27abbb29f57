set_option maxHeartbeats 4000000 in
set_option maxRecDepth 100000 in
theorem k_L_jet_ok (l : Launch) (D : va_G) (cI cS cL : ClassId) (T : Nat) (f0 : Nat) (a : Nat → Nat) (s : Nat → Nat) (fl : Nat → Nat) (c0 : Nat) (c1 : Nat) (n : Nat) (cs : Nat → Nat) (b : Nat → Nat) (r : Nat → Nat) (gl : Nat → Nat) (sv : Nat) (ad : Nat → Nat → Nat) (t : Nat → Nat → Nat) (f6 : Nat → Nat → Nat) (k : Nat) (j : Nat) (z : Nat) (c : Nat) (o0 : Nat) (xo : Int64) (hst : l.stackTraces = false) (hI : sI T s) (hT : T ≤ 900000) (hk : k ≤ 6) (hn : n ≤ 60) (hcs : ∀ j, j < n → cs j < 2 ^ 31) (hj : j < 8) (hz1 : 1 ≤ z) (hz2 : z ≤ 20) (hc : c ≤ 3) : KC l D (TY cI cS cL) yL_jet wsL_jet ({ frames := 5, cells := 0, slots := 0, locals := 110 } : Room) ([(o0, .inl (cL, 1, .inr (.inl (lo xo))))] ++ (fcW cI cS f0 a s fl c0 c1 n cs b r gl sv ad t f6 k)) [.ref f0, .int (nI j), .int (nI z), .int (nI c), .ref o0] (fun (v : Option Value) (_ : Unit) => v = some (.int (nI 0))) (fun _ : Unit => ([(o0, .inl (cL, 1, .inr (.inl (lo ((nI (szF s j)).toInt64)))))] ++ (fcW cI cS f0 a (sJet s j z c) fl c0 c1 n cs b r gl sv (kpA k ad) (kpT k t s) (kpA k f6) (kpK k)))) := by
  refine KC.of (cc := cL_jet) (maxL := 6) (ret := (some .int)) (hh := [(0, 12, 15, 13), (0, 12, 19, 15)]) (by decide) rfl (Nat.le_of_ble_eq_true rfl) ?_
  intro p9 e9 s9 m9 ar9 be9 me9 c9 Q9 A9 ls C0 hN hAm hXN hTab hnm hlk hK hA hret hP hD hS hl
  obtain ⟨hx, hb, hml, hown, hts⟩ := id C0
  have hl : lv_has ls 6 [(0, .ref f0), (1, .int (nI j)), (2, .int (nI z)), (3, .int (nI c)), (4, .ref o0)] := hl
  obtain ⟨H, hH0⟩ : ∃ H, H = s9.heap := ⟨_, rfl⟩
  obtain ⟨locs, hlc0⟩ : ∃ z : List Loc, z = [] := ⟨_, rfl⟩
  have hP : va_P D vwCl ([(o0, .inl (cL, 1, .inr (.inl (lo xo))))] ++ (fcW cI cS f0 a s fl c0 c1 n cs b r gl sv ad t f6 k)) H := by rw [hH0]; exact hP
  have hD : va_D A9 ([(o0, .inl (cL, 1, .inr (.inl (lo xo))))] ++ (fcW cI cS f0 a s fl c0 c1 n cs b r gl sv ad t f6 k)) := hD
  have hS : va_S A9 s9.heap H locs := by rw [hH0, hlc0]; exact hS
  suffices hgo : W p9 l e9 ({ frames := 5, cells := 0, slots := 0, locals := 110 } : Room) s9 m9 ar9 be9 me9 c9 H locs 0 0 Q9 (F0 m9 0 ls []) by rw [hH0, hlc0] at hgo; exact hgo
  clear hH0 hlc0
  refine lv_aload hx hb dL_jet_0 (lv_at hl 4 rfl) ?_
  refine lv_iconst (v := nI 0) hx hb dL_jet_2 (by decide +kernel) ?_
  refine lv_aload_n hx hb dL_jet_3 rfl (lv_at hl 0 rfl) ?_
  refine lv_iload_n hx hb dL_jet_4 rfl (lv_at hl 1 rfl) ?_
  refine lv_iload_n hx hb dL_jet_5 rfl (lv_at hl 2 rfl) ?_
  refine lv_iload_n hx hb dL_jet_6 rfl (lv_at hl 3 rfl) ?_
  have hm9 := fun (_ : Unit) => suf_mem (X' := (fcW cI cS f0 a (sJet s j z c) fl c0 c1 n cs b r gl sv (kpA k ad) (kpT k t s) (kpA k f6) (kpK k))) (R := [(o0, .inl (cL, 1, .inr (.inl (lo xo))))]) (show va_D A9 ([(o0, .inl (cL, 1, .inr (.inl (lo xo))))] ++ (fcW cI cS f0 a s fl c0 c1 n cs b r gl sv ad t f6 k)) from hD) (fcW_perm (sv_kp cI cS sv ad t f6 (kpT k t s) (kpA k f6) k (kpK k)))
  refine KM.callVM (As := [.int (nI j), .int (nI z), .int (nI c)]) (rest := [.int (nI 0), .ref o0]) (W0 := (fcW cI cS f0 a s fl c0 c1 n cs b r gl sv ad t f6 k)) (ws := ([(o0, .inl (cL, 1, .inr (.inl (lo xo))))] ++ (fcW cI cS f0 a s fl c0 c1 n cs b r gl sv ad t f6 k))) (ws' := fun (_ : Unit) => ([(o0, .inl (cL, 1, .inr (.inl (lo xo))))] ++ (fcW cI cS f0 a (sJet s j z c) fl c0 c1 n cs b r gl sv (kpA k ad) (kpT k t s) (kpA k f6) (kpK k)))) C0 hN (k_X5_jet_ok l D cI cS cL T f0 a s fl c0 c1 n cs b r gl sv ad t f6 k j z c hI hT hk hn hcs hj hz1 hz2 hc) (cwV 3 hts gL_jet_X5_jet rfl rfl rfl (by decide +kernel) ⟨Nat.le_of_ble_eq_true rfl, Nat.le_of_ble_eq_true rfl⟩) hK hP hD hS hA (hm9 ()).1 (hm9 ()).2.1 (fun u => (hm9 u).2.2.1) (fun u => (hm9 u).2.2.2) 0 5 rfl rfl rfl rfl hl.1 rfl (Nat.le_of_ble_eq_true rfl) dL_jet_7 ⟨Nat.le_of_ble_eq_true rfl, Nat.le_of_ble_eq_true rfl⟩ (fun v9 u9 H locs hv hP hD hS => ?_)
  subst hv
  have hP : va_P D vwCl ([(o0, .inl (cL, 1, .inr (.inl (lo xo))))] ++ (fcW cI cS f0 a (sJet s j z c) fl c0 c1 n cs b r gl sv (kpA k ad) (kpT k t s) (kpA k f6) (kpK k))) H := hP
  have hD : va_D A9 ([(o0, .inl (cL, 1, .inr (.inl (lo xo))))] ++ (fcW cI cS f0 a (sJet s j z c) fl c0 c1 n cs b r gl sv (kpA k ad) (kpT k t s) (kpA k f6) (kpK k))) := hD
  refine W.eq (g2 := F0 m9 10 ls [.int (nI (szF s j)), .int (nI 0), .ref o0]) rfl ?_
  refine lv_i2l (v := (nI (szF s j)).toInt64) hx hb dL_jet_10 rfl ?_
  refine va_last (D := D) (i := nI 0) hx hb hK hP hD hS 0 2 rfl rfl (vp_in_nI (n := 0) (by decide) (by decide)) dL_jet_11 (fun H locs hP hD hS => ?_)
  rw [lo_up] at hP hD
  have hP : va_P D vwCl ([(o0, .inl (cL, 1, .inr (.inl (lo ((nI (szF s j)).toInt64)))))] ++ (fcW cI cS f0 a (sJet s j z c) fl c0 c1 n cs b r gl sv (kpA k ad) (kpT k t s) (kpA k f6) (kpK k))) H := hP
  have hD : va_D A9 ([(o0, .inl (cL, 1, .inr (.inl (lo ((nI (szF s j)).toInt64)))))] ++ (fcW cI cS f0 a (sJet s j z c) fl c0 c1 n cs b r gl sv (kpA k ad) (kpT k t s) (kpA k f6) (kpK k))) := hD
  refine lv_goto (tgt := 23) hx hb dL_jet_12 (by decide) ?_
  refine lv_iconst (v := nI 0) hx hb dL_jet_23 (by decide +kernel) ?_
  exact hret _ _ _ _ (some (.int (nI 0))) () 24 ls (by decide) (by decide) (by rfl) hP hD hS (ret_i dL_jet_24)

set_option maxHeartbeats 4000000 in
set_option maxRecDepth 100000 in
theorem k_L_jet_bad (l : Launch) (D : va_G) (cI cS cL : ClassId) (T : Nat) (f0 : Nat) (a : Nat → Nat) (s : Nat → Nat) (fl : Nat → Nat) (c0 : Nat) (c1 : Nat) (n : Nat) (cs : Nat → Nat) (b : Nat → Nat) (r : Nat → Nat) (gl : Nat → Nat) (sv : Nat) (ad : Nat → Nat → Nat) (t : Nat → Nat → Nat) (f6 : Nat → Nat → Nat) (k : Nat) (v1 : Int32) (v2 : Int32) (v3 : Int32) (o0 : Nat) (xo : Int64) (hst : l.stackTraces = false) (hI : sI T s) (hT : T ≤ 900000) (hk : k ≤ 6) (hn : n ≤ 60) (hcs : ∀ j, j < n → cs j < 2 ^ 31) (hbad : ¬ (inR v1 0 7 ∧ inR v2 1 20 ∧ inR v3 0 3)) : KC l D (TY cI cS cL) yL_jet wsL_jet ({ frames := 8, cells := 3, slots := 18, locals := 136 } : Room) ([(o0, .inl (cL, 1, .inr (.inl (lo xo))))] ++ (fcW cI cS f0 a s fl c0 c1 n cs b r gl sv ad t f6 k)) [.ref f0, .int v1, .int v2, .int v3, .ref o0] (fun (v : Option Value) (_ : Unit) => v = some (.int (nI (if inR v1 0 7 then 2 else 1)))) (fun _ : Unit => ([(o0, .inl (cL, 1, .inr (.inl (lo xo))))] ++ (fcW cI cS f0 a s fl c0 c1 n cs b r gl sv ad t f6 k))) := by
  refine KC.of (cc := cL_jet) (maxL := 6) (ret := (some .int)) (hh := [(0, 12, 15, 13), (0, 12, 19, 15)]) (by decide) rfl (Nat.le_of_ble_eq_true rfl) ?_
  intro p9 e9 s9 m9 ar9 be9 me9 c9 Q9 A9 ls C0 hN hAm hXN hTab hnm hlk hK hA hret hP hD hS hl
  obtain ⟨hx, hb, hml, hown, hts⟩ := id C0
  have hl : lv_has ls 6 [(0, .ref f0), (1, .int v1), (2, .int v2), (3, .int v3), (4, .ref o0)] := hl
  obtain ⟨H, hH0⟩ : ∃ H, H = s9.heap := ⟨_, rfl⟩
  obtain ⟨locs, hlc0⟩ : ∃ z : List Loc, z = [] := ⟨_, rfl⟩
  have hP : va_P D vwCl ([(o0, .inl (cL, 1, .inr (.inl (lo xo))))] ++ (fcW cI cS f0 a s fl c0 c1 n cs b r gl sv ad t f6 k)) H := by rw [hH0]; exact hP
  have hD : va_D A9 ([(o0, .inl (cL, 1, .inr (.inl (lo xo))))] ++ (fcW cI cS f0 a s fl c0 c1 n cs b r gl sv ad t f6 k)) := hD
  have hS : va_S A9 s9.heap H locs := by rw [hH0, hlc0]; exact hS
  suffices hgo : W p9 l e9 ({ frames := 8, cells := 3, slots := 18, locals := 136 } : Room) s9 m9 ar9 be9 me9 c9 H locs 0 0 Q9 (F0 m9 0 ls []) by rw [hH0, hlc0] at hgo; exact hgo
  clear hH0 hlc0
  refine lv_aload hx hb dL_jet_0 (lv_at hl 4 rfl) ?_
  refine lv_iconst (v := nI 0) hx hb dL_jet_2 (by decide +kernel) ?_
  refine lv_aload_n hx hb dL_jet_3 rfl (lv_at hl 0 rfl) ?_
  refine lv_iload_n hx hb dL_jet_4 rfl (lv_at hl 1 rfl) ?_
  refine lv_iload_n hx hb dL_jet_5 rfl (lv_at hl 2 rfl) ?_
  refine lv_iload_n hx hb dL_jet_6 rfl (lv_at hl 3 rfl) ?_
  have hm9 := fun (_ : Unit) => suf_mem (X' := (fcW cI cS f0 a s fl c0 c1 n cs b r gl sv ad t f6 k)) (R := [(o0, .inl (cL, 1, .inr (.inl (lo xo))))]) (show va_D A9 ([(o0, .inl (cL, 1, .inr (.inl (lo xo))))] ++ (fcW cI cS f0 a s fl c0 c1 n cs b r gl sv ad t f6 k)) from hD) (fcW_perm (List.Perm.refl _))
  refine KX.callVM (As := [.int v1, .int v2, .int v3]) (rest := [.int (nI 0), .ref o0]) (W0 := (fcW cI cS f0 a s fl c0 c1 n cs b r gl sv ad t f6 k)) (ws := ([(o0, .inl (cL, 1, .inr (.inl (lo xo))))] ++ (fcW cI cS f0 a s fl c0 c1 n cs b r gl sv ad t f6 k))) (ws' := fun (_ : Unit) => ([(o0, .inl (cL, 1, .inr (.inl (lo xo))))] ++ (fcW cI cS f0 a s fl c0 c1 n cs b r gl sv ad t f6 k))) C0 hN hAm (k_X5_jet_bad l D cI cS cL T f0 a s fl c0 c1 n cs b r gl sv ad t f6 k v1 v2 v3 hst hI hT hk hn hcs hbad) (cwV 3 hts gL_jet_X5_jet rfl rfl rfl (by decide +kernel) ⟨Nat.le_of_ble_eq_true rfl, Nat.le_of_ble_eq_true rfl⟩) hK hP hD hS hA (hm9 ()).1 (hm9 ()).2.1 (fun u => (hm9 u).2.2.1) (fun u => (hm9 u).2.2.2) 0 5 rfl rfl rfl rfl hl.1 rfl (Nat.le_of_ble_eq_true rfl) dL_jet_7 ⟨Nat.le_of_ble_eq_true rfl, Nat.le_of_ble_eq_true rfl⟩ (fun E ce q9 H locs hE hP hS hq9 hv9 hcl9 => ?_) (fun v9 u9 H locs hv hP hD hS => ?_)
  ·
    rcases hE with hE | hE
    ·
      obtain ⟨hEe, hEc⟩ := hE
      subst hEe
      refine vx_catch (own := RL) (name := "java/lang/IndexOutOfBoundsException") hown [] ⟨0, 12, 15, 13⟩ [⟨0, 12, 19, 15⟩] (hTab.trans rfl) (fun z hz => absurd hz List.not_mem_nil) (by decide) (by decide) (hts (.classLink RL 13 "java/lang/IndexOutOfBoundsException") (by decide +kernel)) (va_Nw.use rfl (hAm.2.2.2.2.2.2 ("java/lang/IndexOutOfBoundsException", "java/lang/IndexOutOfBoundsException") (by decide))) hq9 hv9 hcl9 ?_
      refine lv_astore (lv' := [(5, .ref q9), (0, .ref f0), (1, .int v1), (2, .int v2), (3, .int v3), (4, .ref o0)]) hx hb dL_jet_15 hl (by decide) rfl (fun ls hl => ?_)
      refine lv_iconst (v := nI 1) hx hb dL_jet_17 (by decide +kernel) ?_
      exact hret _ _ _ _ (some (.int (nI 1))) () 18 ls (by decide) (by decide) (by exact rv (by (repeat' split) <;> first | rfl | (exfalso; omega))) hP hD hS (ret_i dL_jet_18)
    ·
      obtain ⟨hEe, hEc⟩ := hE
      subst hEe
      refine vx_catch (own := RL) (name := "java/lang/IllegalArgumentException") hown [⟨0, 12, 15, 13⟩] ⟨0, 12, 19, 15⟩ [] (hTab.trans rfl) (fun z hz => Or.inr (by rw [List.mem_singleton.mp hz]; exact ⟨by decide, "java/lang/IndexOutOfBoundsException", hts (.classLink RL 13 "java/lang/IndexOutOfBoundsException") (by decide +kernel), hXN ("java/lang/IllegalArgumentException", "java/lang/IndexOutOfBoundsException") (by decide)⟩)) (by decide) (by decide) (hts (.classLink RL 15 "java/lang/IllegalArgumentException") (by decide +kernel)) (va_Nw.use rfl (hAm.2.2.2.2.2.2 ("java/lang/IllegalArgumentException", "java/lang/IllegalArgumentException") (by decide))) hq9 hv9 hcl9 ?_
      refine lv_astore (lv' := [(5, .ref q9), (0, .ref f0), (1, .int v1), (2, .int v2), (3, .int v3), (4, .ref o0)]) hx hb dL_jet_19 hl (by decide) rfl (fun ls hl => ?_)
      refine lv_iconst (v := nI 2) hx hb dL_jet_21 (by decide +kernel) ?_
      exact hret _ _ _ _ (some (.int (nI 2))) () 22 ls (by decide) (by decide) (by exact rv (by (repeat' split) <;> first | rfl | (exfalso; omega))) hP hD hS (ret_i dL_jet_22)
  · exact hv.1.elim

set_option maxHeartbeats 4000000 in
set_option maxRecDepth 100000 in
theorem k_L_aim_ok (l : Launch) (D : va_G) (cI cS cL : ClassId) (T : Nat) (f0 : Nat) (a : Nat → Nat) (s : Nat → Nat) (fl : Nat → Nat) (c0 : Nat) (c1 : Nat) (n : Nat) (cs : Nat → Nat) (b : Nat → Nat) (r : Nat → Nat) (gl : Nat → Nat) (sv : Nat) (ad : Nat → Nat → Nat) (t : Nat → Nat → Nat) (f6 : Nat → Nat → Nat) (k : Nat) (j : Nat) (z : Nat) (o0 : Nat) (xo : Int64) (hst : l.stackTraces = false) (hI : sI T s) (hT : T ≤ 900000) (hk : k ≤ 6) (hn : n ≤ 60) (hcs : ∀ j, j < n → cs j < 2 ^ 31) (hj : j < 8) (hz2 : z ≤ 10) : KC l D (TY cI cS cL) yL_aim wsL_aim ({ frames := 5, cells := 0, slots := 0, locals := 109 } : Room) ([(o0, .inl (cL, 1, .inr (.inl (lo xo))))] ++ (fcW cI cS f0 a s fl c0 c1 n cs b r gl sv ad t f6 k)) [.ref f0, .int (nI j), .int (nI z), .ref o0] (fun (v : Option Value) (_ : Unit) => v = some (.int (nI 0))) (fun _ : Unit => ([(o0, .inl (cL, 1, .inr (.inl (lo ((nI (amF s j)).toInt64)))))] ++ (fcW cI cS f0 a (upN s (17 + 5 * j) z) fl c0 c1 n cs b r gl sv (kpA k ad) (kpT k t s) (kpA k f6) (kpK k)))) := by
  refine KC.of (cc := cL_aim) (maxL := 5) (ret := (some .int)) (hh := [(0, 10, 13, 13), (0, 10, 17, 15)]) (by decide) rfl (Nat.le_of_ble_eq_true rfl) ?_
  intro p9 e9 s9 m9 ar9 be9 me9 c9 Q9 A9 ls C0 hN hAm hXN hTab hnm hlk hK hA hret hP hD hS hl
  obtain ⟨hx, hb, hml, hown, hts⟩ := id C0
  have hl : lv_has ls 5 [(0, .ref f0), (1, .int (nI j)), (2, .int (nI z)), (3, .ref o0)] := hl
  obtain ⟨H, hH0⟩ : ∃ H, H = s9.heap := ⟨_, rfl⟩
  obtain ⟨locs, hlc0⟩ : ∃ z : List Loc, z = [] := ⟨_, rfl⟩
  have hP : va_P D vwCl ([(o0, .inl (cL, 1, .inr (.inl (lo xo))))] ++ (fcW cI cS f0 a s fl c0 c1 n cs b r gl sv ad t f6 k)) H := by rw [hH0]; exact hP
  have hD : va_D A9 ([(o0, .inl (cL, 1, .inr (.inl (lo xo))))] ++ (fcW cI cS f0 a s fl c0 c1 n cs b r gl sv ad t f6 k)) := hD
  have hS : va_S A9 s9.heap H locs := by rw [hH0, hlc0]; exact hS
  suffices hgo : W p9 l e9 ({ frames := 5, cells := 0, slots := 0, locals := 109 } : Room) s9 m9 ar9 be9 me9 c9 H locs 0 0 Q9 (F0 m9 0 ls []) by rw [hH0, hlc0] at hgo; exact hgo
  clear hH0 hlc0
  refine lv_aload_n hx hb dL_aim_0 rfl (lv_at hl 3 rfl) ?_
  refine lv_iconst (v := nI 0) hx hb dL_aim_1 (by decide +kernel) ?_
  refine lv_aload_n hx hb dL_aim_2 rfl (lv_at hl 0 rfl) ?_
  refine lv_iload_n hx hb dL_aim_3 rfl (lv_at hl 1 rfl) ?_
  refine lv_iload_n hx hb dL_aim_4 rfl (lv_at hl 2 rfl) ?_
  have hm9 := fun (_ : Unit) => suf_mem (X' := (fcW cI cS f0 a (upN s (17 + 5 * j) z) fl c0 c1 n cs b r gl sv (kpA k ad) (kpT k t s) (kpA k f6) (kpK k))) (R := [(o0, .inl (cL, 1, .inr (.inl (lo xo))))]) (show va_D A9 ([(o0, .inl (cL, 1, .inr (.inl (lo xo))))] ++ (fcW cI cS f0 a s fl c0 c1 n cs b r gl sv ad t f6 k)) from hD) (fcW_perm (sv_kp cI cS sv ad t f6 (kpT k t s) (kpA k f6) k (kpK k)))
  refine KM.callVM (As := [.int (nI j), .int (nI z)]) (rest := [.int (nI 0), .ref o0]) (W0 := (fcW cI cS f0 a s fl c0 c1 n cs b r gl sv ad t f6 k)) (ws := ([(o0, .inl (cL, 1, .inr (.inl (lo xo))))] ++ (fcW cI cS f0 a s fl c0 c1 n cs b r gl sv ad t f6 k))) (ws' := fun (_ : Unit) => ([(o0, .inl (cL, 1, .inr (.inl (lo xo))))] ++ (fcW cI cS f0 a (upN s (17 + 5 * j) z) fl c0 c1 n cs b r gl sv (kpA k ad) (kpT k t s) (kpA k f6) (kpK k)))) C0 hN (k_X5_aim_ok l D cI cS cL T f0 a s fl c0 c1 n cs b r gl sv ad t f6 k j z hI hT hk hn hcs hj hz2) (cwV 2 hts gL_aim_X5_aim rfl rfl rfl (by decide +kernel) ⟨Nat.le_of_ble_eq_true rfl, Nat.le_of_ble_eq_true rfl⟩) hK hP hD hS hA (hm9 ()).1 (hm9 ()).2.1 (fun u => (hm9 u).2.2.1) (fun u => (hm9 u).2.2.2) 0 5 rfl rfl rfl rfl hl.1 rfl (Nat.le_of_ble_eq_true rfl) dL_aim_5 ⟨Nat.le_of_ble_eq_true rfl, Nat.le_of_ble_eq_true rfl⟩ (fun v9 u9 H locs hv hP hD hS => ?_)
  subst hv
  have hP : va_P D vwCl ([(o0, .inl (cL, 1, .inr (.inl (lo xo))))] ++ (fcW cI cS f0 a (upN s (17 + 5 * j) z) fl c0 c1 n cs b r gl sv (kpA k ad) (kpT k t s) (kpA k f6) (kpK k))) H := hP
  have hD : va_D A9 ([(o0, .inl (cL, 1, .inr (.inl (lo xo))))] ++ (fcW cI cS f0 a (upN s (17 + 5 * j) z) fl c0 c1 n cs b r gl sv (kpA k ad) (kpT k t s) (kpA k f6) (kpK k))) := hD
  refine W.eq (g2 := F0 m9 8 ls [.int (nI (amF s j)), .int (nI 0), .ref o0]) rfl ?_
  refine lv_i2l (v := (nI (amF s j)).toInt64) hx hb dL_aim_8 rfl ?_
  refine va_last (D := D) (i := nI 0) hx hb hK hP hD hS 0 2 rfl rfl (vp_in_nI (n := 0) (by decide) (by decide)) dL_aim_9 (fun H locs hP hD hS => ?_)
  rw [lo_up] at hP hD
  have hP : va_P D vwCl ([(o0, .inl (cL, 1, .inr (.inl (lo ((nI (amF s j)).toInt64)))))] ++ (fcW cI cS f0 a (upN s (17 + 5 * j) z) fl c0 c1 n cs b r gl sv (kpA k ad) (kpT k t s) (kpA k f6) (kpK k))) H := hP
  have hD : va_D A9 ([(o0, .inl (cL, 1, .inr (.inl (lo ((nI (amF s j)).toInt64)))))] ++ (fcW cI cS f0 a (upN s (17 + 5 * j) z) fl c0 c1 n cs b r gl sv (kpA k ad) (kpT k t s) (kpA k f6) (kpK k))) := hD
  refine lv_goto (tgt := 21) hx hb dL_aim_10 (by decide) ?_
  refine lv_iconst (v := nI 0) hx hb dL_aim_21 (by decide +kernel) ?_
  exact hret _ _ _ _ (some (.int (nI 0))) () 22 ls (by decide) (by decide) (by rfl) hP hD hS (ret_i dL_aim_22)

set_option maxHeartbeats 4000000 in
set_option maxRecDepth 100000 in
theorem k_L_aim_bad (l : Launch) (D : va_G) (cI cS cL : ClassId) (T : Nat) (f0 : Nat) (a : Nat → Nat) (s : Nat → Nat) (fl : Nat → Nat) (c0 : Nat) (c1 : Nat) (n : Nat) (cs : Nat → Nat) (b : Nat → Nat) (r : Nat → Nat) (gl : Nat → Nat) (sv : Nat) (ad : Nat → Nat → Nat) (t : Nat → Nat → Nat) (f6 : Nat → Nat → Nat) (k : Nat) (v1 : Int32) (v2 : Int32) (o0 : Nat) (xo : Int64) (hst : l.stackTraces = false) (hI : sI T s) (hT : T ≤ 900000) (hk : k ≤ 6) (hn : n ≤ 60) (hcs : ∀ j, j < n → cs j < 2 ^ 31) (hbad : ¬ (inR v1 0 7 ∧ inR v2 0 10)) : KC l D (TY cI cS cL) yL_aim wsL_aim ({ frames := 8, cells := 2, slots := 12, locals := 135 } : Room) ([(o0, .inl (cL, 1, .inr (.inl (lo xo))))] ++ (fcW cI cS f0 a s fl c0 c1 n cs b r gl sv ad t f6 k)) [.ref f0, .int v1, .int v2, .ref o0] (fun (v : Option Value) (_ : Unit) => v = some (.int (nI (if inR v1 0 7 then 2 else 1)))) (fun _ : Unit => ([(o0, .inl (cL, 1, .inr (.inl (lo xo))))] ++ (fcW cI cS f0 a s fl c0 c1 n cs b r gl sv ad t f6 k))) := by
  refine KC.of (cc := cL_aim) (maxL := 5) (ret := (some .int)) (hh := [(0, 10, 13, 13), (0, 10, 17, 15)]) (by decide) rfl (Nat.le_of_ble_eq_true rfl) ?_
  intro p9 e9 s9 m9 ar9 be9 me9 c9 Q9 A9 ls C0 hN hAm hXN hTab hnm hlk hK hA hret hP hD hS hl
  obtain ⟨hx, hb, hml, hown, hts⟩ := id C0
  have hl : lv_has ls 5 [(0, .ref f0), (1, .int v1), (2, .int v2), (3, .ref o0)] := hl
  obtain ⟨H, hH0⟩ : ∃ H, H = s9.heap := ⟨_, rfl⟩
  obtain ⟨locs, hlc0⟩ : ∃ z : List Loc, z = [] := ⟨_, rfl⟩
  have hP : va_P D vwCl ([(o0, .inl (cL, 1, .inr (.inl (lo xo))))] ++ (fcW cI cS f0 a s fl c0 c1 n cs b r gl sv ad t f6 k)) H := by rw [hH0]; exact hP
  have hD : va_D A9 ([(o0, .inl (cL, 1, .inr (.inl (lo xo))))] ++ (fcW cI cS f0 a s fl c0 c1 n cs b r gl sv ad t f6 k)) := hD
  have hS : va_S A9 s9.heap H locs := by rw [hH0, hlc0]; exact hS
  suffices hgo : W p9 l e9 ({ frames := 8, cells := 2, slots := 12, locals := 135 } : Room) s9 m9 ar9 be9 me9 c9 H locs 0 0 Q9 (F0 m9 0 ls []) by rw [hH0, hlc0] at hgo; exact hgo
  clear hH0 hlc0
  refine lv_aload_n hx hb dL_aim_0 rfl (lv_at hl 3 rfl) ?_
  refine lv_iconst (v := nI 0) hx hb dL_aim_1 (by decide +kernel) ?_
  refine lv_aload_n hx hb dL_aim_2 rfl (lv_at hl 0 rfl) ?_
  refine lv_iload_n hx hb dL_aim_3 rfl (lv_at hl 1 rfl) ?_
  refine lv_iload_n hx hb dL_aim_4 rfl (lv_at hl 2 rfl) ?_
  have hm9 := fun (_ : Unit) => suf_mem (X' := (fcW cI cS f0 a s fl c0 c1 n cs b r gl sv ad t f6 k)) (R := [(o0, .inl (cL, 1, .inr (.inl (lo xo))))]) (show va_D A9 ([(o0, .inl (cL, 1, .inr (.inl (lo xo))))] ++ (fcW cI cS f0 a s fl c0 c1 n cs b r gl sv ad t f6 k)) from hD) (fcW_perm (List.Perm.refl _))
  refine KX.callVM (As := [.int v1, .int v2]) (rest := [.int (nI 0), .ref o0]) (W0 := (fcW cI cS f0 a s fl c0 c1 n cs b r gl sv ad t f6 k)) (ws := ([(o0, .inl (cL, 1, .inr (.inl (lo xo))))] ++ (fcW cI cS f0 a s fl c0 c1 n cs b r gl sv ad t f6 k))) (ws' := fun (_ : Unit) => ([(o0, .inl (cL, 1, .inr (.inl (lo xo))))] ++ (fcW cI cS f0 a s fl c0 c1 n cs b r gl sv ad t f6 k))) C0 hN hAm (k_X5_aim_bad l D cI cS cL T f0 a s fl c0 c1 n cs b r gl sv ad t f6 k v1 v2 hst hI hT hk hn hcs hbad) (cwV 2 hts gL_aim_X5_aim rfl rfl rfl (by decide +kernel) ⟨Nat.le_of_ble_eq_true rfl, Nat.le_of_ble_eq_true rfl⟩) hK hP hD hS hA (hm9 ()).1 (hm9 ()).2.1 (fun u => (hm9 u).2.2.1) (fun u => (hm9 u).2.2.2) 0 5 rfl rfl rfl rfl hl.1 rfl (Nat.le_of_ble_eq_true rfl) dL_aim_5 ⟨Nat.le_of_ble_eq_true rfl, Nat.le_of_ble_eq_true rfl⟩ (fun E ce q9 H locs hE hP hS hq9 hv9 hcl9 => ?_) (fun v9 u9 H locs hv hP hD hS => ?_)
  ·
    rcases hE with hE | hE
    ·
      obtain ⟨hEe, hEc⟩ := hE
      subst hEe
      refine vx_catch (own := RL) (name := "java/lang/IndexOutOfBoundsException") hown [] ⟨0, 10, 13, 13⟩ [⟨0, 10, 17, 15⟩] (hTab.trans rfl) (fun z hz => absurd hz List.not_mem_nil) (by decide) (by decide) (hts (.classLink RL 13 "java/lang/IndexOutOfBoundsException") (by decide +kernel)) (va_Nw.use rfl (hAm.2.2.2.2.2.2 ("java/lang/IndexOutOfBoundsException", "java/lang/IndexOutOfBoundsException") (by decide))) hq9 hv9 hcl9 ?_
      refine lv_astore (lv' := [(4, .ref q9), (0, .ref f0), (1, .int v1), (2, .int v2), (3, .ref o0)]) hx hb dL_aim_13 hl (by decide) rfl (fun ls hl => ?_)
      refine lv_iconst (v := nI 1) hx hb dL_aim_15 (by decide +kernel) ?_
      exact hret _ _ _ _ (some (.int (nI 1))) () 16 ls (by decide) (by decide) (by exact rv (by (repeat' split) <;> first | rfl | (exfalso; omega))) hP hD hS (ret_i dL_aim_16)
    ·
      obtain ⟨hEe, hEc⟩ := hE
      subst hEe
      refine vx_catch (own := RL) (name := "java/lang/IllegalArgumentException") hown [⟨0, 10, 13, 13⟩] ⟨0, 10, 17, 15⟩ [] (hTab.trans rfl) (fun z hz => Or.inr (by rw [List.mem_singleton.mp hz]; exact ⟨by decide, "java/lang/IndexOutOfBoundsException", hts (.classLink RL 13 "java/lang/IndexOutOfBoundsException") (by decide +kernel), hXN ("java/lang/IllegalArgumentException", "java/lang/IndexOutOfBoundsException") (by decide)⟩)) (by decide) (by decide) (hts (.classLink RL 15 "java/lang/IllegalArgumentException") (by decide +kernel)) (va_Nw.use rfl (hAm.2.2.2.2.2.2 ("java/lang/IllegalArgumentException", "java/lang/IllegalArgumentException") (by decide))) hq9 hv9 hcl9 ?_
      refine lv_astore (lv' := [(4, .ref q9), (0, .ref f0), (1, .int v1), (2, .int v2), (3, .ref o0)]) hx hb dL_aim_17 hl (by decide) rfl (fun ls hl => ?_)
      refine lv_iconst (v := nI 2) hx hb dL_aim_19 (by decide +kernel) ?_
      exact hret _ _ _ _ (some (.int (nI 2))) () 20 ls (by decide) (by decide) (by exact rv (by (repeat' split) <;> first | rfl | (exfalso; omega))) hP hD hS (ret_i dL_aim_20)
  · exact hv.1.elim

set_option maxHeartbeats 4000000 in
set_option maxRecDepth 100000 in
theorem k_L_pump_ok (l : Launch) (D : va_G) (cI cS cL : ClassId) (T : Nat) (f0 : Nat) (a : Nat → Nat) (s : Nat → Nat) (fl : Nat → Nat) (c0 : Nat) (c1 : Nat) (n : Nat) (cs : Nat → Nat) (b : Nat → Nat) (r : Nat → Nat) (gl : Nat → Nat) (sv : Nat) (ad : Nat → Nat → Nat) (t : Nat → Nat → Nat) (f6 : Nat → Nat → Nat) (k : Nat) (j : Nat) (z : Nat) (o0 : Nat) (xo : Int64) (hst : l.stackTraces = false) (hI : sI T s) (hT : T ≤ 900000) (hk : k ≤ 6) (hn : n ≤ 60) (hcs : ∀ j, j < n → cs j < 2 ^ 31) (hj : j < 2) (hz2 : z ≤ 2000) : KC l D (TY cI cS cL) yL_pump wsL_pump ({ frames := 5, cells := 0, slots := 0, locals := 109 } : Room) ([(o0, .inl (cL, 1, .inr (.inl (lo xo))))] ++ (fcW cI cS f0 a s fl c0 c1 n cs b r gl sv ad t f6 k)) [.ref f0, .int (nI j), .int (nI z), .ref o0] (fun (v : Option Value) (_ : Unit) => v = some (.int (nI 0))) (fun _ : Unit => ([(o0, .inl (cL, 1, .inr (.inl (lo ((nI (liF s j)).toInt64)))))] ++ (fcW cI cS f0 a (upN s (3 + j) z) fl c0 c1 n cs b r gl sv (kpA k ad) (kpT k t s) (kpA k f6) (kpK k)))) := by
  refine KC.of (cc := cL_pump) (maxL := 5) (ret := (some .int)) (hh := [(0, 10, 13, 13), (0, 10, 17, 15)]) (by decide) rfl (Nat.le_of_ble_eq_true rfl) ?_
  intro p9 e9 s9 m9 ar9 be9 me9 c9 Q9 A9 ls C0 hN hAm hXN hTab hnm hlk hK hA hret hP hD hS hl
  obtain ⟨hx, hb, hml, hown, hts⟩ := id C0
  have hl : lv_has ls 5 [(0, .ref f0), (1, .int (nI j)), (2, .int (nI z)), (3, .ref o0)] := hl
  obtain ⟨H, hH0⟩ : ∃ H, H = s9.heap := ⟨_, rfl⟩
  obtain ⟨locs, hlc0⟩ : ∃ z : List Loc, z = [] := ⟨_, rfl⟩
  have hP : va_P D vwCl ([(o0, .inl (cL, 1, .inr (.inl (lo xo))))] ++ (fcW cI cS f0 a s fl c0 c1 n cs b r gl sv ad t f6 k)) H := by rw [hH0]; exact hP
  have hD : va_D A9 ([(o0, .inl (cL, 1, .inr (.inl (lo xo))))] ++ (fcW cI cS f0 a s fl c0 c1 n cs b r gl sv ad t f6 k)) := hD
  have hS : va_S A9 s9.heap H locs := by rw [hH0, hlc0]; exact hS
  suffices hgo : W p9 l e9 ({ frames := 5, cells := 0, slots := 0, locals := 109 } : Room) s9 m9 ar9 be9 me9 c9 H locs 0 0 Q9 (F0 m9 0 ls []) by rw [hH0, hlc0] at hgo; exact hgo
  clear hH0 hlc0
  refine lv_aload_n hx hb dL_pump_0 rfl (lv_at hl 3 rfl) ?_
  refine lv_iconst (v := nI 0) hx hb dL_pump_1 (by decide +kernel) ?_
  refine lv_aload_n hx hb dL_pump_2 rfl (lv_at hl 0 rfl) ?_
  refine lv_iload_n hx hb dL_pump_3 rfl (lv_at hl 1 rfl) ?_
  refine lv_iload_n hx hb dL_pump_4 rfl (lv_at hl 2 rfl) ?_
  have hm9 := fun (_ : Unit) => suf_mem (X' := (fcW cI cS f0 a (upN s (3 + j) z) fl c0 c1 n cs b r gl sv (kpA k ad) (kpT k t s) (kpA k f6) (kpK k))) (R := [(o0, .inl (cL, 1, .inr (.inl (lo xo))))]) (show va_D A9 ([(o0, .inl (cL, 1, .inr (.inl (lo xo))))] ++ (fcW cI cS f0 a s fl c0 c1 n cs b r gl sv ad t f6 k)) from hD) (fcW_perm (sv_kp cI cS sv ad t f6 (kpT k t s) (kpA k f6) k (kpK k)))
  refine KM.callVM (As := [.int (nI j), .int (nI z)]) (rest := [.int (nI 0), .ref o0]) (W0 := (fcW cI cS f0 a s fl c0 c1 n cs b r gl sv ad t f6 k)) (ws := ([(o0, .inl (cL, 1, .inr (.inl (lo xo))))] ++ (fcW cI cS f0 a s fl c0 c1 n cs b r gl sv ad t f6 k))) (ws' := fun (_ : Unit) => ([(o0, .inl (cL, 1, .inr (.inl (lo xo))))] ++ (fcW cI cS f0 a (upN s (3 + j) z) fl c0 c1 n cs b r gl sv (kpA k ad) (kpT k t s) (kpA k f6) (kpK k)))) C0 hN (k_X5_pump_ok l D cI cS cL T f0 a s fl c0 c1 n cs b r gl sv ad t f6 k j z hI hT hk hn hcs hj hz2) (cwV 2 hts gL_pump_X5_pump rfl rfl rfl (by decide +kernel) ⟨Nat.le_of_ble_eq_true rfl, Nat.le_of_ble_eq_true rfl⟩) hK hP hD hS hA (hm9 ()).1 (hm9 ()).2.1 (fun u => (hm9 u).2.2.1) (fun u => (hm9 u).2.2.2) 0 5 rfl rfl rfl rfl hl.1 rfl (Nat.le_of_ble_eq_true rfl) dL_pump_5 ⟨Nat.le_of_ble_eq_true rfl, Nat.le_of_ble_eq_true rfl⟩ (fun v9 u9 H locs hv hP hD hS => ?_)
  subst hv
  have hP : va_P D vwCl ([(o0, .inl (cL, 1, .inr (.inl (lo xo))))] ++ (fcW cI cS f0 a (upN s (3 + j) z) fl c0 c1 n cs b r gl sv (kpA k ad) (kpT k t s) (kpA k f6) (kpK k))) H := hP
  have hD : va_D A9 ([(o0, .inl (cL, 1, .inr (.inl (lo xo))))] ++ (fcW cI cS f0 a (upN s (3 + j) z) fl c0 c1 n cs b r gl sv (kpA k ad) (kpT k t s) (kpA k f6) (kpK k))) := hD
  refine W.eq (g2 := F0 m9 8 ls [.int (nI (liF s j)), .int (nI 0), .ref o0]) rfl ?_
  refine lv_i2l (v := (nI (liF s j)).toInt64) hx hb dL_pump_8 rfl ?_
  refine va_last (D := D) (i := nI 0) hx hb hK hP hD hS 0 2 rfl rfl (vp_in_nI (n := 0) (by decide) (by decide)) dL_pump_9 (fun H locs hP hD hS => ?_)
  rw [lo_up] at hP hD
  have hP : va_P D vwCl ([(o0, .inl (cL, 1, .inr (.inl (lo ((nI (liF s j)).toInt64)))))] ++ (fcW cI cS f0 a (upN s (3 + j) z) fl c0 c1 n cs b r gl sv (kpA k ad) (kpT k t s) (kpA k f6) (kpK k))) H := hP
  have hD : va_D A9 ([(o0, .inl (cL, 1, .inr (.inl (lo ((nI (liF s j)).toInt64)))))] ++ (fcW cI cS f0 a (upN s (3 + j) z) fl c0 c1 n cs b r gl sv (kpA k ad) (kpT k t s) (kpA k f6) (kpK k))) := hD
  refine lv_goto (tgt := 21) hx hb dL_pump_10 (by decide) ?_
  refine lv_iconst (v := nI 0) hx hb dL_pump_21 (by decide +kernel) ?_
  exact hret _ _ _ _ (some (.int (nI 0))) () 22 ls (by decide) (by decide) (by rfl) hP hD hS (ret_i dL_pump_22)

set_option maxHeartbeats 4000000 in
set_option maxRecDepth 100000 in
theorem k_L_pump_bad (l : Launch) (D : va_G) (cI cS cL : ClassId) (T : Nat) (f0 : Nat) (a : Nat → Nat) (s : Nat → Nat) (fl : Nat → Nat) (c0 : Nat) (c1 : Nat) (n : Nat) (cs : Nat → Nat) (b : Nat → Nat) (r : Nat → Nat) (gl : Nat → Nat) (sv : Nat) (ad : Nat → Nat → Nat) (t : Nat → Nat → Nat) (f6 : Nat → Nat → Nat) (k : Nat) (v1 : Int32) (v2 : Int32) (o0 : Nat) (xo : Int64) (hst : l.stackTraces = false) (hI : sI T s) (hT : T ≤ 900000) (hk : k ≤ 6) (hn : n ≤ 60) (hcs : ∀ j, j < n → cs j < 2 ^ 31) (hbad : ¬ (inR v1 0 1 ∧ inR v2 0 2000)) : KC l D (TY cI cS cL) yL_pump wsL_pump ({ frames := 8, cells := 2, slots := 12, locals := 135 } : Room) ([(o0, .inl (cL, 1, .inr (.inl (lo xo))))] ++ (fcW cI cS f0 a s fl c0 c1 n cs b r gl sv ad t f6 k)) [.ref f0, .int v1, .int v2, .ref o0] (fun (v : Option Value) (_ : Unit) => v = some (.int (nI (if inR v1 0 1 then 2 else 1)))) (fun _ : Unit => ([(o0, .inl (cL, 1, .inr (.inl (lo xo))))] ++ (fcW cI cS f0 a s fl c0 c1 n cs b r gl sv ad t f6 k))) := by
  refine KC.of (cc := cL_pump) (maxL := 5) (ret := (some .int)) (hh := [(0, 10, 13, 13), (0, 10, 17, 15)]) (by decide) rfl (Nat.le_of_ble_eq_true rfl) ?_
  intro p9 e9 s9 m9 ar9 be9 me9 c9 Q9 A9 ls C0 hN hAm hXN hTab hnm hlk hK hA hret hP hD hS hl
  obtain ⟨hx, hb, hml, hown, hts⟩ := id C0
  have hl : lv_has ls 5 [(0, .ref f0), (1, .int v1), (2, .int v2), (3, .ref o0)] := hl
  obtain ⟨H, hH0⟩ : ∃ H, H = s9.heap := ⟨_, rfl⟩
  obtain ⟨locs, hlc0⟩ : ∃ z : List Loc, z = [] := ⟨_, rfl⟩
  have hP : va_P D vwCl ([(o0, .inl (cL, 1, .inr (.inl (lo xo))))] ++ (fcW cI cS f0 a s fl c0 c1 n cs b r gl sv ad t f6 k)) H := by rw [hH0]; exact hP
  have hD : va_D A9 ([(o0, .inl (cL, 1, .inr (.inl (lo xo))))] ++ (fcW cI cS f0 a s fl c0 c1 n cs b r gl sv ad t f6 k)) := hD
  have hS : va_S A9 s9.heap H locs := by rw [hH0, hlc0]; exact hS
  suffices hgo : W p9 l e9 ({ frames := 8, cells := 2, slots := 12, locals := 135 } : Room) s9 m9 ar9 be9 me9 c9 H locs 0 0 Q9 (F0 m9 0 ls []) by rw [hH0, hlc0] at hgo; exact hgo
  clear hH0 hlc0
  refine lv_aload_n hx hb dL_pump_0 rfl (lv_at hl 3 rfl) ?_
  refine lv_iconst (v := nI 0) hx hb dL_pump_1 (by decide +kernel) ?_
  refine lv_aload_n hx hb dL_pump_2 rfl (lv_at hl 0 rfl) ?_
  refine lv_iload_n hx hb dL_pump_3 rfl (lv_at hl 1 rfl) ?_
  refine lv_iload_n hx hb dL_pump_4 rfl (lv_at hl 2 rfl) ?_
  have hm9 := fun (_ : Unit) => suf_mem (X' := (fcW cI cS f0 a s fl c0 c1 n cs b r gl sv ad t f6 k)) (R := [(o0, .inl (cL, 1, .inr (.inl (lo xo))))]) (show va_D A9 ([(o0, .inl (cL, 1, .inr (.inl (lo xo))))] ++ (fcW cI cS f0 a s fl c0 c1 n cs b r gl sv ad t f6 k)) from hD) (fcW_perm (List.Perm.refl _))
  refine KX.callVM (As := [.int v1, .int v2]) (rest := [.int (nI 0), .ref o0]) (W0 := (fcW cI cS f0 a s fl c0 c1 n cs b r gl sv ad t f6 k)) (ws := ([(o0, .inl (cL, 1, .inr (.inl (lo xo))))] ++ (fcW cI cS f0 a s fl c0 c1 n cs b r gl sv ad t f6 k))) (ws' := fun (_ : Unit) => ([(o0, .inl (cL, 1, .inr (.inl (lo xo))))] ++ (fcW cI cS f0 a s fl c0 c1 n cs b r gl sv ad t f6 k))) C0 hN hAm (k_X5_pump_bad l D cI cS cL T f0 a s fl c0 c1 n cs b r gl sv ad t f6 k v1 v2 hst hI hT hk hn hcs hbad) (cwV 2 hts gL_pump_X5_pump rfl rfl rfl (by decide +kernel) ⟨Nat.le_of_ble_eq_true rfl, Nat.le_of_ble_eq_true rfl⟩) hK hP hD hS hA (hm9 ()).1 (hm9 ()).2.1 (fun u => (hm9 u).2.2.1) (fun u => (hm9 u).2.2.2) 0 5 rfl rfl rfl rfl hl.1 rfl (Nat.le_of_ble_eq_true rfl) dL_pump_5 ⟨Nat.le_of_ble_eq_true rfl, Nat.le_of_ble_eq_true rfl⟩ (fun E ce q9 H locs hE hP hS hq9 hv9 hcl9 => ?_) (fun v9 u9 H locs hv hP hD hS => ?_)
  ·
    rcases hE with hE | hE
    ·
      obtain ⟨hEe, hEc⟩ := hE
      subst hEe
      refine vx_catch (own := RL) (name := "java/lang/IndexOutOfBoundsException") hown [] ⟨0, 10, 13, 13⟩ [⟨0, 10, 17, 15⟩] (hTab.trans rfl) (fun z hz => absurd hz List.not_mem_nil) (by decide) (by decide) (hts (.classLink RL 13 "java/lang/IndexOutOfBoundsException") (by decide +kernel)) (va_Nw.use rfl (hAm.2.2.2.2.2.2 ("java/lang/IndexOutOfBoundsException", "java/lang/IndexOutOfBoundsException") (by decide))) hq9 hv9 hcl9 ?_
      refine lv_astore (lv' := [(4, .ref q9), (0, .ref f0), (1, .int v1), (2, .int v2), (3, .ref o0)]) hx hb dL_pump_13 hl (by decide) rfl (fun ls hl => ?_)
      refine lv_iconst (v := nI 1) hx hb dL_pump_15 (by decide +kernel) ?_
      exact hret _ _ _ _ (some (.int (nI 1))) () 16 ls (by decide) (by decide) (by exact rv (by (repeat' split) <;> first | rfl | (exfalso; omega))) hP hD hS (ret_i dL_pump_16)
    ·
      obtain ⟨hEe, hEc⟩ := hE
      subst hEe
      refine vx_catch (own := RL) (name := "java/lang/IllegalArgumentException") hown [⟨0, 10, 13, 13⟩] ⟨0, 10, 17, 15⟩ [] (hTab.trans rfl) (fun z hz => Or.inr (by rw [List.mem_singleton.mp hz]; exact ⟨by decide, "java/lang/IndexOutOfBoundsException", hts (.classLink RL 13 "java/lang/IndexOutOfBoundsException") (by decide +kernel), hXN ("java/lang/IllegalArgumentException", "java/lang/IndexOutOfBoundsException") (by decide)⟩)) (by decide) (by decide) (hts (.classLink RL 15 "java/lang/IllegalArgumentException") (by decide +kernel)) (va_Nw.use rfl (hAm.2.2.2.2.2.2 ("java/lang/IllegalArgumentException", "java/lang/IllegalArgumentException") (by decide))) hq9 hv9 hcl9 ?_
      refine lv_astore (lv' := [(4, .ref q9), (0, .ref f0), (1, .int v1), (2, .int v2), (3, .ref o0)]) hx hb dL_pump_17 hl (by decide) rfl (fun ls hl => ?_)
      refine lv_iconst (v := nI 2) hx hb dL_pump_19 (by decide +kernel) ?_
      exact hret _ _ _ _ (some (.int (nI 2))) () 20 ls (by decide) (by decide) (by exact rv (by (repeat' split) <;> first | rfl | (exfalso; omega))) hP hD hS (ret_i dL_pump_20)
  · exact hv.1.elim

set_option maxHeartbeats 4000000 in
set_option maxRecDepth 100000 in
theorem k_L_wind_ok (l : Launch) (D : va_G) (cI cS cL : ClassId) (T : Nat) (f0 : Nat) (a : Nat → Nat) (s : Nat → Nat) (fl : Nat → Nat) (c0 : Nat) (c1 : Nat) (n : Nat) (cs : Nat → Nat) (b : Nat → Nat) (r : Nat → Nat) (gl : Nat → Nat) (sv : Nat) (ad : Nat → Nat → Nat) (t : Nat → Nat → Nat) (f6 : Nat → Nat → Nat) (k : Nat) (z : Nat) (o0 : Nat) (xo : Int64) (hst : l.stackTraces = false) (hI : sI T s) (hT : T ≤ 900000) (hk : k ≤ 6) (hn : n ≤ 60) (hcs : ∀ j, j < n → cs j < 2 ^ 31) (hz2 : z ≤ 20) : KC l D (TY cI cS cL) yL_wind wsL_wind ({ frames := 5, cells := 0, slots := 0, locals := 108 } : Room) ([(o0, .inl (cL, 1, .inr (.inl (lo xo))))] ++ (fcW cI cS f0 a s fl c0 c1 n cs b r gl sv ad t f6 k)) [.ref f0, .int (nI z), .ref o0] (fun (v : Option Value) (_ : Unit) => v = some (.int (nI 0))) (fun _ : Unit => ([(o0, .inl (cL, 1, .inr (.inl (lo ((nI (s 5)).toInt64)))))] ++ (fcW cI cS f0 a (upN s 5 z) fl c0 c1 n cs b r gl sv (kpA k ad) (kpT k t s) (kpA k f6) (kpK k)))) := by
  refine KC.of (cc := cL_wind) (maxL := 4) (ret := (some .int)) (hh := [(0, 9, 12, 15)]) (by decide) rfl (Nat.le_of_ble_eq_true rfl) ?_
  intro p9 e9 s9 m9 ar9 be9 me9 c9 Q9 A9 ls C0 hN hAm hXN hTab hnm hlk hK hA hret hP hD hS hl
  obtain ⟨hx, hb, hml, hown, hts⟩ := id C0
  have hl : lv_has ls 4 [(0, .ref f0), (1, .int (nI z)), (2, .ref o0)] := hl
  obtain ⟨H, hH0⟩ : ∃ H, H = s9.heap := ⟨_, rfl⟩
  obtain ⟨locs, hlc0⟩ : ∃ z : List Loc, z = [] := ⟨_, rfl⟩
  have hP : va_P D vwCl ([(o0, .inl (cL, 1, .inr (.inl (lo xo))))] ++ (fcW cI cS f0 a s fl c0 c1 n cs b r gl sv ad t f6 k)) H := by rw [hH0]; exact hP
  have hD : va_D A9 ([(o0, .inl (cL, 1, .inr (.inl (lo xo))))] ++ (fcW cI cS f0 a s fl c0 c1 n cs b r gl sv ad t f6 k)) := hD
  have hS : va_S A9 s9.heap H locs := by rw [hH0, hlc0]; exact hS
  suffices hgo : W p9 l e9 ({ frames := 5, cells := 0, slots := 0, locals := 108 } : Room) s9 m9 ar9 be9 me9 c9 H locs 0 0 Q9 (F0 m9 0 ls []) by rw [hH0, hlc0] at hgo; exact hgo
  clear hH0 hlc0
  refine lv_aload_n hx hb dL_wind_0 rfl (lv_at hl 2 rfl) ?_
  refine lv_iconst (v := nI 0) hx hb dL_wind_1 (by decide +kernel) ?_
  refine lv_aload_n hx hb dL_wind_2 rfl (lv_at hl 0 rfl) ?_
  refine lv_iload_n hx hb dL_wind_3 rfl (lv_at hl 1 rfl) ?_
  have hm9 := fun (_ : Unit) => suf_mem (X' := (fcW cI cS f0 a (upN s 5 z) fl c0 c1 n cs b r gl sv (kpA k ad) (kpT k t s) (kpA k f6) (kpK k))) (R := [(o0, .inl (cL, 1, .inr (.inl (lo xo))))]) (show va_D A9 ([(o0, .inl (cL, 1, .inr (.inl (lo xo))))] ++ (fcW cI cS f0 a s fl c0 c1 n cs b r gl sv ad t f6 k)) from hD) (fcW_perm (sv_kp cI cS sv ad t f6 (kpT k t s) (kpA k f6) k (kpK k)))
  refine KM.callVM (As := [.int (nI z)]) (rest := [.int (nI 0), .ref o0]) (W0 := (fcW cI cS f0 a s fl c0 c1 n cs b r gl sv ad t f6 k)) (ws := ([(o0, .inl (cL, 1, .inr (.inl (lo xo))))] ++ (fcW cI cS f0 a s fl c0 c1 n cs b r gl sv ad t f6 k))) (ws' := fun (_ : Unit) => ([(o0, .inl (cL, 1, .inr (.inl (lo xo))))] ++ (fcW cI cS f0 a (upN s 5 z) fl c0 c1 n cs b r gl sv (kpA k ad) (kpT k t s) (kpA k f6) (kpK k)))) C0 hN (k_X5_wind_ok l D cI cS cL T f0 a s fl c0 c1 n cs b r gl sv ad t f6 k z hI hT hk hn hcs hz2) (cwV 1 hts gL_wind_X5_wind rfl rfl rfl (by decide +kernel) ⟨Nat.le_of_ble_eq_true rfl, Nat.le_of_ble_eq_true rfl⟩) hK hP hD hS hA (hm9 ()).1 (hm9 ()).2.1 (fun u => (hm9 u).2.2.1) (fun u => (hm9 u).2.2.2) 0 5 rfl rfl rfl rfl hl.1 rfl (Nat.le_of_ble_eq_true rfl) dL_wind_4 ⟨Nat.le_of_ble_eq_true rfl, Nat.le_of_ble_eq_true rfl⟩ (fun v9 u9 H locs hv hP hD hS => ?_)
  subst hv
  have hP : va_P D vwCl ([(o0, .inl (cL, 1, .inr (.inl (lo xo))))] ++ (fcW cI cS f0 a (upN s 5 z) fl c0 c1 n cs b r gl sv (kpA k ad) (kpT k t s) (kpA k f6) (kpK k))) H := hP
  have hD : va_D A9 ([(o0, .inl (cL, 1, .inr (.inl (lo xo))))] ++ (fcW cI cS f0 a (upN s 5 z) fl c0 c1 n cs b r gl sv (kpA k ad) (kpT k t s) (kpA k f6) (kpK k))) := hD
  refine W.eq (g2 := F0 m9 7 ls [.int (nI (s 5)), .int (nI 0), .ref o0]) rfl ?_
  refine lv_i2l (v := (nI (s 5)).toInt64) hx hb dL_wind_7 rfl ?_
  refine va_last (D := D) (i := nI 0) hx hb hK hP hD hS 0 2 rfl rfl (vp_in_nI (n := 0) (by decide) (by decide)) dL_wind_8 (fun H locs hP hD hS => ?_)
  rw [lo_up] at hP hD
  have hP : va_P D vwCl ([(o0, .inl (cL, 1, .inr (.inl (lo ((nI (s 5)).toInt64)))))] ++ (fcW cI cS f0 a (upN s 5 z) fl c0 c1 n cs b r gl sv (kpA k ad) (kpT k t s) (kpA k f6) (kpK k))) H := hP
  have hD : va_D A9 ([(o0, .inl (cL, 1, .inr (.inl (lo ((nI (s 5)).toInt64)))))] ++ (fcW cI cS f0 a (upN s 5 z) fl c0 c1 n cs b r gl sv (kpA k ad) (kpT k t s) (kpA k f6) (kpK k))) := hD
  refine lv_goto (tgt := 15) hx hb dL_wind_9 (by decide) ?_
  refine lv_iconst (v := nI 0) hx hb dL_wind_15 (by decide +kernel) ?_
  exact hret _ _ _ _ (some (.int (nI 0))) () 16 ls (by decide) (by decide) (by rfl) hP hD hS (ret_i dL_wind_16)

set_option maxHeartbeats 4000000 in
set_option maxRecDepth 100000 in
theorem k_L_wind_bad (l : Launch) (D : va_G) (cI cS cL : ClassId) (T : Nat) (f0 : Nat) (a : Nat → Nat) (s : Nat → Nat) (fl : Nat → Nat) (c0 : Nat) (c1 : Nat) (n : Nat) (cs : Nat → Nat) (b : Nat → Nat) (r : Nat → Nat) (gl : Nat → Nat) (sv : Nat) (ad : Nat → Nat → Nat) (t : Nat → Nat → Nat) (f6 : Nat → Nat → Nat) (k : Nat) (v1 : Int32) (o0 : Nat) (xo : Int64) (hst : l.stackTraces = false) (hI : sI T s) (hT : T ≤ 900000) (hk : k ≤ 6) (hn : n ≤ 60) (hcs : ∀ j, j < n → cs j < 2 ^ 31) (hbad : ¬ (inR v1 0 20)) : KC l D (TY cI cS cL) yL_wind wsL_wind ({ frames := 8, cells := 1, slots := 6, locals := 134 } : Room) ([(o0, .inl (cL, 1, .inr (.inl (lo xo))))] ++ (fcW cI cS f0 a s fl c0 c1 n cs b r gl sv ad t f6 k)) [.ref f0, .int v1, .ref o0] (fun (v : Option Value) (_ : Unit) => v = some (.int (nI 1))) (fun _ : Unit => ([(o0, .inl (cL, 1, .inr (.inl (lo xo))))] ++ (fcW cI cS f0 a s fl c0 c1 n cs b r gl sv ad t f6 k))) := by
  refine KC.of (cc := cL_wind) (maxL := 4) (ret := (some .int)) (hh := [(0, 9, 12, 15)]) (by decide) rfl (Nat.le_of_ble_eq_true rfl) ?_
  intro p9 e9 s9 m9 ar9 be9 me9 c9 Q9 A9 ls C0 hN hAm hXN hTab hnm hlk hK hA hret hP hD hS hl
  obtain ⟨hx, hb, hml, hown, hts⟩ := id C0
  have hl : lv_has ls 4 [(0, .ref f0), (1, .int v1), (2, .ref o0)] := hl
  obtain ⟨H, hH0⟩ : ∃ H, H = s9.heap := ⟨_, rfl⟩
  obtain ⟨locs, hlc0⟩ : ∃ z : List Loc, z = [] := ⟨_, rfl⟩
  have hP : va_P D vwCl ([(o0, .inl (cL, 1, .inr (.inl (lo xo))))] ++ (fcW cI cS f0 a s fl c0 c1 n cs b r gl sv ad t f6 k)) H := by rw [hH0]; exact hP
  have hD : va_D A9 ([(o0, .inl (cL, 1, .inr (.inl (lo xo))))] ++ (fcW cI cS f0 a s fl c0 c1 n cs b r gl sv ad t f6 k)) := hD
  have hS : va_S A9 s9.heap H locs := by rw [hH0, hlc0]; exact hS
  suffices hgo : W p9 l e9 ({ frames := 8, cells := 1, slots := 6, locals := 134 } : Room) s9 m9 ar9 be9 me9 c9 H locs 0 0 Q9 (F0 m9 0 ls []) by rw [hH0, hlc0] at hgo; exact hgo
  clear hH0 hlc0
  refine lv_aload_n hx hb dL_wind_0 rfl (lv_at hl 2 rfl) ?_
  refine lv_iconst (v := nI 0) hx hb dL_wind_1 (by decide +kernel) ?_
  refine lv_aload_n hx hb dL_wind_2 rfl (lv_at hl 0 rfl) ?_
  refine lv_iload_n hx hb dL_wind_3 rfl (lv_at hl 1 rfl) ?_
  have hm9 := fun (_ : Unit) => suf_mem (X' := (fcW cI cS f0 a s fl c0 c1 n cs b r gl sv ad t f6 k)) (R := [(o0, .inl (cL, 1, .inr (.inl (lo xo))))]) (show va_D A9 ([(o0, .inl (cL, 1, .inr (.inl (lo xo))))] ++ (fcW cI cS f0 a s fl c0 c1 n cs b r gl sv ad t f6 k)) from hD) (fcW_perm (List.Perm.refl _))
  refine KX.callVM (As := [.int v1]) (rest := [.int (nI 0), .ref o0]) (W0 := (fcW cI cS f0 a s fl c0 c1 n cs b r gl sv ad t f6 k)) (ws := ([(o0, .inl (cL, 1, .inr (.inl (lo xo))))] ++ (fcW cI cS f0 a s fl c0 c1 n cs b r gl sv ad t f6 k))) (ws' := fun (_ : Unit) => ([(o0, .inl (cL, 1, .inr (.inl (lo xo))))] ++ (fcW cI cS f0 a s fl c0 c1 n cs b r gl sv ad t f6 k))) C0 hN hAm (k_X5_wind_bad l D cI cS cL T f0 a s fl c0 c1 n cs b r gl sv ad t f6 k v1 hst hI hT hk hn hcs hbad) (cwV 1 hts gL_wind_X5_wind rfl rfl rfl (by decide +kernel) ⟨Nat.le_of_ble_eq_true rfl, Nat.le_of_ble_eq_true rfl⟩) hK hP hD hS hA (hm9 ()).1 (hm9 ()).2.1 (fun u => (hm9 u).2.2.1) (fun u => (hm9 u).2.2.2) 0 5 rfl rfl rfl rfl hl.1 rfl (Nat.le_of_ble_eq_true rfl) dL_wind_4 ⟨Nat.le_of_ble_eq_true rfl, Nat.le_of_ble_eq_true rfl⟩ (fun E ce q9 H locs hE hP hS hq9 hv9 hcl9 => ?_) (fun v9 u9 H locs hv hP hD hS => ?_)
  ·
    ·
      have hEe := hE
      subst hEe
      refine vx_catch (own := RL) (name := "java/lang/IllegalArgumentException") hown [] ⟨0, 9, 12, 15⟩ [] (hTab.trans rfl) (fun z hz => absurd hz List.not_mem_nil) (by decide) (by decide) (hts (.classLink RL 15 "java/lang/IllegalArgumentException") (by decide +kernel)) (va_Nw.use rfl (hAm.2.2.2.2.2.2 ("java/lang/IllegalArgumentException", "java/lang/IllegalArgumentException") (by decide))) hq9 hv9 hcl9 ?_
      refine lv_astore_n (lv' := [(3, .ref q9), (0, .ref f0), (1, .int v1), (2, .ref o0)]) hx hb dL_wind_12 rfl hl (by decide) rfl (fun ls hl => ?_)
      refine lv_iconst (v := nI 1) hx hb dL_wind_13 (by decide +kernel) ?_
      exact hret _ _ _ _ (some (.int (nI 1))) () 14 ls (by decide) (by decide) (by exact rv (by (repeat' split) <;> first | rfl | (exfalso; omega))) hP hD hS (ret_i dL_wind_14)
  · exact hv.1.elim

set_option maxHeartbeats 4000000 in
set_option maxRecDepth 100000 in
theorem k_L_fill_ok (l : Launch) (D : va_G) (cI cS cL : ClassId) (T : Nat) (f0 : Nat) (a : Nat → Nat) (s : Nat → Nat) (fl : Nat → Nat) (c0 : Nat) (c1 : Nat) (n : Nat) (cs : Nat → Nat) (b : Nat → Nat) (r : Nat → Nat) (gl : Nat → Nat) (sv : Nat) (ad : Nat → Nat → Nat) (t : Nat → Nat → Nat) (f6 : Nat → Nat → Nat) (k : Nat) (z : Nat) (o0 : Nat) (xo : Int64) (hst : l.stackTraces = false) (hI : sI T s) (hT : T ≤ 900000) (hk : k ≤ 6) (hn : n ≤ 60) (hcs : ∀ j, j < n → cs j < 2 ^ 31) (hz1 : 1 ≤ z) (hz2 : z ≤ 9999) (hz3 : s 6 + z ≤ 99999) : KC l D (TY cI cS cL) yL_fill wsL_fill ({ frames := 5, cells := 0, slots := 0, locals := 107 } : Room) ([(o0, .inl (cL, 1, .inr (.inl (lo xo))))] ++ (fcW cI cS f0 a s fl c0 c1 n cs b r gl sv ad t f6 k)) [.ref f0, .int (nI z), .ref o0] (fun (v : Option Value) (_ : Unit) => v = some (.int (nI 0))) (fun _ : Unit => ([(o0, .inl (cL, 1, .inr (.inl (lo ((nI (s 6 + z)).toInt64)))))] ++ (fcW cI cS f0 a (upN s 6 (s 6 + z)) fl c0 c1 n cs b r gl sv (kpA k ad) (kpT k t s) (kpA k f6) (kpK k)))) := by
  refine KC.of (cc := cL_fill) (maxL := 4) (ret := (some .int)) (hh := [(0, 9, 12, 15), (0, 9, 15, 31)]) (by decide) rfl (Nat.le_of_ble_eq_true rfl) ?_
  intro p9 e9 s9 m9 ar9 be9 me9 c9 Q9 A9 ls C0 hN hAm hXN hTab hnm hlk hK hA hret hP hD hS hl
  obtain ⟨hx, hb, hml, hown, hts⟩ := id C0
  have hl : lv_has ls 4 [(0, .ref f0), (1, .int (nI z)), (2, .ref o0)] := hl
  obtain ⟨H, hH0⟩ : ∃ H, H = s9.heap := ⟨_, rfl⟩
  obtain ⟨locs, hlc0⟩ : ∃ z : List Loc, z = [] := ⟨_, rfl⟩
  have hP : va_P D vwCl ([(o0, .inl (cL, 1, .inr (.inl (lo xo))))] ++ (fcW cI cS f0 a s fl c0 c1 n cs b r gl sv ad t f6 k)) H := by rw [hH0]; exact hP
  have hD : va_D A9 ([(o0, .inl (cL, 1, .inr (.inl (lo xo))))] ++ (fcW cI cS f0 a s fl c0 c1 n cs b r gl sv ad t f6 k)) := hD
  have hS : va_S A9 s9.heap H locs := by rw [hH0, hlc0]; exact hS
  suffices hgo : W p9 l e9 ({ frames := 5, cells := 0, slots := 0, locals := 107 } : Room) s9 m9 ar9 be9 me9 c9 H locs 0 0 Q9 (F0 m9 0 ls []) by rw [hH0, hlc0] at hgo; exact hgo
  clear hH0 hlc0
  refine lv_aload_n hx hb dL_fill_0 rfl (lv_at hl 2 rfl) ?_
  refine lv_iconst (v := nI 0) hx hb dL_fill_1 (by decide +kernel) ?_
  refine lv_aload_n hx hb dL_fill_2 rfl (lv_at hl 0 rfl) ?_
  refine lv_iload_n hx hb dL_fill_3 rfl (lv_at hl 1 rfl) ?_
  have hm9 := fun (_ : Unit) => suf_mem (X' := (fcW cI cS f0 a (upN s 6 (s 6 + z)) fl c0 c1 n cs b r gl sv (kpA k ad) (kpT k t s) (kpA k f6) (kpK k))) (R := [(o0, .inl (cL, 1, .inr (.inl (lo xo))))]) (show va_D A9 ([(o0, .inl (cL, 1, .inr (.inl (lo xo))))] ++ (fcW cI cS f0 a s fl c0 c1 n cs b r gl sv ad t f6 k)) from hD) (fcW_perm (sv_kp cI cS sv ad t f6 (kpT k t s) (kpA k f6) k (kpK k)))
  refine KM.callVM (As := [.int (nI z)]) (rest := [.int (nI 0), .ref o0]) (W0 := (fcW cI cS f0 a s fl c0 c1 n cs b r gl sv ad t f6 k)) (ws := ([(o0, .inl (cL, 1, .inr (.inl (lo xo))))] ++ (fcW cI cS f0 a s fl c0 c1 n cs b r gl sv ad t f6 k))) (ws' := fun (_ : Unit) => ([(o0, .inl (cL, 1, .inr (.inl (lo xo))))] ++ (fcW cI cS f0 a (upN s 6 (s 6 + z)) fl c0 c1 n cs b r gl sv (kpA k ad) (kpT k t s) (kpA k f6) (kpK k)))) C0 hN (k_X5_fill_ok l D cI cS cL T f0 a s fl c0 c1 n cs b r gl sv ad t f6 k z hI hT hk hn hcs hz1 hz2 hz3) (cwV 1 hts gL_fill_X5_fill rfl rfl rfl (by decide +kernel) ⟨Nat.le_of_ble_eq_true rfl, Nat.le_of_ble_eq_true rfl⟩) hK hP hD hS hA (hm9 ()).1 (hm9 ()).2.1 (fun u => (hm9 u).2.2.1) (fun u => (hm9 u).2.2.2) 0 5 rfl rfl rfl rfl hl.1 rfl (Nat.le_of_ble_eq_true rfl) dL_fill_4 ⟨Nat.le_of_ble_eq_true rfl, Nat.le_of_ble_eq_true rfl⟩ (fun v9 u9 H locs hv hP hD hS => ?_)
  subst hv
  have hP : va_P D vwCl ([(o0, .inl (cL, 1, .inr (.inl (lo xo))))] ++ (fcW cI cS f0 a (upN s 6 (s 6 + z)) fl c0 c1 n cs b r gl sv (kpA k ad) (kpT k t s) (kpA k f6) (kpK k))) H := hP
  have hD : va_D A9 ([(o0, .inl (cL, 1, .inr (.inl (lo xo))))] ++ (fcW cI cS f0 a (upN s 6 (s 6 + z)) fl c0 c1 n cs b r gl sv (kpA k ad) (kpT k t s) (kpA k f6) (kpK k))) := hD
  refine W.eq (g2 := F0 m9 7 ls [.int (nI (s 6 + z)), .int (nI 0), .ref o0]) rfl ?_
  refine lv_i2l (v := (nI (s 6 + z)).toInt64) hx hb dL_fill_7 rfl ?_
  refine va_last (D := D) (i := nI 0) hx hb hK hP hD hS 0 2 rfl rfl (vp_in_nI (n := 0) (by decide) (by decide)) dL_fill_8 (fun H locs hP hD hS => ?_)
  rw [lo_up] at hP hD
  have hP : va_P D vwCl ([(o0, .inl (cL, 1, .inr (.inl (lo ((nI (s 6 + z)).toInt64)))))] ++ (fcW cI cS f0 a (upN s 6 (s 6 + z)) fl c0 c1 n cs b r gl sv (kpA k ad) (kpT k t s) (kpA k f6) (kpK k))) H := hP
  have hD : va_D A9 ([(o0, .inl (cL, 1, .inr (.inl (lo ((nI (s 6 + z)).toInt64)))))] ++ (fcW cI cS f0 a (upN s 6 (s 6 + z)) fl c0 c1 n cs b r gl sv (kpA k ad) (kpT k t s) (kpA k f6) (kpK k))) := hD
  refine lv_goto (tgt := 18) hx hb dL_fill_9 (by decide) ?_
  refine lv_iconst (v := nI 0) hx hb dL_fill_18 (by decide +kernel) ?_
  exact hret _ _ _ _ (some (.int (nI 0))) () 19 ls (by decide) (by decide) (by rfl) hP hD hS (ret_i dL_fill_19)

set_option maxHeartbeats 4000000 in
set_option maxRecDepth 100000 in
theorem k_L_fill_bad (l : Launch) (D : va_G) (cI cS cL : ClassId) (T : Nat) (f0 : Nat) (a : Nat → Nat) (s : Nat → Nat) (fl : Nat → Nat) (c0 : Nat) (c1 : Nat) (n : Nat) (cs : Nat → Nat) (b : Nat → Nat) (r : Nat → Nat) (gl : Nat → Nat) (sv : Nat) (ad : Nat → Nat → Nat) (t : Nat → Nat → Nat) (f6 : Nat → Nat → Nat) (k : Nat) (v1 : Int32) (o0 : Nat) (xo : Int64) (hst : l.stackTraces = false) (hI : sI T s) (hT : T ≤ 900000) (hk : k ≤ 6) (hn : n ≤ 60) (hcs : ∀ j, j < n → cs j < 2 ^ 31) (hbad : ¬ (inR v1 1 9999 ∧ s 6 + iN v1 ≤ 99999)) : KC l D (TY cI cS cL) yL_fill wsL_fill ({ frames := 8, cells := 2, slots := 12, locals := 133 } : Room) ([(o0, .inl (cL, 1, .inr (.inl (lo xo))))] ++ (fcW cI cS f0 a s fl c0 c1 n cs b r gl sv ad t f6 k)) [.ref f0, .int v1, .ref o0] (fun (v : Option Value) (_ : Unit) => v = some (.int (nI (if inR v1 1 9999 then 2 else 1)))) (fun _ : Unit => ([(o0, .inl (cL, 1, .inr (.inl (lo xo))))] ++ (fcW cI cS f0 a s fl c0 c1 n cs b r gl sv ad t f6 k))) := by
  refine KC.of (cc := cL_fill) (maxL := 4) (ret := (some .int)) (hh := [(0, 9, 12, 15), (0, 9, 15, 31)]) (by decide) rfl (Nat.le_of_ble_eq_true rfl) ?_
  intro p9 e9 s9 m9 ar9 be9 me9 c9 Q9 A9 ls C0 hN hAm hXN hTab hnm hlk hK hA hret hP hD hS hl
  obtain ⟨hx, hb, hml, hown, hts⟩ := id C0
  have hl : lv_has ls 4 [(0, .ref f0), (1, .int v1), (2, .ref o0)] := hl
  obtain ⟨H, hH0⟩ : ∃ H, H = s9.heap := ⟨_, rfl⟩
  obtain ⟨locs, hlc0⟩ : ∃ z : List Loc, z = [] := ⟨_, rfl⟩
  have hP : va_P D vwCl ([(o0, .inl (cL, 1, .inr (.inl (lo xo))))] ++ (fcW cI cS f0 a s fl c0 c1 n cs b r gl sv ad t f6 k)) H := by rw [hH0]; exact hP
  have hD : va_D A9 ([(o0, .inl (cL, 1, .inr (.inl (lo xo))))] ++ (fcW cI cS f0 a s fl c0 c1 n cs b r gl sv ad t f6 k)) := hD
  have hS : va_S A9 s9.heap H locs := by rw [hH0, hlc0]; exact hS
  suffices hgo : W p9 l e9 ({ frames := 8, cells := 2, slots := 12, locals := 133 } : Room) s9 m9 ar9 be9 me9 c9 H locs 0 0 Q9 (F0 m9 0 ls []) by rw [hH0, hlc0] at hgo; exact hgo
  clear hH0 hlc0
  refine lv_aload_n hx hb dL_fill_0 rfl (lv_at hl 2 rfl) ?_
  refine lv_iconst (v := nI 0) hx hb dL_fill_1 (by decide +kernel) ?_
  refine lv_aload_n hx hb dL_fill_2 rfl (lv_at hl 0 rfl) ?_
  refine lv_iload_n hx hb dL_fill_3 rfl (lv_at hl 1 rfl) ?_
  have hm9 := fun (_ : Unit) => suf_mem (X' := (fcW cI cS f0 a s fl c0 c1 n cs b r gl sv ad t f6 k)) (R := [(o0, .inl (cL, 1, .inr (.inl (lo xo))))]) (show va_D A9 ([(o0, .inl (cL, 1, .inr (.inl (lo xo))))] ++ (fcW cI cS f0 a s fl c0 c1 n cs b r gl sv ad t f6 k)) from hD) (fcW_perm (List.Perm.refl _))
  refine KX.callVM (As := [.int v1]) (rest := [.int (nI 0), .ref o0]) (W0 := (fcW cI cS f0 a s fl c0 c1 n cs b r gl sv ad t f6 k)) (ws := ([(o0, .inl (cL, 1, .inr (.inl (lo xo))))] ++ (fcW cI cS f0 a s fl c0 c1 n cs b r gl sv ad t f6 k))) (ws' := fun (_ : Unit) => ([(o0, .inl (cL, 1, .inr (.inl (lo xo))))] ++ (fcW cI cS f0 a s fl c0 c1 n cs b r gl sv ad t f6 k))) C0 hN hAm (k_X5_fill_bad l D cI cS cL T f0 a s fl c0 c1 n cs b r gl sv ad t f6 k v1 hst hI hT hk hn hcs hbad) (cwV 1 hts gL_fill_X5_fill rfl rfl rfl (by decide +kernel) ⟨Nat.le_of_ble_eq_true rfl, Nat.le_of_ble_eq_true rfl⟩) hK hP hD hS hA (hm9 ()).1 (hm9 ()).2.1 (fun u => (hm9 u).2.2.1) (fun u => (hm9 u).2.2.2) 0 5 rfl rfl rfl rfl hl.1 rfl (Nat.le_of_ble_eq_true rfl) dL_fill_4 ⟨Nat.le_of_ble_eq_true rfl, Nat.le_of_ble_eq_true rfl⟩ (fun E ce q9 H locs hE hP hS hq9 hv9 hcl9 => ?_) (fun v9 u9 H locs hv hP hD hS => ?_)
  ·
    rcases hE with hE | hE
    ·
      obtain ⟨hEe, hEc⟩ := hE
      subst hEe
      refine vx_catch (own := RL) (name := "java/lang/IllegalArgumentException") hown [] ⟨0, 9, 12, 15⟩ [⟨0, 9, 15, 31⟩] (hTab.trans rfl) (fun z hz => absurd hz List.not_mem_nil) (by decide) (by decide) (hts (.classLink RL 15 "java/lang/IllegalArgumentException") (by decide +kernel)) (va_Nw.use rfl (hAm.2.2.2.2.2.2 ("java/lang/IllegalArgumentException", "java/lang/IllegalArgumentException") (by decide))) hq9 hv9 hcl9 ?_
      refine lv_astore_n (lv' := [(3, .ref q9), (0, .ref f0), (1, .int v1), (2, .ref o0)]) hx hb dL_fill_12 rfl hl (by decide) rfl (fun ls hl => ?_)
      refine lv_iconst (v := nI 1) hx hb dL_fill_13 (by decide +kernel) ?_
      exact hret _ _ _ _ (some (.int (nI 1))) () 14 ls (by decide) (by decide) (by exact rv (by (repeat' split) <;> first | rfl | (exfalso; omega))) hP hD hS (ret_i dL_fill_14)
    ·
      obtain ⟨hEe, hEc⟩ := hE
      subst hEe
      refine vx_catch (own := RL) (name := "java/lang/IllegalStateException") hown [⟨0, 9, 12, 15⟩] ⟨0, 9, 15, 31⟩ [] (hTab.trans rfl) (fun z hz => Or.inr (by rw [List.mem_singleton.mp hz]; exact ⟨by decide, "java/lang/IllegalArgumentException", hts (.classLink RL 15 "java/lang/IllegalArgumentException") (by decide +kernel), hXN ("java/lang/IllegalStateException", "java/lang/IllegalArgumentException") (by decide)⟩)) (by decide) (by decide) (hts (.classLink RL 31 "java/lang/IllegalStateException") (by decide +kernel)) (va_Nw.use rfl (hAm.2.2.2.2.2.2 ("java/lang/IllegalStateException", "java/lang/IllegalStateException") (by decide))) hq9 hv9 hcl9 ?_
      refine lv_astore_n (lv' := [(3, .ref q9), (0, .ref f0), (1, .int v1), (2, .ref o0)]) hx hb dL_fill_15 rfl hl (by decide) rfl (fun ls hl => ?_)
      refine lv_iconst (v := nI 2) hx hb dL_fill_16 (by decide +kernel) ?_
      exact hret _ _ _ _ (some (.int (nI 2))) () 17 ls (by decide) (by decide) (by exact rv (by (repeat' split) <;> first | rfl | (exfalso; omega))) hP hD hS (ret_i dL_fill_17)
  · exact hv.1.elim

set_option maxHeartbeats 4000000 in
set_option maxRecDepth 100000 in
theorem k_L_set_ok (l : Launch) (D : va_G) (cI cS cL : ClassId) (T : Nat) (f0 : Nat) (a : Nat → Nat) (s : Nat → Nat) (fl : Nat → Nat) (c0 : Nat) (c1 : Nat) (n : Nat) (cs : Nat → Nat) (b : Nat → Nat) (r : Nat → Nat) (gl : Nat → Nat) (sv : Nat) (ad : Nat → Nat → Nat) (t : Nat → Nat → Nat) (f6 : Nat → Nat → Nat) (k : Nat) (j : Nat) (z : Nat) (o0 : Nat) (xo : Int64) (hst : l.stackTraces = false) (hI : sI T s) (hT : T ≤ 900000) (hk : k ≤ 6) (hn : n ≤ 60) (hcs : ∀ j, j < n → cs j < 2 ^ 31) (hj : j < 3) (hz1 : leF j ≤ z) (hz2 : z ≤ moF j) : KC l D (TY cI cS cL) yL_set wsL_set ({ frames := 5, cells := 0, slots := 0, locals := 109 } : Room) ([(o0, .inl (cL, 1, .inr (.inl (lo xo))))] ++ (fcW cI cS f0 a s fl c0 c1 n cs b r gl sv ad t f6 k)) [.ref f0, .int (nI j), .int (nI z), .ref o0] (fun (v : Option Value) (_ : Unit) => v = some (.int (nI 0))) (fun _ : Unit => ([(o0, .inl (cL, 1, .inr (.inl (lo ((nI (seF s j)).toInt64)))))] ++ (fcW cI cS f0 a (upN s j z) fl c0 c1 n cs b r gl sv (kpA k ad) (kpT k t s) (kpA k f6) (kpK k)))) := by
  refine KC.of (cc := cL_set) (maxL := 5) (ret := (some .int)) (hh := [(0, 10, 13, 13), (0, 10, 17, 15)]) (by decide) rfl (Nat.le_of_ble_eq_true rfl) ?_
  intro p9 e9 s9 m9 ar9 be9 me9 c9 Q9 A9 ls C0 hN hAm hXN hTab hnm hlk hK hA hret hP hD hS hl
  obtain ⟨hx, hb, hml, hown, hts⟩ := id C0
  have hl : lv_has ls 5 [(0, .ref f0), (1, .int (nI j)), (2, .int (nI z)), (3, .ref o0)] := hl
  obtain ⟨H, hH0⟩ : ∃ H, H = s9.heap := ⟨_, rfl⟩
  obtain ⟨locs, hlc0⟩ : ∃ z : List Loc, z = [] := ⟨_, rfl⟩
  have hP : va_P D vwCl ([(o0, .inl (cL, 1, .inr (.inl (lo xo))))] ++ (fcW cI cS f0 a s fl c0 c1 n cs b r gl sv ad t f6 k)) H := by rw [hH0]; exact hP
  have hD : va_D A9 ([(o0, .inl (cL, 1, .inr (.inl (lo xo))))] ++ (fcW cI cS f0 a s fl c0 c1 n cs b r gl sv ad t f6 k)) := hD
  have hS : va_S A9 s9.heap H locs := by rw [hH0, hlc0]; exact hS
  suffices hgo : W p9 l e9 ({ frames := 5, cells := 0, slots := 0, locals := 109 } : Room) s9 m9 ar9 be9 me9 c9 H locs 0 0 Q9 (F0 m9 0 ls []) by rw [hH0, hlc0] at hgo; exact hgo
  clear hH0 hlc0
  refine lv_aload_n hx hb dL_set_0 rfl (lv_at hl 3 rfl) ?_
  refine lv_iconst (v := nI 0) hx hb dL_set_1 (by decide +kernel) ?_
  refine lv_aload_n hx hb dL_set_2 rfl (lv_at hl 0 rfl) ?_
  refine lv_iload_n hx hb dL_set_3 rfl (lv_at hl 1 rfl) ?_
  refine lv_iload_n hx hb dL_set_4 rfl (lv_at hl 2 rfl) ?_
  have hm9 := fun (_ : Unit) => suf_mem (X' := (fcW cI cS f0 a (upN s j z) fl c0 c1 n cs b r gl sv (kpA k ad) (kpT k t s) (kpA k f6) (kpK k))) (R := [(o0, .inl (cL, 1, .inr (.inl (lo xo))))]) (show va_D A9 ([(o0, .inl (cL, 1, .inr (.inl (lo xo))))] ++ (fcW cI cS f0 a s fl c0 c1 n cs b r gl sv ad t f6 k)) from hD) (fcW_perm (sv_kp cI cS sv ad t f6 (kpT k t s) (kpA k f6) k (kpK k)))
  refine KX.callVM (As := [.int (nI j), .int (nI z)]) (rest := [.int (nI 0), .ref o0]) (W0 := (fcW cI cS f0 a s fl c0 c1 n cs b r gl sv ad t f6 k)) (ws := ([(o0, .inl (cL, 1, .inr (.inl (lo xo))))] ++ (fcW cI cS f0 a s fl c0 c1 n cs b r gl sv ad t f6 k))) (ws' := fun (_ : Unit) => ([(o0, .inl (cL, 1, .inr (.inl (lo xo))))] ++ (fcW cI cS f0 a (upN s j z) fl c0 c1 n cs b r gl sv (kpA k ad) (kpT k t s) (kpA k f6) (kpK k)))) C0 hN hAm (k_X5_set_ok l D cI cS cL T f0 a s fl c0 c1 n cs b r gl sv ad t f6 k j z hst hI hT hk hn hcs hj hz1 hz2) (cwV 2 hts gL_set_X5_set rfl rfl rfl (by decide +kernel) ⟨Nat.le_of_ble_eq_true rfl, Nat.le_of_ble_eq_true rfl⟩) hK hP hD hS hA (hm9 ()).1 (hm9 ()).2.1 (fun u => (hm9 u).2.2.1) (fun u => (hm9 u).2.2.2) 0 5 rfl rfl rfl rfl hl.1 rfl (Nat.le_of_ble_eq_true rfl) dL_set_5 ⟨Nat.le_of_ble_eq_true rfl, Nat.le_of_ble_eq_true rfl⟩ (fun E ce q9 H locs hE hP hS hq9 hv9 hcl9 => ?_) (fun v9 u9 H locs hv hP hD hS => ?_)
  · exact hE.elim
  ·
    subst hv
    have hP : va_P D vwCl ([(o0, .inl (cL, 1, .inr (.inl (lo xo))))] ++ (fcW cI cS f0 a (upN s j z) fl c0 c1 n cs b r gl sv (kpA k ad) (kpT k t s) (kpA k f6) (kpK k))) H := hP
    have hD : va_D A9 ([(o0, .inl (cL, 1, .inr (.inl (lo xo))))] ++ (fcW cI cS f0 a (upN s j z) fl c0 c1 n cs b r gl sv (kpA k ad) (kpT k t s) (kpA k f6) (kpK k))) := hD
    refine W.eq (g2 := F0 m9 8 ls [.int (nI (seF s j)), .int (nI 0), .ref o0]) rfl ?_
    refine lv_i2l (v := (nI (seF s j)).toInt64) hx hb dL_set_8 rfl ?_
    refine va_last (D := D) (i := nI 0) hx hb hK hP hD hS 0 2 rfl rfl (vp_in_nI (n := 0) (by decide) (by decide)) dL_set_9 (fun H locs hP hD hS => ?_)
    rw [lo_up] at hP hD
    have hP : va_P D vwCl ([(o0, .inl (cL, 1, .inr (.inl (lo ((nI (seF s j)).toInt64)))))] ++ (fcW cI cS f0 a (upN s j z) fl c0 c1 n cs b r gl sv (kpA k ad) (kpT k t s) (kpA k f6) (kpK k))) H := hP
    have hD : va_D A9 ([(o0, .inl (cL, 1, .inr (.inl (lo ((nI (seF s j)).toInt64)))))] ++ (fcW cI cS f0 a (upN s j z) fl c0 c1 n cs b r gl sv (kpA k ad) (kpT k t s) (kpA k f6) (kpK k))) := hD
    refine lv_goto (tgt := 21) hx hb dL_set_10 (by decide) ?_
    refine lv_iconst (v := nI 0) hx hb dL_set_21 (by decide +kernel) ?_
    exact hret _ _ _ _ (some (.int (nI 0))) () 22 ls (by decide) (by decide) (by rfl) hP hD hS (ret_i dL_set_22)

set_option maxHeartbeats 4000000 in
set_option maxRecDepth 100000 in
theorem k_L_set_bad (l : Launch) (D : va_G) (cI cS cL : ClassId) (T : Nat) (f0 : Nat) (a : Nat → Nat) (s : Nat → Nat) (fl : Nat → Nat) (c0 : Nat) (c1 : Nat) (n : Nat) (cs : Nat → Nat) (b : Nat → Nat) (r : Nat → Nat) (gl : Nat → Nat) (sv : Nat) (ad : Nat → Nat → Nat) (t : Nat → Nat → Nat) (f6 : Nat → Nat → Nat) (k : Nat) (v1 : Int32) (v2 : Int32) (o0 : Nat) (xo : Int64) (hst : l.stackTraces = false) (hI : sI T s) (hT : T ≤ 900000) (hk : k ≤ 6) (hn : n ≤ 60) (hcs : ∀ j, j < n → cs j < 2 ^ 31) (hbad : ¬ (inR v1 0 2 ∧ inR v2 (leF (iN v1)) (moF (iN v1)))) : KC l D (TY cI cS cL) yL_set wsL_set ({ frames := 8, cells := 2, slots := 12, locals := 135 } : Room) ([(o0, .inl (cL, 1, .inr (.inl (lo xo))))] ++ (fcW cI cS f0 a s fl c0 c1 n cs b r gl sv ad t f6 k)) [.ref f0, .int v1, .int v2, .ref o0] (fun (v : Option Value) (_ : Unit) => v = some (.int (nI (if inR v1 0 2 then 2 else 1)))) (fun _ : Unit => ([(o0, .inl (cL, 1, .inr (.inl (lo xo))))] ++ (fcW cI cS f0 a s fl c0 c1 n cs b r gl sv ad t f6 k))) := by
  refine KC.of (cc := cL_set) (maxL := 5) (ret := (some .int)) (hh := [(0, 10, 13, 13), (0, 10, 17, 15)]) (by decide) rfl (Nat.le_of_ble_eq_true rfl) ?_
  intro p9 e9 s9 m9 ar9 be9 me9 c9 Q9 A9 ls C0 hN hAm hXN hTab hnm hlk hK hA hret hP hD hS hl
  obtain ⟨hx, hb, hml, hown, hts⟩ := id C0
  have hl : lv_has ls 5 [(0, .ref f0), (1, .int v1), (2, .int v2), (3, .ref o0)] := hl
  obtain ⟨H, hH0⟩ : ∃ H, H = s9.heap := ⟨_, rfl⟩
  obtain ⟨locs, hlc0⟩ : ∃ z : List Loc, z = [] := ⟨_, rfl⟩
  have hP : va_P D vwCl ([(o0, .inl (cL, 1, .inr (.inl (lo xo))))] ++ (fcW cI cS f0 a s fl c0 c1 n cs b r gl sv ad t f6 k)) H := by rw [hH0]; exact hP
  have hD : va_D A9 ([(o0, .inl (cL, 1, .inr (.inl (lo xo))))] ++ (fcW cI cS f0 a s fl c0 c1 n cs b r gl sv ad t f6 k)) := hD
  have hS : va_S A9 s9.heap H locs := by rw [hH0, hlc0]; exact hS
  suffices hgo : W p9 l e9 ({ frames := 8, cells := 2, slots := 12, locals := 135 } : Room) s9 m9 ar9 be9 me9 c9 H locs 0 0 Q9 (F0 m9 0 ls []) by rw [hH0, hlc0] at hgo; exact hgo
  clear hH0 hlc0
  refine lv_aload_n hx hb dL_set_0 rfl (lv_at hl 3 rfl) ?_
  refine lv_iconst (v := nI 0) hx hb dL_set_1 (by decide +kernel) ?_
  refine lv_aload_n hx hb dL_set_2 rfl (lv_at hl 0 rfl) ?_
  refine lv_iload_n hx hb dL_set_3 rfl (lv_at hl 1 rfl) ?_
  refine lv_iload_n hx hb dL_set_4 rfl (lv_at hl 2 rfl) ?_
  have hm9 := fun (_ : Unit) => suf_mem (X' := (fcW cI cS f0 a s fl c0 c1 n cs b r gl sv ad t f6 k)) (R := [(o0, .inl (cL, 1, .inr (.inl (lo xo))))]) (show va_D A9 ([(o0, .inl (cL, 1, .inr (.inl (lo xo))))] ++ (fcW cI cS f0 a s fl c0 c1 n cs b r gl sv ad t f6 k)) from hD) (fcW_perm (List.Perm.refl _))
  refine KX.callVM (As := [.int v1, .int v2]) (rest := [.int (nI 0), .ref o0]) (W0 := (fcW cI cS f0 a s fl c0 c1 n cs b r gl sv ad t f6 k)) (ws := ([(o0, .inl (cL, 1, .inr (.inl (lo xo))))] ++ (fcW cI cS f0 a s fl c0 c1 n cs b r gl sv ad t f6 k))) (ws' := fun (_ : Unit) => ([(o0, .inl (cL, 1, .inr (.inl (lo xo))))] ++ (fcW cI cS f0 a s fl c0 c1 n cs b r gl sv ad t f6 k))) C0 hN hAm (k_X5_set_bad l D cI cS cL T f0 a s fl c0 c1 n cs b r gl sv ad t f6 k v1 v2 hst hI hT hk hn hcs hbad) (cwV 2 hts gL_set_X5_set rfl rfl rfl (by decide +kernel) ⟨Nat.le_of_ble_eq_true rfl, Nat.le_of_ble_eq_true rfl⟩) hK hP hD hS hA (hm9 ()).1 (hm9 ()).2.1 (fun u => (hm9 u).2.2.1) (fun u => (hm9 u).2.2.2) 0 5 rfl rfl rfl rfl hl.1 rfl (Nat.le_of_ble_eq_true rfl) dL_set_5 ⟨Nat.le_of_ble_eq_true rfl, Nat.le_of_ble_eq_true rfl⟩ (fun E ce q9 H locs hE hP hS hq9 hv9 hcl9 => ?_) (fun v9 u9 H locs hv hP hD hS => ?_)
  ·
    rcases hE with hE | hE
    ·
      obtain ⟨hEe, hEc⟩ := hE
      subst hEe
      refine vx_catch (own := RL) (name := "java/lang/IndexOutOfBoundsException") hown [] ⟨0, 10, 13, 13⟩ [⟨0, 10, 17, 15⟩] (hTab.trans rfl) (fun z hz => absurd hz List.not_mem_nil) (by decide) (by decide) (hts (.classLink RL 13 "java/lang/IndexOutOfBoundsException") (by decide +kernel)) (va_Nw.use rfl (hAm.2.2.2.2.2.2 ("java/lang/IndexOutOfBoundsException", "java/lang/IndexOutOfBoundsException") (by decide))) hq9 hv9 hcl9 ?_
      refine lv_astore (lv' := [(4, .ref q9), (0, .ref f0), (1, .int v1), (2, .int v2), (3, .ref o0)]) hx hb dL_set_13 hl (by decide) rfl (fun ls hl => ?_)
      refine lv_iconst (v := nI 1) hx hb dL_set_15 (by decide +kernel) ?_
      exact hret _ _ _ _ (some (.int (nI 1))) () 16 ls (by decide) (by decide) (by exact rv (by (repeat' split) <;> first | rfl | (exfalso; omega))) hP hD hS (ret_i dL_set_16)
    ·
      obtain ⟨hEe, hEc⟩ := hE
      subst hEe
      refine vx_catch (own := RL) (name := "java/lang/IllegalArgumentException") hown [⟨0, 10, 13, 13⟩] ⟨0, 10, 17, 15⟩ [] (hTab.trans rfl) (fun z hz => Or.inr (by rw [List.mem_singleton.mp hz]; exact ⟨by decide, "java/lang/IndexOutOfBoundsException", hts (.classLink RL 13 "java/lang/IndexOutOfBoundsException") (by decide +kernel), hXN ("java/lang/IllegalArgumentException", "java/lang/IndexOutOfBoundsException") (by decide)⟩)) (by decide) (by decide) (hts (.classLink RL 15 "java/lang/IllegalArgumentException") (by decide +kernel)) (va_Nw.use rfl (hAm.2.2.2.2.2.2 ("java/lang/IllegalArgumentException", "java/lang/IllegalArgumentException") (by decide))) hq9 hv9 hcl9 ?_
      refine lv_astore (lv' := [(4, .ref q9), (0, .ref f0), (1, .int v1), (2, .int v2), (3, .ref o0)]) hx hb dL_set_17 hl (by decide) rfl (fun ls hl => ?_)
      refine lv_iconst (v := nI 2) hx hb dL_set_19 (by decide +kernel) ?_
      exact hret _ _ _ _ (some (.int (nI 2))) () 20 ls (by decide) (by decide) (by exact rv (by (repeat' split) <;> first | rfl | (exfalso; omega))) hP hD hS (ret_i dL_set_20)
  · exact hv.1.elim

set_option maxHeartbeats 4000000 in
set_option maxRecDepth 100000 in
theorem k_L_cue_ok (l : Launch) (D : va_G) (cI cS cL : ClassId) (T : Nat) (f0 : Nat) (a : Nat → Nat) (s : Nat → Nat) (fl : Nat → Nat) (c0 : Nat) (c1 : Nat) (n : Nat) (cs : Nat → Nat) (b : Nat → Nat) (r : Nat → Nat) (gl : Nat → Nat) (sv : Nat) (ad : Nat → Nat → Nat) (t : Nat → Nat → Nat) (f6 : Nat → Nat → Nat) (k : Nat) (q : Nat) (j : Nat) (x : Nat) (o0 : Nat) (xo : Int64) (hst : l.stackTraces = false) (hI : sI T s) (hT : T ≤ 900000) (hk : k ≤ 6) (hn : n ≤ 60) (hcs : ∀ j, j < n → cs j < 2 ^ 31) (hq : q ≤ 999) (hj : j < 8) (hx2 : x ≤ 10) (hr : rS s q j x = 0) : KC l D (TY cI cS cL) yL_cue wsL_cue ({ frames := 5, cells := 0, slots := 0, locals := 109 } : Room) ([(o0, .inl (cL, 1, .inr (.inl (lo xo))))] ++ (fcW cI cS f0 a s fl c0 c1 n cs b r gl sv ad t f6 k)) [.ref f0, .int (nI q), .int (nI j), .int (nI x), .ref o0] (fun (v : Option Value) (_ : Unit) => v = some (.int (nI 0))) (fun _ : Unit => ([(o0, .inl (cL, 1, .inr (.inl (lo ((nI (s 9)).toInt64)))))] ++ (fcW cI cS f0 a (mAdd s q j x) fl c0 c1 n cs b r gl sv (kpA k ad) (kpT k t s) (kpA k f6) (kpK k)))) := by
  refine KC.of (cc := cL_cue) (maxL := 6) (ret := (some .int)) (hh := [(0, 12, 15, 13), (0, 12, 19, 15), (0, 12, 23, 31)]) (by decide) rfl (Nat.le_of_ble_eq_true rfl) ?_
  intro p9 e9 s9 m9 ar9 be9 me9 c9 Q9 A9 ls C0 hN hAm hXN hTab hnm hlk hK hA hret hP hD hS hl
  obtain ⟨hx, hb, hml, hown, hts⟩ := id C0
  have hl : lv_has ls 6 [(0, .ref f0), (1, .int (nI q)), (2, .int (nI j)), (3, .int (nI x)), (4, .ref o0)] := hl
  obtain ⟨H, hH0⟩ : ∃ H, H = s9.heap := ⟨_, rfl⟩
  obtain ⟨locs, hlc0⟩ : ∃ z : List Loc, z = [] := ⟨_, rfl⟩
  have hP : va_P D vwCl ([(o0, .inl (cL, 1, .inr (.inl (lo xo))))] ++ (fcW cI cS f0 a s fl c0 c1 n cs b r gl sv ad t f6 k)) H := by rw [hH0]; exact hP
  have hD : va_D A9 ([(o0, .inl (cL, 1, .inr (.inl (lo xo))))] ++ (fcW cI cS f0 a s fl c0 c1 n cs b r gl sv ad t f6 k)) := hD
  have hS : va_S A9 s9.heap H locs := by rw [hH0, hlc0]; exact hS
  suffices hgo : W p9 l e9 ({ frames := 5, cells := 0, slots := 0, locals := 109 } : Room) s9 m9 ar9 be9 me9 c9 H locs 0 0 Q9 (F0 m9 0 ls []) by rw [hH0, hlc0] at hgo; exact hgo
  clear hH0 hlc0
  refine lv_aload hx hb dL_cue_0 (lv_at hl 4 rfl) ?_
  refine lv_iconst (v := nI 0) hx hb dL_cue_2 (by decide +kernel) ?_
  refine lv_aload_n hx hb dL_cue_3 rfl (lv_at hl 0 rfl) ?_
  refine lv_iload_n hx hb dL_cue_4 rfl (lv_at hl 1 rfl) ?_
  refine lv_iload_n hx hb dL_cue_5 rfl (lv_at hl 2 rfl) ?_
  refine lv_iload_n hx hb dL_cue_6 rfl (lv_at hl 3 rfl) ?_
  have hm9 := fun (_ : Unit) => suf_mem (X' := (fcW cI cS f0 a (mAdd s q j x) fl c0 c1 n cs b r gl sv (kpA k ad) (kpT k t s) (kpA k f6) (kpK k))) (R := [(o0, .inl (cL, 1, .inr (.inl (lo xo))))]) (show va_D A9 ([(o0, .inl (cL, 1, .inr (.inl (lo xo))))] ++ (fcW cI cS f0 a s fl c0 c1 n cs b r gl sv ad t f6 k)) from hD) (fcW_perm (sv_kp cI cS sv ad t f6 (kpT k t s) (kpA k f6) k (kpK k)))
  refine KM.callVM (As := [.int (nI q), .int (nI j), .int (nI x)]) (rest := [.int (nI 0), .ref o0]) (W0 := (fcW cI cS f0 a s fl c0 c1 n cs b r gl sv ad t f6 k)) (ws := ([(o0, .inl (cL, 1, .inr (.inl (lo xo))))] ++ (fcW cI cS f0 a s fl c0 c1 n cs b r gl sv ad t f6 k))) (ws' := fun (_ : Unit) => ([(o0, .inl (cL, 1, .inr (.inl (lo xo))))] ++ (fcW cI cS f0 a (mAdd s q j x) fl c0 c1 n cs b r gl sv (kpA k ad) (kpT k t s) (kpA k f6) (kpK k)))) C0 hN (k_X5_cue_ok l D cI cS cL T f0 a s fl c0 c1 n cs b r gl sv ad t f6 k q j x hI hT hk hn hcs hq hj hx2 hr) (cwV 3 hts gL_cue_X5_cue rfl rfl rfl (by decide +kernel) ⟨Nat.le_of_ble_eq_true rfl, Nat.le_of_ble_eq_true rfl⟩) hK hP hD hS hA (hm9 ()).1 (hm9 ()).2.1 (fun u => (hm9 u).2.2.1) (fun u => (hm9 u).2.2.2) 0 5 rfl rfl rfl rfl hl.1 rfl (Nat.le_of_ble_eq_true rfl) dL_cue_7 ⟨Nat.le_of_ble_eq_true rfl, Nat.le_of_ble_eq_true rfl⟩ (fun v9 u9 H locs hv hP hD hS => ?_)
  subst hv
  have hP : va_P D vwCl ([(o0, .inl (cL, 1, .inr (.inl (lo xo))))] ++ (fcW cI cS f0 a (mAdd s q j x) fl c0 c1 n cs b r gl sv (kpA k ad) (kpT k t s) (kpA k f6) (kpK k))) H := hP
  have hD : va_D A9 ([(o0, .inl (cL, 1, .inr (.inl (lo xo))))] ++ (fcW cI cS f0 a (mAdd s q j x) fl c0 c1 n cs b r gl sv (kpA k ad) (kpT k t s) (kpA k f6) (kpK k))) := hD
  refine W.eq (g2 := F0 m9 10 ls [.int (nI (s 9)), .int (nI 0), .ref o0]) rfl ?_
  refine lv_i2l (v := (nI (s 9)).toInt64) hx hb dL_cue_10 rfl ?_
  refine va_last (D := D) (i := nI 0) hx hb hK hP hD hS 0 2 rfl rfl (vp_in_nI (n := 0) (by decide) (by decide)) dL_cue_11 (fun H locs hP hD hS => ?_)
  rw [lo_up] at hP hD
  have hP : va_P D vwCl ([(o0, .inl (cL, 1, .inr (.inl (lo ((nI (s 9)).toInt64)))))] ++ (fcW cI cS f0 a (mAdd s q j x) fl c0 c1 n cs b r gl sv (kpA k ad) (kpT k t s) (kpA k f6) (kpK k))) H := hP
  have hD : va_D A9 ([(o0, .inl (cL, 1, .inr (.inl (lo ((nI (s 9)).toInt64)))))] ++ (fcW cI cS f0 a (mAdd s q j x) fl c0 c1 n cs b r gl sv (kpA k ad) (kpT k t s) (kpA k f6) (kpK k))) := hD
  refine lv_goto (tgt := 27) hx hb dL_cue_12 (by decide) ?_
  refine lv_iconst (v := nI 0) hx hb dL_cue_27 (by decide +kernel) ?_
  exact hret _ _ _ _ (some (.int (nI 0))) () 28 ls (by decide) (by decide) (by rfl) hP hD hS (ret_i dL_cue_28)

set_option maxHeartbeats 4000000 in
set_option maxRecDepth 100000 in
theorem k_L_cue_bad (l : Launch) (D : va_G) (cI cS cL : ClassId) (T : Nat) (f0 : Nat) (a : Nat → Nat) (s : Nat → Nat) (fl : Nat → Nat) (c0 : Nat) (c1 : Nat) (n : Nat) (cs : Nat → Nat) (b : Nat → Nat) (r : Nat → Nat) (gl : Nat → Nat) (sv : Nat) (ad : Nat → Nat → Nat) (t : Nat → Nat → Nat) (f6 : Nat → Nat → Nat) (k : Nat) (v1 : Int32) (v2 : Int32) (v3 : Int32) (o0 : Nat) (xo : Int64) (hst : l.stackTraces = false) (hI : sI T s) (hT : T ≤ 900000) (hk : k ≤ 6) (hn : n ≤ 60) (hcs : ∀ j, j < n → cs j < 2 ^ 31) (hbad : ¬ (inR v2 0 7 ∧ inR v1 0 999 ∧ inR v3 0 10 ∧ rS s (iN v1) (iN v2) (iN v3) = 0)) : KC l D (TY cI cS cL) yL_cue wsL_cue ({ frames := 9, cells := 4, slots := 24, locals := 157 } : Room) ([(o0, .inl (cL, 1, .inr (.inl (lo xo))))] ++ (fcW cI cS f0 a s fl c0 c1 n cs b r gl sv ad t f6 k)) [.ref f0, .int v1, .int v2, .int v3, .ref o0] (fun (v : Option Value) (_ : Unit) => v = some (.int (nI (if inR v2 0 7 then (if inR v1 0 999 ∧ inR v3 0 10 then 3 else 2) else 1)))) (fun _ : Unit => ([(o0, .inl (cL, 1, .inr (.inl (lo xo))))] ++ (fcW cI cS f0 a s fl c0 c1 n cs b r gl sv ad t f6 k))) := by
  refine KC.of (cc := cL_cue) (maxL := 6) (ret := (some .int)) (hh := [(0, 12, 15, 13), (0, 12, 19, 15), (0, 12, 23, 31)]) (by decide) rfl (Nat.le_of_ble_eq_true rfl) ?_
  intro p9 e9 s9 m9 ar9 be9 me9 c9 Q9 A9 ls C0 hN hAm hXN hTab hnm hlk hK hA hret hP hD hS hl
  obtain ⟨hx, hb, hml, hown, hts⟩ := id C0
  have hl : lv_has ls 6 [(0, .ref f0), (1, .int v1), (2, .int v2), (3, .int v3), (4, .ref o0)] := hl
  obtain ⟨H, hH0⟩ : ∃ H, H = s9.heap := ⟨_, rfl⟩
  obtain ⟨locs, hlc0⟩ : ∃ z : List Loc, z = [] := ⟨_, rfl⟩
  have hP : va_P D vwCl ([(o0, .inl (cL, 1, .inr (.inl (lo xo))))] ++ (fcW cI cS f0 a s fl c0 c1 n cs b r gl sv ad t f6 k)) H := by rw [hH0]; exact hP
  have hD : va_D A9 ([(o0, .inl (cL, 1, .inr (.inl (lo xo))))] ++ (fcW cI cS f0 a s fl c0 c1 n cs b r gl sv ad t f6 k)) := hD
  have hS : va_S A9 s9.heap H locs := by rw [hH0, hlc0]; exact hS
  suffices hgo : W p9 l e9 ({ frames := 9, cells := 4, slots := 24, locals := 157 } : Room) s9 m9 ar9 be9 me9 c9 H locs 0 0 Q9 (F0 m9 0 ls []) by rw [hH0, hlc0] at hgo; exact hgo
  clear hH0 hlc0
  refine lv_aload hx hb dL_cue_0 (lv_at hl 4 rfl) ?_
  refine lv_iconst (v := nI 0) hx hb dL_cue_2 (by decide +kernel) ?_
  refine lv_aload_n hx hb dL_cue_3 rfl (lv_at hl 0 rfl) ?_
  refine lv_iload_n hx hb dL_cue_4 rfl (lv_at hl 1 rfl) ?_
  refine lv_iload_n hx hb dL_cue_5 rfl (lv_at hl 2 rfl) ?_
  refine lv_iload_n hx hb dL_cue_6 rfl (lv_at hl 3 rfl) ?_
  have hm9 := fun (_ : Unit) => suf_mem (X' := (fcW cI cS f0 a s fl c0 c1 n cs b r gl sv ad t f6 k)) (R := [(o0, .inl (cL, 1, .inr (.inl (lo xo))))]) (show va_D A9 ([(o0, .inl (cL, 1, .inr (.inl (lo xo))))] ++ (fcW cI cS f0 a s fl c0 c1 n cs b r gl sv ad t f6 k)) from hD) (fcW_perm (List.Perm.refl _))
  refine KX.callVM (As := [.int v1, .int v2, .int v3]) (rest := [.int (nI 0), .ref o0]) (W0 := (fcW cI cS f0 a s fl c0 c1 n cs b r gl sv ad t f6 k)) (ws := ([(o0, .inl (cL, 1, .inr (.inl (lo xo))))] ++ (fcW cI cS f0 a s fl c0 c1 n cs b r gl sv ad t f6 k))) (ws' := fun (_ : Unit) => ([(o0, .inl (cL, 1, .inr (.inl (lo xo))))] ++ (fcW cI cS f0 a s fl c0 c1 n cs b r gl sv ad t f6 k))) C0 hN hAm (k_X5_cue_bad l D cI cS cL T f0 a s fl c0 c1 n cs b r gl sv ad t f6 k v1 v2 v3 hst hI hT hk hn hcs hbad) (cwV 3 hts gL_cue_X5_cue rfl rfl rfl (by decide +kernel) ⟨Nat.le_of_ble_eq_true rfl, Nat.le_of_ble_eq_true rfl⟩) hK hP hD hS hA (hm9 ()).1 (hm9 ()).2.1 (fun u => (hm9 u).2.2.1) (fun u => (hm9 u).2.2.2) 0 5 rfl rfl rfl rfl hl.1 rfl (Nat.le_of_ble_eq_true rfl) dL_cue_7 ⟨Nat.le_of_ble_eq_true rfl, Nat.le_of_ble_eq_true rfl⟩ (fun E ce q9 H locs hE hP hS hq9 hv9 hcl9 => ?_) (fun v9 u9 H locs hv hP hD hS => ?_)
  ·
    rcases hE with hE | hE | hE
    ·
      obtain ⟨hEe, hEc⟩ := hE
      subst hEe
      refine vx_catch (own := RL) (name := "java/lang/IndexOutOfBoundsException") hown [] ⟨0, 12, 15, 13⟩ [⟨0, 12, 19, 15⟩, ⟨0, 12, 23, 31⟩] (hTab.trans rfl) (fun z hz => absurd hz List.not_mem_nil) (by decide) (by decide) (hts (.classLink RL 13 "java/lang/IndexOutOfBoundsException") (by decide +kernel)) (va_Nw.use rfl (hAm.2.2.2.2.2.2 ("java/lang/IndexOutOfBoundsException", "java/lang/IndexOutOfBoundsException") (by decide))) hq9 hv9 hcl9 ?_
      refine lv_astore (lv' := [(5, .ref q9), (0, .ref f0), (1, .int v1), (2, .int v2), (3, .int v3), (4, .ref o0)]) hx hb dL_cue_15 hl (by decide) rfl (fun ls hl => ?_)
      refine lv_iconst (v := nI 1) hx hb dL_cue_17 (by decide +kernel) ?_
      exact hret _ _ _ _ (some (.int (nI 1))) () 18 ls (by decide) (by decide) (by exact rv (by (repeat' split) <;> first | rfl | (exfalso; omega))) hP hD hS (ret_i dL_cue_18)
    ·
      obtain ⟨hEe, hEc⟩ := hE
      subst hEe
      refine vx_catch (own := RL) (name := "java/lang/IllegalArgumentException") hown [⟨0, 12, 15, 13⟩] ⟨0, 12, 19, 15⟩ [⟨0, 12, 23, 31⟩] (hTab.trans rfl) (fun z hz => Or.inr (by rw [List.mem_singleton.mp hz]; exact ⟨by decide, "java/lang/IndexOutOfBoundsException", hts (.classLink RL 13 "java/lang/IndexOutOfBoundsException") (by decide +kernel), hXN ("java/lang/IllegalArgumentException", "java/lang/IndexOutOfBoundsException") (by decide)⟩)) (by decide) (by decide) (hts (.classLink RL 15 "java/lang/IllegalArgumentException") (by decide +kernel)) (va_Nw.use rfl (hAm.2.2.2.2.2.2 ("java/lang/IllegalArgumentException", "java/lang/IllegalArgumentException") (by decide))) hq9 hv9 hcl9 ?_
      refine lv_astore (lv' := [(5, .ref q9), (0, .ref f0), (1, .int v1), (2, .int v2), (3, .int v3), (4, .ref o0)]) hx hb dL_cue_19 hl (by decide) rfl (fun ls hl => ?_)
      refine lv_iconst (v := nI 2) hx hb dL_cue_21 (by decide +kernel) ?_
      exact hret _ _ _ _ (some (.int (nI 2))) () 22 ls (by decide) (by decide) (by exact rv (by (repeat' split) <;> first | rfl | (exfalso; omega))) hP hD hS (ret_i dL_cue_22)
    ·
      obtain ⟨hEe, hEc⟩ := hE
      subst hEe
      refine vx_catch (own := RL) (name := "java/lang/IllegalStateException") hown [⟨0, 12, 15, 13⟩, ⟨0, 12, 19, 15⟩] ⟨0, 12, 23, 31⟩ [] (hTab.trans rfl) (fun z hz => Or.inr (by rcases List.mem_cons.mp hz with hz | hz; (rw [hz]; exact ⟨by decide, "java/lang/IndexOutOfBoundsException", hts (.classLink RL 13 "java/lang/IndexOutOfBoundsException") (by decide +kernel), hXN ("java/lang/IllegalStateException", "java/lang/IndexOutOfBoundsException") (by decide)⟩); (rw [List.mem_singleton.mp hz]; exact ⟨by decide, "java/lang/IllegalArgumentException", hts (.classLink RL 15 "java/lang/IllegalArgumentException") (by decide +kernel), hXN ("java/lang/IllegalStateException", "java/lang/IllegalArgumentException") (by decide)⟩))) (by decide) (by decide) (hts (.classLink RL 31 "java/lang/IllegalStateException") (by decide +kernel)) (va_Nw.use rfl (hAm.2.2.2.2.2.2 ("java/lang/IllegalStateException", "java/lang/IllegalStateException") (by decide))) hq9 hv9 hcl9 ?_
      refine lv_astore (lv' := [(5, .ref q9), (0, .ref f0), (1, .int v1), (2, .int v2), (3, .int v3), (4, .ref o0)]) hx hb dL_cue_23 hl (by decide) rfl (fun ls hl => ?_)
      refine lv_iconst (v := nI 3) hx hb dL_cue_25 (by decide +kernel) ?_
      exact hret _ _ _ _ (some (.int (nI 3))) () 26 ls (by decide) (by decide) (by exact rv (by (repeat' split) <;> first | rfl | (exfalso; omega))) hP hD hS (ret_i dL_cue_26)
  · exact hv.1.elim

set_option maxHeartbeats 4000000 in
set_option maxRecDepth 100000 in
theorem k_L_drop_ok (l : Launch) (D : va_G) (cI cS cL : ClassId) (T : Nat) (f0 : Nat) (a : Nat → Nat) (s : Nat → Nat) (fl : Nat → Nat) (c0 : Nat) (c1 : Nat) (n : Nat) (cs : Nat → Nat) (b : Nat → Nat) (r : Nat → Nat) (gl : Nat → Nat) (sv : Nat) (ad : Nat → Nat → Nat) (t : Nat → Nat → Nat) (f6 : Nat → Nat → Nat) (k : Nat) (x : Int32) (p : Nat) (o0 : Nat) (xo : Int64) (hst : l.stackTraces = false) (hI : sI T s) (hT : T ≤ 900000) (hk : k ≤ 6) (hn : n ≤ 60) (hcs : ∀ j, j < n → cs j < 2 ^ 31) (hp : p < s 8) (hpx : nI (nuF s p) = x) : KC l D (TY cI cS cL) yL_drop wsL_drop ({ frames := 5, cells := 0, slots := 0, locals := 108 } : Room) ([(o0, .inl (cL, 1, .inr (.inl (lo xo))))] ++ (fcW cI cS f0 a s fl c0 c1 n cs b r gl sv ad t f6 k)) [.ref f0, .int x, .ref o0] (fun (v : Option Value) (_ : Unit) => v = some (.int (nI 0))) (fun _ : Unit => ([(o0, .inl (cL, 1, .inr (.inl (lo ((nI (s 8 - 1)).toInt64)))))] ++ (fcW cI cS f0 a (mDrop s p) fl c0 c1 n cs b r gl sv (kpA k ad) (kpT k t s) (kpA k f6) (kpK k)))) := by
  refine KC.of (cc := cL_drop) (maxL := 4) (ret := (some .int)) (hh := [(0, 9, 12, 13)]) (by decide) rfl (Nat.le_of_ble_eq_true rfl) ?_
  intro p9 e9 s9 m9 ar9 be9 me9 c9 Q9 A9 ls C0 hN hAm hXN hTab hnm hlk hK hA hret hP hD hS hl
  obtain ⟨hx, hb, hml, hown, hts⟩ := id C0
  have hl : lv_has ls 4 [(0, .ref f0), (1, .int x), (2, .ref o0)] := hl
  obtain ⟨H, hH0⟩ : ∃ H, H = s9.heap := ⟨_, rfl⟩
  obtain ⟨locs, hlc0⟩ : ∃ z : List Loc, z = [] := ⟨_, rfl⟩
  have hP : va_P D vwCl ([(o0, .inl (cL, 1, .inr (.inl (lo xo))))] ++ (fcW cI cS f0 a s fl c0 c1 n cs b r gl sv ad t f6 k)) H := by rw [hH0]; exact hP
  have hD : va_D A9 ([(o0, .inl (cL, 1, .inr (.inl (lo xo))))] ++ (fcW cI cS f0 a s fl c0 c1 n cs b r gl sv ad t f6 k)) := hD
  have hS : va_S A9 s9.heap H locs := by rw [hH0, hlc0]; exact hS
  suffices hgo : W p9 l e9 ({ frames := 5, cells := 0, slots := 0, locals := 108 } : Room) s9 m9 ar9 be9 me9 c9 H locs 0 0 Q9 (F0 m9 0 ls []) by rw [hH0, hlc0] at hgo; exact hgo
  clear hH0 hlc0
  refine lv_aload_n hx hb dL_drop_0 rfl (lv_at hl 2 rfl) ?_
  refine lv_iconst (v := nI 0) hx hb dL_drop_1 (by decide +kernel) ?_
  refine lv_aload_n hx hb dL_drop_2 rfl (lv_at hl 0 rfl) ?_
  refine lv_iload_n hx hb dL_drop_3 rfl (lv_at hl 1 rfl) ?_
  have hm9 := fun (_ : Unit) => suf_mem (X' := (fcW cI cS f0 a (mDrop s p) fl c0 c1 n cs b r gl sv (kpA k ad) (kpT k t s) (kpA k f6) (kpK k))) (R := [(o0, .inl (cL, 1, .inr (.inl (lo xo))))]) (show va_D A9 ([(o0, .inl (cL, 1, .inr (.inl (lo xo))))] ++ (fcW cI cS f0 a s fl c0 c1 n cs b r gl sv ad t f6 k)) from hD) (fcW_perm (sv_kp cI cS sv ad t f6 (kpT k t s) (kpA k f6) k (kpK k)))
  refine KM.callVM (As := [.int x]) (rest := [.int (nI 0), .ref o0]) (W0 := (fcW cI cS f0 a s fl c0 c1 n cs b r gl sv ad t f6 k)) (ws := ([(o0, .inl (cL, 1, .inr (.inl (lo xo))))] ++ (fcW cI cS f0 a s fl c0 c1 n cs b r gl sv ad t f6 k))) (ws' := fun (_ : Unit) => ([(o0, .inl (cL, 1, .inr (.inl (lo xo))))] ++ (fcW cI cS f0 a (mDrop s p) fl c0 c1 n cs b r gl sv (kpA k ad) (kpT k t s) (kpA k f6) (kpK k)))) C0 hN (k_X5_drop_ok l D cI cS cL T f0 a s fl c0 c1 n cs b r gl sv ad t f6 k x p hI hT hk hn hcs hp hpx) (cwV 1 hts gL_drop_X5_drop rfl rfl rfl (by decide +kernel) ⟨Nat.le_of_ble_eq_true rfl, Nat.le_of_ble_eq_true rfl⟩) hK hP hD hS hA (hm9 ()).1 (hm9 ()).2.1 (fun u => (hm9 u).2.2.1) (fun u => (hm9 u).2.2.2) 0 5 rfl rfl rfl rfl hl.1 rfl (Nat.le_of_ble_eq_true rfl) dL_drop_4 ⟨Nat.le_of_ble_eq_true rfl, Nat.le_of_ble_eq_true rfl⟩ (fun v9 u9 H locs hv hP hD hS => ?_)
  subst hv
  have hP : va_P D vwCl ([(o0, .inl (cL, 1, .inr (.inl (lo xo))))] ++ (fcW cI cS f0 a (mDrop s p) fl c0 c1 n cs b r gl sv (kpA k ad) (kpT k t s) (kpA k f6) (kpK k))) H := hP
  have hD : va_D A9 ([(o0, .inl (cL, 1, .inr (.inl (lo xo))))] ++ (fcW cI cS f0 a (mDrop s p) fl c0 c1 n cs b r gl sv (kpA k ad) (kpT k t s) (kpA k f6) (kpK k))) := hD
  refine W.eq (g2 := F0 m9 7 ls [.int (nI (s 8 - 1)), .int (nI 0), .ref o0]) rfl ?_
  refine lv_i2l (v := (nI (s 8 - 1)).toInt64) hx hb dL_drop_7 rfl ?_
  refine va_last (D := D) (i := nI 0) hx hb hK hP hD hS 0 2 rfl rfl (vp_in_nI (n := 0) (by decide) (by decide)) dL_drop_8 (fun H locs hP hD hS => ?_)
  rw [lo_up] at hP hD
  have hP : va_P D vwCl ([(o0, .inl (cL, 1, .inr (.inl (lo ((nI (s 8 - 1)).toInt64)))))] ++ (fcW cI cS f0 a (mDrop s p) fl c0 c1 n cs b r gl sv (kpA k ad) (kpT k t s) (kpA k f6) (kpK k))) H := hP
  have hD : va_D A9 ([(o0, .inl (cL, 1, .inr (.inl (lo ((nI (s 8 - 1)).toInt64)))))] ++ (fcW cI cS f0 a (mDrop s p) fl c0 c1 n cs b r gl sv (kpA k ad) (kpT k t s) (kpA k f6) (kpK k))) := hD
  refine lv_goto (tgt := 15) hx hb dL_drop_9 (by decide) ?_
  refine lv_iconst (v := nI 0) hx hb dL_drop_15 (by decide +kernel) ?_
  exact hret _ _ _ _ (some (.int (nI 0))) () 16 ls (by decide) (by decide) (by rfl) hP hD hS (ret_i dL_drop_16)

set_option maxHeartbeats 4000000 in
set_option maxRecDepth 100000 in
theorem k_L_drop_bad (l : Launch) (D : va_G) (cI cS cL : ClassId) (T : Nat) (f0 : Nat) (a : Nat → Nat) (s : Nat → Nat) (fl : Nat → Nat) (c0 : Nat) (c1 : Nat) (n : Nat) (cs : Nat → Nat) (b : Nat → Nat) (r : Nat → Nat) (gl : Nat → Nat) (sv : Nat) (ad : Nat → Nat → Nat) (t : Nat → Nat → Nat) (f6 : Nat → Nat → Nat) (k : Nat) (v1 : Int32) (o0 : Nat) (xo : Int64) (hst : l.stackTraces = false) (hI : sI T s) (hT : T ≤ 900000) (hk : k ≤ 6) (hn : n ≤ 60) (hcs : ∀ j, j < n → cs j < 2 ^ 31) (hbad : ∀ p, p < s 8 → nI (nuF s p) ≠ v1) : KC l D (TY cI cS cL) yL_drop wsL_drop ({ frames := 7, cells := 1, slots := 6, locals := 112 } : Room) ([(o0, .inl (cL, 1, .inr (.inl (lo xo))))] ++ (fcW cI cS f0 a s fl c0 c1 n cs b r gl sv ad t f6 k)) [.ref f0, .int v1, .ref o0] (fun (v : Option Value) (_ : Unit) => v = some (.int (nI 1))) (fun _ : Unit => ([(o0, .inl (cL, 1, .inr (.inl (lo xo))))] ++ (fcW cI cS f0 a s fl c0 c1 n cs b r gl sv ad t f6 k))) := by
  refine KC.of (cc := cL_drop) (maxL := 4) (ret := (some .int)) (hh := [(0, 9, 12, 13)]) (by decide) rfl (Nat.le_of_ble_eq_true rfl) ?_
  intro p9 e9 s9 m9 ar9 be9 me9 c9 Q9 A9 ls C0 hN hAm hXN hTab hnm hlk hK hA hret hP hD hS hl
  obtain ⟨hx, hb, hml, hown, hts⟩ := id C0
  have hl : lv_has ls 4 [(0, .ref f0), (1, .int v1), (2, .ref o0)] := hl
  obtain ⟨H, hH0⟩ : ∃ H, H = s9.heap := ⟨_, rfl⟩
  obtain ⟨locs, hlc0⟩ : ∃ z : List Loc, z = [] := ⟨_, rfl⟩
  have hP : va_P D vwCl ([(o0, .inl (cL, 1, .inr (.inl (lo xo))))] ++ (fcW cI cS f0 a s fl c0 c1 n cs b r gl sv ad t f6 k)) H := by rw [hH0]; exact hP
  have hD : va_D A9 ([(o0, .inl (cL, 1, .inr (.inl (lo xo))))] ++ (fcW cI cS f0 a s fl c0 c1 n cs b r gl sv ad t f6 k)) := hD
  have hS : va_S A9 s9.heap H locs := by rw [hH0, hlc0]; exact hS
  suffices hgo : W p9 l e9 ({ frames := 7, cells := 1, slots := 6, locals := 112 } : Room) s9 m9 ar9 be9 me9 c9 H locs 0 0 Q9 (F0 m9 0 ls []) by rw [hH0, hlc0] at hgo; exact hgo
  clear hH0 hlc0
  refine lv_aload_n hx hb dL_drop_0 rfl (lv_at hl 2 rfl) ?_
  refine lv_iconst (v := nI 0) hx hb dL_drop_1 (by decide +kernel) ?_
  refine lv_aload_n hx hb dL_drop_2 rfl (lv_at hl 0 rfl) ?_
  refine lv_iload_n hx hb dL_drop_3 rfl (lv_at hl 1 rfl) ?_
  have hm9 := fun (_ : Unit) => suf_mem (X' := (fcW cI cS f0 a s fl c0 c1 n cs b r gl sv ad t f6 k)) (R := [(o0, .inl (cL, 1, .inr (.inl (lo xo))))]) (show va_D A9 ([(o0, .inl (cL, 1, .inr (.inl (lo xo))))] ++ (fcW cI cS f0 a s fl c0 c1 n cs b r gl sv ad t f6 k)) from hD) (fcW_perm (List.Perm.refl _))
  refine KX.callVM (As := [.int v1]) (rest := [.int (nI 0), .ref o0]) (W0 := (fcW cI cS f0 a s fl c0 c1 n cs b r gl sv ad t f6 k)) (ws := ([(o0, .inl (cL, 1, .inr (.inl (lo xo))))] ++ (fcW cI cS f0 a s fl c0 c1 n cs b r gl sv ad t f6 k))) (ws' := fun (_ : Unit) => ([(o0, .inl (cL, 1, .inr (.inl (lo xo))))] ++ (fcW cI cS f0 a s fl c0 c1 n cs b r gl sv ad t f6 k))) C0 hN hAm (k_X5_drop_bad l D cI cS cL T f0 a s fl c0 c1 n cs b r gl sv ad t f6 k v1 hst hI hT hk hn hcs hbad) (cwV 1 hts gL_drop_X5_drop rfl rfl rfl (by decide +kernel) ⟨Nat.le_of_ble_eq_true rfl, Nat.le_of_ble_eq_true rfl⟩) hK hP hD hS hA (hm9 ()).1 (hm9 ()).2.1 (fun u => (hm9 u).2.2.1) (fun u => (hm9 u).2.2.2) 0 5 rfl rfl rfl rfl hl.1 rfl (Nat.le_of_ble_eq_true rfl) dL_drop_4 ⟨Nat.le_of_ble_eq_true rfl, Nat.le_of_ble_eq_true rfl⟩ (fun E ce q9 H locs hE hP hS hq9 hv9 hcl9 => ?_) (fun v9 u9 H locs hv hP hD hS => ?_)
  ·
    ·
      have hEe := hE
      subst hEe
      refine vx_catch (own := RL) (name := "java/lang/IndexOutOfBoundsException") hown [] ⟨0, 9, 12, 13⟩ [] (hTab.trans rfl) (fun z hz => absurd hz List.not_mem_nil) (by decide) (by decide) (hts (.classLink RL 13 "java/lang/IndexOutOfBoundsException") (by decide +kernel)) (va_Nw.use rfl (hAm.2.2.2.2.2.2 ("java/lang/IndexOutOfBoundsException", "java/lang/IndexOutOfBoundsException") (by decide))) hq9 hv9 hcl9 ?_
      refine lv_astore_n (lv' := [(3, .ref q9), (0, .ref f0), (1, .int v1), (2, .ref o0)]) hx hb dL_drop_12 rfl hl (by decide) rfl (fun ls hl => ?_)
      refine lv_iconst (v := nI 1) hx hb dL_drop_13 (by decide +kernel) ?_
      exact hret _ _ _ _ (some (.int (nI 1))) () 14 ls (by decide) (by decide) (by exact rv (by (repeat' split) <;> first | rfl | (exfalso; omega))) hP hD hS (ret_i dL_drop_14)
  · exact hv.1.elim

set_option maxHeartbeats 4000000 in
set_option maxRecDepth 100000 in
theorem k_L_play_ok (l : Launch) (D : va_G) (cI cS cL : ClassId) (T : Nat) (f0 : Nat) (a : Nat → Nat) (s : Nat → Nat) (fl : Nat → Nat) (c0 : Nat) (c1 : Nat) (n : Nat) (cs : Nat → Nat) (b : Nat → Nat) (r : Nat → Nat) (gl : Nat → Nat) (sv : Nat) (ad : Nat → Nat → Nat) (t : Nat → Nat → Nat) (f6 : Nat → Nat → Nat) (k : Nat) (x : Nat) (o0 : Nat) (xo : Int64) (hst : l.stackTraces = false) (hI : sI T s) (hT : T ≤ 900000) (hk : k ≤ 6) (hn : n ≤ 60) (hcs : ∀ j, j < n → cs j < 2 ^ 31) (hx1 : 1 ≤ x) (hx2 : x ≤ 100) : KC l D (TY cI cS cL) yL_play wsL_play ({ frames := 7, cells := 0, slots := 0, locals := 159 } : Room) ([(o0, .inl (cL, 1, .inr (.inl (lo xo))))] ++ (fcW cI cS f0 a s fl c0 c1 n cs b r gl sv ad t f6 k)) [.ref f0, .int (nI x), .ref o0] (fun (v : Option Value) (z : Nat → Nat) => v = some (.int (nI 0))) (fun (z : Nat → Nat) => ([(o0, .inl (cL, 1, .inr (.inl (lo ((nI (mPlay x s 10 - s 10)).toInt64)))))] ++ (fcW cI cS f0 a (mPlay x s) z c0 c1 n cs b r gl sv (kpA k ad) (kpT k t s) (kpA k f6) (kpK k)))) := by
  refine KC.of (cc := cL_play) (maxL := 4) (ret := (some .int)) (hh := [(0, 9, 12, 15)]) (by decide) rfl (Nat.le_of_ble_eq_true rfl) ?_
  intro p9 e9 s9 m9 ar9 be9 me9 c9 Q9 A9 ls C0 hN hAm hXN hTab hnm hlk hK hA hret hP hD hS hl
  obtain ⟨hx, hb, hml, hown, hts⟩ := id C0
  have hl : lv_has ls 4 [(0, .ref f0), (1, .int (nI x)), (2, .ref o0)] := hl
  obtain ⟨H, hH0⟩ : ∃ H, H = s9.heap := ⟨_, rfl⟩
  obtain ⟨locs, hlc0⟩ : ∃ z : List Loc, z = [] := ⟨_, rfl⟩
  have hP : va_P D vwCl ([(o0, .inl (cL, 1, .inr (.inl (lo xo))))] ++ (fcW cI cS f0 a s fl c0 c1 n cs b r gl sv ad t f6 k)) H := by rw [hH0]; exact hP
  have hD : va_D A9 ([(o0, .inl (cL, 1, .inr (.inl (lo xo))))] ++ (fcW cI cS f0 a s fl c0 c1 n cs b r gl sv ad t f6 k)) := hD
  have hS : va_S A9 s9.heap H locs := by rw [hH0, hlc0]; exact hS
  suffices hgo : W p9 l e9 ({ frames := 7, cells := 0, slots := 0, locals := 159 } : Room) s9 m9 ar9 be9 me9 c9 H locs 0 0 Q9 (F0 m9 0 ls []) by rw [hH0, hlc0] at hgo; exact hgo
  clear hH0 hlc0
  refine lv_aload_n hx hb dL_play_0 rfl (lv_at hl 2 rfl) ?_
  refine lv_iconst (v := nI 0) hx hb dL_play_1 (by decide +kernel) ?_
  refine lv_aload_n hx hb dL_play_2 rfl (lv_at hl 0 rfl) ?_
  refine lv_iload_n hx hb dL_play_3 rfl (lv_at hl 1 rfl) ?_
  have hm9 := fun (z : Nat → Nat) => suf_mem (X' := (fcW cI cS f0 a (mPlay x s) z c0 c1 n cs b r gl sv (kpA k ad) (kpT k t s) (kpA k f6) (kpK k))) (R := [(o0, .inl (cL, 1, .inr (.inl (lo xo))))]) (show va_D A9 ([(o0, .inl (cL, 1, .inr (.inl (lo xo))))] ++ (fcW cI cS f0 a s fl c0 c1 n cs b r gl sv ad t f6 k)) from hD) (fcW_perm (sv_kp cI cS sv ad t f6 (kpT k t s) (kpA k f6) k (kpK k)))
  refine KM.callVM (As := [.int (nI x)]) (rest := [.int (nI 0), .ref o0]) (W0 := (fcW cI cS f0 a s fl c0 c1 n cs b r gl sv ad t f6 k)) (ws := ([(o0, .inl (cL, 1, .inr (.inl (lo xo))))] ++ (fcW cI cS f0 a s fl c0 c1 n cs b r gl sv ad t f6 k))) (ws' := fun (z : Nat → Nat) => ([(o0, .inl (cL, 1, .inr (.inl (lo xo))))] ++ (fcW cI cS f0 a (mPlay x s) z c0 c1 n cs b r gl sv (kpA k ad) (kpT k t s) (kpA k f6) (kpK k)))) C0 hN (k_X5_play_ok l D cI cS cL T f0 a s fl c0 c1 n cs b r gl sv ad t f6 k x hI hT hk hn hcs hx1 hx2) (cwV 1 hts gL_play_X5_play rfl rfl rfl (by decide +kernel) ⟨Nat.le_of_ble_eq_true rfl, Nat.le_of_ble_eq_true rfl⟩) hK hP hD hS hA (hm9 (fun _ => 0)).1 (hm9 (fun _ => 0)).2.1 (fun u => (hm9 u).2.2.1) (fun u => (hm9 u).2.2.2) 0 5 rfl rfl rfl rfl hl.1 rfl (Nat.le_of_ble_eq_true rfl) dL_play_4 ⟨Nat.le_of_ble_eq_true rfl, Nat.le_of_ble_eq_true rfl⟩ (fun v9 u9 H locs hv hP hD hS => ?_)
  obtain ⟨z, rfl⟩ : ∃ z, z = u9 := ⟨_, rfl⟩
  subst hv
  have hP : va_P D vwCl ([(o0, .inl (cL, 1, .inr (.inl (lo xo))))] ++ (fcW cI cS f0 a (mPlay x s) z c0 c1 n cs b r gl sv (kpA k ad) (kpT k t s) (kpA k f6) (kpK k))) H := hP
  have hD : va_D A9 ([(o0, .inl (cL, 1, .inr (.inl (lo xo))))] ++ (fcW cI cS f0 a (mPlay x s) z c0 c1 n cs b r gl sv (kpA k ad) (kpT k t s) (kpA k f6) (kpK k))) := hD
  refine W.eq (g2 := F0 m9 7 ls [.int (nI (mPlay x s 10 - s 10)), .int (nI 0), .ref o0]) rfl ?_
  refine lv_i2l (v := (nI (mPlay x s 10 - s 10)).toInt64) hx hb dL_play_7 rfl ?_
  refine va_last (D := D) (i := nI 0) hx hb hK hP hD hS 0 2 rfl rfl (vp_in_nI (n := 0) (by decide) (by decide)) dL_play_8 (fun H locs hP hD hS => ?_)
  rw [lo_up] at hP hD
  have hP : va_P D vwCl ([(o0, .inl (cL, 1, .inr (.inl (lo ((nI (mPlay x s 10 - s 10)).toInt64)))))] ++ (fcW cI cS f0 a (mPlay x s) z c0 c1 n cs b r gl sv (kpA k ad) (kpT k t s) (kpA k f6) (kpK k))) H := hP
  have hD : va_D A9 ([(o0, .inl (cL, 1, .inr (.inl (lo ((nI (mPlay x s 10 - s 10)).toInt64)))))] ++ (fcW cI cS f0 a (mPlay x s) z c0 c1 n cs b r gl sv (kpA k ad) (kpT k t s) (kpA k f6) (kpK k))) := hD
  refine lv_goto (tgt := 15) hx hb dL_play_9 (by decide) ?_
  refine lv_iconst (v := nI 0) hx hb dL_play_15 (by decide +kernel) ?_
  exact hret _ _ _ _ (some (.int (nI 0))) z 16 ls (by decide) (by decide) (by rfl) hP hD hS (ret_i dL_play_16)

set_option maxHeartbeats 4000000 in
set_option maxRecDepth 100000 in
theorem k_L_play_bad (l : Launch) (D : va_G) (cI cS cL : ClassId) (T : Nat) (f0 : Nat) (a : Nat → Nat) (s : Nat → Nat) (fl : Nat → Nat) (c0 : Nat) (c1 : Nat) (n : Nat) (cs : Nat → Nat) (b : Nat → Nat) (r : Nat → Nat) (gl : Nat → Nat) (sv : Nat) (ad : Nat → Nat → Nat) (t : Nat → Nat → Nat) (f6 : Nat → Nat → Nat) (k : Nat) (v1 : Int32) (o0 : Nat) (xo : Int64) (hst : l.stackTraces = false) (hI : sI T s) (hT : T ≤ 900000) (hk : k ≤ 6) (hn : n ≤ 60) (hcs : ∀ j, j < n → cs j < 2 ^ 31) (hbad : ¬ (inR v1 1 100)) : KC l D (TY cI cS cL) yL_play wsL_play ({ frames := 8, cells := 1, slots := 6, locals := 134 } : Room) ([(o0, .inl (cL, 1, .inr (.inl (lo xo))))] ++ (fcW cI cS f0 a s fl c0 c1 n cs b r gl sv ad t f6 k)) [.ref f0, .int v1, .ref o0] (fun (v : Option Value) (_ : Unit) => v = some (.int (nI 1))) (fun _ : Unit => ([(o0, .inl (cL, 1, .inr (.inl (lo xo))))] ++ (fcW cI cS f0 a s fl c0 c1 n cs b r gl sv ad t f6 k))) := by
  refine KC.of (cc := cL_play) (maxL := 4) (ret := (some .int)) (hh := [(0, 9, 12, 15)]) (by decide) rfl (Nat.le_of_ble_eq_true rfl) ?_
  intro p9 e9 s9 m9 ar9 be9 me9 c9 Q9 A9 ls C0 hN hAm hXN hTab hnm hlk hK hA hret hP hD hS hl
  obtain ⟨hx, hb, hml, hown, hts⟩ := id C0
  have hl : lv_has ls 4 [(0, .ref f0), (1, .int v1), (2, .ref o0)] := hl
  obtain ⟨H, hH0⟩ : ∃ H, H = s9.heap := ⟨_, rfl⟩
  obtain ⟨locs, hlc0⟩ : ∃ z : List Loc, z = [] := ⟨_, rfl⟩
  have hP : va_P D vwCl ([(o0, .inl (cL, 1, .inr (.inl (lo xo))))] ++ (fcW cI cS f0 a s fl c0 c1 n cs b r gl sv ad t f6 k)) H := by rw [hH0]; exact hP
  have hD : va_D A9 ([(o0, .inl (cL, 1, .inr (.inl (lo xo))))] ++ (fcW cI cS f0 a s fl c0 c1 n cs b r gl sv ad t f6 k)) := hD
  have hS : va_S A9 s9.heap H locs := by rw [hH0, hlc0]; exact hS
  suffices hgo : W p9 l e9 ({ frames := 8, cells := 1, slots := 6, locals := 134 } : Room) s9 m9 ar9 be9 me9 c9 H locs 0 0 Q9 (F0 m9 0 ls []) by rw [hH0, hlc0] at hgo; exact hgo
  clear hH0 hlc0
  refine lv_aload_n hx hb dL_play_0 rfl (lv_at hl 2 rfl) ?_
  refine lv_iconst (v := nI 0) hx hb dL_play_1 (by decide +kernel) ?_
  refine lv_aload_n hx hb dL_play_2 rfl (lv_at hl 0 rfl) ?_
  refine lv_iload_n hx hb dL_play_3 rfl (lv_at hl 1 rfl) ?_
  have hm9 := fun (_ : Unit) => suf_mem (X' := (fcW cI cS f0 a s fl c0 c1 n cs b r gl sv ad t f6 k)) (R := [(o0, .inl (cL, 1, .inr (.inl (lo xo))))]) (show va_D A9 ([(o0, .inl (cL, 1, .inr (.inl (lo xo))))] ++ (fcW cI cS f0 a s fl c0 c1 n cs b r gl sv ad t f6 k)) from hD) (fcW_perm (List.Perm.refl _))
  refine KX.callVM (As := [.int v1]) (rest := [.int (nI 0), .ref o0]) (W0 := (fcW cI cS f0 a s fl c0 c1 n cs b r gl sv ad t f6 k)) (ws := ([(o0, .inl (cL, 1, .inr (.inl (lo xo))))] ++ (fcW cI cS f0 a s fl c0 c1 n cs b r gl sv ad t f6 k))) (ws' := fun (_ : Unit) => ([(o0, .inl (cL, 1, .inr (.inl (lo xo))))] ++ (fcW cI cS f0 a s fl c0 c1 n cs b r gl sv ad t f6 k))) C0 hN hAm (k_X5_play_bad l D cI cS cL T f0 a s fl c0 c1 n cs b r gl sv ad t f6 k v1 hst hI hT hk hn hcs hbad) (cwV 1 hts gL_play_X5_play rfl rfl rfl (by decide +kernel) ⟨Nat.le_of_ble_eq_true rfl, Nat.le_of_ble_eq_true rfl⟩) hK hP hD hS hA (hm9 ()).1 (hm9 ()).2.1 (fun u => (hm9 u).2.2.1) (fun u => (hm9 u).2.2.2) 0 5 rfl rfl rfl rfl hl.1 rfl (Nat.le_of_ble_eq_true rfl) dL_play_4 ⟨Nat.le_of_ble_eq_true rfl, Nat.le_of_ble_eq_true rfl⟩ (fun E ce q9 H locs hE hP hS hq9 hv9 hcl9 => ?_) (fun v9 u9 H locs hv hP hD hS => ?_)
  ·
    ·
      have hEe := hE
      subst hEe
      refine vx_catch (own := RL) (name := "java/lang/IllegalArgumentException") hown [] ⟨0, 9, 12, 15⟩ [] (hTab.trans rfl) (fun z hz => absurd hz List.not_mem_nil) (by decide) (by decide) (hts (.classLink RL 15 "java/lang/IllegalArgumentException") (by decide +kernel)) (va_Nw.use rfl (hAm.2.2.2.2.2.2 ("java/lang/IllegalArgumentException", "java/lang/IllegalArgumentException") (by decide))) hq9 hv9 hcl9 ?_
      refine lv_astore_n (lv' := [(3, .ref q9), (0, .ref f0), (1, .int v1), (2, .ref o0)]) hx hb dL_play_12 rfl hl (by decide) rfl (fun ls hl => ?_)
      refine lv_iconst (v := nI 1) hx hb dL_play_13 (by decide +kernel) ?_
      exact hret _ _ _ _ (some (.int (nI 1))) () 14 ls (by decide) (by decide) (by exact rv (by (repeat' split) <;> first | rfl | (exfalso; omega))) hP hD hS (ret_i dL_play_14)
  · exact hv.1.elim

set_option maxHeartbeats 4000000 in
set_option maxRecDepth 100000 in
theorem k_L_append_ok (l : Launch) (D : va_G) (cI cS cL : ClassId) (T : Nat) (f0 : Nat) (a : Nat → Nat) (s : Nat → Nat) (fl : Nat → Nat) (c0 : Nat) (c1 : Nat) (n : Nat) (cs : Nat → Nat) (b : Nat → Nat) (r : Nat → Nat) (gl : Nat → Nat) (sv : Nat) (ad : Nat → Nat → Nat) (t : Nat → Nat → Nat) (f6 : Nat → Nat → Nat) (k : Nat) (c : Nat) (o0 : Nat) (xo : Int64) (hst : l.stackTraces = false) (hI : sI T s) (hT : T ≤ 900000) (hk : k ≤ 6) (hn : n ≤ 60) (hcs : ∀ j, j < n → cs j < 2 ^ 31) (hc1 : 33 ≤ c) (hc2 : c ≤ 126) (hn2 : n < 60) : KC l D (TY cI cS cL) yL_append wsL_append ({ frames := 2, cells := 0, slots := 0, locals := 43 } : Room) ([(o0, .inl (cL, 1, .inr (.inl (lo xo))))] ++ (fcW cI cS f0 a s fl c0 c1 n cs b r gl sv ad t f6 k)) [.ref f0, .int (nI c), .ref o0] (fun (v : Option Value) (_ : Unit) => v = some (.int (nI 0))) (fun _ : Unit => ([(o0, .inl (cL, 1, .inr (.inl (lo ((nI (n + 1)).toInt64)))))] ++ (fcW cI cS f0 a s fl c0 c1 (n + 1) (upN cs n c) b r gl sv ad t f6 k))) := by
  refine KC.of (cc := cL_append) (maxL := 4) (ret := (some .int)) (hh := [(0, 9, 12, 15), (0, 9, 15, 31)]) (by decide) rfl (Nat.le_of_ble_eq_true rfl) ?_
  intro p9 e9 s9 m9 ar9 be9 me9 c9 Q9 A9 ls C0 hN hAm hXN hTab hnm hlk hK hA hret hP hD hS hl
  obtain ⟨hx, hb, hml, hown, hts⟩ := id C0
  have hl : lv_has ls 4 [(0, .ref f0), (1, .int (nI c)), (2, .ref o0)] := hl
  obtain ⟨H, hH0⟩ : ∃ H, H = s9.heap := ⟨_, rfl⟩
  obtain ⟨locs, hlc0⟩ : ∃ z : List Loc, z = [] := ⟨_, rfl⟩
  have hP : va_P D vwCl ([(o0, .inl (cL, 1, .inr (.inl (lo xo))))] ++ (fcW cI cS f0 a s fl c0 c1 n cs b r gl sv ad t f6 k)) H := by rw [hH0]; exact hP
  have hD : va_D A9 ([(o0, .inl (cL, 1, .inr (.inl (lo xo))))] ++ (fcW cI cS f0 a s fl c0 c1 n cs b r gl sv ad t f6 k)) := hD
  have hS : va_S A9 s9.heap H locs := by rw [hH0, hlc0]; exact hS
  suffices hgo : W p9 l e9 ({ frames := 2, cells := 0, slots := 0, locals := 43 } : Room) s9 m9 ar9 be9 me9 c9 H locs 0 0 Q9 (F0 m9 0 ls []) by rw [hH0, hlc0] at hgo; exact hgo
  clear hH0 hlc0
  refine lv_aload_n hx hb dL_append_0 rfl (lv_at hl 2 rfl) ?_
  refine lv_iconst (v := nI 0) hx hb dL_append_1 (by decide +kernel) ?_
  refine lv_aload_n hx hb dL_append_2 rfl (lv_at hl 0 rfl) ?_
  refine lv_iload_n hx hb dL_append_3 rfl (lv_at hl 1 rfl) ?_
  have hm9 := fun (_ : Unit) => suf_mem (X' := (fcW cI cS f0 a s fl c0 c1 (n + 1) (upN cs n c) b r gl sv ad t f6 k)) (R := [(o0, .inl (cL, 1, .inr (.inl (lo xo))))]) (show va_D A9 ([(o0, .inl (cL, 1, .inr (.inl (lo xo))))] ++ (fcW cI cS f0 a s fl c0 c1 n cs b r gl sv ad t f6 k)) from hD) (fcW_perm (List.Perm.refl _))
  refine KM.callVM (As := [.int (nI c)]) (rest := [.int (nI 0), .ref o0]) (W0 := (fcW cI cS f0 a s fl c0 c1 n cs b r gl sv ad t f6 k)) (ws := ([(o0, .inl (cL, 1, .inr (.inl (lo xo))))] ++ (fcW cI cS f0 a s fl c0 c1 n cs b r gl sv ad t f6 k))) (ws' := fun (_ : Unit) => ([(o0, .inl (cL, 1, .inr (.inl (lo xo))))] ++ (fcW cI cS f0 a s fl c0 c1 (n + 1) (upN cs n c) b r gl sv ad t f6 k))) C0 hN (k_X5_append_ok l D cI cS cL T f0 a s fl c0 c1 n cs b r gl sv ad t f6 k c hI hT hk hn hcs hc1 hc2 hn2) (cwV 1 hts gL_append_X5_append rfl rfl rfl (by decide +kernel) ⟨Nat.le_of_ble_eq_true rfl, Nat.le_of_ble_eq_true rfl⟩) hK hP hD hS hA (hm9 ()).1 (hm9 ()).2.1 (fun u => (hm9 u).2.2.1) (fun u => (hm9 u).2.2.2) 0 5 rfl rfl rfl rfl hl.1 rfl (Nat.le_of_ble_eq_true rfl) dL_append_4 ⟨Nat.le_of_ble_eq_true rfl, Nat.le_of_ble_eq_true rfl⟩ (fun v9 u9 H locs hv hP hD hS => ?_)
  subst hv
  have hP : va_P D vwCl ([(o0, .inl (cL, 1, .inr (.inl (lo xo))))] ++ (fcW cI cS f0 a s fl c0 c1 (n + 1) (upN cs n c) b r gl sv ad t f6 k)) H := hP
  have hD : va_D A9 ([(o0, .inl (cL, 1, .inr (.inl (lo xo))))] ++ (fcW cI cS f0 a s fl c0 c1 (n + 1) (upN cs n c) b r gl sv ad t f6 k)) := hD
  refine W.eq (g2 := F0 m9 7 ls [.int (nI (n + 1)), .int (nI 0), .ref o0]) rfl ?_
  refine lv_i2l (v := (nI (n + 1)).toInt64) hx hb dL_append_7 rfl ?_
  refine va_last (D := D) (i := nI 0) hx hb hK hP hD hS 0 2 rfl rfl (vp_in_nI (n := 0) (by decide) (by decide)) dL_append_8 (fun H locs hP hD hS => ?_)
  rw [lo_up] at hP hD
  have hP : va_P D vwCl ([(o0, .inl (cL, 1, .inr (.inl (lo ((nI (n + 1)).toInt64)))))] ++ (fcW cI cS f0 a s fl c0 c1 (n + 1) (upN cs n c) b r gl sv ad t f6 k)) H := hP
  have hD : va_D A9 ([(o0, .inl (cL, 1, .inr (.inl (lo ((nI (n + 1)).toInt64)))))] ++ (fcW cI cS f0 a s fl c0 c1 (n + 1) (upN cs n c) b r gl sv ad t f6 k)) := hD
  refine lv_goto (tgt := 18) hx hb dL_append_9 (by decide) ?_
  refine lv_iconst (v := nI 0) hx hb dL_append_18 (by decide +kernel) ?_
  exact hret _ _ _ _ (some (.int (nI 0))) () 19 ls (by decide) (by decide) (by rfl) hP hD hS (ret_i dL_append_19)

set_option maxHeartbeats 4000000 in
set_option maxRecDepth 100000 in
theorem k_L_append_bad (l : Launch) (D : va_G) (cI cS cL : ClassId) (T : Nat) (f0 : Nat) (a : Nat → Nat) (s : Nat → Nat) (fl : Nat → Nat) (c0 : Nat) (c1 : Nat) (n : Nat) (cs : Nat → Nat) (b : Nat → Nat) (r : Nat → Nat) (gl : Nat → Nat) (sv : Nat) (ad : Nat → Nat → Nat) (t : Nat → Nat → Nat) (f6 : Nat → Nat → Nat) (k : Nat) (v1 : Int32) (o0 : Nat) (xo : Int64) (hst : l.stackTraces = false) (hI : sI T s) (hT : T ≤ 900000) (hk : k ≤ 6) (hn : n ≤ 60) (hcs : ∀ j, j < n → cs j < 2 ^ 31) (hbad : ¬ (inR v1 33 126 ∧ n < 60)) : KC l D (TY cI cS cL) yL_append wsL_append ({ frames := 8, cells := 2, slots := 12, locals := 133 } : Room) ([(o0, .inl (cL, 1, .inr (.inl (lo xo))))] ++ (fcW cI cS f0 a s fl c0 c1 n cs b r gl sv ad t f6 k)) [.ref f0, .int v1, .ref o0] (fun (v : Option Value) (_ : Unit) => v = some (.int (nI (if inR v1 33 126 then 2 else 1)))) (fun _ : Unit => ([(o0, .inl (cL, 1, .inr (.inl (lo xo))))] ++ (fcW cI cS f0 a s fl c0 c1 n cs b r gl sv ad t f6 k))) := by
  refine KC.of (cc := cL_append) (maxL := 4) (ret := (some .int)) (hh := [(0, 9, 12, 15), (0, 9, 15, 31)]) (by decide) rfl (Nat.le_of_ble_eq_true rfl) ?_
  intro p9 e9 s9 m9 ar9 be9 me9 c9 Q9 A9 ls C0 hN hAm hXN hTab hnm hlk hK hA hret hP hD hS hl
  obtain ⟨hx, hb, hml, hown, hts⟩ := id C0
  have hl : lv_has ls 4 [(0, .ref f0), (1, .int v1), (2, .ref o0)] := hl
  obtain ⟨H, hH0⟩ : ∃ H, H = s9.heap := ⟨_, rfl⟩
  obtain ⟨locs, hlc0⟩ : ∃ z : List Loc, z = [] := ⟨_, rfl⟩
  have hP : va_P D vwCl ([(o0, .inl (cL, 1, .inr (.inl (lo xo))))] ++ (fcW cI cS f0 a s fl c0 c1 n cs b r gl sv ad t f6 k)) H := by rw [hH0]; exact hP
  have hD : va_D A9 ([(o0, .inl (cL, 1, .inr (.inl (lo xo))))] ++ (fcW cI cS f0 a s fl c0 c1 n cs b r gl sv ad t f6 k)) := hD
  have hS : va_S A9 s9.heap H locs := by rw [hH0, hlc0]; exact hS
  suffices hgo : W p9 l e9 ({ frames := 8, cells := 2, slots := 12, locals := 133 } : Room) s9 m9 ar9 be9 me9 c9 H locs 0 0 Q9 (F0 m9 0 ls []) by rw [hH0, hlc0] at hgo; exact hgo
  clear hH0 hlc0
  refine lv_aload_n hx hb dL_append_0 rfl (lv_at hl 2 rfl) ?_
  refine lv_iconst (v := nI 0) hx hb dL_append_1 (by decide +kernel) ?_
  refine lv_aload_n hx hb dL_append_2 rfl (lv_at hl 0 rfl) ?_
  refine lv_iload_n hx hb dL_append_3 rfl (lv_at hl 1 rfl) ?_
  have hm9 := fun (_ : Unit) => suf_mem (X' := (fcW cI cS f0 a s fl c0 c1 n cs b r gl sv ad t f6 k)) (R := [(o0, .inl (cL, 1, .inr (.inl (lo xo))))]) (show va_D A9 ([(o0, .inl (cL, 1, .inr (.inl (lo xo))))] ++ (fcW cI cS f0 a s fl c0 c1 n cs b r gl sv ad t f6 k)) from hD) (fcW_perm (List.Perm.refl _))
  refine KX.callVM (As := [.int v1]) (rest := [.int (nI 0), .ref o0]) (W0 := (fcW cI cS f0 a s fl c0 c1 n cs b r gl sv ad t f6 k)) (ws := ([(o0, .inl (cL, 1, .inr (.inl (lo xo))))] ++ (fcW cI cS f0 a s fl c0 c1 n cs b r gl sv ad t f6 k))) (ws' := fun (_ : Unit) => ([(o0, .inl (cL, 1, .inr (.inl (lo xo))))] ++ (fcW cI cS f0 a s fl c0 c1 n cs b r gl sv ad t f6 k))) C0 hN hAm (k_X5_append_bad l D cI cS cL T f0 a s fl c0 c1 n cs b r gl sv ad t f6 k v1 hst hI hT hk hn hcs hbad) (cwV 1 hts gL_append_X5_append rfl rfl rfl (by decide +kernel) ⟨Nat.le_of_ble_eq_true rfl, Nat.le_of_ble_eq_true rfl⟩) hK hP hD hS hA (hm9 ()).1 (hm9 ()).2.1 (fun u => (hm9 u).2.2.1) (fun u => (hm9 u).2.2.2) 0 5 rfl rfl rfl rfl hl.1 rfl (Nat.le_of_ble_eq_true rfl) dL_append_4 ⟨Nat.le_of_ble_eq_true rfl, Nat.le_of_ble_eq_true rfl⟩ (fun E ce q9 H locs hE hP hS hq9 hv9 hcl9 => ?_) (fun v9 u9 H locs hv hP hD hS => ?_)
  ·
    rcases hE with hE | hE
    ·
      obtain ⟨hEe, hEc⟩ := hE
      subst hEe
      refine vx_catch (own := RL) (name := "java/lang/IllegalArgumentException") hown [] ⟨0, 9, 12, 15⟩ [⟨0, 9, 15, 31⟩] (hTab.trans rfl) (fun z hz => absurd hz List.not_mem_nil) (by decide) (by decide) (hts (.classLink RL 15 "java/lang/IllegalArgumentException") (by decide +kernel)) (va_Nw.use rfl (hAm.2.2.2.2.2.2 ("java/lang/IllegalArgumentException", "java/lang/IllegalArgumentException") (by decide))) hq9 hv9 hcl9 ?_
      refine lv_astore_n (lv' := [(3, .ref q9), (0, .ref f0), (1, .int v1), (2, .ref o0)]) hx hb dL_append_12 rfl hl (by decide) rfl (fun ls hl => ?_)
      refine lv_iconst (v := nI 1) hx hb dL_append_13 (by decide +kernel) ?_
      exact hret _ _ _ _ (some (.int (nI 1))) () 14 ls (by decide) (by decide) (by exact rv (by (repeat' split) <;> first | rfl | (exfalso; omega))) hP hD hS (ret_i dL_append_14)
    ·
      obtain ⟨hEe, hEc⟩ := hE
      subst hEe
      refine vx_catch (own := RL) (name := "java/lang/IllegalStateException") hown [⟨0, 9, 12, 15⟩] ⟨0, 9, 15, 31⟩ [] (hTab.trans rfl) (fun z hz => Or.inr (by rw [List.mem_singleton.mp hz]; exact ⟨by decide, "java/lang/IllegalArgumentException", hts (.classLink RL 15 "java/lang/IllegalArgumentException") (by decide +kernel), hXN ("java/lang/IllegalStateException", "java/lang/IllegalArgumentException") (by decide)⟩)) (by decide) (by decide) (hts (.classLink RL 31 "java/lang/IllegalStateException") (by decide +kernel)) (va_Nw.use rfl (hAm.2.2.2.2.2.2 ("java/lang/IllegalStateException", "java/lang/IllegalStateException") (by decide))) hq9 hv9 hcl9 ?_
      refine lv_astore_n (lv' := [(3, .ref q9), (0, .ref f0), (1, .int v1), (2, .ref o0)]) hx hb dL_append_15 rfl hl (by decide) rfl (fun ls hl => ?_)
      refine lv_iconst (v := nI 2) hx hb dL_append_16 (by decide +kernel) ?_
      exact hret _ _ _ _ (some (.int (nI 2))) () 17 ls (by decide) (by decide) (by exact rv (by (repeat' split) <;> first | rfl | (exfalso; omega))) hP hD hS (ret_i dL_append_17)
  · exact hv.1.elim

set_option maxHeartbeats 4000000 in
set_option maxRecDepth 100000 in
theorem k_L_cueAll_ok (l : Launch) (D : va_G) (cI cS cL : ClassId) (T : Nat) (f0 : Nat) (a : Nat → Nat) (s : Nat → Nat) (fl : Nat → Nat) (c0 : Nat) (c1 : Nat) (n : Nat) (cs : Nat → Nat) (b : Nat → Nat) (r : Nat → Nat) (gl : Nat → Nat) (sv : Nat) (ad : Nat → Nat → Nat) (t : Nat → Nat → Nat) (f6 : Nat → Nat → Nat) (k : Nat) (o0 : Nat) (xo : Int64) (hst : l.stackTraces = false) (hI : sI T s) (hT : T ≤ 900000) (hk : k ≤ 6) (hn : n ≤ 60) (hcs : ∀ j, j < n → cs j < 2 ^ 31) (hok : runS cs n = 6 ∨ runS cs n = 7) : KC l D (TY cI cS cL) yL_cueAll wsL_cueAll ({ frames := 6, cells := 0, slots := 0, locals := 147 } : Room) ([(o0, .inl (cL, 1, .inr (.inl (lo xo))))] ++ (fcW cI cS f0 a s fl c0 c1 n cs b r gl sv ad t f6 k)) [.ref f0, .ref o0] (fun (v : Option Value) (_ : Unit) => v = some (.int (nI 0))) (fun _ : Unit => ([(o0, .inl (cL, 1, .inr (.inl (lo ((nI (allN cs s n)).toInt64)))))] ++ (fcW cI cS f0 a (allS cs s n) fl c0 c1 0 cs b r gl sv (kpA k ad) (kpT k t s) (kpA k f6) (kpK k)))) := by
  refine KC.of (cc := cL_cueAll) (maxL := 3) (ret := (some .int)) (hh := [(0, 8, 11, 15)]) (by decide) rfl (Nat.le_of_ble_eq_true rfl) ?_
  intro p9 e9 s9 m9 ar9 be9 me9 c9 Q9 A9 ls C0 hN hAm hXN hTab hnm hlk hK hA hret hP hD hS hl
  obtain ⟨hx, hb, hml, hown, hts⟩ := id C0
  have hl : lv_has ls 3 [(0, .ref f0), (1, .ref o0)] := hl
  obtain ⟨H, hH0⟩ : ∃ H, H = s9.heap := ⟨_, rfl⟩
  obtain ⟨locs, hlc0⟩ : ∃ z : List Loc, z = [] := ⟨_, rfl⟩
  have hP : va_P D vwCl ([(o0, .inl (cL, 1, .inr (.inl (lo xo))))] ++ (fcW cI cS f0 a s fl c0 c1 n cs b r gl sv ad t f6 k)) H := by rw [hH0]; exact hP
  have hD : va_D A9 ([(o0, .inl (cL, 1, .inr (.inl (lo xo))))] ++ (fcW cI cS f0 a s fl c0 c1 n cs b r gl sv ad t f6 k)) := hD
  have hS : va_S A9 s9.heap H locs := by rw [hH0, hlc0]; exact hS
  suffices hgo : W p9 l e9 ({ frames := 6, cells := 0, slots := 0, locals := 147 } : Room) s9 m9 ar9 be9 me9 c9 H locs 0 0 Q9 (F0 m9 0 ls []) by rw [hH0, hlc0] at hgo; exact hgo
  clear hH0 hlc0
  refine lv_aload_n hx hb dL_cueAll_0 rfl (lv_at hl 1 rfl) ?_
  refine lv_iconst (v := nI 0) hx hb dL_cueAll_1 (by decide +kernel) ?_
  refine lv_aload_n hx hb dL_cueAll_2 rfl (lv_at hl 0 rfl) ?_
  have hm9 := fun (_ : Unit) => suf_mem (X' := (fcW cI cS f0 a (allS cs s n) fl c0 c1 0 cs b r gl sv (kpA k ad) (kpT k t s) (kpA k f6) (kpK k))) (R := [(o0, .inl (cL, 1, .inr (.inl (lo xo))))]) (show va_D A9 ([(o0, .inl (cL, 1, .inr (.inl (lo xo))))] ++ (fcW cI cS f0 a s fl c0 c1 n cs b r gl sv ad t f6 k)) from hD) (fcW_perm (sv_kp cI cS sv ad t f6 (kpT k t s) (kpA k f6) k (kpK k)))
  refine KM.callVM (As := []) (rest := [.int (nI 0), .ref o0]) (W0 := (fcW cI cS f0 a s fl c0 c1 n cs b r gl sv ad t f6 k)) (ws := ([(o0, .inl (cL, 1, .inr (.inl (lo xo))))] ++ (fcW cI cS f0 a s fl c0 c1 n cs b r gl sv ad t f6 k))) (ws' := fun (_ : Unit) => ([(o0, .inl (cL, 1, .inr (.inl (lo xo))))] ++ (fcW cI cS f0 a (allS cs s n) fl c0 c1 0 cs b r gl sv (kpA k ad) (kpT k t s) (kpA k f6) (kpK k)))) C0 hN (k_X5_cueAll_ok l D cI cS cL T f0 a s fl c0 c1 n cs b r gl sv ad t f6 k hI hT hk hn hcs hok) (cwV 0 hts gL_cueAll_X5_cueAll rfl rfl rfl (by decide +kernel) ⟨Nat.le_of_ble_eq_true rfl, Nat.le_of_ble_eq_true rfl⟩) hK hP hD hS hA (hm9 ()).1 (hm9 ()).2.1 (fun u => (hm9 u).2.2.1) (fun u => (hm9 u).2.2.2) 0 5 rfl rfl rfl rfl hl.1 rfl (Nat.le_of_ble_eq_true rfl) dL_cueAll_3 ⟨Nat.le_of_ble_eq_true rfl, Nat.le_of_ble_eq_true rfl⟩ (fun v9 u9 H locs hv hP hD hS => ?_)
  subst hv
  have hP : va_P D vwCl ([(o0, .inl (cL, 1, .inr (.inl (lo xo))))] ++ (fcW cI cS f0 a (allS cs s n) fl c0 c1 0 cs b r gl sv (kpA k ad) (kpT k t s) (kpA k f6) (kpK k))) H := hP
  have hD : va_D A9 ([(o0, .inl (cL, 1, .inr (.inl (lo xo))))] ++ (fcW cI cS f0 a (allS cs s n) fl c0 c1 0 cs b r gl sv (kpA k ad) (kpT k t s) (kpA k f6) (kpK k))) := hD
  refine W.eq (g2 := F0 m9 6 ls [.int (nI (allN cs s n)), .int (nI 0), .ref o0]) rfl ?_
  refine lv_i2l (v := (nI (allN cs s n)).toInt64) hx hb dL_cueAll_6 rfl ?_
  refine va_last (D := D) (i := nI 0) hx hb hK hP hD hS 0 2 rfl rfl (vp_in_nI (n := 0) (by decide) (by decide)) dL_cueAll_7 (fun H locs hP hD hS => ?_)
  rw [lo_up] at hP hD
  have hP : va_P D vwCl ([(o0, .inl (cL, 1, .inr (.inl (lo ((nI (allN cs s n)).toInt64)))))] ++ (fcW cI cS f0 a (allS cs s n) fl c0 c1 0 cs b r gl sv (kpA k ad) (kpT k t s) (kpA k f6) (kpK k))) H := hP
  have hD : va_D A9 ([(o0, .inl (cL, 1, .inr (.inl (lo ((nI (allN cs s n)).toInt64)))))] ++ (fcW cI cS f0 a (allS cs s n) fl c0 c1 0 cs b r gl sv (kpA k ad) (kpT k t s) (kpA k f6) (kpK k))) := hD
  refine lv_goto (tgt := 14) hx hb dL_cueAll_8 (by decide) ?_
  refine lv_iconst (v := nI 0) hx hb dL_cueAll_14 (by decide +kernel) ?_
  exact hret _ _ _ _ (some (.int (nI 0))) () 15 ls (by decide) (by decide) (by rfl) hP hD hS (ret_i dL_cueAll_15)

set_option maxHeartbeats 4000000 in
set_option maxRecDepth 100000 in
theorem k_L_cueAll_bad (l : Launch) (D : va_G) (cI cS cL : ClassId) (T : Nat) (f0 : Nat) (a : Nat → Nat) (s : Nat → Nat) (fl : Nat → Nat) (c0 : Nat) (c1 : Nat) (n : Nat) (cs : Nat → Nat) (b : Nat → Nat) (r : Nat → Nat) (gl : Nat → Nat) (sv : Nat) (ad : Nat → Nat → Nat) (t : Nat → Nat → Nat) (f6 : Nat → Nat → Nat) (k : Nat) (o0 : Nat) (xo : Int64) (hst : l.stackTraces = false) (hI : sI T s) (hT : T ≤ 900000) (hk : k ≤ 6) (hn : n ≤ 60) (hcs : ∀ j, j < n → cs j < 2 ^ 31) (hbad : ¬ (runS cs n = 6 ∨ runS cs n = 7)) : KC l D (TY cI cS cL) yL_cueAll wsL_cueAll ({ frames := 7, cells := 1, slots := 6, locals := 111 } : Room) ([(o0, .inl (cL, 1, .inr (.inl (lo xo))))] ++ (fcW cI cS f0 a s fl c0 c1 n cs b r gl sv ad t f6 k)) [.ref f0, .ref o0] (fun (v : Option Value) (_ : Unit) => v = some (.int (nI 1))) (fun _ : Unit => ([(o0, .inl (cL, 1, .inr (.inl (lo xo))))] ++ (fcW cI cS f0 a s fl c0 c1 n cs b r gl sv ad t f6 k))) := by
  refine KC.of (cc := cL_cueAll) (maxL := 3) (ret := (some .int)) (hh := [(0, 8, 11, 15)]) (by decide) rfl (Nat.le_of_ble_eq_true rfl) ?_
  intro p9 e9 s9 m9 ar9 be9 me9 c9 Q9 A9 ls C0 hN hAm hXN hTab hnm hlk hK hA hret hP hD hS hl
  obtain ⟨hx, hb, hml, hown, hts⟩ := id C0
  have hl : lv_has ls 3 [(0, .ref f0), (1, .ref o0)] := hl
  obtain ⟨H, hH0⟩ : ∃ H, H = s9.heap := ⟨_, rfl⟩
  obtain ⟨locs, hlc0⟩ : ∃ z : List Loc, z = [] := ⟨_, rfl⟩
  have hP : va_P D vwCl ([(o0, .inl (cL, 1, .inr (.inl (lo xo))))] ++ (fcW cI cS f0 a s fl c0 c1 n cs b r gl sv ad t f6 k)) H := by rw [hH0]; exact hP
  have hD : va_D A9 ([(o0, .inl (cL, 1, .inr (.inl (lo xo))))] ++ (fcW cI cS f0 a s fl c0 c1 n cs b r gl sv ad t f6 k)) := hD
  have hS : va_S A9 s9.heap H locs := by rw [hH0, hlc0]; exact hS
  suffices hgo : W p9 l e9 ({ frames := 7, cells := 1, slots := 6, locals := 111 } : Room) s9 m9 ar9 be9 me9 c9 H locs 0 0 Q9 (F0 m9 0 ls []) by rw [hH0, hlc0] at hgo; exact hgo
  clear hH0 hlc0
  refine lv_aload_n hx hb dL_cueAll_0 rfl (lv_at hl 1 rfl) ?_
  refine lv_iconst (v := nI 0) hx hb dL_cueAll_1 (by decide +kernel) ?_
  refine lv_aload_n hx hb dL_cueAll_2 rfl (lv_at hl 0 rfl) ?_
  have hm9 := fun (_ : Unit) => suf_mem (X' := (fcW cI cS f0 a s fl c0 c1 n cs b r gl sv ad t f6 k)) (R := [(o0, .inl (cL, 1, .inr (.inl (lo xo))))]) (show va_D A9 ([(o0, .inl (cL, 1, .inr (.inl (lo xo))))] ++ (fcW cI cS f0 a s fl c0 c1 n cs b r gl sv ad t f6 k)) from hD) (fcW_perm (List.Perm.refl _))
  refine KX.callVM (As := []) (rest := [.int (nI 0), .ref o0]) (W0 := (fcW cI cS f0 a s fl c0 c1 n cs b r gl sv ad t f6 k)) (ws := ([(o0, .inl (cL, 1, .inr (.inl (lo xo))))] ++ (fcW cI cS f0 a s fl c0 c1 n cs b r gl sv ad t f6 k))) (ws' := fun (_ : Unit) => ([(o0, .inl (cL, 1, .inr (.inl (lo xo))))] ++ (fcW cI cS f0 a s fl c0 c1 n cs b r gl sv ad t f6 k))) C0 hN hAm (k_X5_cueAll_bad l D cI cS cL T f0 a s fl c0 c1 n cs b r gl sv ad t f6 k hst hI hT hk hn hcs hbad) (cwV 0 hts gL_cueAll_X5_cueAll rfl rfl rfl (by decide +kernel) ⟨Nat.le_of_ble_eq_true rfl, Nat.le_of_ble_eq_true rfl⟩) hK hP hD hS hA (hm9 ()).1 (hm9 ()).2.1 (fun u => (hm9 u).2.2.1) (fun u => (hm9 u).2.2.2) 0 5 rfl rfl rfl rfl hl.1 rfl (Nat.le_of_ble_eq_true rfl) dL_cueAll_3 ⟨Nat.le_of_ble_eq_true rfl, Nat.le_of_ble_eq_true rfl⟩ (fun E ce q9 H locs hE hP hS hq9 hv9 hcl9 => ?_) (fun v9 u9 H locs hv hP hD hS => ?_)
  ·
    ·
      have hEe := hE
      subst hEe
      refine vx_catch (own := RL) (name := "java/lang/IllegalArgumentException") hown [] ⟨0, 8, 11, 15⟩ [] (hTab.trans rfl) (fun z hz => absurd hz List.not_mem_nil) (by decide) (by decide) (hts (.classLink RL 15 "java/lang/IllegalArgumentException") (by decide +kernel)) (va_Nw.use rfl (hAm.2.2.2.2.2.2 ("java/lang/IllegalArgumentException", "java/lang/IllegalArgumentException") (by decide))) hq9 hv9 hcl9 ?_
      refine lv_astore_n (lv' := [(2, .ref q9), (0, .ref f0), (1, .ref o0)]) hx hb dL_cueAll_11 rfl hl (by decide) rfl (fun ls hl => ?_)
      refine lv_iconst (v := nI 1) hx hb dL_cueAll_12 (by decide +kernel) ?_
      exact hret _ _ _ _ (some (.int (nI 1))) () 13 ls (by decide) (by decide) (by exact rv (by (repeat' split) <;> first | rfl | (exfalso; omega))) hP hD hS (ret_i dL_cueAll_13)
  · exact hv.1.elim
