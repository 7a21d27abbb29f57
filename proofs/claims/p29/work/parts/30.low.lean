set_option maxHeartbeats 4000000 in
set_option maxRecDepth 100000 in
theorem k_L_low (l : Launch) (D : va_G) (cI cS cL : ClassId) (w0 : Int32) (q : Nat) (h1 : 0 < q) (h2 : q < 2 ^ 31) : KM l D (TY cI cS cL) yL_low wsL_low ({ frames := 0, cells := 0, slots := 0, locals := 0 } : Room) [] [.int w0, .int (nI q)] (fun (v : Option Value) (_ : Unit) => v = some (.int (nI (mk31 w0 % q)))) (fun _ : Unit => []) := by
  refine KM.of (cc := cL_low) (maxL := 2) (ret := (some .int)) (by decide) rfl (Nat.le_of_ble_eq_true rfl) ?_
  intro p9 e9 s9 m9 ar9 be9 me9 c9 Q9 A9 ls C0 hN hnm hlk hK hA hret hP hD hS hl
  obtain ⟨hx, hb, hml, hown, hts⟩ := id C0
  have hl : lv_has ls 2 [(0, .int w0), (1, .int (nI q))] := hl
  obtain ⟨H, hH0⟩ : ∃ H, H = s9.heap := ⟨_, rfl⟩
  obtain ⟨locs, hlc0⟩ : ∃ z : List Loc, z = [] := ⟨_, rfl⟩
  have hP : va_P D vwCl [] H := by rw [hH0]; exact hP
  have hD : va_D A9 [] := hD
  have hS : va_S A9 s9.heap H locs := by rw [hH0, hlc0]; exact hS
  suffices hgo : W p9 l e9 ({ frames := 0, cells := 0, slots := 0, locals := 0 } : Room) s9 m9 ar9 be9 me9 c9 H locs 0 0 Q9 (F0 m9 0 ls []) by rw [hH0, hlc0] at hgo; exact hgo
  clear hH0 hlc0
  refine lv_iload_n hx hb dL_low_0 rfl (lv_at hl 0 rfl) ?_
  refine lv_ldc (v := nI 2147483647) hx hb hown (hts (.constant RL 7 (nI 2147483647)) (by decide +kernel)) dL_low_1 ?_
  refine lv_iand hx hb dL_low_3 ?_
  refine q_topi (y := (nI (mk31 w0))) (by exact mk31_e w0) ?_
  refine lv_iload_n hx hb dL_low_4 rfl (lv_at hl 1 rfl) ?_
  refine q_irem (by exact mk31_lt) (by omega) (by omega) hx hb dL_low_5 ?_
  exact hret _ _ _ _ (some (.int (nI ((mk31 w0) % q)))) () 6 ls (by decide) (by decide) (by rfl) hP hD hS (ret_i dL_low_6)

set_option maxHeartbeats 4000000 in
set_option maxRecDepth 100000 in
theorem k_L_cell (l : Launch) (D : va_G) (cI cS cL : ClassId) (b0 L : Nat) (xs : Nat → Int32) (i : Nat) (hst : l.stackTraces = false) (hi : i < L) (hL : L ≤ 260) : KZ l D (TY cI cS cL) b0 L xs yL_cell wsL_cell ({ frames := 0, cells := 0, slots := 0, locals := 0 } : Room) ([] : va_W) [.ref b0, .int (nI i)] (fun (v : Option Value) (_ : Unit) => v = some (.int (xs i))) (fun _ : Unit => ([] : va_W)) := by
  refine KZ.of (cc := cL_cell) (maxL := 2) (ret := (some .int)) (by decide) rfl (Nat.le_of_ble_eq_true rfl) ?_
  intro p9 e9 s9 m9 ar9 be9 me9 c9 Q9 A9 ls C0 hN hAm hXN hSX hnm hlk hK hA hret hP hD hS hl
  obtain ⟨hX, hbl, hbA⟩ := id hSX
  obtain ⟨hx, hb, hml, hown, hts⟩ := id C0
  have hl : lv_has ls 2 [(0, .ref b0), (1, .int (nI i))] := hl
  obtain ⟨H, hH0⟩ : ∃ H, H = s9.heap := ⟨_, rfl⟩
  obtain ⟨locs, hlc0⟩ : ∃ z : List Loc, z = [] := ⟨_, rfl⟩
  have hP : va_P D vwCl ([] : va_W) H := by rw [hH0]; exact hP
  have hD : va_D A9 ([] : va_W) := hD
  have hS : va_S A9 s9.heap H locs := by rw [hH0, hlc0]; exact hS
  suffices hgo : W p9 l e9 ({ frames := 0, cells := 0, slots := 0, locals := 0 } : Room) s9 m9 ar9 be9 me9 c9 H locs 0 0 Q9 (F0 m9 0 ls []) by rw [hH0, hlc0] at hgo; exact hgo
  clear hH0 hlc0
  refine lv_iload_n hx hb dL_cell_0 rfl (lv_at hl 1 rfl) ?_
  refine lv_aload_n hx hb dL_cell_1 rfl (lv_at hl 0 rfl) ?_
  refine va_slen hx hb hX hbl hbA hS dL_cell_2 ?_
  refine W.eq (g2 := F0 m9 3 ls [.int (nI L), .int (nI i)]) rfl ?_
  refine q_ige (tgt := 12) (by omega) (by omega) hx hb dL_cell_3 (by decide) (fun c_3 => ?_) (fun c_3 => ?_)
  · exact absurd True.intro (by omega)
  ·
    refine lv_aload_n hx hb dL_cell_6 rfl (lv_at hl 0 rfl) ?_
    refine lv_iload_n hx hb dL_cell_7 rfl (lv_at hl 1 rfl) ?_
    refine va_sld hx hb hX hbl hbA hS (vp_in_nI (n := i) (by omega) (by omega)) dL_cell_8 ?_
    refine q_topi (y := xs i) (by rw [nI_clamp (by omega)]) ?_
    refine lv_goto (tgt := 20) hx hb dL_cell_9 (by decide) ?_
    exact hret _ _ _ _ (some (.int (xs i))) () 20 ls (by decide) (by decide) (by rfl) hP hD hS (ret_i dL_cell_20)

set_option maxHeartbeats 4000000 in
set_option maxRecDepth 100000 in
theorem k_L_cue_ok (l : Launch) (D : va_G) (cI cS cL : ClassId) (T : Nat) (f0 : Nat) (a : Nat → Nat) (s : Nat → Nat) (fl : Nat → Nat) (c0 : Nat) (c1 : Nat) (n : Nat) (cs : Nat → Nat) (b : Nat → Nat) (r : Nat → Nat) (gl : Nat → Nat) (sv : Nat) (ad : Nat → Nat → Nat) (t : Nat → Nat → Nat) (f6 : Nat → Nat → Nat) (k : Nat) (q : Nat) (j : Nat) (x : Nat) (hst : l.stackTraces = false) (hI : sI T s) (hT : T ≤ 900000) (hk : k ≤ 6) (hn : n ≤ 60) (hcs : ∀ j, j < n → cs j < 2 ^ 31) (hq : q ≤ 999) (hj : j < 8) (hx2 : x ≤ 10) (hr : rS s q j x = 0) : KC l D (TY cI cS cL) yL_cue wsL_cue ({ frames := 5, cells := 0, slots := 0, locals := 109 } : Room) (fcW cI cS f0 a s fl c0 c1 n cs b r gl sv ad t f6 k) [.ref f0, .int (nI q), .int (nI j), .int (nI x)] (fun (v : Option Value) (_ : Unit) => v = some (.int (nI (s 9)))) (fun _ : Unit => (fcW cI cS f0 a (mAdd s q j x) fl c0 c1 n cs b r gl sv (kpA k ad) (kpT k t s) (kpA k f6) (kpK k))) := by
  refine KC.of (cc := cL_cue) (maxL := 5) (ret := (some .int)) (hh := [(0, 7, 8, 15)]) (by decide) rfl (Nat.le_of_ble_eq_true rfl) ?_
  intro p9 e9 s9 m9 ar9 be9 me9 c9 Q9 A9 ls C0 hN hAm hXN hTab hnm hlk hK hA hret hP hD hS hl
  obtain ⟨hx, hb, hml, hown, hts⟩ := id C0
  have hl : lv_has ls 5 [(0, .ref f0), (1, .int (nI q)), (2, .int (nI j)), (3, .int (nI x))] := hl
  obtain ⟨H, hH0⟩ : ∃ H, H = s9.heap := ⟨_, rfl⟩
  obtain ⟨locs, hlc0⟩ : ∃ z : List Loc, z = [] := ⟨_, rfl⟩
  have hP : va_P D vwCl (fcW cI cS f0 a s fl c0 c1 n cs b r gl sv ad t f6 k) H := by rw [hH0]; exact hP
  have hD : va_D A9 (fcW cI cS f0 a s fl c0 c1 n cs b r gl sv ad t f6 k) := hD
  have hS : va_S A9 s9.heap H locs := by rw [hH0, hlc0]; exact hS
  suffices hgo : W p9 l e9 ({ frames := 5, cells := 0, slots := 0, locals := 109 } : Room) s9 m9 ar9 be9 me9 c9 H locs 0 0 Q9 (F0 m9 0 ls []) by rw [hH0, hlc0] at hgo; exact hgo
  clear hH0 hlc0
  refine lv_aload_n hx hb dL_cue_0 rfl (lv_at hl 0 rfl) ?_
  refine lv_iload_n hx hb dL_cue_1 rfl (lv_at hl 1 rfl) ?_
  refine lv_iload_n hx hb dL_cue_2 rfl (lv_at hl 2 rfl) ?_
  refine lv_iload_n hx hb dL_cue_3 rfl (lv_at hl 3 rfl) ?_
  refine KM.callVM (As := [.int (nI q), .int (nI j), .int (nI x)]) (rest := []) (W0 := (fcW cI cS f0 a s fl c0 c1 n cs b r gl sv ad t f6 k)) (ws := (fcW cI cS f0 a s fl c0 c1 n cs b r gl sv ad t f6 k)) (ws' := fun (_ : Unit) => (fcW cI cS f0 a (mAdd s q j x) fl c0 c1 n cs b r gl sv (kpA k ad) (kpT k t s) (kpA k f6) (kpK k))) C0 hN (k_X5_cue_ok l D cI cS cL T f0 a s fl c0 c1 n cs b r gl sv ad t f6 k q j x hI hT hk hn hcs hq hj hx2 hr) (cwV 3 hts gL_cue_X5_cue rfl rfl rfl (by decide +kernel) ⟨Nat.le_of_ble_eq_true rfl, Nat.le_of_ble_eq_true rfl⟩) hK hP hD hS hA (fun _ h => h) (va_D_iff.mp hD).1 (fun _ => fcW_perm (sv_kp cI cS sv ad t f6 (kpT k t s) (kpA k f6) k (kpK k))) (fun _ _ h => Or.inl h) 0 5 rfl rfl rfl rfl hl.1 rfl (Nat.le_of_ble_eq_true rfl) dL_cue_4 ⟨Nat.le_of_ble_eq_true rfl, Nat.le_of_ble_eq_true rfl⟩ (fun v9 u9 H locs hv hP hD hS => ?_)
  subst hv
  have hP : va_P D vwCl (fcW cI cS f0 a (mAdd s q j x) fl c0 c1 n cs b r gl sv (kpA k ad) (kpT k t s) (kpA k f6) (kpK k)) H := hP
  have hD : va_D A9 (fcW cI cS f0 a (mAdd s q j x) fl c0 c1 n cs b r gl sv (kpA k ad) (kpT k t s) (kpA k f6) (kpK k)) := hD
  refine W.eq (g2 := F0 m9 7 ls [.int (nI (s 9))]) rfl ?_
  exact hret _ _ _ _ (some (.int (nI (s 9)))) () 7 ls (by decide) (by decide) (by rfl) hP hD hS (ret_i dL_cue_7)

set_option maxHeartbeats 4000000 in
set_option maxRecDepth 100000 in
theorem k_L_cue_no (l : Launch) (D : va_G) (cI cS cL : ClassId) (T : Nat) (f0 : Nat) (a : Nat → Nat) (s : Nat → Nat) (fl : Nat → Nat) (c0 : Nat) (c1 : Nat) (n : Nat) (cs : Nat → Nat) (b : Nat → Nat) (r : Nat → Nat) (gl : Nat → Nat) (sv : Nat) (ad : Nat → Nat → Nat) (t : Nat → Nat → Nat) (f6 : Nat → Nat → Nat) (k : Nat) (q : Nat) (j : Nat) (x : Nat) (hst : l.stackTraces = false) (hI : sI T s) (hT : T ≤ 900000) (hk : k ≤ 6) (hn : n ≤ 60) (hcs : ∀ j, j < n → cs j < 2 ^ 31) (hq : q ≤ 999) (hj : j < 8) (hx2 : x ≤ 10) (hr : ¬ rS s q j x = 0) : KC l D (TY cI cS cL) yL_cue wsL_cue ({ frames := 7, cells := 1, slots := 6, locals := 113 } : Room) (fcW cI cS f0 a s fl c0 c1 n cs b r gl sv ad t f6 k) [.ref f0, .int (nI q), .int (nI j), .int (nI x)] (fun (v : Option Value) (_ : Unit) => v = some (.int (-3))) (fun _ : Unit => (fcW cI cS f0 a s fl c0 c1 n cs b r gl sv ad t f6 k)) := by
  refine KC.of (cc := cL_cue) (maxL := 5) (ret := (some .int)) (hh := [(0, 7, 8, 15)]) (by decide) rfl (Nat.le_of_ble_eq_true rfl) ?_
  intro p9 e9 s9 m9 ar9 be9 me9 c9 Q9 A9 ls C0 hN hAm hXN hTab hnm hlk hK hA hret hP hD hS hl
  obtain ⟨hx, hb, hml, hown, hts⟩ := id C0
  have hl : lv_has ls 5 [(0, .ref f0), (1, .int (nI q)), (2, .int (nI j)), (3, .int (nI x))] := hl
  obtain ⟨H, hH0⟩ : ∃ H, H = s9.heap := ⟨_, rfl⟩
  obtain ⟨locs, hlc0⟩ : ∃ z : List Loc, z = [] := ⟨_, rfl⟩
  have hP : va_P D vwCl (fcW cI cS f0 a s fl c0 c1 n cs b r gl sv ad t f6 k) H := by rw [hH0]; exact hP
  have hD : va_D A9 (fcW cI cS f0 a s fl c0 c1 n cs b r gl sv ad t f6 k) := hD
  have hS : va_S A9 s9.heap H locs := by rw [hH0, hlc0]; exact hS
  suffices hgo : W p9 l e9 ({ frames := 7, cells := 1, slots := 6, locals := 113 } : Room) s9 m9 ar9 be9 me9 c9 H locs 0 0 Q9 (F0 m9 0 ls []) by rw [hH0, hlc0] at hgo; exact hgo
  clear hH0 hlc0
  refine lv_aload_n hx hb dL_cue_0 rfl (lv_at hl 0 rfl) ?_
  refine lv_iload_n hx hb dL_cue_1 rfl (lv_at hl 1 rfl) ?_
  refine lv_iload_n hx hb dL_cue_2 rfl (lv_at hl 2 rfl) ?_
  refine lv_iload_n hx hb dL_cue_3 rfl (lv_at hl 3 rfl) ?_
  refine KX.callVM (As := [.int (nI q), .int (nI j), .int (nI x)]) (rest := []) (W0 := (fcW cI cS f0 a s fl c0 c1 n cs b r gl sv ad t f6 k)) (ws := (fcW cI cS f0 a s fl c0 c1 n cs b r gl sv ad t f6 k)) (ws' := fun (_ : Unit) => (fcW cI cS f0 a s fl c0 c1 n cs b r gl sv ad t f6 k)) C0 hN hAm (k_X5_cue_ref l D cI cS cL T f0 a s fl c0 c1 n cs b r gl sv ad t f6 k q j x hst hI hT hk hn hcs hq hj hx2 hr) (cwV 3 hts gL_cue_X5_cue rfl rfl rfl (by decide +kernel) ⟨Nat.le_of_ble_eq_true rfl, Nat.le_of_ble_eq_true rfl⟩) hK hP hD hS hA (fun _ h => h) (va_D_iff.mp hD).1 (fun _ => fcW_perm (List.Perm.refl _)) (fun _ _ h => Or.inl h) 0 5 rfl rfl rfl rfl hl.1 rfl (Nat.le_of_ble_eq_true rfl) dL_cue_4 ⟨Nat.le_of_ble_eq_true rfl, Nat.le_of_ble_eq_true rfl⟩ (fun E ce q9 H locs hE hP hS hq9 hv9 hcl9 => ?_) (fun v9 u9 H locs hv hP hD hS => ?_)
  ·
    have hEe := hE
    subst hEe
    refine vx_catch (own := RL) (name := "java/lang/IllegalStateException") hown [] ⟨0, 7, 8, 15⟩ [] (hTab.trans rfl) (fun z hz => absurd hz List.not_mem_nil) (by decide) (by decide) (hts (.classLink RL 15 "java/lang/IllegalStateException") (by decide +kernel)) (va_Nw.use rfl (hAm.2.2.2.2.2.2 ("java/lang/IllegalStateException", "java/lang/IllegalStateException") (by decide))) hq9 hv9 hcl9 ?_
    refine lv_astore (lv' := [(4, .ref q9), (0, .ref f0), (1, .int (nI q)), (2, .int (nI j)), (3, .int (nI x))]) hx hb dL_cue_8 hl (by decide) rfl (fun ls hl => ?_)
    refine lv_bipush (v := (-3)) hx hb dL_cue_10 (by decide +kernel) ?_
    exact hret _ _ _ _ (some (.int (-3))) () 12 ls (by decide) (by decide) (by rfl) hP hD hS (ret_i dL_cue_12)
  · exact hv.1.elim

set_option maxHeartbeats 4000000 in
set_option maxRecDepth 100000 in
theorem k_L_drop_ok (l : Launch) (D : va_G) (cI cS cL : ClassId) (T : Nat) (f0 : Nat) (a : Nat → Nat) (s : Nat → Nat) (fl : Nat → Nat) (c0 : Nat) (c1 : Nat) (n : Nat) (cs : Nat → Nat) (b : Nat → Nat) (r : Nat → Nat) (gl : Nat → Nat) (sv : Nat) (ad : Nat → Nat → Nat) (t : Nat → Nat → Nat) (f6 : Nat → Nat → Nat) (k : Nat) (x : Int32) (p : Nat) (hst : l.stackTraces = false) (hI : sI T s) (hT : T ≤ 900000) (hk : k ≤ 6) (hn : n ≤ 60) (hcs : ∀ j, j < n → cs j < 2 ^ 31) (hp : p < s 8) (hpx : nI (nuF s p) = x) : KC l D (TY cI cS cL) yL_drop wsL_drop ({ frames := 5, cells := 0, slots := 0, locals := 108 } : Room) (fcW cI cS f0 a s fl c0 c1 n cs b r gl sv ad t f6 k) [.ref f0, .int x] (fun (v : Option Value) (_ : Unit) => v = some (.int (nI (s 8 - 1)))) (fun _ : Unit => (fcW cI cS f0 a (mDrop s p) fl c0 c1 n cs b r gl sv (kpA k ad) (kpT k t s) (kpA k f6) (kpK k))) := by
  refine KC.of (cc := cL_drop) (maxL := 3) (ret := (some .int)) (hh := [(0, 5, 6, 25)]) (by decide) rfl (Nat.le_of_ble_eq_true rfl) ?_
  intro p9 e9 s9 m9 ar9 be9 me9 c9 Q9 A9 ls C0 hN hAm hXN hTab hnm hlk hK hA hret hP hD hS hl
  obtain ⟨hx, hb, hml, hown, hts⟩ := id C0
  have hl : lv_has ls 3 [(0, .ref f0), (1, .int x)] := hl
  obtain ⟨H, hH0⟩ : ∃ H, H = s9.heap := ⟨_, rfl⟩
  obtain ⟨locs, hlc0⟩ : ∃ z : List Loc, z = [] := ⟨_, rfl⟩
  have hP : va_P D vwCl (fcW cI cS f0 a s fl c0 c1 n cs b r gl sv ad t f6 k) H := by rw [hH0]; exact hP
  have hD : va_D A9 (fcW cI cS f0 a s fl c0 c1 n cs b r gl sv ad t f6 k) := hD
  have hS : va_S A9 s9.heap H locs := by rw [hH0, hlc0]; exact hS
  suffices hgo : W p9 l e9 ({ frames := 5, cells := 0, slots := 0, locals := 108 } : Room) s9 m9 ar9 be9 me9 c9 H locs 0 0 Q9 (F0 m9 0 ls []) by rw [hH0, hlc0] at hgo; exact hgo
  clear hH0 hlc0
  refine lv_aload_n hx hb dL_drop_0 rfl (lv_at hl 0 rfl) ?_
  refine lv_iload_n hx hb dL_drop_1 rfl (lv_at hl 1 rfl) ?_
  refine KM.callVM (As := [.int x]) (rest := []) (W0 := (fcW cI cS f0 a s fl c0 c1 n cs b r gl sv ad t f6 k)) (ws := (fcW cI cS f0 a s fl c0 c1 n cs b r gl sv ad t f6 k)) (ws' := fun (_ : Unit) => (fcW cI cS f0 a (mDrop s p) fl c0 c1 n cs b r gl sv (kpA k ad) (kpT k t s) (kpA k f6) (kpK k))) C0 hN (k_X5_drop_ok l D cI cS cL T f0 a s fl c0 c1 n cs b r gl sv ad t f6 k x p hI hT hk hn hcs hp hpx) (cwV 1 hts gL_drop_X5_drop rfl rfl rfl (by decide +kernel) ⟨Nat.le_of_ble_eq_true rfl, Nat.le_of_ble_eq_true rfl⟩) hK hP hD hS hA (fun _ h => h) (va_D_iff.mp hD).1 (fun _ => fcW_perm (sv_kp cI cS sv ad t f6 (kpT k t s) (kpA k f6) k (kpK k))) (fun _ _ h => Or.inl h) 0 5 rfl rfl rfl rfl hl.1 rfl (Nat.le_of_ble_eq_true rfl) dL_drop_2 ⟨Nat.le_of_ble_eq_true rfl, Nat.le_of_ble_eq_true rfl⟩ (fun v9 u9 H locs hv hP hD hS => ?_)
  subst hv
  have hP : va_P D vwCl (fcW cI cS f0 a (mDrop s p) fl c0 c1 n cs b r gl sv (kpA k ad) (kpT k t s) (kpA k f6) (kpK k)) H := hP
  have hD : va_D A9 (fcW cI cS f0 a (mDrop s p) fl c0 c1 n cs b r gl sv (kpA k ad) (kpT k t s) (kpA k f6) (kpK k)) := hD
  refine W.eq (g2 := F0 m9 5 ls [.int (nI (s 8 - 1))]) rfl ?_
  exact hret _ _ _ _ (some (.int (nI (s 8 - 1)))) () 5 ls (by decide) (by decide) (by rfl) hP hD hS (ret_i dL_drop_5)

set_option maxHeartbeats 4000000 in
set_option maxRecDepth 100000 in
theorem k_L_drop_no (l : Launch) (D : va_G) (cI cS cL : ClassId) (T : Nat) (f0 : Nat) (a : Nat → Nat) (s : Nat → Nat) (fl : Nat → Nat) (c0 : Nat) (c1 : Nat) (n : Nat) (cs : Nat → Nat) (b : Nat → Nat) (r : Nat → Nat) (gl : Nat → Nat) (sv : Nat) (ad : Nat → Nat → Nat) (t : Nat → Nat → Nat) (f6 : Nat → Nat → Nat) (k : Nat) (v1 : Int32) (hst : l.stackTraces = false) (hI : sI T s) (hT : T ≤ 900000) (hk : k ≤ 6) (hn : n ≤ 60) (hcs : ∀ j, j < n → cs j < 2 ^ 31) (hbad : ∀ p, p < s 8 → nI (nuF s p) ≠ v1) : KC l D (TY cI cS cL) yL_drop wsL_drop ({ frames := 7, cells := 1, slots := 6, locals := 112 } : Room) (fcW cI cS f0 a s fl c0 c1 n cs b r gl sv ad t f6 k) [.ref f0, .int v1] (fun (v : Option Value) (_ : Unit) => v = some (.int (-1))) (fun _ : Unit => (fcW cI cS f0 a s fl c0 c1 n cs b r gl sv ad t f6 k)) := by
  refine KC.of (cc := cL_drop) (maxL := 3) (ret := (some .int)) (hh := [(0, 5, 6, 25)]) (by decide) rfl (Nat.le_of_ble_eq_true rfl) ?_
  intro p9 e9 s9 m9 ar9 be9 me9 c9 Q9 A9 ls C0 hN hAm hXN hTab hnm hlk hK hA hret hP hD hS hl
  obtain ⟨hx, hb, hml, hown, hts⟩ := id C0
  have hl : lv_has ls 3 [(0, .ref f0), (1, .int v1)] := hl
  obtain ⟨H, hH0⟩ : ∃ H, H = s9.heap := ⟨_, rfl⟩
  obtain ⟨locs, hlc0⟩ : ∃ z : List Loc, z = [] := ⟨_, rfl⟩
  have hP : va_P D vwCl (fcW cI cS f0 a s fl c0 c1 n cs b r gl sv ad t f6 k) H := by rw [hH0]; exact hP
  have hD : va_D A9 (fcW cI cS f0 a s fl c0 c1 n cs b r gl sv ad t f6 k) := hD
  have hS : va_S A9 s9.heap H locs := by rw [hH0, hlc0]; exact hS
  suffices hgo : W p9 l e9 ({ frames := 7, cells := 1, slots := 6, locals := 112 } : Room) s9 m9 ar9 be9 me9 c9 H locs 0 0 Q9 (F0 m9 0 ls []) by rw [hH0, hlc0] at hgo; exact hgo
  clear hH0 hlc0
  refine lv_aload_n hx hb dL_drop_0 rfl (lv_at hl 0 rfl) ?_
  refine lv_iload_n hx hb dL_drop_1 rfl (lv_at hl 1 rfl) ?_
  refine KX.callVM (As := [.int v1]) (rest := []) (W0 := (fcW cI cS f0 a s fl c0 c1 n cs b r gl sv ad t f6 k)) (ws := (fcW cI cS f0 a s fl c0 c1 n cs b r gl sv ad t f6 k)) (ws' := fun (_ : Unit) => (fcW cI cS f0 a s fl c0 c1 n cs b r gl sv ad t f6 k)) C0 hN hAm (k_X5_drop_bad l D cI cS cL T f0 a s fl c0 c1 n cs b r gl sv ad t f6 k v1 hst hI hT hk hn hcs hbad) (cwV 1 hts gL_drop_X5_drop rfl rfl rfl (by decide +kernel) ⟨Nat.le_of_ble_eq_true rfl, Nat.le_of_ble_eq_true rfl⟩) hK hP hD hS hA (fun _ h => h) (va_D_iff.mp hD).1 (fun _ => fcW_perm (List.Perm.refl _)) (fun _ _ h => Or.inl h) 0 5 rfl rfl rfl rfl hl.1 rfl (Nat.le_of_ble_eq_true rfl) dL_drop_2 ⟨Nat.le_of_ble_eq_true rfl, Nat.le_of_ble_eq_true rfl⟩ (fun E ce q9 H locs hE hP hS hq9 hv9 hcl9 => ?_) (fun v9 u9 H locs hv hP hD hS => ?_)
  ·
    have hEe := hE
    subst hEe
    refine vx_catch (own := RL) (name := "java/lang/IndexOutOfBoundsException") hown [] ⟨0, 5, 6, 25⟩ [] (hTab.trans rfl) (fun z hz => absurd hz List.not_mem_nil) (by decide) (by decide) (hts (.classLink RL 25 "java/lang/IndexOutOfBoundsException") (by decide +kernel)) (va_Nw.use rfl (hAm.2.2.2.2.2.2 ("java/lang/IndexOutOfBoundsException", "java/lang/IndexOutOfBoundsException") (by decide))) hq9 hv9 hcl9 ?_
    refine lv_astore_n (lv' := [(2, .ref q9), (0, .ref f0), (1, .int v1)]) hx hb dL_drop_6 rfl hl (by decide) rfl (fun ls hl => ?_)
    refine lv_iconst (v := (-1)) hx hb dL_drop_7 (by decide +kernel) ?_
    exact hret _ _ _ _ (some (.int (-1))) () 8 ls (by decide) (by decide) (by rfl) hP hD hS (ret_i dL_drop_8)
  · exact hv.1.elim

set_option maxHeartbeats 4000000 in
set_option maxRecDepth 100000 in
theorem k_L_fill_ok (l : Launch) (D : va_G) (cI cS cL : ClassId) (T : Nat) (f0 : Nat) (a : Nat → Nat) (s : Nat → Nat) (fl : Nat → Nat) (c0 : Nat) (c1 : Nat) (n : Nat) (cs : Nat → Nat) (b : Nat → Nat) (r : Nat → Nat) (gl : Nat → Nat) (sv : Nat) (ad : Nat → Nat → Nat) (t : Nat → Nat → Nat) (f6 : Nat → Nat → Nat) (k : Nat) (z : Nat) (hst : l.stackTraces = false) (hI : sI T s) (hT : T ≤ 900000) (hk : k ≤ 6) (hn : n ≤ 60) (hcs : ∀ j, j < n → cs j < 2 ^ 31) (hz1 : 1 ≤ z) (hz2 : z ≤ 9999) (hz3 : s 6 + z ≤ 99999) : KC l D (TY cI cS cL) yL_fill wsL_fill ({ frames := 5, cells := 0, slots := 0, locals := 107 } : Room) (fcW cI cS f0 a s fl c0 c1 n cs b r gl sv ad t f6 k) [.ref f0, .int (nI z)] (fun (v : Option Value) (_ : Unit) => v = some (.int (nI (s 6 + z)))) (fun _ : Unit => (fcW cI cS f0 a (upN s 6 (s 6 + z)) fl c0 c1 n cs b r gl sv (kpA k ad) (kpT k t s) (kpA k f6) (kpK k))) := by
  refine KC.of (cc := cL_fill) (maxL := 3) (ret := (some .int)) (hh := [(0, 5, 6, 15)]) (by decide) rfl (Nat.le_of_ble_eq_true rfl) ?_
  intro p9 e9 s9 m9 ar9 be9 me9 c9 Q9 A9 ls C0 hN hAm hXN hTab hnm hlk hK hA hret hP hD hS hl
  obtain ⟨hx, hb, hml, hown, hts⟩ := id C0
  have hl : lv_has ls 3 [(0, .ref f0), (1, .int (nI z))] := hl
  obtain ⟨H, hH0⟩ : ∃ H, H = s9.heap := ⟨_, rfl⟩
  obtain ⟨locs, hlc0⟩ : ∃ z : List Loc, z = [] := ⟨_, rfl⟩
  have hP : va_P D vwCl (fcW cI cS f0 a s fl c0 c1 n cs b r gl sv ad t f6 k) H := by rw [hH0]; exact hP
  have hD : va_D A9 (fcW cI cS f0 a s fl c0 c1 n cs b r gl sv ad t f6 k) := hD
  have hS : va_S A9 s9.heap H locs := by rw [hH0, hlc0]; exact hS
  suffices hgo : W p9 l e9 ({ frames := 5, cells := 0, slots := 0, locals := 107 } : Room) s9 m9 ar9 be9 me9 c9 H locs 0 0 Q9 (F0 m9 0 ls []) by rw [hH0, hlc0] at hgo; exact hgo
  clear hH0 hlc0
  refine lv_aload_n hx hb dL_fill_0 rfl (lv_at hl 0 rfl) ?_
  refine lv_iload_n hx hb dL_fill_1 rfl (lv_at hl 1 rfl) ?_
  refine KM.callVM (As := [.int (nI z)]) (rest := []) (W0 := (fcW cI cS f0 a s fl c0 c1 n cs b r gl sv ad t f6 k)) (ws := (fcW cI cS f0 a s fl c0 c1 n cs b r gl sv ad t f6 k)) (ws' := fun (_ : Unit) => (fcW cI cS f0 a (upN s 6 (s 6 + z)) fl c0 c1 n cs b r gl sv (kpA k ad) (kpT k t s) (kpA k f6) (kpK k))) C0 hN (k_X5_fill_ok l D cI cS cL T f0 a s fl c0 c1 n cs b r gl sv ad t f6 k z hI hT hk hn hcs hz1 hz2 hz3) (cwV 1 hts gL_fill_X5_fill rfl rfl rfl (by decide +kernel) ⟨Nat.le_of_ble_eq_true rfl, Nat.le_of_ble_eq_true rfl⟩) hK hP hD hS hA (fun _ h => h) (va_D_iff.mp hD).1 (fun _ => fcW_perm (sv_kp cI cS sv ad t f6 (kpT k t s) (kpA k f6) k (kpK k))) (fun _ _ h => Or.inl h) 0 5 rfl rfl rfl rfl hl.1 rfl (Nat.le_of_ble_eq_true rfl) dL_fill_2 ⟨Nat.le_of_ble_eq_true rfl, Nat.le_of_ble_eq_true rfl⟩ (fun v9 u9 H locs hv hP hD hS => ?_)
  subst hv
  have hP : va_P D vwCl (fcW cI cS f0 a (upN s 6 (s 6 + z)) fl c0 c1 n cs b r gl sv (kpA k ad) (kpT k t s) (kpA k f6) (kpK k)) H := hP
  have hD : va_D A9 (fcW cI cS f0 a (upN s 6 (s 6 + z)) fl c0 c1 n cs b r gl sv (kpA k ad) (kpT k t s) (kpA k f6) (kpK k)) := hD
  refine W.eq (g2 := F0 m9 5 ls [.int (nI (s 6 + z))]) rfl ?_
  exact hret _ _ _ _ (some (.int (nI (s 6 + z)))) () 5 ls (by decide) (by decide) (by rfl) hP hD hS (ret_i dL_fill_5)

set_option maxHeartbeats 4000000 in
set_option maxRecDepth 100000 in
theorem k_L_fill_no (l : Launch) (D : va_G) (cI cS cL : ClassId) (T : Nat) (f0 : Nat) (a : Nat → Nat) (s : Nat → Nat) (fl : Nat → Nat) (c0 : Nat) (c1 : Nat) (n : Nat) (cs : Nat → Nat) (b : Nat → Nat) (r : Nat → Nat) (gl : Nat → Nat) (sv : Nat) (ad : Nat → Nat → Nat) (t : Nat → Nat → Nat) (f6 : Nat → Nat → Nat) (k : Nat) (z : Nat) (hst : l.stackTraces = false) (hI : sI T s) (hT : T ≤ 900000) (hk : k ≤ 6) (hn : n ≤ 60) (hcs : ∀ j, j < n → cs j < 2 ^ 31) (hz1 : 1 ≤ z) (hz2 : z ≤ 9999) (hz3 : 99999 < s 6 + z) : KC l D (TY cI cS cL) yL_fill wsL_fill ({ frames := 7, cells := 1, slots := 6, locals := 111 } : Room) (fcW cI cS f0 a s fl c0 c1 n cs b r gl sv ad t f6 k) [.ref f0, .int (nI z)] (fun (v : Option Value) (_ : Unit) => v = some (.int (-3))) (fun _ : Unit => (fcW cI cS f0 a s fl c0 c1 n cs b r gl sv ad t f6 k)) := by
  refine KC.of (cc := cL_fill) (maxL := 3) (ret := (some .int)) (hh := [(0, 5, 6, 15)]) (by decide) rfl (Nat.le_of_ble_eq_true rfl) ?_
  intro p9 e9 s9 m9 ar9 be9 me9 c9 Q9 A9 ls C0 hN hAm hXN hTab hnm hlk hK hA hret hP hD hS hl
  obtain ⟨hx, hb, hml, hown, hts⟩ := id C0
  have hl : lv_has ls 3 [(0, .ref f0), (1, .int (nI z))] := hl
  obtain ⟨H, hH0⟩ : ∃ H, H = s9.heap := ⟨_, rfl⟩
  obtain ⟨locs, hlc0⟩ : ∃ z : List Loc, z = [] := ⟨_, rfl⟩
  have hP : va_P D vwCl (fcW cI cS f0 a s fl c0 c1 n cs b r gl sv ad t f6 k) H := by rw [hH0]; exact hP
  have hD : va_D A9 (fcW cI cS f0 a s fl c0 c1 n cs b r gl sv ad t f6 k) := hD
  have hS : va_S A9 s9.heap H locs := by rw [hH0, hlc0]; exact hS
  suffices hgo : W p9 l e9 ({ frames := 7, cells := 1, slots := 6, locals := 111 } : Room) s9 m9 ar9 be9 me9 c9 H locs 0 0 Q9 (F0 m9 0 ls []) by rw [hH0, hlc0] at hgo; exact hgo
  clear hH0 hlc0
  refine lv_aload_n hx hb dL_fill_0 rfl (lv_at hl 0 rfl) ?_
  refine lv_iload_n hx hb dL_fill_1 rfl (lv_at hl 1 rfl) ?_
  refine KX.callVM (As := [.int (nI z)]) (rest := []) (W0 := (fcW cI cS f0 a s fl c0 c1 n cs b r gl sv ad t f6 k)) (ws := (fcW cI cS f0 a s fl c0 c1 n cs b r gl sv ad t f6 k)) (ws' := fun (_ : Unit) => (fcW cI cS f0 a s fl c0 c1 n cs b r gl sv ad t f6 k)) C0 hN hAm (k_X5_fill_ref l D cI cS cL T f0 a s fl c0 c1 n cs b r gl sv ad t f6 k z hst hI hT hk hn hcs hz1 hz2 hz3) (cwV 1 hts gL_fill_X5_fill rfl rfl rfl (by decide +kernel) ⟨Nat.le_of_ble_eq_true rfl, Nat.le_of_ble_eq_true rfl⟩) hK hP hD hS hA (fun _ h => h) (va_D_iff.mp hD).1 (fun _ => fcW_perm (List.Perm.refl _)) (fun _ _ h => Or.inl h) 0 5 rfl rfl rfl rfl hl.1 rfl (Nat.le_of_ble_eq_true rfl) dL_fill_2 ⟨Nat.le_of_ble_eq_true rfl, Nat.le_of_ble_eq_true rfl⟩ (fun E ce q9 H locs hE hP hS hq9 hv9 hcl9 => ?_) (fun v9 u9 H locs hv hP hD hS => ?_)
  ·
    have hEe := hE
    subst hEe
    refine vx_catch (own := RL) (name := "java/lang/IllegalStateException") hown [] ⟨0, 5, 6, 15⟩ [] (hTab.trans rfl) (fun z hz => absurd hz List.not_mem_nil) (by decide) (by decide) (hts (.classLink RL 15 "java/lang/IllegalStateException") (by decide +kernel)) (va_Nw.use rfl (hAm.2.2.2.2.2.2 ("java/lang/IllegalStateException", "java/lang/IllegalStateException") (by decide))) hq9 hv9 hcl9 ?_
    refine lv_astore_n (lv' := [(2, .ref q9), (0, .ref f0), (1, .int (nI z))]) hx hb dL_fill_6 rfl hl (by decide) rfl (fun ls hl => ?_)
    refine lv_bipush (v := (-3)) hx hb dL_fill_7 (by decide +kernel) ?_
    exact hret _ _ _ _ (some (.int (-3))) () 9 ls (by decide) (by decide) (by rfl) hP hD hS (ret_i dL_fill_9)
  · exact hv.1.elim

set_option maxHeartbeats 4000000 in
set_option maxRecDepth 100000 in
theorem k_L_undo_ok (l : Launch) (D : va_G) (cI cS cL : ClassId) (T : Nat) (f0 : Nat) (a : Nat → Nat) (s : Nat → Nat) (fl : Nat → Nat) (c0 : Nat) (c1 : Nat) (n : Nat) (cs : Nat → Nat) (b : Nat → Nat) (r : Nat → Nat) (gl : Nat → Nat) (sv : Nat) (ad : Nat → Nat → Nat) (t : Nat → Nat → Nat) (f6 : Nat → Nat → Nat) (k : Nat) (hst : l.stackTraces = false) (hI : sI T s) (hT : T ≤ 900000) (hk : k ≤ 6) (hn : n ≤ 60) (hcs : ∀ j, j < n → cs j < 2 ^ 31) (hk0 : k ≠ 0) : KC l D (TY cI cS cL) yL_undo wsL_undo ({ frames := 5, cells := 0, slots := 0, locals := 106 } : Room) (fcW cI cS f0 a s fl c0 c1 n cs b r gl sv ad t f6 k) [.ref f0] (fun (v : Option Value) (_ : Unit) => v = some (.int (nI (k - 1)))) (fun _ : Unit => (fcW cI cS f0 a (t (k - 1)) fl c0 c1 n cs b r gl sv ad t f6 (k - 1))) := by
  refine KC.of (cc := cL_undo) (maxL := 2) (ret := (some .int)) (hh := [(0, 4, 5, 15)]) (by decide) rfl (Nat.le_of_ble_eq_true rfl) ?_
  intro p9 e9 s9 m9 ar9 be9 me9 c9 Q9 A9 ls C0 hN hAm hXN hTab hnm hlk hK hA hret hP hD hS hl
  obtain ⟨hx, hb, hml, hown, hts⟩ := id C0
  have hl : lv_has ls 2 [(0, .ref f0)] := hl
  obtain ⟨H, hH0⟩ : ∃ H, H = s9.heap := ⟨_, rfl⟩
  obtain ⟨locs, hlc0⟩ : ∃ z : List Loc, z = [] := ⟨_, rfl⟩
  have hP : va_P D vwCl (fcW cI cS f0 a s fl c0 c1 n cs b r gl sv ad t f6 k) H := by rw [hH0]; exact hP
  have hD : va_D A9 (fcW cI cS f0 a s fl c0 c1 n cs b r gl sv ad t f6 k) := hD
  have hS : va_S A9 s9.heap H locs := by rw [hH0, hlc0]; exact hS
  suffices hgo : W p9 l e9 ({ frames := 5, cells := 0, slots := 0, locals := 106 } : Room) s9 m9 ar9 be9 me9 c9 H locs 0 0 Q9 (F0 m9 0 ls []) by rw [hH0, hlc0] at hgo; exact hgo
  clear hH0 hlc0
  refine lv_aload_n hx hb dL_undo_0 rfl (lv_at hl 0 rfl) ?_
  refine KM.callVM (As := []) (rest := []) (W0 := (fcW cI cS f0 a s fl c0 c1 n cs b r gl sv ad t f6 k)) (ws := (fcW cI cS f0 a s fl c0 c1 n cs b r gl sv ad t f6 k)) (ws' := fun (_ : Unit) => (fcW cI cS f0 a (t (k - 1)) fl c0 c1 n cs b r gl sv ad t f6 (k - 1))) C0 hN (k_X5_undo_ok l D cI cS cL T f0 a s fl c0 c1 n cs b r gl sv ad t f6 k hI hT hk hn hcs hk0) (cwV 0 hts gL_undo_X5_undo rfl rfl rfl (by decide +kernel) ⟨Nat.le_of_ble_eq_true rfl, Nat.le_of_ble_eq_true rfl⟩) hK hP hD hS hA (fun _ h => h) (va_D_iff.mp hD).1 (fun _ => fcW_perm (List.Perm.refl _)) (fun _ _ h => Or.inl h) 0 5 rfl rfl rfl rfl hl.1 rfl (Nat.le_of_ble_eq_true rfl) dL_undo_1 ⟨Nat.le_of_ble_eq_true rfl, Nat.le_of_ble_eq_true rfl⟩ (fun v9 u9 H locs hv hP hD hS => ?_)
  subst hv
  have hP : va_P D vwCl (fcW cI cS f0 a (t (k - 1)) fl c0 c1 n cs b r gl sv ad t f6 (k - 1)) H := hP
  have hD : va_D A9 (fcW cI cS f0 a (t (k - 1)) fl c0 c1 n cs b r gl sv ad t f6 (k - 1)) := hD
  refine W.eq (g2 := F0 m9 4 ls [.int (nI (k - 1))]) rfl ?_
  exact hret _ _ _ _ (some (.int (nI (k - 1)))) () 4 ls (by decide) (by decide) (by rfl) hP hD hS (ret_i dL_undo_4)

set_option maxHeartbeats 4000000 in
set_option maxRecDepth 100000 in
theorem k_L_undo_no (l : Launch) (D : va_G) (cI cS cL : ClassId) (T : Nat) (f0 : Nat) (a : Nat → Nat) (s : Nat → Nat) (fl : Nat → Nat) (c0 : Nat) (c1 : Nat) (n : Nat) (cs : Nat → Nat) (b : Nat → Nat) (r : Nat → Nat) (gl : Nat → Nat) (sv : Nat) (ad : Nat → Nat → Nat) (t : Nat → Nat → Nat) (f6 : Nat → Nat → Nat) (k : Nat) (hst : l.stackTraces = false) (hI : sI T s) (hT : T ≤ 900000) (hk : k ≤ 6) (hn : n ≤ 60) (hcs : ∀ j, j < n → cs j < 2 ^ 31) (hbad : k = 0) : KC l D (TY cI cS cL) yL_undo wsL_undo ({ frames := 7, cells := 1, slots := 6, locals := 110 } : Room) (fcW cI cS f0 a s fl c0 c1 n cs b r gl sv ad t f6 k) [.ref f0] (fun (v : Option Value) (_ : Unit) => v = some (.int (-3))) (fun _ : Unit => (fcW cI cS f0 a s fl c0 c1 n cs b r gl sv ad t f6 k)) := by
  refine KC.of (cc := cL_undo) (maxL := 2) (ret := (some .int)) (hh := [(0, 4, 5, 15)]) (by decide) rfl (Nat.le_of_ble_eq_true rfl) ?_
  intro p9 e9 s9 m9 ar9 be9 me9 c9 Q9 A9 ls C0 hN hAm hXN hTab hnm hlk hK hA hret hP hD hS hl
  obtain ⟨hx, hb, hml, hown, hts⟩ := id C0
  have hl : lv_has ls 2 [(0, .ref f0)] := hl
  obtain ⟨H, hH0⟩ : ∃ H, H = s9.heap := ⟨_, rfl⟩
  obtain ⟨locs, hlc0⟩ : ∃ z : List Loc, z = [] := ⟨_, rfl⟩
  have hP : va_P D vwCl (fcW cI cS f0 a s fl c0 c1 n cs b r gl sv ad t f6 k) H := by rw [hH0]; exact hP
  have hD : va_D A9 (fcW cI cS f0 a s fl c0 c1 n cs b r gl sv ad t f6 k) := hD
  have hS : va_S A9 s9.heap H locs := by rw [hH0, hlc0]; exact hS
  suffices hgo : W p9 l e9 ({ frames := 7, cells := 1, slots := 6, locals := 110 } : Room) s9 m9 ar9 be9 me9 c9 H locs 0 0 Q9 (F0 m9 0 ls []) by rw [hH0, hlc0] at hgo; exact hgo
  clear hH0 hlc0
  refine lv_aload_n hx hb dL_undo_0 rfl (lv_at hl 0 rfl) ?_
  refine KX.callVM (As := []) (rest := []) (W0 := (fcW cI cS f0 a s fl c0 c1 n cs b r gl sv ad t f6 k)) (ws := (fcW cI cS f0 a s fl c0 c1 n cs b r gl sv ad t f6 k)) (ws' := fun (_ : Unit) => (fcW cI cS f0 a s fl c0 c1 n cs b r gl sv ad t f6 k)) C0 hN hAm (k_X5_undo_bad l D cI cS cL T f0 a s fl c0 c1 n cs b r gl sv ad t f6 k hst hI hT hk hn hcs hbad) (cwV 0 hts gL_undo_X5_undo rfl rfl rfl (by decide +kernel) ⟨Nat.le_of_ble_eq_true rfl, Nat.le_of_ble_eq_true rfl⟩) hK hP hD hS hA (fun _ h => h) (va_D_iff.mp hD).1 (fun _ => fcW_perm (List.Perm.refl _)) (fun _ _ h => Or.inl h) 0 5 rfl rfl rfl rfl hl.1 rfl (Nat.le_of_ble_eq_true rfl) dL_undo_1 ⟨Nat.le_of_ble_eq_true rfl, Nat.le_of_ble_eq_true rfl⟩ (fun E ce q9 H locs hE hP hS hq9 hv9 hcl9 => ?_) (fun v9 u9 H locs hv hP hD hS => ?_)
  ·
    have hEe := hE
    subst hEe
    refine vx_catch (own := RL) (name := "java/lang/IllegalStateException") hown [] ⟨0, 4, 5, 15⟩ [] (hTab.trans rfl) (fun z hz => absurd hz List.not_mem_nil) (by decide) (by decide) (hts (.classLink RL 15 "java/lang/IllegalStateException") (by decide +kernel)) (va_Nw.use rfl (hAm.2.2.2.2.2.2 ("java/lang/IllegalStateException", "java/lang/IllegalStateException") (by decide))) hq9 hv9 hcl9 ?_
    refine lv_astore_n (lv' := [(1, .ref q9), (0, .ref f0)]) hx hb dL_undo_5 rfl hl (by decide) rfl (fun ls hl => ?_)
    refine lv_bipush (v := (-3)) hx hb dL_undo_6 (by decide +kernel) ?_
    exact hret _ _ _ _ (some (.int (-3))) () 8 ls (by decide) (by decide) (by rfl) hP hD hS (ret_i dL_undo_8)
  · exact hv.1.elim
