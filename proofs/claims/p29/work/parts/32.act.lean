set_option maxHeartbeats 4000000 in
set_option maxRecDepth 100000 in
theorem k_L_act (l : Launch) (D : va_G) (cI cS cL : ClassId) (b0 L : Nat) (xs : Nat → Int32) (T : Nat) (f0 : Nat) (a : Nat → Nat) (s : Nat → Nat) (fl : Nat → Nat) (c0 : Nat) (c1 : Nat) (n : Nat) (cs : Nat → Nat) (b : Nat → Nat) (r : Nat → Nat) (gl : Nat → Nat) (sv : Nat) (ad : Nat → Nat → Nat) (t : Nat → Nat → Nat) (f6 : Nat → Nat → Nat) (k : Nat) (i : Nat) (hst : l.stackTraces = false) (hI : sI T s) (hT : T ≤ 900000) (hk : k ≤ 6) (hn : n ≤ 60) (hcs : ∀ j, j < n → cs j < 2 ^ 31) (hG : gI T s t k) (hT9 : T ≤ 900) (hi3 : i + 3 ≤ L) (hL : L ≤ 260) : KZ l D (TY cI cS cL) b0 L xs yL_act wsL_act ({ frames := 8, cells := 1, slots := 6, locals := 159 } : Room) (fcW cI cS f0 a s fl c0 c1 n cs b r gl sv ad t f6 k) [.ref f0, .ref b0, .int (nI i)] (fun (v : Option Value) (u : Nat → Nat → Nat → Nat) => ∃ x : Int32, v = some (.int x) ∧ actP T s k (mk31 (xs i) % 20) (1 + mk31 (xs (i + 1)) % 9) (s 7 + mk31 (xs (i + 1) >>> (nI 4 &&& 31)) % 12) (mk31 (xs (i + 1)) % 8) (mk31 (xs (i + 2)) % 11) x (u 0 0) (u 2) (u 4 0 0)) (fun (u : Nat → Nat → Nat → Nat) => (fcW cI cS f0 a (u 0 0) (u 0 1) c0 c1 n cs b r gl sv (u 1) (u 2) (u 3) (u 4 0 0))) := by
  refine KZ.of (cc := cL_act) (maxL := 6) (ret := (some .int)) (by decide) rfl (Nat.le_of_ble_eq_true rfl) ?_
  intro p9 e9 s9 m9 ar9 be9 me9 c9 Q9 A9 ls C0 hN hAm hXN hSX hnm hlk hK hA hret hP hD hS hl
  obtain ⟨hX, hbl, hbA⟩ := id hSX
  obtain ⟨hx, hb, hml, hown, hts⟩ := id C0
  have hl : lv_has ls 6 [(0, .ref f0), (1, .ref b0), (2, .int (nI i))] := hl
  obtain ⟨H, hH0⟩ : ∃ H, H = s9.heap := ⟨_, rfl⟩
  obtain ⟨locs, hlc0⟩ : ∃ z : List Loc, z = [] := ⟨_, rfl⟩
  have hP : va_P D vwCl (fcW cI cS f0 a s fl c0 c1 n cs b r gl sv ad t f6 k) H := by rw [hH0]; exact hP
  have hD : va_D A9 (fcW cI cS f0 a s fl c0 c1 n cs b r gl sv ad t f6 k) := hD
  have hS : va_S A9 s9.heap H locs := by rw [hH0, hlc0]; exact hS
  suffices hgo : W p9 l e9 ({ frames := 8, cells := 1, slots := 6, locals := 159 } : Room) s9 m9 ar9 be9 me9 c9 H locs 0 0 Q9 (F0 m9 0 ls []) by rw [hH0, hlc0] at hgo; exact hgo
  clear hH0 hlc0
  obtain ⟨hI1, hI2, hI3, hI4, hI5, hI6, hI7, hI8, hI9, hI10, hI11⟩ := id hI
  obtain ⟨hB1, hB2, hB3, hB4, hB5, hB6, hB7, hB8⟩ := id hI1
  have hB6 : s 1 ≤ 50 := hB6
  have hB7 : 1 ≤ s 2 ∧ s 2 ≤ 10 := hB7
  refine lv_aload_n hx hb dL_act_0 rfl (lv_at hl 1 rfl) ?_
  refine lv_iload_n hx hb dL_act_1 rfl (lv_at hl 2 rfl) ?_
  refine lv_iconst (v := nI 1) hx hb dL_act_2 (by decide +kernel) ?_
  refine q_iadd hx hb dL_act_3 ?_
  refine KZ.callSM (As := [.ref b0, .int (nI (i + 1))]) (rest := []) (W0 := []) (ws := (fcW cI cS f0 a s fl c0 c1 n cs b r gl sv ad t f6 k)) (ws' := fun (_ : Unit) => (fcW cI cS f0 a s fl c0 c1 n cs b r gl sv ad t f6 k)) C0 hN hAm hXN hSX (k_L_cell l D cI cS cL b0 L xs (i + 1) hst (by omega) (by omega)) (va_cwS 2 hts gL_act_L_cell rfl rfl rfl (by decide +kernel) ⟨Nat.le_of_ble_eq_true rfl, Nat.le_of_ble_eq_true rfl⟩) hK hP hD hS hA (fun _ h => absurd h List.not_mem_nil) List.nodup_nil (fun _ => List.Perm.refl _) (fun _ _ h => Or.inr ⟨h, List.not_mem_nil⟩) rfl hl.1 rfl (Nat.le_of_ble_eq_true rfl) dL_act_4 ⟨Nat.le_of_ble_eq_true rfl, Nat.le_of_ble_eq_true rfl⟩ (fun v9 u9 H locs hv hP hD hS => ?_)
  subst hv
  have hP : va_P D vwCl (fcW cI cS f0 a s fl c0 c1 n cs b r gl sv ad t f6 k) H := hP
  have hD : va_D A9 (fcW cI cS f0 a s fl c0 c1 n cs b r gl sv ad t f6 k) := hD
  refine W.eq (g2 := F0 m9 7 ls [.int (xs (i + 1))]) rfl ?_
  refine lv_istore_n (lv' := [(3, .int (xs (i + 1))), (0, .ref f0), (1, .ref b0), (2, .int (nI i))]) hx hb dL_act_7 rfl hl (by decide) rfl (fun ls hl => ?_)
  refine lv_aload_n hx hb dL_act_8 rfl (lv_at hl 2 rfl) ?_
  refine lv_iload_n hx hb dL_act_9 rfl (lv_at hl 3 rfl) ?_
  refine lv_iconst (v := nI 2) hx hb dL_act_10 (by decide +kernel) ?_
  refine q_iadd hx hb dL_act_11 ?_
  refine KZ.callSM (As := [.ref b0, .int (nI (i + 2))]) (rest := []) (W0 := []) (ws := (fcW cI cS f0 a s fl c0 c1 n cs b r gl sv ad t f6 k)) (ws' := fun (_ : Unit) => (fcW cI cS f0 a s fl c0 c1 n cs b r gl sv ad t f6 k)) C0 hN hAm hXN hSX (k_L_cell l D cI cS cL b0 L xs (i + 2) hst (by omega) (by omega)) (va_cwS 2 hts gL_act_L_cell rfl rfl rfl (by decide +kernel) ⟨Nat.le_of_ble_eq_true rfl, Nat.le_of_ble_eq_true rfl⟩) hK hP hD hS hA (fun _ h => absurd h List.not_mem_nil) List.nodup_nil (fun _ => List.Perm.refl _) (fun _ _ h => Or.inr ⟨h, List.not_mem_nil⟩) rfl hl.1 rfl (Nat.le_of_ble_eq_true rfl) dL_act_12 ⟨Nat.le_of_ble_eq_true rfl, Nat.le_of_ble_eq_true rfl⟩ (fun v9 u9 H locs hv hP hD hS => ?_)
  subst hv
  have hP : va_P D vwCl (fcW cI cS f0 a s fl c0 c1 n cs b r gl sv ad t f6 k) H := hP
  have hD : va_D A9 (fcW cI cS f0 a s fl c0 c1 n cs b r gl sv ad t f6 k) := hD
  refine W.eq (g2 := F0 m9 15 ls [.int (xs (i + 2))]) rfl ?_
  refine lv_istore (lv' := [(4, .int (xs (i + 2))), (3, .int (xs (i + 1))), (0, .ref f0), (1, .ref b0), (2, .int (nI i))]) hx hb dL_act_15 hl (by decide) rfl (fun ls hl => ?_)
  refine lv_aload_n hx hb dL_act_17 rfl (lv_at hl 2 rfl) ?_
  refine lv_iconst (v := nI 0) hx hb dL_act_18 (by decide +kernel) ?_
  refine KM.callVM (As := [.int (nI 0)]) (rest := []) (W0 := (fcW cI cS f0 a s fl c0 c1 n cs b r gl sv ad t f6 k)) (ws := (fcW cI cS f0 a s fl c0 c1 n cs b r gl sv ad t f6 k)) (ws' := fun (_ : Unit) => (fcW cI cS f0 a s fl c0 c1 n cs b r gl sv ad t f6 k)) C0 hN (k_X5_count_ok l D cI cS cL T f0 a s fl c0 c1 n cs b r gl sv ad t f6 k 0 hI (by omega) hk hn hcs (by omega)) (cwV 1 hts gL_act_X5_count rfl rfl rfl (by decide +kernel) ⟨Nat.le_of_ble_eq_true rfl, Nat.le_of_ble_eq_true rfl⟩) hK hP hD hS hA (fun _ h => h) (va_D_iff.mp hD).1 (fun _ => fcW_perm (List.Perm.refl _)) (fun _ _ h => Or.inl h) 0 5 rfl rfl rfl rfl hl.1 rfl (Nat.le_of_ble_eq_true rfl) dL_act_19 ⟨Nat.le_of_ble_eq_true rfl, Nat.le_of_ble_eq_true rfl⟩ (fun v9 u9 H locs hv hP hD hS => ?_)
  subst hv
  have hP : va_P D vwCl (fcW cI cS f0 a s fl c0 c1 n cs b r gl sv ad t f6 k) H := hP
  have hD : va_D A9 (fcW cI cS f0 a s fl c0 c1 n cs b r gl sv ad t f6 k) := hD
  refine W.eq (g2 := F0 m9 22 ls [.int (nI (s 7))]) rfl ?_
  refine lv_iload_n hx hb dL_act_22 rfl (lv_at hl 1 rfl) ?_
  refine lv_iconst (v := nI 4) hx hb dL_act_23 (by decide +kernel) ?_
  refine lv_ishr hx hb dL_act_24 ?_
  refine lv_bipush (v := nI 12) hx hb dL_act_25 (by decide +kernel) ?_
  refine KM.callS (As := [.int ((xs (i + 1)) >>> ((nI 4) &&& 31)), .int (nI 12)]) (rest := [.int (nI (s 7))]) C0 hN (k_L_low l D cI cS cL ((xs (i + 1)) >>> ((nI 4) &&& 31)) 12  (by decide) (by decide)) (va_cwS 2 hts gL_act_L_low rfl rfl rfl (by decide +kernel) ⟨Nat.le_of_ble_eq_true rfl, Nat.le_of_ble_eq_true rfl⟩) hK hP hD hS hA [] rfl (by decide) (fun _ => rfl) rfl hl.1 rfl (Nat.le_of_ble_eq_true rfl) dL_act_27 ⟨Nat.le_of_ble_eq_true rfl, Nat.le_of_ble_eq_true rfl⟩ (fun v9 u9 H locs hv hP hD hS => ?_)
  subst hv
  have hP : va_P D vwCl (fcW cI cS f0 a s fl c0 c1 n cs b r gl sv ad t f6 k) H := hP
  have hD : va_D A9 (fcW cI cS f0 a s fl c0 c1 n cs b r gl sv ad t f6 k) := hD
  refine W.eq (g2 := F0 m9 30 ls [.int (nI (mk31 ((xs (i + 1)) >>> ((nI 4) &&& 31)) % 12)), .int (nI (s 7))]) rfl ?_
  refine q_iadd hx hb dL_act_30 ?_
  refine lv_istore (lv' := [(5, .int (nI ((s 7) + (mk31 ((xs (i + 1)) >>> ((nI 4) &&& 31)) % 12)))), (4, .int (xs (i + 2))), (3, .int (xs (i + 1))), (0, .ref f0), (1, .ref b0), (2, .int (nI i))]) hx hb dL_act_31 hl (by decide) rfl (fun ls hl => ?_)
  refine lv_aload_n hx hb dL_act_33 rfl (lv_at hl 4 rfl) ?_
  refine lv_iload_n hx hb dL_act_34 rfl (lv_at hl 5 rfl) ?_
  refine KZ.callSM (As := [.ref b0, .int (nI i)]) (rest := []) (W0 := []) (ws := (fcW cI cS f0 a s fl c0 c1 n cs b r gl sv ad t f6 k)) (ws' := fun (_ : Unit) => (fcW cI cS f0 a s fl c0 c1 n cs b r gl sv ad t f6 k)) C0 hN hAm hXN hSX (k_L_cell l D cI cS cL b0 L xs i hst (by omega) (by omega)) (va_cwS 2 hts gL_act_L_cell rfl rfl rfl (by decide +kernel) ⟨Nat.le_of_ble_eq_true rfl, Nat.le_of_ble_eq_true rfl⟩) hK hP hD hS hA (fun _ h => absurd h List.not_mem_nil) List.nodup_nil (fun _ => List.Perm.refl _) (fun _ _ h => Or.inr ⟨h, List.not_mem_nil⟩) rfl hl.1 rfl (Nat.le_of_ble_eq_true rfl) dL_act_35 ⟨Nat.le_of_ble_eq_true rfl, Nat.le_of_ble_eq_true rfl⟩ (fun v9 u9 H locs hv hP hD hS => ?_)
  subst hv
  have hP : va_P D vwCl (fcW cI cS f0 a s fl c0 c1 n cs b r gl sv ad t f6 k) H := hP
  have hD : va_D A9 (fcW cI cS f0 a s fl c0 c1 n cs b r gl sv ad t f6 k) := hD
  refine W.eq (g2 := F0 m9 38 ls [.int (xs i)]) rfl ?_
  refine lv_bipush (v := nI 20) hx hb dL_act_38 (by decide +kernel) ?_
  refine KM.callS (As := [.int (xs i), .int (nI 20)]) (rest := []) C0 hN (k_L_low l D cI cS cL (xs i) 20  (by decide) (by decide)) (va_cwS 2 hts gL_act_L_low rfl rfl rfl (by decide +kernel) ⟨Nat.le_of_ble_eq_true rfl, Nat.le_of_ble_eq_true rfl⟩) hK hP hD hS hA [] rfl (by decide) (fun _ => rfl) rfl hl.1 rfl (Nat.le_of_ble_eq_true rfl) dL_act_40 ⟨Nat.le_of_ble_eq_true rfl, Nat.le_of_ble_eq_true rfl⟩ (fun v9 u9 H locs hv hP hD hS => ?_)
  subst hv
  have hP : va_P D vwCl (fcW cI cS f0 a s fl c0 c1 n cs b r gl sv ad t f6 k) H := hP
  have hD : va_D A9 (fcW cI cS f0 a s fl c0 c1 n cs b r gl sv ad t f6 k) := hD
  refine W.eq (g2 := F0 m9 43 ls [.int (nI (mk31 (xs i) % 20))]) rfl ?_
  have L132 : ∀  (H : Heap) (locs : List Loc) (ls : Array Slot), (mk31 (xs i) % 20 ≤ 6) →  va_P D vwCl (fcW cI cS f0 a s fl c0 c1 n cs b r gl sv ad t f6 k) H → va_D A9 (fcW cI cS f0 a s fl c0 c1 n cs b r gl sv ad t f6 k) → va_S A9 s9.heap H locs → lv_has ls 6 [(0, .ref f0), (1, .ref b0), (2, .int (nI i)), (3, .int (xs (i + 1))), (4, .int (xs (i + 2))), (5, .int (nI (s 7 + mk31 (xs (i + 1) >>> (nI 4 &&& 31)) % 12)))] → W p9 l e9 ({ frames := 8, cells := 1, slots := 6, locals := 159 } : Room) s9 m9 ar9 be9 me9 c9 H locs 0 0 Q9 (F0 m9 132 ls []) := by
    intro  H locs ls hsel  hP hD hS hl
    refine lv_aload_n hx hb dL_act_132 rfl (lv_at hl 0 rfl) ?_
    refine lv_iload hx hb dL_act_133 (lv_at hl 5 rfl) ?_
    refine lv_iload_n hx hb dL_act_135 rfl (lv_at hl 3 rfl) ?_
    refine lv_bipush (v := nI 8) hx hb dL_act_136 (by decide +kernel) ?_
    refine KM.callS (As := [.int (xs (i + 1)), .int (nI 8)]) (rest := [.int (nI (s 7 + mk31 (xs (i + 1) >>> (nI 4 &&& 31)) % 12)), .ref f0]) C0 hN (k_L_low l D cI cS cL (xs (i + 1)) 8  (by decide) (by decide)) (va_cwS 2 hts gL_act_L_low rfl rfl rfl (by decide +kernel) ⟨Nat.le_of_ble_eq_true rfl, Nat.le_of_ble_eq_true rfl⟩) hK hP hD hS hA [] rfl (by decide) (fun _ => rfl) rfl hl.1 rfl (Nat.le_of_ble_eq_true rfl) dL_act_138 ⟨Nat.le_of_ble_eq_true rfl, Nat.le_of_ble_eq_true rfl⟩ (fun v9 u9 H locs hv hP hD hS => ?_)
    subst hv
    have hP : va_P D vwCl (fcW cI cS f0 a s fl c0 c1 n cs b r gl sv ad t f6 k) H := hP
    have hD : va_D A9 (fcW cI cS f0 a s fl c0 c1 n cs b r gl sv ad t f6 k) := hD
    refine W.eq (g2 := F0 m9 141 ls [.int (nI (mk31 (xs (i + 1)) % 8)), .int (nI (s 7 + mk31 (xs (i + 1) >>> (nI 4 &&& 31)) % 12)), .ref f0]) rfl ?_
    refine lv_iload hx hb dL_act_141 (lv_at hl 4 rfl) ?_
    refine lv_bipush (v := nI 11) hx hb dL_act_143 (by decide +kernel) ?_
    refine KM.callS (As := [.int (xs (i + 2)), .int (nI 11)]) (rest := [.int (nI (mk31 (xs (i + 1)) % 8)), .int (nI (s 7 + mk31 (xs (i + 1) >>> (nI 4 &&& 31)) % 12)), .ref f0]) C0 hN (k_L_low l D cI cS cL (xs (i + 2)) 11  (by decide) (by decide)) (va_cwS 2 hts gL_act_L_low rfl rfl rfl (by decide +kernel) ⟨Nat.le_of_ble_eq_true rfl, Nat.le_of_ble_eq_true rfl⟩) hK hP hD hS hA [] rfl (by decide) (fun _ => rfl) rfl hl.1 rfl (Nat.le_of_ble_eq_true rfl) dL_act_145 ⟨Nat.le_of_ble_eq_true rfl, Nat.le_of_ble_eq_true rfl⟩ (fun v9 u9 H locs hv hP hD hS => ?_)
    subst hv
    have hP : va_P D vwCl (fcW cI cS f0 a s fl c0 c1 n cs b r gl sv ad t f6 k) H := hP
    have hD : va_D A9 (fcW cI cS f0 a s fl c0 c1 n cs b r gl sv ad t f6 k) := hD
    refine W.eq (g2 := F0 m9 148 ls [.int (nI (mk31 (xs (i + 2)) % 11)), .int (nI (mk31 (xs (i + 1)) % 8)), .int (nI (s 7 + mk31 (xs (i + 1) >>> (nI 4 &&& 31)) % 12)), .ref f0]) rfl ?_
    by_cases hbad : rS s (s 7 + mk31 (xs (i + 1) >>> (nI 4 &&& 31)) % 12) (mk31 (xs (i + 1)) % 8) (mk31 (xs (i + 2)) % 11) = 0
    ·
      refine KC.callSM (As := [.ref f0, .int (nI (s 7 + mk31 (xs (i + 1) >>> (nI 4 &&& 31)) % 12)), .int (nI (mk31 (xs (i + 1)) % 8)), .int (nI (mk31 (xs (i + 2)) % 11))]) (rest := []) (W0 := (fcW cI cS f0 a s fl c0 c1 n cs b r gl sv ad t f6 k)) (ws := (fcW cI cS f0 a s fl c0 c1 n cs b r gl sv ad t f6 k)) (ws' := fun (_ : Unit) => (fcW cI cS f0 a (mAdd s (s 7 + mk31 (xs (i + 1) >>> (nI 4 &&& 31)) % 12) (mk31 (xs (i + 1)) % 8) (mk31 (xs (i + 2)) % 11)) fl c0 c1 n cs b r gl sv (kpA k ad) (kpT k t s) (kpA k f6) (kpK k))) C0 hN hAm hXN (k_L_cue_ok l D cI cS cL T f0 a s fl c0 c1 n cs b r gl sv ad t f6 k (s 7 + mk31 (xs (i + 1) >>> (nI 4 &&& 31)) % 12) (mk31 (xs (i + 1)) % 8) (mk31 (xs (i + 2)) % 11) hst hI (by omega) hk hn hcs (by omega) (by omega) (by omega) hbad) (vx_cwSW 4 hts gL_act_L_cue rfl rfl rfl (by decide +kernel) ⟨Nat.le_of_ble_eq_true rfl, Nat.le_of_ble_eq_true rfl⟩) hK hP hD hS hA (fun _ h => h) (va_D_iff.mp hD).1 (fun _ => fcW_perm (sv_kp cI cS sv ad t f6 (kpT k t s) (kpA k f6) k (kpK k))) (fun _ _ h => Or.inl h) rfl hl.1 rfl (Nat.le_of_ble_eq_true rfl) dL_act_148 ⟨Nat.le_of_ble_eq_true rfl, Nat.le_of_ble_eq_true rfl⟩ (fun v9 u9 H locs hv hP hD hS => ?_)
      subst hv
      have hP : va_P D vwCl (fcW cI cS f0 a (mAdd s (s 7 + mk31 (xs (i + 1) >>> (nI 4 &&& 31)) % 12) (mk31 (xs (i + 1)) % 8) (mk31 (xs (i + 2)) % 11)) fl c0 c1 n cs b r gl sv (kpA k ad) (kpT k t s) (kpA k f6) (kpK k)) H := hP
      have hD : va_D A9 (fcW cI cS f0 a (mAdd s (s 7 + mk31 (xs (i + 1) >>> (nI 4 &&& 31)) % 12) (mk31 (xs (i + 1)) % 8) (mk31 (xs (i + 2)) % 11)) fl c0 c1 n cs b r gl sv (kpA k ad) (kpT k t s) (kpA k f6) (kpK k)) := hD
      refine W.eq (g2 := F0 m9 151 ls [.int (nI (s 9))]) rfl ?_
      exact hret _ _ _ _ (some (.int (nI (s 9)))) (fun i9 => [(fun j9 => [mAdd s (s 7 + mk31 (xs (i + 1) >>> (nI 4 &&& 31)) % 12) (mk31 (xs (i + 1)) % 8) (mk31 (xs (i + 2)) % 11), fl].getD j9 (fun _ => 0)), kpA k ad, kpT k t s, kpA k f6, (fun _ _ => kpK k)].getD i9 (fun _ _ => 0)) 151 ls (by decide) (by decide) (by exact ⟨_, rfl, aP_cue hG (by omega) hsel hbad (by omega) (by omega) (by omega)⟩) hP hD hS (ret_i dL_act_151)
    ·
      refine KC.callSM (As := [.ref f0, .int (nI (s 7 + mk31 (xs (i + 1) >>> (nI 4 &&& 31)) % 12)), .int (nI (mk31 (xs (i + 1)) % 8)), .int (nI (mk31 (xs (i + 2)) % 11))]) (rest := []) (W0 := (fcW cI cS f0 a s fl c0 c1 n cs b r gl sv ad t f6 k)) (ws := (fcW cI cS f0 a s fl c0 c1 n cs b r gl sv ad t f6 k)) (ws' := fun (_ : Unit) => (fcW cI cS f0 a s fl c0 c1 n cs b r gl sv ad t f6 k)) C0 hN hAm hXN (k_L_cue_no l D cI cS cL T f0 a s fl c0 c1 n cs b r gl sv ad t f6 k (s 7 + mk31 (xs (i + 1) >>> (nI 4 &&& 31)) % 12) (mk31 (xs (i + 1)) % 8) (mk31 (xs (i + 2)) % 11) hst hI (by omega) hk hn hcs (by omega) (by omega) (by omega) hbad) (vx_cwSW 4 hts gL_act_L_cue rfl rfl rfl (by decide +kernel) ⟨Nat.le_of_ble_eq_true rfl, Nat.le_of_ble_eq_true rfl⟩) hK hP hD hS hA (fun _ h => h) (va_D_iff.mp hD).1 (fun _ => fcW_perm (List.Perm.refl _)) (fun _ _ h => Or.inl h) rfl hl.1 rfl (Nat.le_of_ble_eq_true rfl) dL_act_148 ⟨Nat.le_of_ble_eq_true rfl, Nat.le_of_ble_eq_true rfl⟩ (fun v9 u9 H locs hv hP hD hS => ?_)
      subst hv
      have hP : va_P D vwCl (fcW cI cS f0 a s fl c0 c1 n cs b r gl sv ad t f6 k) H := hP
      have hD : va_D A9 (fcW cI cS f0 a s fl c0 c1 n cs b r gl sv ad t f6 k) := hD
      refine W.eq (g2 := F0 m9 151 ls [.int (-3)]) rfl ?_
      exact hret _ _ _ _ (some (.int (-3))) (fun i9 => [(fun j9 => [s, fl].getD j9 (fun _ => 0)), ad, t, f6, (fun _ _ => k)].getD i9 (fun _ _ => 0)) 151 ls (by decide) (by decide) (by exact ⟨_, rfl, aP_cueno hG hsel hbad⟩) hP hD hS (ret_i dL_act_151)
  have L163 : ∀  (H : Heap) (locs : List Loc) (ls : Array Slot), (8 ≤ mk31 (xs i) % 20) → (mk31 (xs i) % 20 ≤ 12) →  va_P D vwCl (fcW cI cS f0 a s fl c0 c1 n cs b r gl sv ad t f6 k) H → va_D A9 (fcW cI cS f0 a s fl c0 c1 n cs b r gl sv ad t f6 k) → va_S A9 s9.heap H locs → lv_has ls 6 [(0, .ref f0), (1, .ref b0), (2, .int (nI i)), (3, .int (xs (i + 1))), (4, .int (xs (i + 2))), (5, .int (nI (s 7 + mk31 (xs (i + 1) >>> (nI 4 &&& 31)) % 12)))] → W p9 l e9 ({ frames := 8, cells := 1, slots := 6, locals := 159 } : Room) s9 m9 ar9 be9 me9 c9 H locs 0 0 Q9 (F0 m9 163 ls []) := by
    intro  H locs ls hs1 hs2  hP hD hS hl
    refine lv_aload_n hx hb dL_act_163 rfl (lv_at hl 0 rfl) ?_
    refine lv_iconst (v := nI 1) hx hb dL_act_164 (by decide +kernel) ?_
    refine lv_iload_n hx hb dL_act_165 rfl (lv_at hl 3 rfl) ?_
    refine lv_bipush (v := nI 9) hx hb dL_act_166 (by decide +kernel) ?_
    refine KM.callS (As := [.int (xs (i + 1)), .int (nI 9)]) (rest := [.int (nI 1), .ref f0]) C0 hN (k_L_low l D cI cS cL (xs (i + 1)) 9  (by decide) (by decide)) (va_cwS 2 hts gL_act_L_low rfl rfl rfl (by decide +kernel) ⟨Nat.le_of_ble_eq_true rfl, Nat.le_of_ble_eq_true rfl⟩) hK hP hD hS hA [] rfl (by decide) (fun _ => rfl) rfl hl.1 rfl (Nat.le_of_ble_eq_true rfl) dL_act_168 ⟨Nat.le_of_ble_eq_true rfl, Nat.le_of_ble_eq_true rfl⟩ (fun v9 u9 H locs hv hP hD hS => ?_)
    subst hv
    have hP : va_P D vwCl (fcW cI cS f0 a s fl c0 c1 n cs b r gl sv ad t f6 k) H := hP
    have hD : va_D A9 (fcW cI cS f0 a s fl c0 c1 n cs b r gl sv ad t f6 k) := hD
    refine W.eq (g2 := F0 m9 171 ls [.int (nI (mk31 (xs (i + 1)) % 9)), .int (nI 1), .ref f0]) rfl ?_
    refine q_iadd hx hb dL_act_171 ?_
    refine KM.callVM (As := [.int (nI (1 + (mk31 (xs (i + 1)) % 9)))]) (rest := []) (W0 := (fcW cI cS f0 a s fl c0 c1 n cs b r gl sv ad t f6 k)) (ws := (fcW cI cS f0 a s fl c0 c1 n cs b r gl sv ad t f6 k)) (ws' := fun (u9 : Nat → Nat) => (fcW cI cS f0 a (mPlay (1 + (mk31 (xs (i + 1)) % 9)) s) u9 c0 c1 n cs b r gl sv (kpA k ad) (kpT k t s) (kpA k f6) (kpK k))) C0 hN (k_X5_play_ok l D cI cS cL T f0 a s fl c0 c1 n cs b r gl sv ad t f6 k (1 + (mk31 (xs (i + 1)) % 9)) hI (by omega) hk hn hcs (by omega) (by omega)) (cwV 1 hts gL_act_X5_play rfl rfl rfl (by decide +kernel) ⟨Nat.le_of_ble_eq_true rfl, Nat.le_of_ble_eq_true rfl⟩) hK hP hD hS hA (fun _ h => h) (va_D_iff.mp hD).1 (fun _ => fcW_perm (sv_kp cI cS sv ad t f6 (kpT k t s) (kpA k f6) k (kpK k))) (fun _ _ h => Or.inl h) 0 5 rfl rfl rfl rfl hl.1 rfl (Nat.le_of_ble_eq_true rfl) dL_act_172 ⟨Nat.le_of_ble_eq_true rfl, Nat.le_of_ble_eq_true rfl⟩ (fun v9 u9 H locs hv hP hD hS => ?_)
    obtain ⟨z_1, rfl⟩ : ∃ z, z = u9 := ⟨_, rfl⟩
    subst hv
    have hP : va_P D vwCl (fcW cI cS f0 a (mPlay (1 + (mk31 (xs (i + 1)) % 9)) s) z_1 c0 c1 n cs b r gl sv (kpA k ad) (kpT k t s) (kpA k f6) (kpK k)) H := hP
    have hD : va_D A9 (fcW cI cS f0 a (mPlay (1 + (mk31 (xs (i + 1)) % 9)) s) z_1 c0 c1 n cs b r gl sv (kpA k ad) (kpT k t s) (kpA k f6) (kpK k)) := hD
    refine W.eq (g2 := F0 m9 175 ls [.int (nI (mPlay (1 + (mk31 (xs (i + 1)) % 9)) s 10 - s 10))]) rfl ?_
    exact hret _ _ _ _ (some (.int (nI (mPlay (1 + (mk31 (xs (i + 1)) % 9)) s 10 - s 10)))) (fun i9 => [(fun j9 => [mPlay (1 + (mk31 (xs (i + 1)) % 9)) s, z_1].getD j9 (fun _ => 0)), kpA k ad, kpT k t s, kpA k f6, (fun _ _ => kpK k)].getD i9 (fun _ _ => 0)) 175 ls (by decide) (by decide) (by exact ⟨_, rfl, aP_play hG (by omega) hs1 hs2⟩) hP hD hS (ret_i dL_act_175)
  by_cases c_43_0 : mk31 (xs i) % 20 = 0
  ·
    have hsw : ((nI (mk31 (xs i) % 20))).toInt = 0 := by rw [c_43_0]; decide +kernel
    refine lv_tableIn (off := 89) (tgt := 132) hx hb dL_act_43 (by rw [hsw]; decide) (by rw [hsw]; decide) (by rw [hsw]; rfl) (by decide) ?_
    exact L132   _ _ ls (by first | with_reducible assumption | omega)  hP hD hS (lv_sub hl [3, 4, 5, 2, 1, 0] rfl)
  by_cases c_43_1 : mk31 (xs i) % 20 = 1
  ·
    have hsw : ((nI (mk31 (xs i) % 20))).toInt = 1 := by rw [c_43_1]; decide +kernel
    refine lv_tableIn (off := 89) (tgt := 132) hx hb dL_act_43 (by rw [hsw]; decide) (by rw [hsw]; decide) (by rw [hsw]; rfl) (by decide) ?_
    exact L132   _ _ ls (by first | with_reducible assumption | omega)  hP hD hS (lv_sub hl [3, 4, 5, 2, 1, 0] rfl)
  by_cases c_43_2 : mk31 (xs i) % 20 = 2
  ·
    have hsw : ((nI (mk31 (xs i) % 20))).toInt = 2 := by rw [c_43_2]; decide +kernel
    refine lv_tableIn (off := 89) (tgt := 132) hx hb dL_act_43 (by rw [hsw]; decide) (by rw [hsw]; decide) (by rw [hsw]; rfl) (by decide) ?_
    exact L132   _ _ ls (by first | with_reducible assumption | omega)  hP hD hS (lv_sub hl [3, 4, 5, 2, 1, 0] rfl)
  by_cases c_43_3 : mk31 (xs i) % 20 = 3
  ·
    have hsw : ((nI (mk31 (xs i) % 20))).toInt = 3 := by rw [c_43_3]; decide +kernel
    refine lv_tableIn (off := 89) (tgt := 132) hx hb dL_act_43 (by rw [hsw]; decide) (by rw [hsw]; decide) (by rw [hsw]; rfl) (by decide) ?_
    exact L132   _ _ ls (by first | with_reducible assumption | omega)  hP hD hS (lv_sub hl [3, 4, 5, 2, 1, 0] rfl)
  by_cases c_43_4 : mk31 (xs i) % 20 = 4
  ·
    have hsw : ((nI (mk31 (xs i) % 20))).toInt = 4 := by rw [c_43_4]; decide +kernel
    refine lv_tableIn (off := 89) (tgt := 132) hx hb dL_act_43 (by rw [hsw]; decide) (by rw [hsw]; decide) (by rw [hsw]; rfl) (by decide) ?_
    exact L132   _ _ ls (by first | with_reducible assumption | omega)  hP hD hS (lv_sub hl [3, 4, 5, 2, 1, 0] rfl)
  by_cases c_43_5 : mk31 (xs i) % 20 = 5
  ·
    have hsw : ((nI (mk31 (xs i) % 20))).toInt = 5 := by rw [c_43_5]; decide +kernel
    refine lv_tableIn (off := 89) (tgt := 132) hx hb dL_act_43 (by rw [hsw]; decide) (by rw [hsw]; decide) (by rw [hsw]; rfl) (by decide) ?_
    exact L132   _ _ ls (by first | with_reducible assumption | omega)  hP hD hS (lv_sub hl [3, 4, 5, 2, 1, 0] rfl)
  by_cases c_43_6 : mk31 (xs i) % 20 = 6
  ·
    have hsw : ((nI (mk31 (xs i) % 20))).toInt = 6 := by rw [c_43_6]; decide +kernel
    refine lv_tableIn (off := 89) (tgt := 132) hx hb dL_act_43 (by rw [hsw]; decide) (by rw [hsw]; decide) (by rw [hsw]; rfl) (by decide) ?_
    exact L132   _ _ ls (by first | with_reducible assumption | omega)  hP hD hS (lv_sub hl [3, 4, 5, 2, 1, 0] rfl)
  by_cases c_43_7 : mk31 (xs i) % 20 = 7
  ·
    have hsw : ((nI (mk31 (xs i) % 20))).toInt = 7 := by rw [c_43_7]; decide +kernel
    refine lv_tableIn (off := 109) (tgt := 152) hx hb dL_act_43 (by rw [hsw]; decide) (by rw [hsw]; decide) (by rw [hsw]; rfl) (by decide) ?_
    refine lv_aload_n hx hb dL_act_152 rfl (lv_at hl 3 rfl) ?_
    refine lv_iload_n hx hb dL_act_153 rfl (lv_at hl 2 rfl) ?_
    refine lv_bipush (v := nI 30) hx hb dL_act_154 (by decide +kernel) ?_
    refine KM.callS (As := [.int (xs (i + 1)), .int (nI 30)]) (rest := [.ref f0]) C0 hN (k_L_low l D cI cS cL (xs (i + 1)) 30  (by decide) (by decide)) (va_cwS 2 hts gL_act_L_low rfl rfl rfl (by decide +kernel) ⟨Nat.le_of_ble_eq_true rfl, Nat.le_of_ble_eq_true rfl⟩) hK hP hD hS hA [] rfl (by decide) (fun _ => rfl) rfl hl.1 rfl (Nat.le_of_ble_eq_true rfl) dL_act_156 ⟨Nat.le_of_ble_eq_true rfl, Nat.le_of_ble_eq_true rfl⟩ (fun v9 u9 H locs hv hP hD hS => ?_)
    subst hv
    have hP : va_P D vwCl (fcW cI cS f0 a s fl c0 c1 n cs b r gl sv ad t f6 k) H := hP
    have hD : va_D A9 (fcW cI cS f0 a s fl c0 c1 n cs b r gl sv ad t f6 k) := hD
    refine W.eq (g2 := F0 m9 159 ls [.int (nI (mk31 (xs (i + 1)) % 30)), .ref f0]) rfl ?_
    by_cases hbad : ∀ p, p < s 8 → nI (nuF s p) ≠ nI (mk31 (xs (i + 1)) % 30)
    ·
      refine KC.callSM (As := [.ref f0, .int (nI (mk31 (xs (i + 1)) % 30))]) (rest := []) (W0 := (fcW cI cS f0 a s fl c0 c1 n cs b r gl sv ad t f6 k)) (ws := (fcW cI cS f0 a s fl c0 c1 n cs b r gl sv ad t f6 k)) (ws' := fun (_ : Unit) => (fcW cI cS f0 a s fl c0 c1 n cs b r gl sv ad t f6 k)) C0 hN hAm hXN (k_L_drop_no l D cI cS cL T f0 a s fl c0 c1 n cs b r gl sv ad t f6 k (nI (mk31 (xs (i + 1)) % 30)) hst hI (by omega) hk hn hcs hbad) (vx_cwSW 2 hts gL_act_L_drop rfl rfl rfl (by decide +kernel) ⟨Nat.le_of_ble_eq_true rfl, Nat.le_of_ble_eq_true rfl⟩) hK hP hD hS hA (fun _ h => h) (va_D_iff.mp hD).1 (fun _ => fcW_perm (List.Perm.refl _)) (fun _ _ h => Or.inl h) rfl hl.1 rfl (Nat.le_of_ble_eq_true rfl) dL_act_159 ⟨Nat.le_of_ble_eq_true rfl, Nat.le_of_ble_eq_true rfl⟩ (fun v9 u9 H locs hv hP hD hS => ?_)
      subst hv
      have hP : va_P D vwCl (fcW cI cS f0 a s fl c0 c1 n cs b r gl sv ad t f6 k) H := hP
      have hD : va_D A9 (fcW cI cS f0 a s fl c0 c1 n cs b r gl sv ad t f6 k) := hD
      refine W.eq (g2 := F0 m9 162 ls [.int (-1)]) rfl ?_
      exact hret _ _ _ _ (some (.int (-1))) (fun i9 => [(fun j9 => [s, fl].getD j9 (fun _ => 0)), ad, t, f6, (fun _ _ => k)].getD i9 (fun _ _ => 0)) 162 ls (by decide) (by decide) (by exact ⟨_, rfl, aP_no hG (Or.inl (by omega))⟩) hP hD hS (ret_i dL_act_162)
    ·
      obtain ⟨p1, h1⟩ := Classical.not_forall.mp hbad
      obtain ⟨hp, h2⟩ := Classical.not_imp.mp h1
      have hpx := Classical.not_not.mp h2
      refine KC.callSM (As := [.ref f0, .int (nI (mk31 (xs (i + 1)) % 30))]) (rest := []) (W0 := (fcW cI cS f0 a s fl c0 c1 n cs b r gl sv ad t f6 k)) (ws := (fcW cI cS f0 a s fl c0 c1 n cs b r gl sv ad t f6 k)) (ws' := fun (_ : Unit) => (fcW cI cS f0 a (mDrop s p1) fl c0 c1 n cs b r gl sv (kpA k ad) (kpT k t s) (kpA k f6) (kpK k))) C0 hN hAm hXN (k_L_drop_ok l D cI cS cL T f0 a s fl c0 c1 n cs b r gl sv ad t f6 k (nI (mk31 (xs (i + 1)) % 30)) p1 hst hI (by omega) hk hn hcs hp hpx) (vx_cwSW 2 hts gL_act_L_drop rfl rfl rfl (by decide +kernel) ⟨Nat.le_of_ble_eq_true rfl, Nat.le_of_ble_eq_true rfl⟩) hK hP hD hS hA (fun _ h => h) (va_D_iff.mp hD).1 (fun _ => fcW_perm (sv_kp cI cS sv ad t f6 (kpT k t s) (kpA k f6) k (kpK k))) (fun _ _ h => Or.inl h) rfl hl.1 rfl (Nat.le_of_ble_eq_true rfl) dL_act_159 ⟨Nat.le_of_ble_eq_true rfl, Nat.le_of_ble_eq_true rfl⟩ (fun v9 u9 H locs hv hP hD hS => ?_)
      subst hv
      have hP : va_P D vwCl (fcW cI cS f0 a (mDrop s p1) fl c0 c1 n cs b r gl sv (kpA k ad) (kpT k t s) (kpA k f6) (kpK k)) H := hP
      have hD : va_D A9 (fcW cI cS f0 a (mDrop s p1) fl c0 c1 n cs b r gl sv (kpA k ad) (kpT k t s) (kpA k f6) (kpK k)) := hD
      refine W.eq (g2 := F0 m9 162 ls [.int (nI (s 8 - 1))]) rfl ?_
      exact hret _ _ _ _ (some (.int (nI (s 8 - 1)))) (fun i9 => [(fun j9 => [mDrop s p1, fl].getD j9 (fun _ => 0)), kpA k ad, kpT k t s, kpA k f6, (fun _ _ => kpK k)].getD i9 (fun _ _ => 0)) 162 ls (by decide) (by decide) (by exact ⟨_, rfl, aP_mut (gI_mut hG (sI_mono (sI_drop hI hp) (by omega)) (sJ_drop hG.2.1 hI5 hp)) (Or.inl (by omega)) (by omega)⟩) hP hD hS (ret_i dL_act_162)
  by_cases c_43_8 : mk31 (xs i) % 20 = 8
  ·
    have hsw : ((nI (mk31 (xs i) % 20))).toInt = 8 := by rw [c_43_8]; decide +kernel
    refine lv_tableIn (off := 120) (tgt := 163) hx hb dL_act_43 (by rw [hsw]; decide) (by rw [hsw]; decide) (by rw [hsw]; rfl) (by decide) ?_
    exact L163   _ _ ls (by first | with_reducible assumption | omega) (by first | with_reducible assumption | omega)  hP hD hS (lv_sub hl [3, 4, 5, 2, 1, 0] rfl)
  by_cases c_43_9 : mk31 (xs i) % 20 = 9
  ·
    have hsw : ((nI (mk31 (xs i) % 20))).toInt = 9 := by rw [c_43_9]; decide +kernel
    refine lv_tableIn (off := 120) (tgt := 163) hx hb dL_act_43 (by rw [hsw]; decide) (by rw [hsw]; decide) (by rw [hsw]; rfl) (by decide) ?_
    exact L163   _ _ ls (by first | with_reducible assumption | omega) (by first | with_reducible assumption | omega)  hP hD hS (lv_sub hl [3, 4, 5, 2, 1, 0] rfl)
  by_cases c_43_10 : mk31 (xs i) % 20 = 10
  ·
    have hsw : ((nI (mk31 (xs i) % 20))).toInt = 10 := by rw [c_43_10]; decide +kernel
    refine lv_tableIn (off := 120) (tgt := 163) hx hb dL_act_43 (by rw [hsw]; decide) (by rw [hsw]; decide) (by rw [hsw]; rfl) (by decide) ?_
    exact L163   _ _ ls (by first | with_reducible assumption | omega) (by first | with_reducible assumption | omega)  hP hD hS (lv_sub hl [3, 4, 5, 2, 1, 0] rfl)
  by_cases c_43_11 : mk31 (xs i) % 20 = 11
  ·
    have hsw : ((nI (mk31 (xs i) % 20))).toInt = 11 := by rw [c_43_11]; decide +kernel
    refine lv_tableIn (off := 120) (tgt := 163) hx hb dL_act_43 (by rw [hsw]; decide) (by rw [hsw]; decide) (by rw [hsw]; rfl) (by decide) ?_
    exact L163   _ _ ls (by first | with_reducible assumption | omega) (by first | with_reducible assumption | omega)  hP hD hS (lv_sub hl [3, 4, 5, 2, 1, 0] rfl)
  by_cases c_43_12 : mk31 (xs i) % 20 = 12
  ·
    have hsw : ((nI (mk31 (xs i) % 20))).toInt = 12 := by rw [c_43_12]; decide +kernel
    refine lv_tableIn (off := 120) (tgt := 163) hx hb dL_act_43 (by rw [hsw]; decide) (by rw [hsw]; decide) (by rw [hsw]; rfl) (by decide) ?_
    exact L163   _ _ ls (by first | with_reducible assumption | omega) (by first | with_reducible assumption | omega)  hP hD hS (lv_sub hl [3, 4, 5, 2, 1, 0] rfl)
  by_cases c_43_13 : mk31 (xs i) % 20 = 13
  ·
    have hsw : ((nI (mk31 (xs i) % 20))).toInt = 13 := by rw [c_43_13]; decide +kernel
    refine lv_tableIn (off := 133) (tgt := 176) hx hb dL_act_43 (by rw [hsw]; decide) (by rw [hsw]; decide) (by rw [hsw]; rfl) (by decide) ?_
    refine lv_aload_n hx hb dL_act_176 rfl (lv_at hl 3 rfl) ?_
    refine lv_iload_n hx hb dL_act_177 rfl (lv_at hl 2 rfl) ?_
    refine lv_bipush (v := nI 8) hx hb dL_act_178 (by decide +kernel) ?_
    refine KM.callS (As := [.int (xs (i + 1)), .int (nI 8)]) (rest := [.ref f0]) C0 hN (k_L_low l D cI cS cL (xs (i + 1)) 8  (by decide) (by decide)) (va_cwS 2 hts gL_act_L_low rfl rfl rfl (by decide +kernel) ⟨Nat.le_of_ble_eq_true rfl, Nat.le_of_ble_eq_true rfl⟩) hK hP hD hS hA [] rfl (by decide) (fun _ => rfl) rfl hl.1 rfl (Nat.le_of_ble_eq_true rfl) dL_act_180 ⟨Nat.le_of_ble_eq_true rfl, Nat.le_of_ble_eq_true rfl⟩ (fun v9 u9 H locs hv hP hD hS => ?_)
    subst hv
    have hP : va_P D vwCl (fcW cI cS f0 a s fl c0 c1 n cs b r gl sv ad t f6 k) H := hP
    have hD : va_D A9 (fcW cI cS f0 a s fl c0 c1 n cs b r gl sv ad t f6 k) := hD
    refine W.eq (g2 := F0 m9 183 ls [.int (nI (mk31 (xs (i + 1)) % 8)), .ref f0]) rfl ?_
    refine lv_iconst (v := nI 1) hx hb dL_act_183 (by decide +kernel) ?_
    refine lv_iload hx hb dL_act_184 (lv_at hl 1 rfl) ?_
    refine lv_bipush (v := nI 20) hx hb dL_act_186 (by decide +kernel) ?_
    refine KM.callS (As := [.int (xs (i + 2)), .int (nI 20)]) (rest := [.int (nI 1), .int (nI (mk31 (xs (i + 1)) % 8)), .ref f0]) C0 hN (k_L_low l D cI cS cL (xs (i + 2)) 20  (by decide) (by decide)) (va_cwS 2 hts gL_act_L_low rfl rfl rfl (by decide +kernel) ⟨Nat.le_of_ble_eq_true rfl, Nat.le_of_ble_eq_true rfl⟩) hK hP hD hS hA [] rfl (by decide) (fun _ => rfl) rfl hl.1 rfl (Nat.le_of_ble_eq_true rfl) dL_act_188 ⟨Nat.le_of_ble_eq_true rfl, Nat.le_of_ble_eq_true rfl⟩ (fun v9 u9 H locs hv hP hD hS => ?_)
    subst hv
    have hP : va_P D vwCl (fcW cI cS f0 a s fl c0 c1 n cs b r gl sv ad t f6 k) H := hP
    have hD : va_D A9 (fcW cI cS f0 a s fl c0 c1 n cs b r gl sv ad t f6 k) := hD
    refine W.eq (g2 := F0 m9 191 ls [.int (nI (mk31 (xs (i + 2)) % 20)), .int (nI 1), .int (nI (mk31 (xs (i + 1)) % 8)), .ref f0]) rfl ?_
    refine q_iadd hx hb dL_act_191 ?_
    refine lv_iload_n hx hb dL_act_192 rfl (lv_at hl 2 rfl) ?_
    refine lv_iload hx hb dL_act_193 (lv_at hl 1 rfl) ?_
    refine lv_iadd hx hb dL_act_195 ?_
    refine lv_iconst (v := nI 4) hx hb dL_act_196 (by decide +kernel) ?_
    refine KM.callS (As := [.int ((xs (i + 1)) + (xs (i + 2))), .int (nI 4)]) (rest := [.int (nI (1 + (mk31 (xs (i + 2)) % 20))), .int (nI (mk31 (xs (i + 1)) % 8)), .ref f0]) C0 hN (k_L_low l D cI cS cL ((xs (i + 1)) + (xs (i + 2))) 4  (by decide) (by decide)) (va_cwS 2 hts gL_act_L_low rfl rfl rfl (by decide +kernel) ⟨Nat.le_of_ble_eq_true rfl, Nat.le_of_ble_eq_true rfl⟩) hK hP hD hS hA [] rfl (by decide) (fun _ => rfl) rfl hl.1 rfl (Nat.le_of_ble_eq_true rfl) dL_act_197 ⟨Nat.le_of_ble_eq_true rfl, Nat.le_of_ble_eq_true rfl⟩ (fun v9 u9 H locs hv hP hD hS => ?_)
    subst hv
    have hP : va_P D vwCl (fcW cI cS f0 a s fl c0 c1 n cs b r gl sv ad t f6 k) H := hP
    have hD : va_D A9 (fcW cI cS f0 a s fl c0 c1 n cs b r gl sv ad t f6 k) := hD
    refine W.eq (g2 := F0 m9 200 ls [.int (nI (mk31 ((xs (i + 1)) + (xs (i + 2))) % 4)), .int (nI (1 + (mk31 (xs (i + 2)) % 20))), .int (nI (mk31 (xs (i + 1)) % 8)), .ref f0]) rfl ?_
    have hb9 := hB1 (mk31 (xs (i + 1)) % 8) (by omega)
    refine KM.callVM (As := [.int (nI (mk31 (xs (i + 1)) % 8)), .int (nI (1 + (mk31 (xs (i + 2)) % 20))), .int (nI (mk31 ((xs (i + 1)) + (xs (i + 2))) % 4))]) (rest := []) (W0 := (fcW cI cS f0 a s fl c0 c1 n cs b r gl sv ad t f6 k)) (ws := (fcW cI cS f0 a s fl c0 c1 n cs b r gl sv ad t f6 k)) (ws' := fun (_ : Unit) => (fcW cI cS f0 a (sJet s (mk31 (xs (i + 1)) % 8) (1 + (mk31 (xs (i + 2)) % 20)) (mk31 ((xs (i + 1)) + (xs (i + 2))) % 4)) fl c0 c1 n cs b r gl sv (kpA k ad) (kpT k t s) (kpA k f6) (kpK k))) C0 hN (k_X5_jet_ok l D cI cS cL T f0 a s fl c0 c1 n cs b r gl sv ad t f6 k (mk31 (xs (i + 1)) % 8) (1 + (mk31 (xs (i + 2)) % 20)) (mk31 ((xs (i + 1)) + (xs (i + 2))) % 4) hI (by omega) hk hn hcs (by omega) (by omega) (by omega) (by omega)) (cwV 3 hts gL_act_X5_jet rfl rfl rfl (by decide +kernel) ⟨Nat.le_of_ble_eq_true rfl, Nat.le_of_ble_eq_true rfl⟩) hK hP hD hS hA (fun _ h => h) (va_D_iff.mp hD).1 (fun _ => fcW_perm (sv_kp cI cS sv ad t f6 (kpT k t s) (kpA k f6) k (kpK k))) (fun _ _ h => Or.inl h) 0 5 rfl rfl rfl rfl hl.1 rfl (Nat.le_of_ble_eq_true rfl) dL_act_200 ⟨Nat.le_of_ble_eq_true rfl, Nat.le_of_ble_eq_true rfl⟩ (fun v9 u9 H locs hv hP hD hS => ?_)
    subst hv
    have hP : va_P D vwCl (fcW cI cS f0 a (sJet s (mk31 (xs (i + 1)) % 8) (1 + (mk31 (xs (i + 2)) % 20)) (mk31 ((xs (i + 1)) + (xs (i + 2))) % 4)) fl c0 c1 n cs b r gl sv (kpA k ad) (kpT k t s) (kpA k f6) (kpK k)) H := hP
    have hD : va_D A9 (fcW cI cS f0 a (sJet s (mk31 (xs (i + 1)) % 8) (1 + (mk31 (xs (i + 2)) % 20)) (mk31 ((xs (i + 1)) + (xs (i + 2))) % 4)) fl c0 c1 n cs b r gl sv (kpA k ad) (kpT k t s) (kpA k f6) (kpK k)) := hD
    refine W.eq (g2 := F0 m9 203 ls [.int (nI (szF s (mk31 (xs (i + 1)) % 8)))]) rfl ?_
    exact hret _ _ _ _ (some (.int (nI (szF s (mk31 (xs (i + 1)) % 8))))) (fun i9 => [(fun j9 => [sJet s (mk31 (xs (i + 1)) % 8) (1 + (mk31 (xs (i + 2)) % 20)) (mk31 ((xs (i + 1)) + (xs (i + 2))) % 4), fl].getD j9 (fun _ => 0)), kpA k ad, kpT k t s, kpA k f6, (fun _ _ => kpK k)].getD i9 (fun _ _ => 0)) 203 ls (by decide) (by decide) (by exact ⟨_, rfl, aP_mut (gI_mut hG (sI_mono (sI_jet (by omega) (by omega) (by omega) (by omega) hI) (by omega)) (sJ_jet hG.2.1 (by omega))) (Or.inr (by omega)) (by omega)⟩) hP hD hS (ret_i dL_act_203)
  by_cases c_43_14 : mk31 (xs i) % 20 = 14
  ·
    have hsw : ((nI (mk31 (xs i) % 20))).toInt = 14 := by rw [c_43_14]; decide +kernel
    refine lv_tableIn (off := 161) (tgt := 204) hx hb dL_act_43 (by rw [hsw]; decide) (by rw [hsw]; decide) (by rw [hsw]; rfl) (by decide) ?_
    refine lv_aload_n hx hb dL_act_204 rfl (lv_at hl 3 rfl) ?_
    refine lv_iload_n hx hb dL_act_205 rfl (lv_at hl 2 rfl) ?_
    refine lv_bipush (v := nI 8) hx hb dL_act_206 (by decide +kernel) ?_
    refine KM.callS (As := [.int (xs (i + 1)), .int (nI 8)]) (rest := [.ref f0]) C0 hN (k_L_low l D cI cS cL (xs (i + 1)) 8  (by decide) (by decide)) (va_cwS 2 hts gL_act_L_low rfl rfl rfl (by decide +kernel) ⟨Nat.le_of_ble_eq_true rfl, Nat.le_of_ble_eq_true rfl⟩) hK hP hD hS hA [] rfl (by decide) (fun _ => rfl) rfl hl.1 rfl (Nat.le_of_ble_eq_true rfl) dL_act_208 ⟨Nat.le_of_ble_eq_true rfl, Nat.le_of_ble_eq_true rfl⟩ (fun v9 u9 H locs hv hP hD hS => ?_)
    subst hv
    have hP : va_P D vwCl (fcW cI cS f0 a s fl c0 c1 n cs b r gl sv ad t f6 k) H := hP
    have hD : va_D A9 (fcW cI cS f0 a s fl c0 c1 n cs b r gl sv ad t f6 k) := hD
    refine W.eq (g2 := F0 m9 211 ls [.int (nI (mk31 (xs (i + 1)) % 8)), .ref f0]) rfl ?_
    refine lv_iload hx hb dL_act_211 (lv_at hl 1 rfl) ?_
    refine lv_bipush (v := nI 11) hx hb dL_act_213 (by decide +kernel) ?_
    refine KM.callS (As := [.int (xs (i + 2)), .int (nI 11)]) (rest := [.int (nI (mk31 (xs (i + 1)) % 8)), .ref f0]) C0 hN (k_L_low l D cI cS cL (xs (i + 2)) 11  (by decide) (by decide)) (va_cwS 2 hts gL_act_L_low rfl rfl rfl (by decide +kernel) ⟨Nat.le_of_ble_eq_true rfl, Nat.le_of_ble_eq_true rfl⟩) hK hP hD hS hA [] rfl (by decide) (fun _ => rfl) rfl hl.1 rfl (Nat.le_of_ble_eq_true rfl) dL_act_215 ⟨Nat.le_of_ble_eq_true rfl, Nat.le_of_ble_eq_true rfl⟩ (fun v9 u9 H locs hv hP hD hS => ?_)
    subst hv
    have hP : va_P D vwCl (fcW cI cS f0 a s fl c0 c1 n cs b r gl sv ad t f6 k) H := hP
    have hD : va_D A9 (fcW cI cS f0 a s fl c0 c1 n cs b r gl sv ad t f6 k) := hD
    refine W.eq (g2 := F0 m9 218 ls [.int (nI (mk31 (xs (i + 2)) % 11)), .int (nI (mk31 (xs (i + 1)) % 8)), .ref f0]) rfl ?_
    have hb9 := hB3 (mk31 (xs (i + 1)) % 8) (by omega)
    refine KM.callVM (As := [.int (nI (mk31 (xs (i + 1)) % 8)), .int (nI (mk31 (xs (i + 2)) % 11))]) (rest := []) (W0 := (fcW cI cS f0 a s fl c0 c1 n cs b r gl sv ad t f6 k)) (ws := (fcW cI cS f0 a s fl c0 c1 n cs b r gl sv ad t f6 k)) (ws' := fun (_ : Unit) => (fcW cI cS f0 a (upN s (17 + 5 * (mk31 (xs (i + 1)) % 8)) (mk31 (xs (i + 2)) % 11)) fl c0 c1 n cs b r gl sv (kpA k ad) (kpT k t s) (kpA k f6) (kpK k))) C0 hN (k_X5_aim_ok l D cI cS cL T f0 a s fl c0 c1 n cs b r gl sv ad t f6 k (mk31 (xs (i + 1)) % 8) (mk31 (xs (i + 2)) % 11) hI (by omega) hk hn hcs (by omega) (by omega)) (cwV 2 hts gL_act_X5_aim rfl rfl rfl (by decide +kernel) ⟨Nat.le_of_ble_eq_true rfl, Nat.le_of_ble_eq_true rfl⟩) hK hP hD hS hA (fun _ h => h) (va_D_iff.mp hD).1 (fun _ => fcW_perm (sv_kp cI cS sv ad t f6 (kpT k t s) (kpA k f6) k (kpK k))) (fun _ _ h => Or.inl h) 0 5 rfl rfl rfl rfl hl.1 rfl (Nat.le_of_ble_eq_true rfl) dL_act_218 ⟨Nat.le_of_ble_eq_true rfl, Nat.le_of_ble_eq_true rfl⟩ (fun v9 u9 H locs hv hP hD hS => ?_)
    subst hv
    have hP : va_P D vwCl (fcW cI cS f0 a (upN s (17 + 5 * (mk31 (xs (i + 1)) % 8)) (mk31 (xs (i + 2)) % 11)) fl c0 c1 n cs b r gl sv (kpA k ad) (kpT k t s) (kpA k f6) (kpK k)) H := hP
    have hD : va_D A9 (fcW cI cS f0 a (upN s (17 + 5 * (mk31 (xs (i + 1)) % 8)) (mk31 (xs (i + 2)) % 11)) fl c0 c1 n cs b r gl sv (kpA k ad) (kpT k t s) (kpA k f6) (kpK k)) := hD
    refine W.eq (g2 := F0 m9 221 ls [.int (nI (amF s (mk31 (xs (i + 1)) % 8)))]) rfl ?_
    exact hret _ _ _ _ (some (.int (nI (amF s (mk31 (xs (i + 1)) % 8))))) (fun i9 => [(fun j9 => [upN s (17 + 5 * (mk31 (xs (i + 1)) % 8)) (mk31 (xs (i + 2)) % 11), fl].getD j9 (fun _ => 0)), kpA k ad, kpT k t s, kpA k f6, (fun _ _ => kpK k)].getD i9 (fun _ _ => 0)) 221 ls (by decide) (by decide) (by exact ⟨_, rfl, aP_mut (gI_mut hG (sI_mono (sI_aim (c := 0) (by omega) (by omega) hI) (by omega)) (sJ_upN hG.2.1 (by omega) (by omega) (by omega) (by omega))) (Or.inr (by omega)) (by omega)⟩) hP hD hS (ret_i dL_act_221)
  by_cases c_43_15 : mk31 (xs i) % 20 = 15
  ·
    have hsw : ((nI (mk31 (xs i) % 20))).toInt = 15 := by rw [c_43_15]; decide +kernel
    refine lv_tableIn (off := 179) (tgt := 222) hx hb dL_act_43 (by rw [hsw]; decide) (by rw [hsw]; decide) (by rw [hsw]; rfl) (by decide) ?_
    refine lv_aload_n hx hb dL_act_222 rfl (lv_at hl 3 rfl) ?_
    refine lv_iload_n hx hb dL_act_223 rfl (lv_at hl 2 rfl) ?_
    refine lv_iconst (v := nI 2) hx hb dL_act_224 (by decide +kernel) ?_
    refine KM.callS (As := [.int (xs (i + 1)), .int (nI 2)]) (rest := [.ref f0]) C0 hN (k_L_low l D cI cS cL (xs (i + 1)) 2  (by decide) (by decide)) (va_cwS 2 hts gL_act_L_low rfl rfl rfl (by decide +kernel) ⟨Nat.le_of_ble_eq_true rfl, Nat.le_of_ble_eq_true rfl⟩) hK hP hD hS hA [] rfl (by decide) (fun _ => rfl) rfl hl.1 rfl (Nat.le_of_ble_eq_true rfl) dL_act_225 ⟨Nat.le_of_ble_eq_true rfl, Nat.le_of_ble_eq_true rfl⟩ (fun v9 u9 H locs hv hP hD hS => ?_)
    subst hv
    have hP : va_P D vwCl (fcW cI cS f0 a s fl c0 c1 n cs b r gl sv ad t f6 k) H := hP
    have hD : va_D A9 (fcW cI cS f0 a s fl c0 c1 n cs b r gl sv ad t f6 k) := hD
    refine W.eq (g2 := F0 m9 228 ls [.int (nI (mk31 (xs (i + 1)) % 2)), .ref f0]) rfl ?_
    refine lv_iload hx hb dL_act_228 (lv_at hl 1 rfl) ?_
    refine lv_sipush (v := nI 900) hx hb dL_act_230 (by decide +kernel) ?_
    refine KM.callS (As := [.int (xs (i + 2)), .int (nI 900)]) (rest := [.int (nI (mk31 (xs (i + 1)) % 2)), .ref f0]) C0 hN (k_L_low l D cI cS cL (xs (i + 2)) 900  (by decide) (by decide)) (va_cwS 2 hts gL_act_L_low rfl rfl rfl (by decide +kernel) ⟨Nat.le_of_ble_eq_true rfl, Nat.le_of_ble_eq_true rfl⟩) hK hP hD hS hA [] rfl (by decide) (fun _ => rfl) rfl hl.1 rfl (Nat.le_of_ble_eq_true rfl) dL_act_233 ⟨Nat.le_of_ble_eq_true rfl, Nat.le_of_ble_eq_true rfl⟩ (fun v9 u9 H locs hv hP hD hS => ?_)
    subst hv
    have hP : va_P D vwCl (fcW cI cS f0 a s fl c0 c1 n cs b r gl sv ad t f6 k) H := hP
    have hD : va_D A9 (fcW cI cS f0 a s fl c0 c1 n cs b r gl sv ad t f6 k) := hD
    refine W.eq (g2 := F0 m9 236 ls [.int (nI (mk31 (xs (i + 2)) % 900)), .int (nI (mk31 (xs (i + 1)) % 2)), .ref f0]) rfl ?_
    have hb9 := hB4 (mk31 (xs (i + 1)) % 2) (by omega)
    refine KM.callVM (As := [.int (nI (mk31 (xs (i + 1)) % 2)), .int (nI (mk31 (xs (i + 2)) % 900))]) (rest := []) (W0 := (fcW cI cS f0 a s fl c0 c1 n cs b r gl sv ad t f6 k)) (ws := (fcW cI cS f0 a s fl c0 c1 n cs b r gl sv ad t f6 k)) (ws' := fun (_ : Unit) => (fcW cI cS f0 a (upN s (3 + (mk31 (xs (i + 1)) % 2)) (mk31 (xs (i + 2)) % 900)) fl c0 c1 n cs b r gl sv (kpA k ad) (kpT k t s) (kpA k f6) (kpK k))) C0 hN (k_X5_pump_ok l D cI cS cL T f0 a s fl c0 c1 n cs b r gl sv ad t f6 k (mk31 (xs (i + 1)) % 2) (mk31 (xs (i + 2)) % 900) hI (by omega) hk hn hcs (by omega) (by omega)) (cwV 2 hts gL_act_X5_pump rfl rfl rfl (by decide +kernel) ⟨Nat.le_of_ble_eq_true rfl, Nat.le_of_ble_eq_true rfl⟩) hK hP hD hS hA (fun _ h => h) (va_D_iff.mp hD).1 (fun _ => fcW_perm (sv_kp cI cS sv ad t f6 (kpT k t s) (kpA k f6) k (kpK k))) (fun _ _ h => Or.inl h) 0 5 rfl rfl rfl rfl hl.1 rfl (Nat.le_of_ble_eq_true rfl) dL_act_236 ⟨Nat.le_of_ble_eq_true rfl, Nat.le_of_ble_eq_true rfl⟩ (fun v9 u9 H locs hv hP hD hS => ?_)
    subst hv
    have hP : va_P D vwCl (fcW cI cS f0 a (upN s (3 + (mk31 (xs (i + 1)) % 2)) (mk31 (xs (i + 2)) % 900)) fl c0 c1 n cs b r gl sv (kpA k ad) (kpT k t s) (kpA k f6) (kpK k)) H := hP
    have hD : va_D A9 (fcW cI cS f0 a (upN s (3 + (mk31 (xs (i + 1)) % 2)) (mk31 (xs (i + 2)) % 900)) fl c0 c1 n cs b r gl sv (kpA k ad) (kpT k t s) (kpA k f6) (kpK k)) := hD
    refine W.eq (g2 := F0 m9 239 ls [.int (nI (liF s (mk31 (xs (i + 1)) % 2)))]) rfl ?_
    exact hret _ _ _ _ (some (.int (nI (liF s (mk31 (xs (i + 1)) % 2))))) (fun i9 => [(fun j9 => [upN s (3 + (mk31 (xs (i + 1)) % 2)) (mk31 (xs (i + 2)) % 900), fl].getD j9 (fun _ => 0)), kpA k ad, kpT k t s, kpA k f6, (fun _ _ => kpK k)].getD i9 (fun _ _ => 0)) 239 ls (by decide) (by decide) (by exact ⟨_, rfl, aP_mut (gI_mut hG (sI_mono (sI_pump (c := 0) (by omega) (by omega) hI) (by omega)) (sJ_upN hG.2.1 (by omega) (by omega) (by omega) (by omega))) (Or.inr (by omega)) (by omega)⟩) hP hD hS (ret_i dL_act_239)
  by_cases c_43_16 : mk31 (xs i) % 20 = 16
  ·
    have hsw : ((nI (mk31 (xs i) % 20))).toInt = 16 := by rw [c_43_16]; decide +kernel
    refine lv_tableIn (off := 197) (tgt := 240) hx hb dL_act_43 (by rw [hsw]; decide) (by rw [hsw]; decide) (by rw [hsw]; rfl) (by decide) ?_
    refine lv_aload_n hx hb dL_act_240 rfl (lv_at hl 3 rfl) ?_
    refine lv_iload hx hb dL_act_241 (lv_at hl 1 rfl) ?_
    refine lv_bipush (v := nI 21) hx hb dL_act_243 (by decide +kernel) ?_
    refine KM.callS (As := [.int (xs (i + 2)), .int (nI 21)]) (rest := [.ref f0]) C0 hN (k_L_low l D cI cS cL (xs (i + 2)) 21  (by decide) (by decide)) (va_cwS 2 hts gL_act_L_low rfl rfl rfl (by decide +kernel) ⟨Nat.le_of_ble_eq_true rfl, Nat.le_of_ble_eq_true rfl⟩) hK hP hD hS hA [] rfl (by decide) (fun _ => rfl) rfl hl.1 rfl (Nat.le_of_ble_eq_true rfl) dL_act_245 ⟨Nat.le_of_ble_eq_true rfl, Nat.le_of_ble_eq_true rfl⟩ (fun v9 u9 H locs hv hP hD hS => ?_)
    subst hv
    have hP : va_P D vwCl (fcW cI cS f0 a s fl c0 c1 n cs b r gl sv ad t f6 k) H := hP
    have hD : va_D A9 (fcW cI cS f0 a s fl c0 c1 n cs b r gl sv ad t f6 k) := hD
    refine W.eq (g2 := F0 m9 248 ls [.int (nI (mk31 (xs (i + 2)) % 21)), .ref f0]) rfl ?_
    refine KM.callVM (As := [.int (nI (mk31 (xs (i + 2)) % 21))]) (rest := []) (W0 := (fcW cI cS f0 a s fl c0 c1 n cs b r gl sv ad t f6 k)) (ws := (fcW cI cS f0 a s fl c0 c1 n cs b r gl sv ad t f6 k)) (ws' := fun (_ : Unit) => (fcW cI cS f0 a (upN s 5 (mk31 (xs (i + 2)) % 21)) fl c0 c1 n cs b r gl sv (kpA k ad) (kpT k t s) (kpA k f6) (kpK k))) C0 hN (k_X5_wind_ok l D cI cS cL T f0 a s fl c0 c1 n cs b r gl sv ad t f6 k (mk31 (xs (i + 2)) % 21) hI (by omega) hk hn hcs (by omega)) (cwV 1 hts gL_act_X5_wind rfl rfl rfl (by decide +kernel) ⟨Nat.le_of_ble_eq_true rfl, Nat.le_of_ble_eq_true rfl⟩) hK hP hD hS hA (fun _ h => h) (va_D_iff.mp hD).1 (fun _ => fcW_perm (sv_kp cI cS sv ad t f6 (kpT k t s) (kpA k f6) k (kpK k))) (fun _ _ h => Or.inl h) 0 5 rfl rfl rfl rfl hl.1 rfl (Nat.le_of_ble_eq_true rfl) dL_act_248 ⟨Nat.le_of_ble_eq_true rfl, Nat.le_of_ble_eq_true rfl⟩ (fun v9 u9 H locs hv hP hD hS => ?_)
    subst hv
    have hP : va_P D vwCl (fcW cI cS f0 a (upN s 5 (mk31 (xs (i + 2)) % 21)) fl c0 c1 n cs b r gl sv (kpA k ad) (kpT k t s) (kpA k f6) (kpK k)) H := hP
    have hD : va_D A9 (fcW cI cS f0 a (upN s 5 (mk31 (xs (i + 2)) % 21)) fl c0 c1 n cs b r gl sv (kpA k ad) (kpT k t s) (kpA k f6) (kpK k)) := hD
    refine W.eq (g2 := F0 m9 251 ls [.int (nI (s 5))]) rfl ?_
    exact hret _ _ _ _ (some (.int (nI (s 5)))) (fun i9 => [(fun j9 => [upN s 5 (mk31 (xs (i + 2)) % 21), fl].getD j9 (fun _ => 0)), kpA k ad, kpT k t s, kpA k f6, (fun _ _ => kpK k)].getD i9 (fun _ _ => 0)) 251 ls (by decide) (by decide) (by exact ⟨_, rfl, aP_mut (gI_mut hG (sI_mono (sI_wind (j := 0) (c := 0) (by omega) hI) (by omega)) (sJ_upN hG.2.1 (by omega) (by omega) (by omega) (by omega))) (Or.inr (by omega)) (by omega)⟩) hP hD hS (ret_i dL_act_251)
  by_cases c_43_17 : mk31 (xs i) % 20 = 17
  ·
    have hsw : ((nI (mk31 (xs i) % 20))).toInt = 17 := by rw [c_43_17]; decide +kernel
    refine lv_tableIn (off := 209) (tgt := 252) hx hb dL_act_43 (by rw [hsw]; decide) (by rw [hsw]; decide) (by rw [hsw]; rfl) (by decide) ?_
    refine lv_iload_n hx hb dL_act_252 rfl (lv_at hl 2 rfl) ?_
    refine lv_iconst (v := nI 2) hx hb dL_act_253 (by decide +kernel) ?_
    refine KM.callS (As := [.int (xs (i + 1)), .int (nI 2)]) (rest := []) C0 hN (k_L_low l D cI cS cL (xs (i + 1)) 2  (by decide) (by decide)) (va_cwS 2 hts gL_act_L_low rfl rfl rfl (by decide +kernel) ⟨Nat.le_of_ble_eq_true rfl, Nat.le_of_ble_eq_true rfl⟩) hK hP hD hS hA [] rfl (by decide) (fun _ => rfl) rfl hl.1 rfl (Nat.le_of_ble_eq_true rfl) dL_act_254 ⟨Nat.le_of_ble_eq_true rfl, Nat.le_of_ble_eq_true rfl⟩ (fun v9 u9 H locs hv hP hD hS => ?_)
    subst hv
    have hP : va_P D vwCl (fcW cI cS f0 a s fl c0 c1 n cs b r gl sv ad t f6 k) H := hP
    have hD : va_D A9 (fcW cI cS f0 a s fl c0 c1 n cs b r gl sv ad t f6 k) := hD
    refine W.eq (g2 := F0 m9 257 ls [.int (nI (mk31 (xs (i + 1)) % 2))]) rfl ?_
    refine q_fne (tgt := 275) (by omega) hx hb dL_act_257 (by decide) (fun c_257 => ?_) (fun c_257 => ?_)
    ·
      refine lv_aload_n hx hb dL_act_275 rfl (lv_at hl 3 rfl) ?_
      refine lv_iconst (v := nI 2) hx hb dL_act_276 (by decide +kernel) ?_
      refine lv_iconst (v := nI 1) hx hb dL_act_277 (by decide +kernel) ?_
      refine lv_iload hx hb dL_act_278 (lv_at hl 1 rfl) ?_
      refine lv_bipush (v := nI 10) hx hb dL_act_280 (by decide +kernel) ?_
      refine KM.callS (As := [.int (xs (i + 2)), .int (nI 10)]) (rest := [.int (nI 1), .int (nI 2), .ref f0]) C0 hN (k_L_low l D cI cS cL (xs (i + 2)) 10  (by decide) (by decide)) (va_cwS 2 hts gL_act_L_low rfl rfl rfl (by decide +kernel) ⟨Nat.le_of_ble_eq_true rfl, Nat.le_of_ble_eq_true rfl⟩) hK hP hD hS hA [] rfl (by decide) (fun _ => rfl) rfl hl.1 rfl (Nat.le_of_ble_eq_true rfl) dL_act_282 ⟨Nat.le_of_ble_eq_true rfl, Nat.le_of_ble_eq_true rfl⟩ (fun v9 u9 H locs hv hP hD hS => ?_)
      subst hv
      have hP : va_P D vwCl (fcW cI cS f0 a s fl c0 c1 n cs b r gl sv ad t f6 k) H := hP
      have hD : va_D A9 (fcW cI cS f0 a s fl c0 c1 n cs b r gl sv ad t f6 k) := hD
      refine W.eq (g2 := F0 m9 285 ls [.int (nI (mk31 (xs (i + 2)) % 10)), .int (nI 1), .int (nI 2), .ref f0]) rfl ?_
      refine q_iadd hx hb dL_act_285 ?_
      refine KX.callVM (As := [.int (nI 2), .int (nI (1 + (mk31 (xs (i + 2)) % 10)))]) (rest := []) (W0 := (fcW cI cS f0 a s fl c0 c1 n cs b r gl sv ad t f6 k)) (ws := (fcW cI cS f0 a s fl c0 c1 n cs b r gl sv ad t f6 k)) (ws' := fun (_ : Unit) => (fcW cI cS f0 a (upN s 2 (1 + (mk31 (xs (i + 2)) % 10))) fl c0 c1 n cs b r gl sv (kpA k ad) (kpT k t s) (kpA k f6) (kpK k))) C0 hN hAm (k_X5_set_ok l D cI cS cL T f0 a s fl c0 c1 n cs b r gl sv ad t f6 k 2 (1 + (mk31 (xs (i + 2)) % 10)) hst hI (by omega) hk hn hcs (by omega) (show 1 ≤ _ by omega) (show _ ≤ 10 by omega)) (cwV 2 hts gL_act_X5_set rfl rfl rfl (by decide +kernel) ⟨Nat.le_of_ble_eq_true rfl, Nat.le_of_ble_eq_true rfl⟩) hK hP hD hS hA (fun _ h => h) (va_D_iff.mp hD).1 (fun _ => fcW_perm (sv_kp cI cS sv ad t f6 (kpT k t s) (kpA k f6) k (kpK k))) (fun _ _ h => Or.inl h) 0 5 rfl rfl rfl rfl hl.1 rfl (Nat.le_of_ble_eq_true rfl) dL_act_286 ⟨Nat.le_of_ble_eq_true rfl, Nat.le_of_ble_eq_true rfl⟩ (fun E ce q9 H locs hE hP hS hq9 hv9 hcl9 => ?_) (fun v9 u9 H locs hv hP hD hS => ?_)
      · exact hE.elim
      ·
        subst hv
        have hP : va_P D vwCl (fcW cI cS f0 a (upN s 2 (1 + (mk31 (xs (i + 2)) % 10))) fl c0 c1 n cs b r gl sv (kpA k ad) (kpT k t s) (kpA k f6) (kpK k)) H := hP
        have hD : va_D A9 (fcW cI cS f0 a (upN s 2 (1 + (mk31 (xs (i + 2)) % 10))) fl c0 c1 n cs b r gl sv (kpA k ad) (kpT k t s) (kpA k f6) (kpK k)) := hD
        refine W.eq (g2 := F0 m9 289 ls [.int (nI (seF s 2))]) rfl ?_
        exact hret _ _ _ _ (some (.int (nI (seF s 2)))) (fun i9 => [(fun j9 => [upN s 2 (1 + (mk31 (xs (i + 2)) % 10)), fl].getD j9 (fun _ => 0)), kpA k ad, kpT k t s, kpA k f6, (fun _ _ => kpK k)].getD i9 (fun _ _ => 0)) 289 ls (by decide) (by decide) (by exact ⟨_, rfl, aP_mut (gI_mut hG (sI_mono (sI_set (c := 0) (by omega) (show 1 ≤ _ by omega) (show _ ≤ 10 by omega) hI) (by omega)) (sJ_upN hG.2.1 (by omega) (by omega) (by omega) (by omega))) (Or.inr (by omega)) (show s 2 < 2 ^ 31 by omega)⟩) hP hD hS (ret_i dL_act_289)
    ·
      refine lv_aload_n hx hb dL_act_260 rfl (lv_at hl 3 rfl) ?_
      refine lv_iconst (v := nI 1) hx hb dL_act_261 (by decide +kernel) ?_
      refine lv_iload hx hb dL_act_262 (lv_at hl 1 rfl) ?_
      refine lv_bipush (v := nI 51) hx hb dL_act_264 (by decide +kernel) ?_
      refine KM.callS (As := [.int (xs (i + 2)), .int (nI 51)]) (rest := [.int (nI 1), .ref f0]) C0 hN (k_L_low l D cI cS cL (xs (i + 2)) 51  (by decide) (by decide)) (va_cwS 2 hts gL_act_L_low rfl rfl rfl (by decide +kernel) ⟨Nat.le_of_ble_eq_true rfl, Nat.le_of_ble_eq_true rfl⟩) hK hP hD hS hA [] rfl (by decide) (fun _ => rfl) rfl hl.1 rfl (Nat.le_of_ble_eq_true rfl) dL_act_266 ⟨Nat.le_of_ble_eq_true rfl, Nat.le_of_ble_eq_true rfl⟩ (fun v9 u9 H locs hv hP hD hS => ?_)
      subst hv
      have hP : va_P D vwCl (fcW cI cS f0 a s fl c0 c1 n cs b r gl sv ad t f6 k) H := hP
      have hD : va_D A9 (fcW cI cS f0 a s fl c0 c1 n cs b r gl sv ad t f6 k) := hD
      refine W.eq (g2 := F0 m9 269 ls [.int (nI (mk31 (xs (i + 2)) % 51)), .int (nI 1), .ref f0]) rfl ?_
      refine KX.callVM (As := [.int (nI 1), .int (nI (mk31 (xs (i + 2)) % 51))]) (rest := []) (W0 := (fcW cI cS f0 a s fl c0 c1 n cs b r gl sv ad t f6 k)) (ws := (fcW cI cS f0 a s fl c0 c1 n cs b r gl sv ad t f6 k)) (ws' := fun (_ : Unit) => (fcW cI cS f0 a (upN s 1 (mk31 (xs (i + 2)) % 51)) fl c0 c1 n cs b r gl sv (kpA k ad) (kpT k t s) (kpA k f6) (kpK k))) C0 hN hAm (k_X5_set_ok l D cI cS cL T f0 a s fl c0 c1 n cs b r gl sv ad t f6 k 1 (mk31 (xs (i + 2)) % 51) hst hI (by omega) hk hn hcs (by omega) (Nat.zero_le _) (show _ ≤ 50 by omega)) (cwV 2 hts gL_act_X5_set rfl rfl rfl (by decide +kernel) ⟨Nat.le_of_ble_eq_true rfl, Nat.le_of_ble_eq_true rfl⟩) hK hP hD hS hA (fun _ h => h) (va_D_iff.mp hD).1 (fun _ => fcW_perm (sv_kp cI cS sv ad t f6 (kpT k t s) (kpA k f6) k (kpK k))) (fun _ _ h => Or.inl h) 0 5 rfl rfl rfl rfl hl.1 rfl (Nat.le_of_ble_eq_true rfl) dL_act_269 ⟨Nat.le_of_ble_eq_true rfl, Nat.le_of_ble_eq_true rfl⟩ (fun E ce q9 H locs hE hP hS hq9 hv9 hcl9 => ?_) (fun v9 u9 H locs hv hP hD hS => ?_)
      · exact hE.elim
      ·
        subst hv
        have hP : va_P D vwCl (fcW cI cS f0 a (upN s 1 (mk31 (xs (i + 2)) % 51)) fl c0 c1 n cs b r gl sv (kpA k ad) (kpT k t s) (kpA k f6) (kpK k)) H := hP
        have hD : va_D A9 (fcW cI cS f0 a (upN s 1 (mk31 (xs (i + 2)) % 51)) fl c0 c1 n cs b r gl sv (kpA k ad) (kpT k t s) (kpA k f6) (kpK k)) := hD
        refine W.eq (g2 := F0 m9 272 ls [.int (nI (seF s 1))]) rfl ?_
        refine lv_goto (tgt := 289) hx hb dL_act_272 (by decide) ?_
        exact hret _ _ _ _ (some (.int (nI (seF s 1)))) (fun i9 => [(fun j9 => [upN s 1 (mk31 (xs (i + 2)) % 51), fl].getD j9 (fun _ => 0)), kpA k ad, kpT k t s, kpA k f6, (fun _ _ => kpK k)].getD i9 (fun _ _ => 0)) 289 ls (by decide) (by decide) (by exact ⟨_, rfl, aP_mut (gI_mut hG (sI_mono (sI_set (c := 0) (by omega) (Nat.zero_le _) (show _ ≤ 50 by omega) hI) (by omega)) (sJ_upN hG.2.1 (by omega) (by omega) (by omega) (by omega))) (Or.inr (by omega)) (show s 1 < 2 ^ 31 by omega)⟩) hP hD hS (ret_i dL_act_289)
  by_cases c_43_18 : mk31 (xs i) % 20 = 18
  ·
    have hsw : ((nI (mk31 (xs i) % 20))).toInt = 18 := by rw [c_43_18]; decide +kernel
    refine lv_tableIn (off := 247) (tgt := 290) hx hb dL_act_43 (by rw [hsw]; decide) (by rw [hsw]; decide) (by rw [hsw]; rfl) (by decide) ?_
    refine lv_aload_n hx hb dL_act_290 rfl (lv_at hl 3 rfl) ?_
    refine lv_iconst (v := nI 1) hx hb dL_act_291 (by decide +kernel) ?_
    refine lv_iload hx hb dL_act_292 (lv_at hl 1 rfl) ?_
    refine lv_sipush (v := nI 9999) hx hb dL_act_294 (by decide +kernel) ?_
    refine KM.callS (As := [.int (xs (i + 2)), .int (nI 9999)]) (rest := [.int (nI 1), .ref f0]) C0 hN (k_L_low l D cI cS cL (xs (i + 2)) 9999  (by decide) (by decide)) (va_cwS 2 hts gL_act_L_low rfl rfl rfl (by decide +kernel) ⟨Nat.le_of_ble_eq_true rfl, Nat.le_of_ble_eq_true rfl⟩) hK hP hD hS hA [] rfl (by decide) (fun _ => rfl) rfl hl.1 rfl (Nat.le_of_ble_eq_true rfl) dL_act_297 ⟨Nat.le_of_ble_eq_true rfl, Nat.le_of_ble_eq_true rfl⟩ (fun v9 u9 H locs hv hP hD hS => ?_)
    subst hv
    have hP : va_P D vwCl (fcW cI cS f0 a s fl c0 c1 n cs b r gl sv ad t f6 k) H := hP
    have hD : va_D A9 (fcW cI cS f0 a s fl c0 c1 n cs b r gl sv ad t f6 k) := hD
    refine W.eq (g2 := F0 m9 300 ls [.int (nI (mk31 (xs (i + 2)) % 9999)), .int (nI 1), .ref f0]) rfl ?_
    refine q_iadd hx hb dL_act_300 ?_
    by_cases hbad : s 6 + (1 + (mk31 (xs (i + 2)) % 9999)) ≤ 99999
    ·
      refine KC.callSM (As := [.ref f0, .int (nI (1 + (mk31 (xs (i + 2)) % 9999)))]) (rest := []) (W0 := (fcW cI cS f0 a s fl c0 c1 n cs b r gl sv ad t f6 k)) (ws := (fcW cI cS f0 a s fl c0 c1 n cs b r gl sv ad t f6 k)) (ws' := fun (_ : Unit) => (fcW cI cS f0 a (upN s 6 (s 6 + (1 + (mk31 (xs (i + 2)) % 9999)))) fl c0 c1 n cs b r gl sv (kpA k ad) (kpT k t s) (kpA k f6) (kpK k))) C0 hN hAm hXN (k_L_fill_ok l D cI cS cL T f0 a s fl c0 c1 n cs b r gl sv ad t f6 k (1 + (mk31 (xs (i + 2)) % 9999)) hst hI (by omega) hk hn hcs (by omega) (by omega) (by omega)) (vx_cwSW 2 hts gL_act_L_fill rfl rfl rfl (by decide +kernel) ⟨Nat.le_of_ble_eq_true rfl, Nat.le_of_ble_eq_true rfl⟩) hK hP hD hS hA (fun _ h => h) (va_D_iff.mp hD).1 (fun _ => fcW_perm (sv_kp cI cS sv ad t f6 (kpT k t s) (kpA k f6) k (kpK k))) (fun _ _ h => Or.inl h) rfl hl.1 rfl (Nat.le_of_ble_eq_true rfl) dL_act_301 ⟨Nat.le_of_ble_eq_true rfl, Nat.le_of_ble_eq_true rfl⟩ (fun v9 u9 H locs hv hP hD hS => ?_)
      subst hv
      have hP : va_P D vwCl (fcW cI cS f0 a (upN s 6 (s 6 + (1 + (mk31 (xs (i + 2)) % 9999)))) fl c0 c1 n cs b r gl sv (kpA k ad) (kpT k t s) (kpA k f6) (kpK k)) H := hP
      have hD : va_D A9 (fcW cI cS f0 a (upN s 6 (s 6 + (1 + (mk31 (xs (i + 2)) % 9999)))) fl c0 c1 n cs b r gl sv (kpA k ad) (kpT k t s) (kpA k f6) (kpK k)) := hD
      refine W.eq (g2 := F0 m9 304 ls [.int (nI (s 6 + (1 + (mk31 (xs (i + 2)) % 9999))))]) rfl ?_
      exact hret _ _ _ _ (some (.int (nI (s 6 + (1 + (mk31 (xs (i + 2)) % 9999)))))) (fun i9 => [(fun j9 => [upN s 6 (s 6 + (1 + (mk31 (xs (i + 2)) % 9999))), fl].getD j9 (fun _ => 0)), kpA k ad, kpT k t s, kpA k f6, (fun _ _ => kpK k)].getD i9 (fun _ _ => 0)) 304 ls (by decide) (by decide) (by exact ⟨_, rfl, aP_mut (gI_mut hG (sI_mono (sI_fill (j := 0) (c := 0) hbad hI) (by omega)) (sJ_upN hG.2.1 (by omega) (by omega) (by omega) (by omega))) (Or.inr (by omega)) (by omega)⟩) hP hD hS (ret_i dL_act_304)
    ·
      refine KC.callSM (As := [.ref f0, .int (nI (1 + (mk31 (xs (i + 2)) % 9999)))]) (rest := []) (W0 := (fcW cI cS f0 a s fl c0 c1 n cs b r gl sv ad t f6 k)) (ws := (fcW cI cS f0 a s fl c0 c1 n cs b r gl sv ad t f6 k)) (ws' := fun (_ : Unit) => (fcW cI cS f0 a s fl c0 c1 n cs b r gl sv ad t f6 k)) C0 hN hAm hXN (k_L_fill_no l D cI cS cL T f0 a s fl c0 c1 n cs b r gl sv ad t f6 k (1 + (mk31 (xs (i + 2)) % 9999)) hst hI (by omega) hk hn hcs (by omega) (by omega) (by omega)) (vx_cwSW 2 hts gL_act_L_fill rfl rfl rfl (by decide +kernel) ⟨Nat.le_of_ble_eq_true rfl, Nat.le_of_ble_eq_true rfl⟩) hK hP hD hS hA (fun _ h => h) (va_D_iff.mp hD).1 (fun _ => fcW_perm (List.Perm.refl _)) (fun _ _ h => Or.inl h) rfl hl.1 rfl (Nat.le_of_ble_eq_true rfl) dL_act_301 ⟨Nat.le_of_ble_eq_true rfl, Nat.le_of_ble_eq_true rfl⟩ (fun v9 u9 H locs hv hP hD hS => ?_)
      subst hv
      have hP : va_P D vwCl (fcW cI cS f0 a s fl c0 c1 n cs b r gl sv ad t f6 k) H := hP
      have hD : va_D A9 (fcW cI cS f0 a s fl c0 c1 n cs b r gl sv ad t f6 k) := hD
      refine W.eq (g2 := F0 m9 304 ls [.int (-3)]) rfl ?_
      exact hret _ _ _ _ (some (.int (-3))) (fun i9 => [(fun j9 => [s, fl].getD j9 (fun _ => 0)), ad, t, f6, (fun _ _ => k)].getD i9 (fun _ _ => 0)) 304 ls (by decide) (by decide) (by exact ⟨_, rfl, aP_no hG (Or.inr (by omega))⟩) hP hD hS (ret_i dL_act_304)
  have hsw : (nI (mk31 (xs i) % 20)).toInt = ((mk31 (xs i) % 20) : Int) := nI_toInt (by omega)
  refine lv_tableOut (tgt := 305) hx hb dL_act_43 (by rw [hsw]; omega) (by decide) ?_
  refine lv_aload_n hx hb dL_act_305 rfl (lv_at hl 3 rfl) ?_
  by_cases hbad : k = 0
  ·
    refine KC.callSM (As := [.ref f0]) (rest := []) (W0 := (fcW cI cS f0 a s fl c0 c1 n cs b r gl sv ad t f6 k)) (ws := (fcW cI cS f0 a s fl c0 c1 n cs b r gl sv ad t f6 k)) (ws' := fun (_ : Unit) => (fcW cI cS f0 a s fl c0 c1 n cs b r gl sv ad t f6 k)) C0 hN hAm hXN (k_L_undo_no l D cI cS cL T f0 a s fl c0 c1 n cs b r gl sv ad t f6 k hst hI (by omega) hk hn hcs hbad) (vx_cwSW 1 hts gL_act_L_undo rfl rfl rfl (by decide +kernel) ⟨Nat.le_of_ble_eq_true rfl, Nat.le_of_ble_eq_true rfl⟩) hK hP hD hS hA (fun _ h => h) (va_D_iff.mp hD).1 (fun _ => fcW_perm (List.Perm.refl _)) (fun _ _ h => Or.inl h) rfl hl.1 rfl (Nat.le_of_ble_eq_true rfl) dL_act_306 ⟨Nat.le_of_ble_eq_true rfl, Nat.le_of_ble_eq_true rfl⟩ (fun v9 u9 H locs hv hP hD hS => ?_)
    subst hv
    have hP : va_P D vwCl (fcW cI cS f0 a s fl c0 c1 n cs b r gl sv ad t f6 k) H := hP
    have hD : va_D A9 (fcW cI cS f0 a s fl c0 c1 n cs b r gl sv ad t f6 k) := hD
    refine W.eq (g2 := F0 m9 309 ls [.int (-3)]) rfl ?_
    exact hret _ _ _ _ (some (.int (-3))) (fun i9 => [(fun j9 => [s, fl].getD j9 (fun _ => 0)), ad, t, f6, (fun _ _ => k)].getD i9 (fun _ _ => 0)) 309 ls (by decide) (by decide) (by exact ⟨_, rfl, aP_no hG (Or.inr (by omega))⟩) hP hD hS (ret_i dL_act_309)
  ·
    refine KC.callSM (As := [.ref f0]) (rest := []) (W0 := (fcW cI cS f0 a s fl c0 c1 n cs b r gl sv ad t f6 k)) (ws := (fcW cI cS f0 a s fl c0 c1 n cs b r gl sv ad t f6 k)) (ws' := fun (_ : Unit) => (fcW cI cS f0 a (t (k - 1)) fl c0 c1 n cs b r gl sv ad t f6 (k - 1))) C0 hN hAm hXN (k_L_undo_ok l D cI cS cL T f0 a s fl c0 c1 n cs b r gl sv ad t f6 k hst hI (by omega) hk hn hcs hbad) (vx_cwSW 1 hts gL_act_L_undo rfl rfl rfl (by decide +kernel) ⟨Nat.le_of_ble_eq_true rfl, Nat.le_of_ble_eq_true rfl⟩) hK hP hD hS hA (fun _ h => h) (va_D_iff.mp hD).1 (fun _ => fcW_perm (List.Perm.refl _)) (fun _ _ h => Or.inl h) rfl hl.1 rfl (Nat.le_of_ble_eq_true rfl) dL_act_306 ⟨Nat.le_of_ble_eq_true rfl, Nat.le_of_ble_eq_true rfl⟩ (fun v9 u9 H locs hv hP hD hS => ?_)
    subst hv
    have hP : va_P D vwCl (fcW cI cS f0 a (t (k - 1)) fl c0 c1 n cs b r gl sv ad t f6 (k - 1)) H := hP
    have hD : va_D A9 (fcW cI cS f0 a (t (k - 1)) fl c0 c1 n cs b r gl sv ad t f6 (k - 1)) := hD
    refine W.eq (g2 := F0 m9 309 ls [.int (nI (k - 1))]) rfl ?_
    exact hret _ _ _ _ (some (.int (nI (k - 1)))) (fun i9 => [(fun j9 => [t (k - 1), fl].getD j9 (fun _ => 0)), ad, t, f6, (fun _ _ => k - 1)].getD i9 (fun _ _ => 0)) 309 ls (by decide) (by decide) (by exact ⟨_, rfl, aP_mut (gI_undo hG hbad) (Or.inr (by omega)) (by omega)⟩) hP hD hS (ret_i dL_act_309)
