theorem cL_eq {D : va_G} {s : State} {cI cS cL cA : ClassId} (hK : va_K D vwCl (TY cI cS cL ++ [(cA, .long)]) s) : cA = cL := by
  have h1 := (hK.2 2 (cL, .long) rfl).2
  have h2 := (hK.2 3 (cA, .long) rfl).2
  have e1 : s.vm.findClass ("[" ++ FieldType.long.toString) = some cL := h1
  have e2 : s.vm.findClass ("[" ++ FieldType.long.toString) = some cA := h2
  rw [e1] at e2
  exact (Option.some.inj e2).symm
section KNEWL
variable {p : Program} {l : Launch} {e : Env} {R : Room} {s : State} {m : MethodId} {args : Array Value} {below : List Frame} {meth : Method} {c : Code} {H : Heap} {locs : List Loc} {cells slots : Nat} {Q : State → Prop}
variable {pc : Nat} {ls : Array Slot} {rest : List Value} {cc : ByteArray} {D : va_G} {ws : va_W} {A : Nat → Prop} {H0 : Heap} {cI cS cL : ClassId}
theorem q_newL (hx : p.tables.exec = Jvm.exec) (hb : c.code = cc) (harr : (Cond.arrayClass .long).before args s = true) (hK : va_K D vwCl (TY cI cS cL) s) (hP : va_P D vwCl ws H) (hD : va_D A ws) (hS : va_S A H0 H locs) (hA : ∀ q, H0.size ≤ q → A q) (hcells : cells + 1 ≤ R.cells) (hslots : slots + 1 ≤ R.slots) (hdg : decode cc pc = .ok (.newarray .long, 2))
    (kk : ∀ (q : Nat) (H1 : Heap), va_P D vwCl (ws ++ [(q, .inl (cL, 1, .inr (.inl (lo 0))))]) H1 → va_D A (ws ++ [(q, .inl (cL, 1, .inr (.inl (lo 0))))]) → va_S A H0 H1 locs → W p l e R s m args below meth c H1 locs (cells + 1) (slots + 1) Q (F0 m (pc + 2) ls (.ref q :: rest))) : W p l e R s m args below meth c H locs cells slots Q (F0 m pc ls (.int (nI 1) :: rest)) := by
  refine va_newa (atype := .long) (ty := .long) (a0 := (1, .inr (.inl (lo 0)))) (N' := 1) hx hb harr rfl hK hP hD hS hA (fun cA => ?_) (nI_pos (by omega)) (nI_clamp (by omega)) (Nat.le_of_ble_eq_true rfl) hcells hslots hdg (fun q cA H1 hK1 hP1 hD1 hS1 => ?_)
  · rw [vp_cell_l, ← lo_0]; rfl
  · have e := cL_eq hK1
    subst e
    exact kk q H1 hP1 hD1 hS1
end KNEWL
theorem beg_perm {o x0 : Nat × va_E} {F X : va_W} : (([o] ++ F) ++ (x0 :: X)).Perm (((x0 :: F) ++ X) ++ [o]) := by
  show (o :: (F ++ x0 :: X)).Perm _
  exact (List.Perm.cons o List.perm_middle).trans (List.perm_append_singleton o ((x0 :: F) ++ X)).symm
theorem end_perm {x0 : Nat × va_E} {F : va_W} : (x0 :: F).Perm (F ++ [x0]) := (List.perm_append_singleton x0 F).symm
set_option maxHeartbeats 4000000 in
set_option maxRecDepth 100000 in
theorem law_begin {p9 : Program} {l : Launch} {e9 : Env} {s9 : State} {m9 : MethodId} {ar9 : Array Value} {be9 : List Frame} {me9 : Method} {c9 : Code} {Q9 : State → Prop} {A9 : Nat → Prop} {D : va_G} {cI cS cL : ClassId} (hst : l.stackTraces = false) (C0 : CallFix p9 m9 c9 cL_law 9 s9 ar9 wsL_law RL) (hN : NST s9) (hAm : AMB A9 s9 s9.heap) (hXN : XN s9) (hK : va_K D vwCl (TY cI cS cL) s9) (hA : ∀ q, s9.heap.size ≤ q → A9 q) {b0 L : Nat} {xs : Nat → Int32} (hX : va_X b0 L xs s9 s9.heap) (hbl : b0 < s9.heap.size) (hbA : ¬ A9 b0) (hL : L ≤ 2048) (hQ : ∀ (H : Heap) (locs : List Loc) (ls : Array Slot) (ce sl : Nat), va_S A9 s9.heap H locs → ls.size = 9 → ce ≤ 500000 → sl ≤ 7000000 → W p9 l e9 room_1 s9 m9 ar9 be9 me9 c9 H locs ce sl Q9 (F0 m9 1601 ls [.int 1])) {ls : Array Slot} (hl : lv_has ls 9 [(0, .ref b0)]) : W p9 l e9 room_1 s9 m9 ar9 be9 me9 c9 s9.heap [] 0 0 Q9 (F0 m9 0 ls []) := by
  obtain ⟨hx, hb, hml, hown, hts⟩ := id C0
  have hP : va_P D vwCl [] s9.heap := fun k q h => by simp at h
  have hD : va_D A9 [] := ⟨fun i j p q h => by simp at h, fun k q h => by simp at h⟩
  have hS : va_S A9 s9.heap s9.heap [] := va_S.rf
  refine va_new (ci := 5) (fs := [.null, .null, .null, .null]) (C := RX5) (T := TX5) (N := 4) hx hb hts inlX5 tyX5 tyX5_ok hown (hts (.classLink RL 8 RX5) (by decide +kernel)) (hts (.instantiable RX5 4) (by decide +kernel)) (hts (.initialized RX5) (by decide +kernel)) hK hP hD hS hA rfl (fun j hj => by rcases (show j = 0 ∨ j = 1 ∨ j = 2 ∨ j = 3 by omega) with rfl | rfl | rfl | rfl <;> rfl) (Nat.le_of_ble_eq_true rfl) (Nat.le_of_ble_eq_true rfl) dL_law_0 (fun q1 H hP hD hS => ?_)
  have hP : va_P D vwCl [(q1, .inr (5, [.null, .null, .null, .null]))] H := hP
  have hD : va_D A9 [(q1, .inr (5, [.null, .null, .null, .null]))] := hD
  refine lv_dup hx hb dL_law_3 rfl ?_
  refine KM.callIA (As := []) (rest := [.ref q1]) C0 hN (k_X5_init l D cI cS cL q1) (cwI 0 hts gL_law_X5_init rfl rfl rfl (hts (.initialized RX5) (by decide +kernel)) (hts (.methodLink RL 82 yX5_init) (by decide +kernel)) (hts (.instanceMethod yX5_init) (by decide +kernel)) rfl (by decide +kernel) ⟨Nat.le_of_ble_eq_true rfl, Nat.le_of_ble_eq_true rfl⟩) hK hP hD hS hA [0] rfl (by decide) (fun _ => Nat.le_of_ble_eq_true rfl) rfl hl.1 rfl (Nat.le_of_ble_eq_true rfl) dL_law_4 ⟨Nat.le_of_ble_eq_true rfl, Nat.le_of_ble_eq_true rfl⟩ (fun v9 u9 H locs hv hP hD hS => ?_)
  have hv : v9 = none := hv
  subst hv
  have hP : va_P D vwCl (fcW cI cS q1 (u9 0) i0 (fun _ => 0) (u9 9 1) (u9 9 2) 0 (fun _ => 0) (u9 1) i0 (fun _ => 0) (u9 9 0) (fun i => u9 (i + 2)) (fun _ => i0) (fun _ _ => 0) 0) H := hP
  have hD : va_D A9 (fcW cI cS q1 (u9 0) i0 (fun _ => 0) (u9 9 1) (u9 9 2) 0 (fun _ => 0) (u9 1) i0 (fun _ => 0) (u9 9 0) (fun i => u9 (i + 2)) (fun _ => i0) (fun _ _ => 0) 0) := hD
  refine W.eq (g2 := F0 m9 7 ls [.ref q1]) rfl ?_
  refine lv_astore_n (lv' := [(1, .ref q1), (0, .ref b0)]) hx hb dL_law_7 rfl hl (by decide) rfl (fun ls hl => ?_)
  refine va_new (ci := 6) (fs := [.null, .null, .null, .int (nI 0), .null, .int (nI 0), .int (nI 0), .int (nI 0), .int (nI 0), .int (nI 0), .null, .int (nI 0), .int (nI 0), .int (nI 0)]) (C := RX6) (T := TX6) (N := 14) hx hb hts inlX6 tyX6 tyX6_ok hown (hts (.classLink RL 83 RX6) (by decide +kernel)) (hts (.instantiable RX6 14) (by decide +kernel)) (hts (.initialized RX6) (by decide +kernel)) hK hP hD hS hA rfl (fun j hj => by rcases (show j = 0 ∨ j = 1 ∨ j = 2 ∨ j = 3 ∨ j = 4 ∨ j = 5 ∨ j = 6 ∨ j = 7 ∨ j = 8 ∨ j = 9 ∨ j = 10 ∨ j = 11 ∨ j = 12 ∨ j = 13 by omega) with rfl | rfl | rfl | rfl | rfl | rfl | rfl | rfl | rfl | rfl | rfl | rfl | rfl | rfl <;> rfl) (Nat.le_of_ble_eq_true rfl) (Nat.le_of_ble_eq_true rfl) dL_law_8 (fun q2 H hP hD hS => ?_)
  have hP : va_P D vwCl ((q2, .inr (6, [.null, .null, .null, .int (nI 0), .null, .int (nI 0), .int (nI 0), .int (nI 0), .int (nI 0), .int (nI 0), .null, .int (nI 0), .int (nI 0), .int (nI 0)])) :: (fcW cI cS q1 (u9 0) i0 (fun _ => 0) (u9 9 1) (u9 9 2) 0 (fun _ => 0) (u9 1) i0 (fun _ => 0) (u9 9 0) (fun i => u9 (i + 2)) (fun _ => i0) (fun _ _ => 0) 0)) H := perm_P end_perm hP
  have hD : va_D A9 ((q2, .inr (6, [.null, .null, .null, .int (nI 0), .null, .int (nI 0), .int (nI 0), .int (nI 0), .int (nI 0), .int (nI 0), .null, .int (nI 0), .int (nI 0), .int (nI 0)])) :: (fcW cI cS q1 (u9 0) i0 (fun _ => 0) (u9 9 1) (u9 9 2) 0 (fun _ => 0) (u9 1) i0 (fun _ => 0) (u9 9 0) (fun i => u9 (i + 2)) (fun _ => i0) (fun _ _ => 0) 0)) := perm_D end_perm hD
  refine lv_dup hx hb dL_law_11 rfl ?_
  refine KM.callIA (As := []) (rest := [.ref q2]) C0 hN (k_X6_init l D cI cS cL q2) (cwI 0 hts gL_law_X6_init rfl rfl rfl (hts (.initialized RX6) (by decide +kernel)) (hts (.methodLink RL 85 yX6_init) (by decide +kernel)) (hts (.instanceMethod yX6_init) (by decide +kernel)) rfl (by decide +kernel) ⟨Nat.le_of_ble_eq_true rfl, Nat.le_of_ble_eq_true rfl⟩) hK hP hD hS hA [0] rfl (by decide) (fun _ => Nat.le_of_ble_eq_true rfl) rfl hl.1 rfl (Nat.le_of_ble_eq_true rfl) dL_law_12 ⟨Nat.le_of_ble_eq_true rfl, Nat.le_of_ble_eq_true rfl⟩ (fun v9 u6 H locs hv hP hD hS => ?_)
  obtain ⟨hc, hv⟩ := hv
  subst hv
  have hc : u6 0 = q2 := hc
  subst hc
  have hP : va_P D vwCl ((((u6 0), .inr (6, [.ref (u6 1), .ref (u6 2), .ref (u6 3), .int (nI 0), .ref (u6 4), .int (nI 0), .int (nI 0), .int (nI 0), .int (nI 0), .int (nI 0), .ref (u6 5), .int (nI 0), .int (nI 0), .int (nI 0)])) :: (fcW cI cS q1 (u9 0) i0 (fun _ => 0) (u9 9 1) (u9 9 2) 0 (fun _ => 0) (u9 1) i0 (fun _ => 0) (u9 9 0) (fun i => u9 (i + 2)) (fun _ => i0) (fun _ _ => 0) 0)) ++ [((u6 1), .inl (cI, 118, .inl (ro 118 i0))), ((u6 2), .inl (cI, 118, .inl (ro 118 (fun _ => 0)))), ((u6 3), .inl (cI, 708, .inl (ro 708 (pkF (fun _ _ => 0))))), ((u6 4), .inl (cI, 60, .inl (ro 60 (fun _ => 0)))), ((u6 5), .inl (cI, 48, .inl (ro 48 (fun _ => 0))))]) H := hP
  have hD : va_D A9 ((((u6 0), .inr (6, [.ref (u6 1), .ref (u6 2), .ref (u6 3), .int (nI 0), .ref (u6 4), .int (nI 0), .int (nI 0), .int (nI 0), .int (nI 0), .int (nI 0), .ref (u6 5), .int (nI 0), .int (nI 0), .int (nI 0)])) :: (fcW cI cS q1 (u9 0) i0 (fun _ => 0) (u9 9 1) (u9 9 2) 0 (fun _ => 0) (u9 1) i0 (fun _ => 0) (u9 9 0) (fun i => u9 (i + 2)) (fun _ => i0) (fun _ _ => 0) 0)) ++ [((u6 1), .inl (cI, 118, .inl (ro 118 i0))), ((u6 2), .inl (cI, 118, .inl (ro 118 (fun _ => 0)))), ((u6 3), .inl (cI, 708, .inl (ro 708 (pkF (fun _ _ => 0))))), ((u6 4), .inl (cI, 60, .inl (ro 60 (fun _ => 0)))), ((u6 5), .inl (cI, 48, .inl (ro 48 (fun _ => 0))))]) := hD
  refine W.eq (g2 := F0 m9 15 ls [.ref (u6 0)]) rfl ?_
  refine lv_astore_n (lv' := [(2, .ref (u6 0)), (1, .ref q1), (0, .ref b0)]) hx hb dL_law_15 rfl hl (by decide) rfl (fun ls hl => ?_)
  refine lv_iconst (v := nI 1) hx hb dL_law_16 (by decide +kernel) ?_
  refine q_newL hx hb (hts (.arrayClass .long) (by decide +kernel)) hK hP hD hS hA (Nat.le_of_ble_eq_true rfl) (Nat.le_of_ble_eq_true rfl) dL_law_17 (fun q3 H hP hD hS => ?_)
  have hP : va_P D vwCl (([(q3, .inl (cL, 1, .inr (.inl (lo 0))))] ++ (fcW cI cS q1 (u9 0) i0 (fun _ => 0) (u9 9 1) (u9 9 2) 0 (fun _ => 0) (u9 1) i0 (fun _ => 0) (u9 9 0) (fun i => u9 (i + 2)) (fun _ => i0) (fun _ _ => 0) 0)) ++ [((u6 0), .inr (6, [.ref (u6 1), .ref (u6 2), .ref (u6 3), .int (nI 0), .ref (u6 4), .int (nI 0), .int (nI 0), .int (nI 0), .int (nI 0), .int (nI 0), .ref (u6 5), .int (nI 0), .int (nI 0), .int (nI 0)])), ((u6 1), .inl (cI, 118, .inl (ro 118 i0))), ((u6 2), .inl (cI, 118, .inl (ro 118 (fun _ => 0)))), ((u6 3), .inl (cI, 708, .inl (ro 708 (pkF (fun _ _ => 0))))), ((u6 4), .inl (cI, 60, .inl (ro 60 (fun _ => 0)))), ((u6 5), .inl (cI, 48, .inl (ro 48 (fun _ => 0))))]) H := perm_P beg_perm hP
  have hD : va_D A9 (([(q3, .inl (cL, 1, .inr (.inl (lo 0))))] ++ (fcW cI cS q1 (u9 0) i0 (fun _ => 0) (u9 9 1) (u9 9 2) 0 (fun _ => 0) (u9 1) i0 (fun _ => 0) (u9 9 0) (fun i => u9 (i + 2)) (fun _ => i0) (fun _ _ => 0) 0)) ++ [((u6 0), .inr (6, [.ref (u6 1), .ref (u6 2), .ref (u6 3), .int (nI 0), .ref (u6 4), .int (nI 0), .int (nI 0), .int (nI 0), .int (nI 0), .int (nI 0), .ref (u6 5), .int (nI 0), .int (nI 0), .int (nI 0)])), ((u6 1), .inl (cI, 118, .inl (ro 118 i0))), ((u6 2), .inl (cI, 118, .inl (ro 118 (fun _ => 0)))), ((u6 3), .inl (cI, 708, .inl (ro 708 (pkF (fun _ _ => 0))))), ((u6 4), .inl (cI, 60, .inl (ro 60 (fun _ => 0)))), ((u6 5), .inl (cI, 48, .inl (ro 48 (fun _ => 0))))]) := perm_D beg_perm hD
  refine lv_astore_n (lv' := [(3, .ref q3), (2, .ref (u6 0)), (1, .ref q1), (0, .ref b0)]) hx hb dL_law_19 rfl hl (by decide) rfl (fun ls hl => ?_)
  refine lv_iconst (v := nI 0) hx hb dL_law_20 (by decide +kernel) ?_
  refine lv_istore (lv' := [(4, .int (nI 0)), (3, .ref q3), (2, .ref (u6 0)), (1, .ref q1), (0, .ref b0)]) hx hb dL_law_21 hl (by decide) rfl (fun ls hl => ?_)
  exact law_loop hst C0 hN hAm hXN hK hA hX hbl hbA hL hQ 2053 0 0 _ _ _ _ _ ⟨q1, (u9 0), i0, (fun _ => 0), (u9 9 1), (u9 9 2), 0, (fun _ => 0), (u9 1), i0, (fun _ => 0), (u9 9 0), (fun i => u9 (i + 2)), (fun _ => i0), (fun _ _ => 0), 0, (u6 0), (u6 1), (u6 2), (u6 3), (u6 4), (u6 5), 0, 0, 0, 0, 0, 0, 0, (fun _ => 0), (fun _ => 0), q3, 0, (fun _ _ => 0), sI_i0, Nat.zero_le 6, Nat.zero_le 60, fun j hj => absurd hj (Nat.not_lt_zero j), fun j hj => absurd hj (Nat.not_lt_zero j), fun j hj => absurd hj (Nat.not_lt_zero j), hP, hD, hS, lv_sub hl [4, 3, 2, 1, 0] rfl⟩ (Nat.zero_le _) rfl (by exact Nat.le_of_ble_eq_true rfl) (by exact Nat.le_of_ble_eq_true rfl) rfl (Nat.le_of_ble_eq_true rfl)
