set_option maxHeartbeats 4000000 in
set_option maxRecDepth 100000 in
theorem law_loop {p9 : Program} {l : Launch} {e9 : Env} {s9 : State} {m9 : MethodId} {ar9 : Array Value} {be9 : List Frame} {me9 : Method} {c9 : Code} {Q9 : State → Prop} {A9 : Nat → Prop} {D : va_G} {cI cS cL : ClassId} (hst : l.stackTraces = false) (C0 : CallFix p9 m9 c9 cL_law 19 s9 ar9 wsL_law RL) (hN : NST s9) (hAm : AMB A9 s9 s9.heap) (hXN : XN s9) (hK : va_K D vwCl (TY cI cS cL) s9) (hA : ∀ q, s9.heap.size ≤ q → A9 q) {b0 L : Nat} {xs : Nat → Int32} (hSX : SX b0 L xs A9 s9) (hL : L ≤ 260) {nt : Nat} (hnt : 3 * nt ≤ L) (hnt2 : nt ≤ 44) (hQ : ∀ (H : Heap) (locs : List Loc) (ls : Array Slot) (ce sl : Nat), va_S A9 s9.heap H locs → ls.size = 19 → ce ≤ 500000 → sl ≤ 7000000 → W p9 l e9 room_1 s9 m9 ar9 be9 me9 c9 H locs ce sl Q9 (F0 m9 399 ls [.int (nI 1)])) : ∀ (fuel i ce sl : Nat) (H : Heap) (locs : List Loc) (ls : Array Slot), LI D cI cS cL A9 s9 b0 nt i H locs ls → i ≤ nt → ce ≤ 1000 + i → sl ≤ 5000 + 6 * i → nt - i < fuel → W p9 l e9 room_1 s9 m9 ar9 be9 me9 c9 H locs ce sl Q9 (F0 m9 32 ls []) := by
  intro fuel
  induction fuel with
  | zero => intro i ce sl H locs ls _ _ _ _ h; exact absurd h (Nat.not_lt_zero _)
  | succ fuel ih =>
    intro i ce sl H locs ls hLI hi hce hsl hfu
    obtain ⟨hx, hb, hml, hown, hts⟩ := id C0
    have hLI2 := hLI
    obtain ⟨f0, a, s, fl, c0, c1, n, cs, b, r, gl, sv, ad, t, f6, k, hG, hn, hcs, hP, hD, hS, hl⟩ := hLI2
    refine lv_iload hx hb dL_law_32 (lv_at hl 4 rfl) ?_
    refine lv_iload_n hx hb dL_law_34 rfl (lv_at hl 3 rfl) ?_
    refine q_ige (tgt := 398) (by omega) (by omega) hx hb dL_law_35 (by decide) (fun c_35 => ?_) (fun c_35 => ?_)
    · refine lv_iload_n hx hb dL_law_398 rfl (lv_at hl 2 rfl) ?_
      exact hQ H locs ls ce sl hS hl.1 (by omega) (by omega)
    · refine lv_iload_n hx hb dL_law_38 rfl (lv_at hl 2 rfl) ?_
      refine q_feq (tgt := 398) (by omega) hx hb dL_law_39 (by decide) (fun c_39 => absurd c_39 (by omega)) (fun _ => ?_)
      exact law_turn hst C0 hN hAm hXN hK hA hSX hL c_35 hnt hnt2 (by omega) (by omega) (fun H locs ls ce2 sl2 h h1 h2 => ih (i + 1) ce2 sl2 H locs ls h (by omega) (by omega) (by omega) (by omega)) H locs ls hLI
set_option maxHeartbeats 4000000 in
set_option maxRecDepth 100000 in
theorem law_begin {p9 : Program} {l : Launch} {e9 : Env} {s9 : State} {m9 : MethodId} {ar9 : Array Value} {be9 : List Frame} {me9 : Method} {c9 : Code} {Q9 : State → Prop} {A9 : Nat → Prop} {D : va_G} {cI cS cL : ClassId} (hst : l.stackTraces = false) (C0 : CallFix p9 m9 c9 cL_law 19 s9 ar9 wsL_law RL) (hN : NST s9) (hAm : AMB A9 s9 s9.heap) (hXN : XN s9) (hK : va_K D vwCl (TY cI cS cL) s9) (hA : ∀ q, s9.heap.size ≤ q → A9 q) {b0 L : Nat} {xs : Nat → Int32} (hSX : SX b0 L xs A9 s9) (hL : L ≤ 260) (hQ : ∀ (H : Heap) (locs : List Loc) (ls : Array Slot) (ce sl : Nat), va_S A9 s9.heap H locs → ls.size = 19 → ce ≤ 500000 → sl ≤ 7000000 → W p9 l e9 room_1 s9 m9 ar9 be9 me9 c9 H locs ce sl Q9 (F0 m9 399 ls [.int (nI 1)])) {ls : Array Slot} (hl : lv_has ls 19 [(0, .ref b0)]) : W p9 l e9 room_1 s9 m9 ar9 be9 me9 c9 s9.heap [] 0 0 Q9 (F0 m9 0 ls []) := by
  obtain ⟨hx, hb, hml, hown, hts⟩ := id C0
  obtain ⟨hX, hbl, hbA⟩ := id hSX
  have hP : va_P D vwCl [] s9.heap := fun k q h => by simp at h
  have hD : va_D A9 [] := ⟨fun i j p q h => by simp at h, fun k q h => by simp at h⟩
  have hS : va_S A9 s9.heap s9.heap [] := va_S.rf
  refine va_new (ci := 5) (fs := [.null, .null, .null, .null]) (C := RX5) (T := TX5) (N := 4) hx hb hts inlX5 tyX5 tyX5_ok hown (hts (.classLink RL 10 RX5) (by decide +kernel)) (hts (.instantiable RX5 4) (by decide +kernel)) (hts (.initialized RX5) (by decide +kernel)) hK hP hD hS hA rfl (fun j hj => by rcases (show j = 0 ∨ j = 1 ∨ j = 2 ∨ j = 3 by omega) with rfl | rfl | rfl | rfl <;> rfl) (Nat.le_of_ble_eq_true rfl) (Nat.le_of_ble_eq_true rfl) dL_law_0 (fun q1 H hP hD hS => ?_)
  have hP : va_P D vwCl [(q1, .inr (5, [.null, .null, .null, .null]))] H := hP
  have hD : va_D A9 [(q1, .inr (5, [.null, .null, .null, .null]))] := hD
  refine lv_dup hx hb dL_law_3 rfl ?_
  refine KM.callIA (As := []) (rest := [.ref q1]) C0 hN (k_X5_init l D cI cS cL q1) (cwI 0 hts gL_law_X5_init rfl rfl rfl (hts (.initialized RX5) (by decide +kernel)) (hts (.methodLink RL 89 yX5_init) (by decide +kernel)) (hts (.instanceMethod yX5_init) (by decide +kernel)) rfl (by decide +kernel) ⟨Nat.le_of_ble_eq_true rfl, Nat.le_of_ble_eq_true rfl⟩) hK hP hD hS hA [0] rfl (by decide) (fun _ => Nat.le_of_ble_eq_true rfl) rfl hl.1 rfl (Nat.le_of_ble_eq_true rfl) dL_law_4 ⟨Nat.le_of_ble_eq_true rfl, Nat.le_of_ble_eq_true rfl⟩ (fun v9 u9 H locs hv hP hD hS => ?_)
  have hv : v9 = none := hv
  subst hv
  have hP : va_P D vwCl (fcW cI cS q1 (u9 0) i0 (fun _ => 0) (u9 9 1) (u9 9 2) 0 (fun _ => 0) (u9 1) i0 (fun _ => 0) (u9 9 0) (fun i => u9 (i + 2)) (fun _ => i0) (fun _ _ => 0) 0) H := hP
  have hD : va_D A9 (fcW cI cS q1 (u9 0) i0 (fun _ => 0) (u9 9 1) (u9 9 2) 0 (fun _ => 0) (u9 1) i0 (fun _ => 0) (u9 9 0) (fun i => u9 (i + 2)) (fun _ => i0) (fun _ _ => 0) 0) := hD
  refine W.eq (g2 := F0 m9 7 ls [.ref q1]) rfl ?_
  refine lv_astore_n (lv' := [(1, .ref q1), (0, .ref b0)]) hx hb dL_law_7 rfl hl (by decide) rfl (fun ls hl => ?_)
  refine lv_iconst (v := nI 1) hx hb dL_law_8 (by decide +kernel) ?_
  refine lv_istore_n (lv' := [(2, .int (nI 1)), (1, .ref q1), (0, .ref b0)]) hx hb dL_law_9 rfl hl (by decide) rfl (fun ls hl => ?_)
  refine W.widen (k := 200) (n := 2000) (Nat.le_of_ble_eq_true rfl) (Nat.le_of_ble_eq_true rfl) ?_
  have h28 : ∀ nt : Nat, 3 * nt ≤ L → nt ≤ 44 → W p9 l e9 room_1 s9 m9 ar9 be9 me9 c9 H locs 200 2000 Q9 (F0 m9 28 ls [.int (nI nt)]) := by
    intro nt hn1 hn2
    refine lv_istore_n (lv' := [(3, .int (nI nt)), (2, .int (nI 1)), (1, .ref q1), (0, .ref b0)]) hx hb dL_law_28 rfl hl (by decide) rfl (fun ls hl => ?_)
    refine lv_iconst (v := nI 0) hx hb dL_law_29 (by decide +kernel) ?_
    refine lv_istore (lv' := [(4, .int (nI 0)), (3, .int (nI nt)), (2, .int (nI 1)), (1, .ref q1), (0, .ref b0)]) hx hb dL_law_30 hl (by decide) rfl (fun ls hl => ?_)
    exact law_loop hst C0 hN hAm hXN hK hA hSX hL hn1 hn2 hQ 45 0 _ _ _ _ _ ⟨q1, (u9 0), i0, (fun _ => 0), (u9 9 1), (u9 9 2), 0, (fun _ => 0), (u9 1), i0, (fun _ => 0), (u9 9 0), (fun i => u9 (i + 2)), (fun _ => i0), (fun _ _ => 0), 0, ⟨sI_i0, sJ_i0, Nat.zero_le 6, fun i hi => absurd hi (Nat.not_lt_zero i)⟩, Nat.zero_le 60, fun j hj => absurd hj (Nat.not_lt_zero j), hP, hD, hS, lv_sub hl [4, 3, 2, 1, 0] rfl⟩ (Nat.zero_le _) (by omega) (by omega) (by omega)
  refine lv_aload_n hx hb dL_law_10 rfl (lv_at hl 2 rfl) ?_
  refine va_slen hx hb hX hbl hbA hS dL_law_11 ?_
  refine W.eq (g2 := F0 m9 12 ls [.int (nI L)]) rfl ?_
  refine lv_iconst (v := nI 3) hx hb dL_law_12 (by decide +kernel) ?_
  refine q_idiv (by omega) (by omega) (by omega) hx hb dL_law_13 ?_
  refine lv_bipush (v := nI 44) hx hb dL_law_14 (by decide +kernel) ?_
  refine q_ile (tgt := 24) (by omega) (by omega) hx hb dL_law_16 (by decide) (fun c_16 => ?_) (fun c_16 => ?_)
  · refine lv_aload_n hx hb dL_law_24 rfl (lv_at hl 2 rfl) ?_
    refine va_slen hx hb hX hbl hbA hS dL_law_25 ?_
    refine W.eq (g2 := F0 m9 26 ls [.int (nI L)]) rfl ?_
    refine lv_iconst (v := nI 3) hx hb dL_law_26 (by decide +kernel) ?_
    refine q_idiv (by omega) (by omega) (by omega) hx hb dL_law_27 ?_
    exact h28 (L / 3) (by omega) (by omega)
  · refine lv_bipush (v := nI 44) hx hb dL_law_19 (by decide +kernel) ?_
    refine lv_goto (tgt := 28) hx hb dL_law_21 (by decide) ?_
    exact h28 44 (by omega) (by omega)
