def LI (D : va_G) (cI cS cL : ClassId) (A9 : Nat → Prop) (s9 : State) (b0 nt i : Nat) (H : Heap) (locs : List Loc) (ls : Array Slot) : Prop := ∃ (f0 : Nat), ∃ (a : Nat → Nat), ∃ (s : Nat → Nat), ∃ (fl : Nat → Nat), ∃ (c0 : Nat), ∃ (c1 : Nat), ∃ (n : Nat), ∃ (cs : Nat → Nat), ∃ (b : Nat → Nat), ∃ (r : Nat → Nat), ∃ (gl : Nat → Nat), ∃ (sv : Nat), ∃ (ad : Nat → Nat → Nat), ∃ (t : Nat → Nat → Nat), ∃ (f6 : Nat → Nat → Nat), ∃ (k : Nat), (gI (9 * i) s t k) ∧ (n ≤ 60) ∧ (∀ j, j < n → cs j < 2 ^ 31) ∧ va_P D vwCl (fcW cI cS f0 a s fl c0 c1 n cs b r gl sv ad t f6 k) H ∧ va_D A9 (fcW cI cS f0 a s fl c0 c1 n cs b r gl sv ad t f6 k) ∧ va_S A9 s9.heap H locs ∧ lv_has ls 19 [(0, .ref b0), (1, .ref f0), (2, .int (nI 1)), (3, .int (nI nt)), (4, .int (nI i))]
set_option maxHeartbeats 4000000 in
set_option maxRecDepth 100000 in
theorem law_turn {p9 : Program} {l : Launch} {e9 : Env} {s9 : State} {m9 : MethodId} {ar9 : Array Value} {be9 : List Frame} {me9 : Method} {c9 : Code} {Q9 : State → Prop} {A9 : Nat → Prop} {D : va_G} {cI cS cL : ClassId} (hst : l.stackTraces = false) (C0 : CallFix p9 m9 c9 cL_law 19 s9 ar9 wsL_law RL) (hN : NST s9) (hAm : AMB A9 s9 s9.heap) (hXN : XN s9) (hK : va_K D vwCl (TY cI cS cL) s9) (hA : ∀ q, s9.heap.size ≤ q → A9 q) {b0 L : Nat} {xs : Nat → Int32} (hSX : SX b0 L xs A9 s9) (hL : L ≤ 260) {nt i : Nat} (hi : i < nt) (hnt : 3 * nt ≤ L) (hnt2 : nt ≤ 44) {ce sl : Nat} (hce : ce ≤ 500000) (hsl : sl ≤ 7000000) (hret : ∀ (H : Heap) (locs : List Loc) (ls : Array Slot) (ce2 sl2 : Nat), LI D cI cS cL A9 s9 b0 nt (i + 1) H locs ls → ce2 ≤ ce + 1 → sl2 ≤ sl + 6 → W p9 l e9 room_1 s9 m9 ar9 be9 me9 c9 H locs ce2 sl2 Q9 (F0 m9 32 ls [])) (H : Heap) (locs : List Loc) (ls : Array Slot) (hLI : LI D cI cS cL A9 s9 b0 nt i H locs ls) : W p9 l e9 room_1 s9 m9 ar9 be9 me9 c9 H locs ce sl Q9 (F0 m9 42 ls []) := by
  obtain ⟨hx, hb, hml, hown, hts⟩ := id C0
  obtain ⟨hX, hbl, hbA⟩ := id hSX
  obtain ⟨f0, a, s, fl, c0, c1, n, cs, b, r, gl, sv, ad, t, f6, k, hG, hn, hcs, hP, hD, hS, hl⟩ := hLI
  have hG3 : ∀ {s2 : Nat → Nat} {t2 : Nat → Nat → Nat} {k2 : Nat}, gI (9 * i + 9) s2 t2 k2 → gI (9 * (i + 1)) s2 t2 k2 := fun h => by rw [show 9 * (i + 1) = 9 * i + 9 by omega]; exact h
  obtain ⟨T, hTe⟩ : ∃ T, T = 9 * i := ⟨_, rfl⟩
  rw [← hTe] at hG hG3
  obtain ⟨hI, hJ, hk, htk⟩ := id hG
  have hT : T ≤ 900 := by omega
  obtain ⟨hI1, hI2, hI3, hI4, hI5, hI6, hI7, hI8, hI9, hI10, hI11⟩ := id hI
  have hP : va_P D vwCl (fcW cI cS f0 a s fl c0 c1 n cs b r gl sv ad t f6 k) H := hP
  have hD : va_D A9 (fcW cI cS f0 a s fl c0 c1 n cs b r gl sv ad t f6 k) := hD
  refine lv_aload_n hx hb dL_law_42 rfl (lv_at hl 1 rfl) ?_
  refine lv_bipush (v := nI 9) hx hb dL_law_43 (by decide +kernel) ?_
  refine KM.callVM (As := [.int (nI 9)]) (rest := []) (W0 := (fcW cI cS f0 a s fl c0 c1 n cs b r gl sv ad t f6 k)) (ws := (fcW cI cS f0 a s fl c0 c1 n cs b r gl sv ad t f6 k)) (ws' := fun (_ : Unit) => (fcW cI cS f0 a s fl c0 c1 n cs b r gl sv ad t f6 k)) C0 hN (k_X5_count_ok l D cI cS cL T f0 a s fl c0 c1 n cs b r gl sv ad t f6 k 9 hI (by omega) hk hn hcs (by omega)) (cwV 1 hts gL_law_X5_count rfl rfl rfl (by decide +kernel) ⟨Nat.le_of_ble_eq_true rfl, Nat.le_of_ble_eq_true rfl⟩) hK hP hD hS hA (fun _ h => h) (va_D_iff.mp hD).1 (fun _ => fcW_perm (List.Perm.refl _)) (fun _ _ h => Or.inl h) 0 5 rfl rfl rfl rfl hl.1 rfl (Nat.le_of_ble_eq_true rfl) dL_law_45 ⟨by dsimp only [room_1]; omega, by dsimp only [room_1]; omega⟩ (fun v9 u9 H locs hv hP hD hS => ?_)
  subst hv
  have hP : va_P D vwCl (fcW cI cS f0 a s fl c0 c1 n cs b r gl sv ad t f6 k) H := hP
  have hD : va_D A9 (fcW cI cS f0 a s fl c0 c1 n cs b r gl sv ad t f6 k) := hD
  refine W.eq (g2 := F0 m9 48 ls [.int (nI k)]) rfl ?_
  refine lv_istore (lv' := [(5, .int (nI k)), (0, .ref b0), (1, .ref f0), (2, .int (nI 1)), (3, .int (nI nt)), (4, .int (nI i))]) hx hb dL_law_48 hl (by decide) rfl (fun ls hl => ?_)
  refine lv_aload_n hx hb dL_law_50 rfl (lv_at hl 2 rfl) ?_
  refine lv_iconst (v := nI 1) hx hb dL_law_51 (by decide +kernel) ?_
  refine KM.callVM (As := [.int (nI 1)]) (rest := []) (W0 := (fcW cI cS f0 a s fl c0 c1 n cs b r gl sv ad t f6 k)) (ws := (fcW cI cS f0 a s fl c0 c1 n cs b r gl sv ad t f6 k)) (ws' := fun (_ : Unit) => (fcW cI cS f0 a s fl c0 c1 n cs b r gl sv ad t f6 k)) C0 hN (k_X5_count_ok l D cI cS cL T f0 a s fl c0 c1 n cs b r gl sv ad t f6 k 1 hI (by omega) hk hn hcs (by omega)) (cwV 1 hts gL_law_X5_count rfl rfl rfl (by decide +kernel) ⟨Nat.le_of_ble_eq_true rfl, Nat.le_of_ble_eq_true rfl⟩) hK hP hD hS hA (fun _ h => h) (va_D_iff.mp hD).1 (fun _ => fcW_perm (List.Perm.refl _)) (fun _ _ h => Or.inl h) 0 5 rfl rfl rfl rfl hl.1 rfl (Nat.le_of_ble_eq_true rfl) dL_law_52 ⟨by dsimp only [room_1]; omega, by dsimp only [room_1]; omega⟩ (fun v9 u9 H locs hv hP hD hS => ?_)
  subst hv
  have hP : va_P D vwCl (fcW cI cS f0 a s fl c0 c1 n cs b r gl sv ad t f6 k) H := hP
  have hD : va_D A9 (fcW cI cS f0 a s fl c0 c1 n cs b r gl sv ad t f6 k) := hD
  refine W.eq (g2 := F0 m9 55 ls [.int (nI (s 8))]) rfl ?_
  refine lv_istore (lv' := [(6, .int (nI (s 8))), (5, .int (nI k)), (0, .ref b0), (1, .ref f0), (2, .int (nI 1)), (3, .int (nI nt)), (4, .int (nI i))]) hx hb dL_law_55 hl (by decide) rfl (fun ls hl => ?_)
  refine lv_aload_n hx hb dL_law_57 rfl (lv_at hl 3 rfl) ?_
  refine lv_iconst (v := nI 0) hx hb dL_law_58 (by decide +kernel) ?_
  refine KM.callVM (As := [.int (nI 0)]) (rest := []) (W0 := (fcW cI cS f0 a s fl c0 c1 n cs b r gl sv ad t f6 k)) (ws := (fcW cI cS f0 a s fl c0 c1 n cs b r gl sv ad t f6 k)) (ws' := fun (_ : Unit) => (fcW cI cS f0 a s fl c0 c1 n cs b r gl sv ad t f6 k)) C0 hN (k_X5_count_ok l D cI cS cL T f0 a s fl c0 c1 n cs b r gl sv ad t f6 k 0 hI (by omega) hk hn hcs (by omega)) (cwV 1 hts gL_law_X5_count rfl rfl rfl (by decide +kernel) ⟨Nat.le_of_ble_eq_true rfl, Nat.le_of_ble_eq_true rfl⟩) hK hP hD hS hA (fun _ h => h) (va_D_iff.mp hD).1 (fun _ => fcW_perm (List.Perm.refl _)) (fun _ _ h => Or.inl h) 0 5 rfl rfl rfl rfl hl.1 rfl (Nat.le_of_ble_eq_true rfl) dL_law_59 ⟨by dsimp only [room_1]; omega, by dsimp only [room_1]; omega⟩ (fun v9 u9 H locs hv hP hD hS => ?_)
  subst hv
  have hP : va_P D vwCl (fcW cI cS f0 a s fl c0 c1 n cs b r gl sv ad t f6 k) H := hP
  have hD : va_D A9 (fcW cI cS f0 a s fl c0 c1 n cs b r gl sv ad t f6 k) := hD
  refine W.eq (g2 := F0 m9 62 ls [.int (nI (s 7))]) rfl ?_
  refine lv_istore (lv' := [(7, .int (nI (s 7))), (6, .int (nI (s 8))), (5, .int (nI k)), (0, .ref b0), (1, .ref f0), (2, .int (nI 1)), (3, .int (nI nt)), (4, .int (nI i))]) hx hb dL_law_62 hl (by decide) rfl (fun ls hl => ?_)
  refine lv_aload_n hx hb dL_law_64 rfl (lv_at hl 4 rfl) ?_
  refine lv_iconst (v := nI 3) hx hb dL_law_65 (by decide +kernel) ?_
  refine KM.callVM (As := [.int (nI 3)]) (rest := []) (W0 := (fcW cI cS f0 a s fl c0 c1 n cs b r gl sv ad t f6 k)) (ws := (fcW cI cS f0 a s fl c0 c1 n cs b r gl sv ad t f6 k)) (ws' := fun (_ : Unit) => (fcW cI cS f0 a s fl c0 c1 n cs b r gl sv ad t f6 k)) C0 hN (k_X5_count_ok l D cI cS cL T f0 a s fl c0 c1 n cs b r gl sv ad t f6 k 3 hI (by omega) hk hn hcs (by omega)) (cwV 1 hts gL_law_X5_count rfl rfl rfl (by decide +kernel) ⟨Nat.le_of_ble_eq_true rfl, Nat.le_of_ble_eq_true rfl⟩) hK hP hD hS hA (fun _ h => h) (va_D_iff.mp hD).1 (fun _ => fcW_perm (List.Perm.refl _)) (fun _ _ h => Or.inl h) 0 5 rfl rfl rfl rfl hl.1 rfl (Nat.le_of_ble_eq_true rfl) dL_law_66 ⟨by dsimp only [room_1]; omega, by dsimp only [room_1]; omega⟩ (fun v9 u9 H locs hv hP hD hS => ?_)
  subst hv
  have hP : va_P D vwCl (fcW cI cS f0 a s fl c0 c1 n cs b r gl sv ad t f6 k) H := hP
  have hD : va_D A9 (fcW cI cS f0 a s fl c0 c1 n cs b r gl sv ad t f6 k) := hD
  refine W.eq (g2 := F0 m9 69 ls [.int (nI (s 6))]) rfl ?_
  refine lv_istore (lv' := [(8, .int (nI (s 6))), (7, .int (nI (s 7))), (6, .int (nI (s 8))), (5, .int (nI k)), (0, .ref b0), (1, .ref f0), (2, .int (nI 1)), (3, .int (nI nt)), (4, .int (nI i))]) hx hb dL_law_69 hl (by decide) rfl (fun ls hl => ?_)
  refine lv_aload_n hx hb dL_law_71 rfl (lv_at hl 5 rfl) ?_
  refine lv_iconst (v := nI 4) hx hb dL_law_72 (by decide +kernel) ?_
  refine KM.callVM (As := [.int (nI 4)]) (rest := []) (W0 := (fcW cI cS f0 a s fl c0 c1 n cs b r gl sv ad t f6 k)) (ws := (fcW cI cS f0 a s fl c0 c1 n cs b r gl sv ad t f6 k)) (ws' := fun (_ : Unit) => (fcW cI cS f0 a s fl c0 c1 n cs b r gl sv ad t f6 k)) C0 hN (k_X5_count_ok l D cI cS cL T f0 a s fl c0 c1 n cs b r gl sv ad t f6 k 4 hI (by omega) hk hn hcs (by omega)) (cwV 1 hts gL_law_X5_count rfl rfl rfl (by decide +kernel) ⟨Nat.le_of_ble_eq_true rfl, Nat.le_of_ble_eq_true rfl⟩) hK hP hD hS hA (fun _ h => h) (va_D_iff.mp hD).1 (fun _ => fcW_perm (List.Perm.refl _)) (fun _ _ h => Or.inl h) 0 5 rfl rfl rfl rfl hl.1 rfl (Nat.le_of_ble_eq_true rfl) dL_law_73 ⟨by dsimp only [room_1]; omega, by dsimp only [room_1]; omega⟩ (fun v9 u9 H locs hv hP hD hS => ?_)
  subst hv
  have hP : va_P D vwCl (fcW cI cS f0 a s fl c0 c1 n cs b r gl sv ad t f6 k) H := hP
  have hD : va_D A9 (fcW cI cS f0 a s fl c0 c1 n cs b r gl sv ad t f6 k) := hD
  refine W.eq (g2 := F0 m9 76 ls [.int (nI (s 10))]) rfl ?_
  refine lv_istore (lv' := [(9, .int (nI (s 10))), (8, .int (nI (s 6))), (7, .int (nI (s 7))), (6, .int (nI (s 8))), (5, .int (nI k)), (0, .ref b0), (1, .ref f0), (2, .int (nI 1)), (3, .int (nI nt)), (4, .int (nI i))]) hx hb dL_law_76 hl (by decide) rfl (fun ls hl => ?_)
  refine lv_aload_n hx hb dL_law_78 rfl (lv_at hl 6 rfl) ?_
  refine lv_bipush (v := nI 7) hx hb dL_law_79 (by decide +kernel) ?_
  refine KM.callVM (As := [.int (nI 7)]) (rest := []) (W0 := (fcW cI cS f0 a s fl c0 c1 n cs b r gl sv ad t f6 k)) (ws := (fcW cI cS f0 a s fl c0 c1 n cs b r gl sv ad t f6 k)) (ws' := fun (_ : Unit) => (fcW cI cS f0 a s fl c0 c1 n cs b r gl sv ad t f6 k)) C0 hN (k_X5_count_ok l D cI cS cL T f0 a s fl c0 c1 n cs b r gl sv ad t f6 k 7 hI (by omega) hk hn hcs (by omega)) (cwV 1 hts gL_law_X5_count rfl rfl rfl (by decide +kernel) ⟨Nat.le_of_ble_eq_true rfl, Nat.le_of_ble_eq_true rfl⟩) hK hP hD hS hA (fun _ h => h) (va_D_iff.mp hD).1 (fun _ => fcW_perm (List.Perm.refl _)) (fun _ _ h => Or.inl h) 0 5 rfl rfl rfl rfl hl.1 rfl (Nat.le_of_ble_eq_true rfl) dL_law_81 ⟨by dsimp only [room_1]; omega, by dsimp only [room_1]; omega⟩ (fun v9 u9 H locs hv hP hD hS => ?_)
  subst hv
  have hP : va_P D vwCl (fcW cI cS f0 a s fl c0 c1 n cs b r gl sv ad t f6 k) H := hP
  have hD : va_D A9 (fcW cI cS f0 a s fl c0 c1 n cs b r gl sv ad t f6 k) := hD
  refine W.eq (g2 := F0 m9 84 ls [.int (nI (s 12))]) rfl ?_
  refine lv_istore (lv' := [(10, .int (nI (s 12))), (9, .int (nI (s 10))), (8, .int (nI (s 6))), (7, .int (nI (s 7))), (6, .int (nI (s 8))), (5, .int (nI k)), (0, .ref b0), (1, .ref f0), (2, .int (nI 1)), (3, .int (nI nt)), (4, .int (nI i))]) hx hb dL_law_84 hl (by decide) rfl (fun ls hl => ?_)
  refine lv_aload_n hx hb dL_law_86 rfl (lv_at hl 7 rfl) ?_
  refine lv_iconst (v := nI 5) hx hb dL_law_87 (by decide +kernel) ?_
  refine KM.callVM (As := [.int (nI 5)]) (rest := []) (W0 := (fcW cI cS f0 a s fl c0 c1 n cs b r gl sv ad t f6 k)) (ws := (fcW cI cS f0 a s fl c0 c1 n cs b r gl sv ad t f6 k)) (ws' := fun (_ : Unit) => (fcW cI cS f0 a s fl c0 c1 n cs b r gl sv ad t f6 k)) C0 hN (k_X5_count_ok l D cI cS cL T f0 a s fl c0 c1 n cs b r gl sv ad t f6 k 5 hI (by omega) hk hn hcs (by omega)) (cwV 1 hts gL_law_X5_count rfl rfl rfl (by decide +kernel) ⟨Nat.le_of_ble_eq_true rfl, Nat.le_of_ble_eq_true rfl⟩) hK hP hD hS hA (fun _ h => h) (va_D_iff.mp hD).1 (fun _ => fcW_perm (List.Perm.refl _)) (fun _ _ h => Or.inl h) 0 5 rfl rfl rfl rfl hl.1 rfl (Nat.le_of_ble_eq_true rfl) dL_law_88 ⟨by dsimp only [room_1]; omega, by dsimp only [room_1]; omega⟩ (fun v9 u9 H locs hv hP hD hS => ?_)
  subst hv
  have hP : va_P D vwCl (fcW cI cS f0 a s fl c0 c1 n cs b r gl sv ad t f6 k) H := hP
  have hD : va_D A9 (fcW cI cS f0 a s fl c0 c1 n cs b r gl sv ad t f6 k) := hD
  refine W.eq (g2 := F0 m9 91 ls [.int (nI (s 11))]) rfl ?_
  refine lv_istore (lv' := [(11, .int (nI (s 11))), (10, .int (nI (s 12))), (9, .int (nI (s 10))), (8, .int (nI (s 6))), (7, .int (nI (s 7))), (6, .int (nI (s 8))), (5, .int (nI k)), (0, .ref b0), (1, .ref f0), (2, .int (nI 1)), (3, .int (nI nt)), (4, .int (nI i))]) hx hb dL_law_91 hl (by decide) rfl (fun ls hl => ?_)
  refine lv_aload_n hx hb dL_law_93 rfl (lv_at hl 7 rfl) ?_
  refine lv_iconst (v := nI 3) hx hb dL_law_94 (by decide +kernel) ?_
  refine lv_iload hx hb dL_law_95 (lv_at hl 11 rfl) ?_
  refine q_imul hx hb dL_law_97 ?_
  refine KZ.callSM (As := [.ref b0, .int (nI (3 * i))]) (rest := []) (W0 := []) (ws := (fcW cI cS f0 a s fl c0 c1 n cs b r gl sv ad t f6 k)) (ws' := fun (_ : Unit) => (fcW cI cS f0 a s fl c0 c1 n cs b r gl sv ad t f6 k)) C0 hN hAm hXN hSX (k_L_cell l D cI cS cL b0 L xs (3 * i) hst (by omega) (by omega)) (va_cwS 2 hts gL_law_L_cell rfl rfl rfl (by decide +kernel) ⟨Nat.le_of_ble_eq_true rfl, Nat.le_of_ble_eq_true rfl⟩) hK hP hD hS hA (fun _ h => absurd h List.not_mem_nil) List.nodup_nil (fun _ => List.Perm.refl _) (fun _ _ h => Or.inr ⟨h, List.not_mem_nil⟩) rfl hl.1 rfl (Nat.le_of_ble_eq_true rfl) dL_law_98 ⟨by dsimp only [room_1]; omega, by dsimp only [room_1]; omega⟩ (fun v9 u9 H locs hv hP hD hS => ?_)
  subst hv
  have hP : va_P D vwCl (fcW cI cS f0 a s fl c0 c1 n cs b r gl sv ad t f6 k) H := hP
  have hD : va_D A9 (fcW cI cS f0 a s fl c0 c1 n cs b r gl sv ad t f6 k) := hD
  refine W.eq (g2 := F0 m9 101 ls [.int (xs (3 * i))]) rfl ?_
  refine lv_bipush (v := nI 20) hx hb dL_law_101 (by decide +kernel) ?_
  refine KM.callS (As := [.int (xs (3 * i)), .int (nI 20)]) (rest := []) C0 hN (k_L_low l D cI cS cL (xs (3 * i)) 20  (by decide) (by decide)) (va_cwS 2 hts gL_law_L_low rfl rfl rfl (by decide +kernel) ⟨Nat.le_of_ble_eq_true rfl, Nat.le_of_ble_eq_true rfl⟩) hK hP hD hS hA [] rfl (by decide) (fun _ => rfl) rfl hl.1 rfl (Nat.le_of_ble_eq_true rfl) dL_law_103 ⟨by dsimp only [room_1]; omega, by dsimp only [room_1]; omega⟩ (fun v9 u9 H locs hv hP hD hS => ?_)
  subst hv
  have hP : va_P D vwCl (fcW cI cS f0 a s fl c0 c1 n cs b r gl sv ad t f6 k) H := hP
  have hD : va_D A9 (fcW cI cS f0 a s fl c0 c1 n cs b r gl sv ad t f6 k) := hD
  refine W.eq (g2 := F0 m9 106 ls [.int (nI (mk31 (xs (3 * i)) % 20))]) rfl ?_
  refine lv_istore (lv' := [(12, .int (nI (mk31 (xs (3 * i)) % 20))), (11, .int (nI (s 11))), (10, .int (nI (s 12))), (9, .int (nI (s 10))), (8, .int (nI (s 6))), (7, .int (nI (s 7))), (6, .int (nI (s 8))), (5, .int (nI k)), (0, .ref b0), (1, .ref f0), (2, .int (nI 1)), (3, .int (nI nt)), (4, .int (nI i))]) hx hb dL_law_106 hl (by decide) rfl (fun ls hl => ?_)
  refine lv_aload_n hx hb dL_law_108 rfl (lv_at hl 8 rfl) ?_
  refine lv_iconst (v := nI 3) hx hb dL_law_109 (by decide +kernel) ?_
  refine lv_iload hx hb dL_law_110 (lv_at hl 12 rfl) ?_
  refine q_imul hx hb dL_law_112 ?_
  refine lv_iconst (v := nI 1) hx hb dL_law_113 (by decide +kernel) ?_
  refine q_iadd hx hb dL_law_114 ?_
  refine KZ.callSM (As := [.ref b0, .int (nI ((3 * i) + 1))]) (rest := []) (W0 := []) (ws := (fcW cI cS f0 a s fl c0 c1 n cs b r gl sv ad t f6 k)) (ws' := fun (_ : Unit) => (fcW cI cS f0 a s fl c0 c1 n cs b r gl sv ad t f6 k)) C0 hN hAm hXN hSX (k_L_cell l D cI cS cL b0 L xs ((3 * i) + 1) hst (by omega) (by omega)) (va_cwS 2 hts gL_law_L_cell rfl rfl rfl (by decide +kernel) ⟨Nat.le_of_ble_eq_true rfl, Nat.le_of_ble_eq_true rfl⟩) hK hP hD hS hA (fun _ h => absurd h List.not_mem_nil) List.nodup_nil (fun _ => List.Perm.refl _) (fun _ _ h => Or.inr ⟨h, List.not_mem_nil⟩) rfl hl.1 rfl (Nat.le_of_ble_eq_true rfl) dL_law_115 ⟨by dsimp only [room_1]; omega, by dsimp only [room_1]; omega⟩ (fun v9 u9 H locs hv hP hD hS => ?_)
  subst hv
  have hP : va_P D vwCl (fcW cI cS f0 a s fl c0 c1 n cs b r gl sv ad t f6 k) H := hP
  have hD : va_D A9 (fcW cI cS f0 a s fl c0 c1 n cs b r gl sv ad t f6 k) := hD
  refine W.eq (g2 := F0 m9 118 ls [.int (xs ((3 * i) + 1))]) rfl ?_
  refine lv_istore (lv' := [(13, .int (xs ((3 * i) + 1))), (12, .int (nI (mk31 (xs (3 * i)) % 20))), (11, .int (nI (s 11))), (10, .int (nI (s 12))), (9, .int (nI (s 10))), (8, .int (nI (s 6))), (7, .int (nI (s 7))), (6, .int (nI (s 8))), (5, .int (nI k)), (0, .ref b0), (1, .ref f0), (2, .int (nI 1)), (3, .int (nI nt)), (4, .int (nI i))]) hx hb dL_law_118 hl (by decide) rfl (fun ls hl => ?_)
  refine lv_iconst (v := nI 1) hx hb dL_law_120 (by decide +kernel) ?_
  refine lv_iload hx hb dL_law_121 (lv_at hl 0 rfl) ?_
  refine lv_bipush (v := nI 9) hx hb dL_law_123 (by decide +kernel) ?_
  refine KM.callS (As := [.int (xs ((3 * i) + 1)), .int (nI 9)]) (rest := [.int (nI 1)]) C0 hN (k_L_low l D cI cS cL (xs ((3 * i) + 1)) 9  (by decide) (by decide)) (va_cwS 2 hts gL_law_L_low rfl rfl rfl (by decide +kernel) ⟨Nat.le_of_ble_eq_true rfl, Nat.le_of_ble_eq_true rfl⟩) hK hP hD hS hA [] rfl (by decide) (fun _ => rfl) rfl hl.1 rfl (Nat.le_of_ble_eq_true rfl) dL_law_125 ⟨by dsimp only [room_1]; omega, by dsimp only [room_1]; omega⟩ (fun v9 u9 H locs hv hP hD hS => ?_)
  subst hv
  have hP : va_P D vwCl (fcW cI cS f0 a s fl c0 c1 n cs b r gl sv ad t f6 k) H := hP
  have hD : va_D A9 (fcW cI cS f0 a s fl c0 c1 n cs b r gl sv ad t f6 k) := hD
  refine W.eq (g2 := F0 m9 128 ls [.int (nI (mk31 (xs ((3 * i) + 1)) % 9)), .int (nI 1)]) rfl ?_
  refine q_iadd hx hb dL_law_128 ?_
  refine lv_istore (lv' := [(14, .int (nI (1 + (mk31 (xs ((3 * i) + 1)) % 9)))), (13, .int (xs ((3 * i) + 1))), (12, .int (nI (mk31 (xs (3 * i)) % 20))), (11, .int (nI (s 11))), (10, .int (nI (s 12))), (9, .int (nI (s 10))), (8, .int (nI (s 6))), (7, .int (nI (s 7))), (6, .int (nI (s 8))), (5, .int (nI k)), (0, .ref b0), (1, .ref f0), (2, .int (nI 1)), (3, .int (nI nt)), (4, .int (nI i))]) hx hb dL_law_129 hl (by decide) rfl (fun ls hl => ?_)
  refine lv_aload_n hx hb dL_law_131 rfl (lv_at hl 11 rfl) ?_
  refine lv_iload hx hb dL_law_132 (lv_at hl 0 rfl) ?_
  refine lv_iconst (v := nI 0) hx hb dL_law_134 (by decide +kernel) ?_
  refine KM.callVM (As := [.int (nI (1 + (mk31 (xs ((3 * i) + 1)) % 9))), .int (nI 0)]) (rest := []) (W0 := (fcW cI cS f0 a s fl c0 c1 n cs b r gl sv ad t f6 k)) (ws := (fcW cI cS f0 a s fl c0 c1 n cs b r gl sv ad t f6 k)) (ws' := fun (u9 : Nat → Nat) => (fcW cI cS f0 a s fl c0 c1 n cs b (mPlay (1 + (mk31 (xs ((3 * i) + 1)) % 9)) (mZero s)) u9 sv ad t f6 k)) C0 hN (k_X5_ifPlayed_ok l D cI cS cL T f0 a s fl c0 c1 n cs b r gl sv ad t f6 k (1 + (mk31 (xs ((3 * i) + 1)) % 9)) 0 hI (by omega) hk hn hcs (by omega) (by omega) (by omega)) (cwV 2 hts gL_law_X5_ifPlayed rfl rfl rfl (by decide +kernel) ⟨Nat.le_of_ble_eq_true rfl, Nat.le_of_ble_eq_true rfl⟩) hK hP hD hS hA (fun _ h => h) (va_D_iff.mp hD).1 (fun _ => fcW_perm (List.Perm.refl _)) (fun _ _ h => Or.inl h) 0 5 rfl rfl rfl rfl hl.1 rfl (Nat.le_of_ble_eq_true rfl) dL_law_135 ⟨by dsimp only [room_1]; omega, by dsimp only [room_1]; omega⟩ (fun v9 u9 H locs hv hP hD hS => ?_)
  obtain ⟨z_1, rfl⟩ : ∃ z, z = u9 := ⟨_, rfl⟩
  subst hv
  have hP : va_P D vwCl (fcW cI cS f0 a s fl c0 c1 n cs b (mPlay (1 + (mk31 (xs ((3 * i) + 1)) % 9)) (mZero s)) z_1 sv ad t f6 k) H := hP
  have hD : va_D A9 (fcW cI cS f0 a s fl c0 c1 n cs b (mPlay (1 + (mk31 (xs ((3 * i) + 1)) % 9)) (mZero s)) z_1 sv ad t f6 k) := hD
  refine W.eq (g2 := F0 m9 138 ls [.int (nI (mPlay (1 + mk31 (xs (3 * i + 1)) % 9) (mZero s) 10))]) rfl ?_
  refine lv_istore (lv' := [(15, .int (nI (mPlay (1 + mk31 (xs (3 * i + 1)) % 9) (mZero s) 10))), (14, .int (nI (1 + (mk31 (xs ((3 * i) + 1)) % 9)))), (13, .int (xs ((3 * i) + 1))), (12, .int (nI (mk31 (xs (3 * i)) % 20))), (11, .int (nI (s 11))), (10, .int (nI (s 12))), (9, .int (nI (s 10))), (8, .int (nI (s 6))), (7, .int (nI (s 7))), (6, .int (nI (s 8))), (5, .int (nI k)), (0, .ref b0), (1, .ref f0), (2, .int (nI 1)), (3, .int (nI nt)), (4, .int (nI i))]) hx hb dL_law_138 hl (by decide) rfl (fun ls hl => ?_)
  refine lv_aload_n hx hb dL_law_140 rfl (lv_at hl 12 rfl) ?_
  refine lv_iload hx hb dL_law_141 (lv_at hl 1 rfl) ?_
  refine lv_iconst (v := nI 1) hx hb dL_law_143 (by decide +kernel) ?_
  refine KM.callVM (As := [.int (nI (1 + (mk31 (xs ((3 * i) + 1)) % 9))), .int (nI 1)]) (rest := []) (W0 := (fcW cI cS f0 a s fl c0 c1 n cs b (mPlay (1 + (mk31 (xs ((3 * i) + 1)) % 9)) (mZero s)) z_1 sv ad t f6 k)) (ws := (fcW cI cS f0 a s fl c0 c1 n cs b (mPlay (1 + (mk31 (xs ((3 * i) + 1)) % 9)) (mZero s)) z_1 sv ad t f6 k)) (ws' := fun (u9 : Nat → Nat) => (fcW cI cS f0 a s fl c0 c1 n cs b (mPlay (1 + (mk31 (xs ((3 * i) + 1)) % 9)) (mZero s)) u9 sv ad t f6 k)) C0 hN (k_X5_ifPlayed_ok l D cI cS cL T f0 a s fl c0 c1 n cs b (mPlay (1 + mk31 (xs (3 * i + 1)) % 9) (mZero s)) z_1 sv ad t f6 k (1 + (mk31 (xs ((3 * i) + 1)) % 9)) 1 hI (by omega) hk hn hcs (by omega) (by omega) (by omega)) (cwV 2 hts gL_law_X5_ifPlayed rfl rfl rfl (by decide +kernel) ⟨Nat.le_of_ble_eq_true rfl, Nat.le_of_ble_eq_true rfl⟩) hK hP hD hS hA (fun _ h => h) (va_D_iff.mp hD).1 (fun _ => fcW_perm (List.Perm.refl _)) (fun _ _ h => Or.inl h) 0 5 rfl rfl rfl rfl hl.1 rfl (Nat.le_of_ble_eq_true rfl) dL_law_144 ⟨by dsimp only [room_1]; omega, by dsimp only [room_1]; omega⟩ (fun v9 u9 H locs hv hP hD hS => ?_)
  obtain ⟨z_2, rfl⟩ : ∃ z, z = u9 := ⟨_, rfl⟩
  subst hv
  have hP : va_P D vwCl (fcW cI cS f0 a s fl c0 c1 n cs b (mPlay (1 + (mk31 (xs ((3 * i) + 1)) % 9)) (mZero s)) z_2 sv ad t f6 k) H := hP
  have hD : va_D A9 (fcW cI cS f0 a s fl c0 c1 n cs b (mPlay (1 + (mk31 (xs ((3 * i) + 1)) % 9)) (mZero s)) z_2 sv ad t f6 k) := hD
  refine W.eq (g2 := F0 m9 147 ls [.int (nI (mPlay (1 + mk31 (xs (3 * i + 1)) % 9) (mZero s) 11))]) rfl ?_
  refine lv_istore (lv' := [(16, .int (nI (mPlay (1 + mk31 (xs (3 * i + 1)) % 9) (mZero s) 11))), (15, .int (nI (mPlay (1 + mk31 (xs (3 * i + 1)) % 9) (mZero s) 10))), (14, .int (nI (1 + (mk31 (xs ((3 * i) + 1)) % 9)))), (13, .int (xs ((3 * i) + 1))), (12, .int (nI (mk31 (xs (3 * i)) % 20))), (11, .int (nI (s 11))), (10, .int (nI (s 12))), (9, .int (nI (s 10))), (8, .int (nI (s 6))), (7, .int (nI (s 7))), (6, .int (nI (s 8))), (5, .int (nI k)), (0, .ref b0), (1, .ref f0), (2, .int (nI 1)), (3, .int (nI nt)), (4, .int (nI i))]) hx hb dL_law_147 hl (by decide) rfl (fun ls hl => ?_)
  refine lv_aload_n hx hb dL_law_149 rfl (lv_at hl 13 rfl) ?_
  refine lv_iload hx hb dL_law_150 (lv_at hl 9 rfl) ?_
  refine lv_iload hx hb dL_law_152 (lv_at hl 3 rfl) ?_
  refine lv_iconst (v := nI 4) hx hb dL_law_154 (by decide +kernel) ?_
  refine lv_ishr hx hb dL_law_155 ?_
  refine lv_bipush (v := nI 12) hx hb dL_law_156 (by decide +kernel) ?_
  refine KM.callS (As := [.int ((xs ((3 * i) + 1)) >>> ((nI 4) &&& 31)), .int (nI 12)]) (rest := [.int (nI (s 7)), .ref f0]) C0 hN (k_L_low l D cI cS cL ((xs ((3 * i) + 1)) >>> ((nI 4) &&& 31)) 12  (by decide) (by decide)) (va_cwS 2 hts gL_law_L_low rfl rfl rfl (by decide +kernel) ⟨Nat.le_of_ble_eq_true rfl, Nat.le_of_ble_eq_true rfl⟩) hK hP hD hS hA [] rfl (by decide) (fun _ => rfl) rfl hl.1 rfl (Nat.le_of_ble_eq_true rfl) dL_law_158 ⟨by dsimp only [room_1]; omega, by dsimp only [room_1]; omega⟩ (fun v9 u9 H locs hv hP hD hS => ?_)
  subst hv
  have hP : va_P D vwCl (fcW cI cS f0 a s fl c0 c1 n cs b (mPlay (1 + (mk31 (xs ((3 * i) + 1)) % 9)) (mZero s)) z_2 sv ad t f6 k) H := hP
  have hD : va_D A9 (fcW cI cS f0 a s fl c0 c1 n cs b (mPlay (1 + (mk31 (xs ((3 * i) + 1)) % 9)) (mZero s)) z_2 sv ad t f6 k) := hD
  refine W.eq (g2 := F0 m9 161 ls [.int (nI (mk31 ((xs ((3 * i) + 1)) >>> ((nI 4) &&& 31)) % 12)), .int (nI (s 7)), .ref f0]) rfl ?_
  refine q_iadd hx hb dL_law_161 ?_
  refine lv_iload hx hb dL_law_162 (lv_at hl 3 rfl) ?_
  refine lv_bipush (v := nI 8) hx hb dL_law_164 (by decide +kernel) ?_
  refine KM.callS (As := [.int (xs ((3 * i) + 1)), .int (nI 8)]) (rest := [.int (nI ((s 7) + (mk31 ((xs ((3 * i) + 1)) >>> ((nI 4) &&& 31)) % 12))), .ref f0]) C0 hN (k_L_low l D cI cS cL (xs ((3 * i) + 1)) 8  (by decide) (by decide)) (va_cwS 2 hts gL_law_L_low rfl rfl rfl (by decide +kernel) ⟨Nat.le_of_ble_eq_true rfl, Nat.le_of_ble_eq_true rfl⟩) hK hP hD hS hA [] rfl (by decide) (fun _ => rfl) rfl hl.1 rfl (Nat.le_of_ble_eq_true rfl) dL_law_166 ⟨by dsimp only [room_1]; omega, by dsimp only [room_1]; omega⟩ (fun v9 u9 H locs hv hP hD hS => ?_)
  subst hv
  have hP : va_P D vwCl (fcW cI cS f0 a s fl c0 c1 n cs b (mPlay (1 + (mk31 (xs ((3 * i) + 1)) % 9)) (mZero s)) z_2 sv ad t f6 k) H := hP
  have hD : va_D A9 (fcW cI cS f0 a s fl c0 c1 n cs b (mPlay (1 + (mk31 (xs ((3 * i) + 1)) % 9)) (mZero s)) z_2 sv ad t f6 k) := hD
  refine W.eq (g2 := F0 m9 169 ls [.int (nI (mk31 (xs ((3 * i) + 1)) % 8)), .int (nI ((s 7) + (mk31 ((xs ((3 * i) + 1)) >>> ((nI 4) &&& 31)) % 12))), .ref f0]) rfl ?_
  refine lv_aload_n hx hb dL_law_169 rfl (lv_at hl 12 rfl) ?_
  refine lv_iconst (v := nI 3) hx hb dL_law_170 (by decide +kernel) ?_
  refine lv_iload hx hb dL_law_171 (lv_at hl 16 rfl) ?_
  refine q_imul hx hb dL_law_173 ?_
  refine lv_iconst (v := nI 2) hx hb dL_law_174 (by decide +kernel) ?_
  refine q_iadd hx hb dL_law_175 ?_
  refine KZ.callSM (As := [.ref b0, .int (nI ((3 * i) + 2))]) (rest := [.int (nI (mk31 (xs ((3 * i) + 1)) % 8)), .int (nI ((s 7) + (mk31 ((xs ((3 * i) + 1)) >>> ((nI 4) &&& 31)) % 12))), .ref f0]) (W0 := []) (ws := (fcW cI cS f0 a s fl c0 c1 n cs b (mPlay (1 + (mk31 (xs ((3 * i) + 1)) % 9)) (mZero s)) z_2 sv ad t f6 k)) (ws' := fun (_ : Unit) => (fcW cI cS f0 a s fl c0 c1 n cs b (mPlay (1 + (mk31 (xs ((3 * i) + 1)) % 9)) (mZero s)) z_2 sv ad t f6 k)) C0 hN hAm hXN hSX (k_L_cell l D cI cS cL b0 L xs ((3 * i) + 2) hst (by omega) (by omega)) (va_cwS 2 hts gL_law_L_cell rfl rfl rfl (by decide +kernel) ⟨Nat.le_of_ble_eq_true rfl, Nat.le_of_ble_eq_true rfl⟩) hK hP hD hS hA (fun _ h => absurd h List.not_mem_nil) List.nodup_nil (fun _ => List.Perm.refl _) (fun _ _ h => Or.inr ⟨h, List.not_mem_nil⟩) rfl hl.1 rfl (Nat.le_of_ble_eq_true rfl) dL_law_176 ⟨by dsimp only [room_1]; omega, by dsimp only [room_1]; omega⟩ (fun v9 u9 H locs hv hP hD hS => ?_)
  subst hv
  have hP : va_P D vwCl (fcW cI cS f0 a s fl c0 c1 n cs b (mPlay (1 + (mk31 (xs ((3 * i) + 1)) % 9)) (mZero s)) z_2 sv ad t f6 k) H := hP
  have hD : va_D A9 (fcW cI cS f0 a s fl c0 c1 n cs b (mPlay (1 + (mk31 (xs ((3 * i) + 1)) % 9)) (mZero s)) z_2 sv ad t f6 k) := hD
  refine W.eq (g2 := F0 m9 179 ls [.int (xs ((3 * i) + 2)), .int (nI (mk31 (xs ((3 * i) + 1)) % 8)), .int (nI ((s 7) + (mk31 ((xs ((3 * i) + 1)) >>> ((nI 4) &&& 31)) % 12))), .ref f0]) rfl ?_
  refine lv_bipush (v := nI 11) hx hb dL_law_179 (by decide +kernel) ?_
  refine KM.callS (As := [.int (xs ((3 * i) + 2)), .int (nI 11)]) (rest := [.int (nI (mk31 (xs ((3 * i) + 1)) % 8)), .int (nI ((s 7) + (mk31 ((xs ((3 * i) + 1)) >>> ((nI 4) &&& 31)) % 12))), .ref f0]) C0 hN (k_L_low l D cI cS cL (xs ((3 * i) + 2)) 11  (by decide) (by decide)) (va_cwS 2 hts gL_law_L_low rfl rfl rfl (by decide +kernel) ⟨Nat.le_of_ble_eq_true rfl, Nat.le_of_ble_eq_true rfl⟩) hK hP hD hS hA [] rfl (by decide) (fun _ => rfl) rfl hl.1 rfl (Nat.le_of_ble_eq_true rfl) dL_law_181 ⟨by dsimp only [room_1]; omega, by dsimp only [room_1]; omega⟩ (fun v9 u9 H locs hv hP hD hS => ?_)
  subst hv
  have hP : va_P D vwCl (fcW cI cS f0 a s fl c0 c1 n cs b (mPlay (1 + (mk31 (xs ((3 * i) + 1)) % 9)) (mZero s)) z_2 sv ad t f6 k) H := hP
  have hD : va_D A9 (fcW cI cS f0 a s fl c0 c1 n cs b (mPlay (1 + (mk31 (xs ((3 * i) + 1)) % 9)) (mZero s)) z_2 sv ad t f6 k) := hD
  refine W.eq (g2 := F0 m9 184 ls [.int (nI (mk31 (xs ((3 * i) + 2)) % 11)), .int (nI (mk31 (xs ((3 * i) + 1)) % 8)), .int (nI ((s 7) + (mk31 ((xs ((3 * i) + 1)) >>> ((nI 4) &&& 31)) % 12))), .ref f0]) rfl ?_
  refine KM.callVM (As := [.int (nI ((s 7) + (mk31 ((xs ((3 * i) + 1)) >>> ((nI 4) &&& 31)) % 12))), .int (nI (mk31 (xs ((3 * i) + 1)) % 8)), .int (nI (mk31 (xs ((3 * i) + 2)) % 11))]) (rest := []) (W0 := (fcW cI cS f0 a s fl c0 c1 n cs b (mPlay (1 + (mk31 (xs ((3 * i) + 1)) % 9)) (mZero s)) z_2 sv ad t f6 k)) (ws := (fcW cI cS f0 a s fl c0 c1 n cs b (mPlay (1 + (mk31 (xs ((3 * i) + 1)) % 9)) (mZero s)) z_2 sv ad t f6 k)) (ws' := fun (_ : Unit) => (fcW cI cS f0 a s fl c0 c1 n cs b (mPlay (1 + (mk31 (xs ((3 * i) + 1)) % 9)) (mZero s)) z_2 sv ad t f6 k)) C0 hN (k_X5_refusal_ok l D cI cS cL T f0 a s fl c0 c1 n cs b (mPlay (1 + mk31 (xs (3 * i + 1)) % 9) (mZero s)) z_2 sv ad t f6 k ((s 7) + (mk31 ((xs ((3 * i) + 1)) >>> ((nI 4) &&& 31)) % 12)) (mk31 (xs ((3 * i) + 1)) % 8) (mk31 (xs ((3 * i) + 2)) % 11) hI (by omega) hk hn hcs (by omega) (by omega) (by omega)) (cwV 3 hts gL_law_X5_refusal rfl rfl rfl (by decide +kernel) ⟨Nat.le_of_ble_eq_true rfl, Nat.le_of_ble_eq_true rfl⟩) hK hP hD hS hA (fun _ h => h) (va_D_iff.mp hD).1 (fun _ => fcW_perm (List.Perm.refl _)) (fun _ _ h => Or.inl h) 0 5 rfl rfl rfl rfl hl.1 rfl (Nat.le_of_ble_eq_true rfl) dL_law_184 ⟨by dsimp only [room_1]; omega, by dsimp only [room_1]; omega⟩ (fun v9 u9 H locs hv hP hD hS => ?_)
  subst hv
  have hP : va_P D vwCl (fcW cI cS f0 a s fl c0 c1 n cs b (mPlay (1 + (mk31 (xs ((3 * i) + 1)) % 9)) (mZero s)) z_2 sv ad t f6 k) H := hP
  have hD : va_D A9 (fcW cI cS f0 a s fl c0 c1 n cs b (mPlay (1 + (mk31 (xs ((3 * i) + 1)) % 9)) (mZero s)) z_2 sv ad t f6 k) := hD
  refine W.eq (g2 := F0 m9 187 ls [.int (nI (rS s ((s 7) + (mk31 ((xs ((3 * i) + 1)) >>> ((nI 4) &&& 31)) % 12)) (mk31 (xs ((3 * i) + 1)) % 8) (mk31 (xs ((3 * i) + 2)) % 11)))]) rfl ?_
  refine lv_istore (lv' := [(17, .int (nI (rS s ((s 7) + (mk31 ((xs ((3 * i) + 1)) >>> ((nI 4) &&& 31)) % 12)) (mk31 (xs ((3 * i) + 1)) % 8) (mk31 (xs ((3 * i) + 2)) % 11)))), (16, .int (nI (mPlay (1 + mk31 (xs (3 * i + 1)) % 9) (mZero s) 11))), (15, .int (nI (mPlay (1 + mk31 (xs (3 * i + 1)) % 9) (mZero s) 10))), (14, .int (nI (1 + (mk31 (xs ((3 * i) + 1)) % 9)))), (13, .int (xs ((3 * i) + 1))), (12, .int (nI (mk31 (xs (3 * i)) % 20))), (11, .int (nI (s 11))), (10, .int (nI (s 12))), (9, .int (nI (s 10))), (8, .int (nI (s 6))), (7, .int (nI (s 7))), (6, .int (nI (s 8))), (5, .int (nI k)), (0, .ref b0), (1, .ref f0), (2, .int (nI 1)), (3, .int (nI nt)), (4, .int (nI i))]) hx hb dL_law_187 hl (by decide) rfl (fun ls hl => ?_)
  refine lv_aload_n hx hb dL_law_189 rfl (lv_at hl 14 rfl) ?_
  refine lv_aload_n hx hb dL_law_190 rfl (lv_at hl 13 rfl) ?_
  refine lv_iconst (v := nI 3) hx hb dL_law_191 (by decide +kernel) ?_
  refine lv_iload hx hb dL_law_192 (lv_at hl 17 rfl) ?_
  refine q_imul hx hb dL_law_194 ?_
  refine KZ.callSW (As := [.ref f0, .ref b0, .int (nI (3 * i))]) (rest := []) (W0 := (fcW cI cS f0 a s fl c0 c1 n cs b (mPlay (1 + (mk31 (xs ((3 * i) + 1)) % 9)) (mZero s)) z_2 sv ad t f6 k)) C0 hN hAm hXN hSX (k_L_act l D cI cS cL b0 L xs T f0 a s fl c0 c1 n cs b (mPlay (1 + mk31 (xs (3 * i + 1)) % 9) (mZero s)) z_2 sv ad t f6 k (3 * i) hst hI (by omega) hk hn hcs hG (by omega) (by omega) hL) (va_cwS 3 hts gL_law_L_act rfl rfl rfl (by decide +kernel) ⟨Nat.le_of_ble_eq_true rfl, Nat.le_of_ble_eq_true rfl⟩) hK hP hD hS hA rfl hl.1 rfl (Nat.le_of_ble_eq_true rfl) dL_law_195 ⟨by dsimp only [room_1]; omega, by dsimp only [room_1]; omega⟩ (fun v9 u9 H locs hv hP hD hS => ?_)
  obtain ⟨x9, hv, hA9⟩ := hv
  subst hv
  have hP : va_P D vwCl (fcW cI cS f0 a (u9 0 0) (u9 0 1) c0 c1 n cs b (mPlay (1 + mk31 (xs (3 * i + 1)) % 9) (mZero s)) z_2 sv (u9 1) (u9 2) (u9 3) (u9 4 0 0)) H := hP
  have hD : va_D A9 (fcW cI cS f0 a (u9 0 0) (u9 0 1) c0 c1 n cs b (mPlay (1 + mk31 (xs (3 * i + 1)) % 9) (mZero s)) z_2 sv (u9 1) (u9 2) (u9 3) (u9 4 0 0)) := hD
  generalize u9 0 0 = s2 at hP hD hA9
  generalize u9 0 1 = fl2 at hP hD hA9
  generalize u9 1 = ad2 at hP hD hA9
  generalize u9 2 = t2 at hP hD hA9
  generalize u9 3 = f62 at hP hD hA9
  generalize u9 4 0 0 = k2 at hP hD hA9
  obtain ⟨hG2, hneg, hplay, hcue⟩ := hA9
  obtain ⟨hI2, hJ2, hk2, ht2⟩ := id hG2
  obtain ⟨hM1, hM2, hM3, hM4, hM5, hM6, hM7, hM8, hM9, hM10, hM11⟩ := id hI2
  have hP : va_P D vwCl (fcW cI cS f0 a s2 fl2 c0 c1 n cs b (mPlay (1 + mk31 (xs (3 * i + 1)) % 9) (mZero s)) z_2 sv ad2 t2 f62 k2) H := hP
  have hD : va_D A9 (fcW cI cS f0 a s2 fl2 c0 c1 n cs b (mPlay (1 + mk31 (xs (3 * i + 1)) % 9) (mZero s)) z_2 sv ad2 t2 f62 k2) := hD
  refine W.eq (g2 := F0 m9 198 ls [.int x9]) rfl ?_
  refine lv_istore (lv' := [(18, .int x9), (17, .int (nI (rS s ((s 7) + (mk31 ((xs ((3 * i) + 1)) >>> ((nI 4) &&& 31)) % 12)) (mk31 (xs ((3 * i) + 1)) % 8) (mk31 (xs ((3 * i) + 2)) % 11)))), (16, .int (nI (mPlay (1 + mk31 (xs (3 * i + 1)) % 9) (mZero s) 11))), (15, .int (nI (mPlay (1 + mk31 (xs (3 * i + 1)) % 9) (mZero s) 10))), (14, .int (nI (1 + (mk31 (xs ((3 * i) + 1)) % 9)))), (13, .int (xs ((3 * i) + 1))), (12, .int (nI (mk31 (xs (3 * i)) % 20))), (11, .int (nI (s 11))), (10, .int (nI (s 12))), (9, .int (nI (s 10))), (8, .int (nI (s 6))), (7, .int (nI (s 7))), (6, .int (nI (s 8))), (5, .int (nI k)), (0, .ref b0), (1, .ref f0), (2, .int (nI 1)), (3, .int (nI nt)), (4, .int (nI i))]) hx hb dL_law_198 hl (by decide) rfl (fun ls hl => ?_)
  have L246 : ∀  (H : Heap) (locs : List Loc) (ls : Array Slot),  va_P D vwCl (fcW cI cS f0 a s2 fl2 c0 c1 n cs b (mPlay (1 + mk31 (xs (3 * i + 1)) % 9) (mZero s)) z_2 sv ad2 t2 f62 k2) H → va_D A9 (fcW cI cS f0 a s2 fl2 c0 c1 n cs b (mPlay (1 + mk31 (xs (3 * i + 1)) % 9) (mZero s)) z_2 sv ad2 t2 f62 k2) → va_S A9 s9.heap H locs → lv_has ls 19 [(0, .ref b0), (1, .ref f0), (2, .int (nI 1)), (3, .int (nI nt)), (4, .int (nI i)), (5, .int (nI k)), (6, .int (nI (s 8))), (7, .int (nI (s 7))), (8, .int (nI (s 6))), (9, .int (nI (s 10))), (10, .int (nI (s 12))), (11, .int (nI (s 11))), (12, .int (nI (mk31 (xs (3 * i)) % 20))), (13, .int (xs (3 * i + 1))), (14, .int (nI (1 + mk31 (xs (3 * i + 1)) % 9))), (15, .int (nI (mPlay (1 + mk31 (xs (3 * i + 1)) % 9) (mZero s) 10))), (16, .int (nI (mPlay (1 + mk31 (xs (3 * i + 1)) % 9) (mZero s) 11))), (17, .int (nI (rS s (s 7 + mk31 (xs (3 * i + 1) >>> (nI 4 &&& 31)) % 12) (mk31 (xs (3 * i + 1)) % 8) (mk31 (xs (3 * i + 2)) % 11)))), (18, .int x9)] → W p9 l e9 room_1 s9 m9 ar9 be9 me9 c9 H locs (ce + 1) (sl + 6) Q9 (F0 m9 246 ls []) := by
    intro  H locs ls   hP hD hS hl
    refine lv_iconst (v := nI 1) hx hb dL_law_246 (by decide +kernel) ?_
    refine lv_goto (tgt := 251) hx hb dL_law_247 (by decide) ?_
    refine lv_istore_n (lv' := [(2, .int (nI 1)), (0, .ref b0), (1, .ref f0), (3, .int (nI nt)), (4, .int (nI i)), (5, .int (nI k)), (6, .int (nI (s 8))), (7, .int (nI (s 7))), (8, .int (nI (s 6))), (9, .int (nI (s 10))), (10, .int (nI (s 12))), (11, .int (nI (s 11))), (12, .int (nI (mk31 (xs (3 * i)) % 20))), (13, .int (xs (3 * i + 1))), (14, .int (nI (1 + mk31 (xs (3 * i + 1)) % 9))), (15, .int (nI (mPlay (1 + mk31 (xs (3 * i + 1)) % 9) (mZero s) 10))), (16, .int (nI (mPlay (1 + mk31 (xs (3 * i + 1)) % 9) (mZero s) 11))), (17, .int (nI (rS s (s 7 + mk31 (xs (3 * i + 1) >>> (nI 4 &&& 31)) % 12) (mk31 (xs (3 * i + 1)) % 8) (mk31 (xs (3 * i + 2)) % 11)))), (18, .int x9)]) hx hb dL_law_251 rfl hl (by decide) rfl (fun ls hl => ?_)
    have L349 : ∀  (H : Heap) (locs : List Loc) (ls : Array Slot),  va_P D vwCl (fcW cI cS f0 a s2 fl2 c0 c1 n cs b (mPlay (1 + mk31 (xs (3 * i + 1)) % 9) (mZero s)) z_2 sv ad2 t2 f62 k2) H → va_D A9 (fcW cI cS f0 a s2 fl2 c0 c1 n cs b (mPlay (1 + mk31 (xs (3 * i + 1)) % 9) (mZero s)) z_2 sv ad2 t2 f62 k2) → va_S A9 s9.heap H locs → lv_has ls 19 [(0, .ref b0), (1, .ref f0), (2, .int (nI 1)), (3, .int (nI nt)), (4, .int (nI i)), (5, .int (nI k)), (6, .int (nI (s 8))), (7, .int (nI (s 7))), (8, .int (nI (s 6))), (9, .int (nI (s 10))), (10, .int (nI (s 12))), (11, .int (nI (s 11))), (12, .int (nI (mk31 (xs (3 * i)) % 20))), (13, .int (xs (3 * i + 1))), (14, .int (nI (1 + mk31 (xs (3 * i + 1)) % 9))), (15, .int (nI (mPlay (1 + mk31 (xs (3 * i + 1)) % 9) (mZero s) 10))), (16, .int (nI (mPlay (1 + mk31 (xs (3 * i + 1)) % 9) (mZero s) 11))), (17, .int (nI (rS s (s 7 + mk31 (xs (3 * i + 1) >>> (nI 4 &&& 31)) % 12) (mk31 (xs (3 * i + 1)) % 8) (mk31 (xs (3 * i + 2)) % 11)))), (18, .int x9)] → W p9 l e9 room_1 s9 m9 ar9 be9 me9 c9 H locs (ce + 1) (sl + 6) Q9 (F0 m9 349 ls []) := by
      intro  H locs ls   hP hD hS hl
      have L379 : ∀  (H : Heap) (locs : List Loc) (ls : Array Slot),  va_P D vwCl (fcW cI cS f0 a s2 fl2 c0 c1 n cs b (mPlay (1 + mk31 (xs (3 * i + 1)) % 9) (mZero s)) z_2 sv ad2 t2 f62 k2) H → va_D A9 (fcW cI cS f0 a s2 fl2 c0 c1 n cs b (mPlay (1 + mk31 (xs (3 * i + 1)) % 9) (mZero s)) z_2 sv ad2 t2 f62 k2) → va_S A9 s9.heap H locs → lv_has ls 19 [(0, .ref b0), (1, .ref f0), (2, .int (nI 1)), (3, .int (nI nt)), (4, .int (nI i)), (5, .int (nI k)), (6, .int (nI (s 8))), (7, .int (nI (s 7))), (8, .int (nI (s 6))), (9, .int (nI (s 10))), (10, .int (nI (s 12))), (11, .int (nI (s 11))), (12, .int (nI (mk31 (xs (3 * i)) % 20))), (13, .int (xs (3 * i + 1))), (14, .int (nI (1 + mk31 (xs (3 * i + 1)) % 9))), (15, .int (nI (mPlay (1 + mk31 (xs (3 * i + 1)) % 9) (mZero s) 10))), (16, .int (nI (mPlay (1 + mk31 (xs (3 * i + 1)) % 9) (mZero s) 11))), (17, .int (nI (rS s (s 7 + mk31 (xs (3 * i + 1) >>> (nI 4 &&& 31)) % 12) (mk31 (xs (3 * i + 1)) % 8) (mk31 (xs (3 * i + 2)) % 11)))), (18, .int x9)] → W p9 l e9 room_1 s9 m9 ar9 be9 me9 c9 H locs (ce + 1) (sl + 6) Q9 (F0 m9 379 ls []) := by
        intro  H locs ls   hP hD hS hl
        refine lv_aload_n hx hb dL_law_379 rfl (lv_at hl 1 rfl) ?_
        refine KM.callSM (As := [.ref f0]) (rest := []) (W0 := (fcW cI cS f0 a s2 fl2 c0 c1 n cs b (mPlay (1 + mk31 (xs (3 * i + 1)) % 9) (mZero s)) z_2 sv ad2 t2 f62 k2)) (ws := (fcW cI cS f0 a s2 fl2 c0 c1 n cs b (mPlay (1 + mk31 (xs (3 * i + 1)) % 9) (mZero s)) z_2 sv ad2 t2 f62 k2)) (ws' := fun (_ : Unit) => (fcW cI cS f0 a s2 fl2 c0 c1 n cs b (mPlay (1 + mk31 (xs (3 * i + 1)) % 9) (mZero s)) z_2 sv ad2 t2 f62 k2)) C0 hN (k_L_fountain l D cI cS cL (T + 9) f0 a s2 fl2 c0 c1 n cs b (mPlay (1 + mk31 (xs (3 * i + 1)) % 9) (mZero s)) z_2 sv ad2 t2 f62 k2 hI2 (by omega) hk2 hn hcs hJ2) (va_cwS 1 hts gL_law_L_fountain rfl rfl rfl (by decide +kernel) ⟨Nat.le_of_ble_eq_true rfl, Nat.le_of_ble_eq_true rfl⟩) hK hP hD hS hA (fun _ h => h) (va_D_iff.mp hD).1 (fun _ => List.Perm.refl _) (fun _ _ h => Or.inl h) rfl hl.1 rfl (Nat.le_of_ble_eq_true rfl) dL_law_380 ⟨by dsimp only [room_1]; omega, by dsimp only [room_1]; omega⟩ (fun v9 u9 H locs hv hP hD hS => ?_)
        subst hv
        have hP : va_P D vwCl (fcW cI cS f0 a s2 fl2 c0 c1 n cs b (mPlay (1 + mk31 (xs (3 * i + 1)) % 9) (mZero s)) z_2 sv ad2 t2 f62 k2) H := hP
        have hD : va_D A9 (fcW cI cS f0 a s2 fl2 c0 c1 n cs b (mPlay (1 + mk31 (xs (3 * i + 1)) % 9) (mZero s)) z_2 sv ad2 t2 f62 k2) := hD
        refine W.eq (g2 := F0 m9 383 ls [.int (nI 1)]) rfl ?_
        refine q_feq (tgt := 390) (by omega) hx hb dL_law_383 (by decide) (fun c_383 => ?_) (fun c_383 => ?_)
        · exact absurd True.intro (by omega)
        ·
          refine lv_iconst (v := nI 1) hx hb dL_law_386 (by decide +kernel) ?_
          refine lv_goto (tgt := 391) hx hb dL_law_387 (by decide) ?_
          refine lv_istore_n (lv' := [(2, .int (nI 1)), (0, .ref b0), (1, .ref f0), (3, .int (nI nt)), (4, .int (nI i)), (5, .int (nI k)), (6, .int (nI (s 8))), (7, .int (nI (s 7))), (8, .int (nI (s 6))), (9, .int (nI (s 10))), (10, .int (nI (s 12))), (11, .int (nI (s 11))), (12, .int (nI (mk31 (xs (3 * i)) % 20))), (13, .int (xs (3 * i + 1))), (14, .int (nI (1 + mk31 (xs (3 * i + 1)) % 9))), (15, .int (nI (mPlay (1 + mk31 (xs (3 * i + 1)) % 9) (mZero s) 10))), (16, .int (nI (mPlay (1 + mk31 (xs (3 * i + 1)) % 9) (mZero s) 11))), (17, .int (nI (rS s (s 7 + mk31 (xs (3 * i + 1) >>> (nI 4 &&& 31)) % 12) (mk31 (xs (3 * i + 1)) % 8) (mk31 (xs (3 * i + 2)) % 11)))), (18, .int x9)]) hx hb dL_law_391 rfl hl (by decide) rfl (fun ls hl => ?_)
          refine lv_iinc (v := (nI (i + 1))) (lv' := [(4, .int (nI (i + 1))), (2, .int (nI 1)), (0, .ref b0), (1, .ref f0), (3, .int (nI nt)), (5, .int (nI k)), (6, .int (nI (s 8))), (7, .int (nI (s 7))), (8, .int (nI (s 6))), (9, .int (nI (s 10))), (10, .int (nI (s 12))), (11, .int (nI (s 11))), (12, .int (nI (mk31 (xs (3 * i)) % 20))), (13, .int (xs (3 * i + 1))), (14, .int (nI (1 + mk31 (xs (3 * i + 1)) % 9))), (15, .int (nI (mPlay (1 + mk31 (xs (3 * i + 1)) % 9) (mZero s) 10))), (16, .int (nI (mPlay (1 + mk31 (xs (3 * i + 1)) % 9) (mZero s) 11))), (17, .int (nI (rS s (s 7 + mk31 (xs (3 * i + 1) >>> (nI 4 &&& 31)) % 12) (mk31 (xs (3 * i + 1)) % 8) (mk31 (xs (3 * i + 2)) % 11)))), (18, .int x9)]) hx hb dL_law_392 hl (k := 4) rfl (nI_add i 1) (by decide) rfl (fun ls hl => ?_)
          refine lv_goto (tgt := 32) hx hb dL_law_395 (by decide) ?_
          exact hret H locs ls _ _ ⟨_, _, _, _, _, _, _, _, _, _, _, _, _, _, _, _, hG3 hG2, hn, hcs, hP, hD, hS, lv_sub hl [2, 3, 1, 4, 0] rfl⟩ (by first | omega | (dsimp only; omega)) (by first | omega | (dsimp only; omega))
      refine lv_iload hx hb dL_law_349 (lv_at hl 12 rfl) ?_
      refine lv_bipush (v := nI 6) hx hb dL_law_351 (by decide +kernel) ?_
      refine q_igt (tgt := 379) (by omega) (by omega) hx hb dL_law_353 (by decide) (fun c_353 => ?_) (fun c_353 => ?_)
      ·
        refine W.widen (k := (ce + 1)) (n := (sl + 6)) (by first | omega | (dsimp only; omega)) (by first | omega | (dsimp only; omega)) ?_
        exact L379   _ _ ls   hP hD hS (lv_sub hl [0, 1, 2, 3, 4, 5, 6, 7, 8, 9, 10, 11, 12, 13, 14, 15, 16, 17, 18] rfl)
      ·
        refine lv_iload hx hb dL_law_356 (lv_at hl 17 rfl) ?_
        refine q_fne (tgt := 365) (by exact rS_lt) hx hb dL_law_358 (by decide) (fun c_358 => ?_) (fun c_358 => ?_)
        ·
          refine lv_iconst (v := nI 0) hx hb dL_law_365 (by decide +kernel) ?_
          refine lv_iload hx hb dL_law_366 (lv_at hl 18 rfl) ?_
          refine lv_if_lt (tgt := 375) hx hb dL_law_368 (by decide) (fun c_368 => ?_) (fun c_368 => ?_)
          ·
            refine lv_iconst (v := nI 0) hx hb dL_law_375 (by decide +kernel) ?_
            refine q_ine (tgt := 390) (by omega) (by omega) hx hb dL_law_376 (by decide) (fun c_376 => ?_) (fun c_376 => ?_)
            · exact absurd True.intro (by omega)
            ·
              refine W.widen (k := (ce + 1)) (n := (sl + 6)) (by first | omega | (dsimp only; omega)) (by first | omega | (dsimp only; omega)) ?_
              exact L379   _ _ ls   hP hD hS (lv_sub hl [0, 1, 2, 3, 4, 5, 6, 7, 8, 9, 10, 11, 12, 13, 14, 15, 16, 17, 18] rfl)
          · exact absurd ((hcue (by omega)).mp (pos_no c_368)) c_358
        ·
          refine lv_iconst (v := nI 1) hx hb dL_law_361 (by decide +kernel) ?_
          refine lv_goto (tgt := 366) hx hb dL_law_362 (by decide) ?_
          refine lv_iload hx hb dL_law_366 (lv_at hl 18 rfl) ?_
          refine lv_if_lt (tgt := 375) hx hb dL_law_368 (by decide) (fun c_368 => ?_) (fun c_368 => ?_)
          · exact absurd ((hcue (by omega)).mpr c_358) (neg_no c_368)
          ·
            refine lv_iconst (v := nI 1) hx hb dL_law_371 (by decide +kernel) ?_
            refine lv_goto (tgt := 376) hx hb dL_law_372 (by decide) ?_
            refine q_ine (tgt := 390) (by omega) (by omega) hx hb dL_law_376 (by decide) (fun c_376 => ?_) (fun c_376 => ?_)
            · exact absurd True.intro (by omega)
            ·
              refine W.widen (k := (ce + 1)) (n := (sl + 6)) (by first | omega | (dsimp only; omega)) (by first | omega | (dsimp only; omega)) ?_
              exact L379   _ _ ls   hP hD hS (lv_sub hl [0, 1, 2, 3, 4, 5, 6, 7, 8, 9, 10, 11, 12, 13, 14, 15, 16, 17, 18] rfl)
    refine lv_iload_n hx hb dL_law_252 rfl (lv_at hl 0 rfl) ?_
    refine q_feq (tgt := 390) (by omega) hx hb dL_law_253 (by decide) (fun c_253 => ?_) (fun c_253 => ?_)
    · exact absurd True.intro (by omega)
    ·
      refine lv_iload hx hb dL_law_256 (lv_at hl 12 rfl) ?_
      refine lv_bipush (v := nI 8) hx hb dL_law_258 (by decide +kernel) ?_
      refine q_ilt (tgt := 349) (by omega) (by omega) hx hb dL_law_260 (by decide) (fun c_260 => ?_) (fun c_260 => ?_)
      ·
        refine W.widen (k := (ce + 1)) (n := (sl + 6)) (by first | omega | (dsimp only; omega)) (by first | omega | (dsimp only; omega)) ?_
        exact L349   _ _ ls   hP hD hS (lv_sub hl [1, 2, 0, 3, 4, 5, 6, 7, 8, 9, 10, 11, 12, 13, 14, 15, 16, 17, 18] rfl)
      ·
        refine lv_iload hx hb dL_law_263 (lv_at hl 12 rfl) ?_
        refine lv_bipush (v := nI 12) hx hb dL_law_265 (by decide +kernel) ?_
        refine q_igt (tgt := 349) (by omega) (by omega) hx hb dL_law_267 (by decide) (fun c_267 => ?_) (fun c_267 => ?_)
        ·
          refine W.widen (k := (ce + 1)) (n := (sl + 6)) (by first | omega | (dsimp only; omega)) (by first | omega | (dsimp only; omega)) ?_
          exact L349   _ _ ls   hP hD hS (lv_sub hl [1, 2, 0, 3, 4, 5, 6, 7, 8, 9, 10, 11, 12, 13, 14, 15, 16, 17, 18] rfl)
        ·
          obtain ⟨hx9, hs9⟩ := hplay (by omega) (by omega)
          obtain ⟨hkp1, hkp2, hkp3⟩ := kept_play (1 + mk31 (xs (3 * i + 1)) % 9) hI
          obtain ⟨-, hpr1, hpr2⟩ := plR_play (1 + mk31 (xs (3 * i + 1)) % 9) s
          have hll := play_lost (n := (1 + mk31 (xs (3 * i + 1)) % 9)) hI
          have e6 : s2 6 = mPlay (1 + mk31 (xs (3 * i + 1)) % 9) s 6 := by rw [hs9]
          have e7 : s2 7 = mPlay (1 + mk31 (xs (3 * i + 1)) % 9) s 7 := by rw [hs9]
          have e8 : s2 8 = mPlay (1 + mk31 (xs (3 * i + 1)) % 9) s 8 := by rw [hs9]
          have e10 : s2 10 = mPlay (1 + mk31 (xs (3 * i + 1)) % 9) s 10 := by rw [hs9]
          have e11 : s2 11 = mPlay (1 + mk31 (xs (3 * i + 1)) % 9) s 11 := by rw [hs9]
          have e12 : s2 12 = mPlay (1 + mk31 (xs (3 * i + 1)) % 9) s 12 := by rw [hs9]
          refine lv_iload hx hb dL_law_270 (lv_at hl 18 rfl) ?_
          refine q_topi (y := (nI (mPlay (1 + mk31 (xs (3 * i + 1)) % 9) s 10 - s 10))) (by exact hx9) ?_
          refine lv_iload hx hb dL_law_272 (lv_at hl 15 rfl) ?_
          refine q_ine (tgt := 390) (by omega) (by omega) hx hb dL_law_274 (by decide) (fun c_274 => ?_) (fun c_274 => ?_)
          · exact absurd True.intro (by omega)
          ·
            refine lv_aload_n hx hb dL_law_277 rfl (lv_at hl 2 rfl) ?_
            refine lv_iconst (v := nI 3) hx hb dL_law_278 (by decide +kernel) ?_
            refine KM.callVM (As := [.int (nI 3)]) (rest := []) (W0 := (fcW cI cS f0 a s2 fl2 c0 c1 n cs b (mPlay (1 + mk31 (xs (3 * i + 1)) % 9) (mZero s)) z_2 sv ad2 t2 f62 k2)) (ws := (fcW cI cS f0 a s2 fl2 c0 c1 n cs b (mPlay (1 + mk31 (xs (3 * i + 1)) % 9) (mZero s)) z_2 sv ad2 t2 f62 k2)) (ws' := fun (_ : Unit) => (fcW cI cS f0 a s2 fl2 c0 c1 n cs b (mPlay (1 + mk31 (xs (3 * i + 1)) % 9) (mZero s)) z_2 sv ad2 t2 f62 k2)) C0 hN (k_X5_count_ok l D cI cS cL (T + 9) f0 a s2 fl2 c0 c1 n cs b (mPlay (1 + mk31 (xs (3 * i + 1)) % 9) (mZero s)) z_2 sv ad2 t2 f62 k2 3 hI2 (by omega) hk2 hn hcs (by omega)) (cwV 1 hts gL_law_X5_count rfl rfl rfl (by decide +kernel) ⟨Nat.le_of_ble_eq_true rfl, Nat.le_of_ble_eq_true rfl⟩) hK hP hD hS hA (fun _ h => h) (va_D_iff.mp hD).1 (fun _ => fcW_perm (List.Perm.refl _)) (fun _ _ h => Or.inl h) 0 5 rfl rfl rfl rfl hl.1 rfl (Nat.le_of_ble_eq_true rfl) dL_law_279 ⟨by dsimp only [room_1]; omega, by dsimp only [room_1]; omega⟩ (fun v9 u9 H locs hv hP hD hS => ?_)
            subst hv
            have hP : va_P D vwCl (fcW cI cS f0 a s2 fl2 c0 c1 n cs b (mPlay (1 + mk31 (xs (3 * i + 1)) % 9) (mZero s)) z_2 sv ad2 t2 f62 k2) H := hP
            have hD : va_D A9 (fcW cI cS f0 a s2 fl2 c0 c1 n cs b (mPlay (1 + mk31 (xs (3 * i + 1)) % 9) (mZero s)) z_2 sv ad2 t2 f62 k2) := hD
            refine W.eq (g2 := F0 m9 282 ls [.int (nI (s2 6))]) rfl ?_
            refine lv_iload hx hb dL_law_282 (lv_at hl 8 rfl) ?_
            refine lv_iload hx hb dL_law_284 (lv_at hl 18 rfl) ?_
            refine q_topi (y := (nI (mPlay (1 + mk31 (xs (3 * i + 1)) % 9) s 10 - s 10))) (by exact hx9) ?_
            refine q_isub (by omega) hx hb dL_law_286 ?_
            refine q_ine (tgt := 390) (by omega) (by omega) hx hb dL_law_287 (by decide) (fun c_287 => ?_) (fun c_287 => ?_)
            · exact absurd True.intro (by omega)
            ·
              refine lv_aload_n hx hb dL_law_290 rfl (lv_at hl 2 rfl) ?_
              refine lv_iconst (v := nI 4) hx hb dL_law_291 (by decide +kernel) ?_
              refine KM.callVM (As := [.int (nI 4)]) (rest := []) (W0 := (fcW cI cS f0 a s2 fl2 c0 c1 n cs b (mPlay (1 + mk31 (xs (3 * i + 1)) % 9) (mZero s)) z_2 sv ad2 t2 f62 k2)) (ws := (fcW cI cS f0 a s2 fl2 c0 c1 n cs b (mPlay (1 + mk31 (xs (3 * i + 1)) % 9) (mZero s)) z_2 sv ad2 t2 f62 k2)) (ws' := fun (_ : Unit) => (fcW cI cS f0 a s2 fl2 c0 c1 n cs b (mPlay (1 + mk31 (xs (3 * i + 1)) % 9) (mZero s)) z_2 sv ad2 t2 f62 k2)) C0 hN (k_X5_count_ok l D cI cS cL (T + 9) f0 a s2 fl2 c0 c1 n cs b (mPlay (1 + mk31 (xs (3 * i + 1)) % 9) (mZero s)) z_2 sv ad2 t2 f62 k2 4 hI2 (by omega) hk2 hn hcs (by omega)) (cwV 1 hts gL_law_X5_count rfl rfl rfl (by decide +kernel) ⟨Nat.le_of_ble_eq_true rfl, Nat.le_of_ble_eq_true rfl⟩) hK hP hD hS hA (fun _ h => h) (va_D_iff.mp hD).1 (fun _ => fcW_perm (List.Perm.refl _)) (fun _ _ h => Or.inl h) 0 5 rfl rfl rfl rfl hl.1 rfl (Nat.le_of_ble_eq_true rfl) dL_law_292 ⟨by dsimp only [room_1]; omega, by dsimp only [room_1]; omega⟩ (fun v9 u9 H locs hv hP hD hS => ?_)
              subst hv
              have hP : va_P D vwCl (fcW cI cS f0 a s2 fl2 c0 c1 n cs b (mPlay (1 + mk31 (xs (3 * i + 1)) % 9) (mZero s)) z_2 sv ad2 t2 f62 k2) H := hP
              have hD : va_D A9 (fcW cI cS f0 a s2 fl2 c0 c1 n cs b (mPlay (1 + mk31 (xs (3 * i + 1)) % 9) (mZero s)) z_2 sv ad2 t2 f62 k2) := hD
              refine W.eq (g2 := F0 m9 295 ls [.int (nI (s2 10))]) rfl ?_
              refine lv_iload hx hb dL_law_295 (lv_at hl 9 rfl) ?_
              refine lv_iload hx hb dL_law_297 (lv_at hl 18 rfl) ?_
              refine q_topi (y := (nI (mPlay (1 + mk31 (xs (3 * i + 1)) % 9) s 10 - s 10))) (by exact hx9) ?_
              refine lv_iadd hx hb dL_law_299 ?_
              refine lv_icmp_ne (tgt := 390) hx hb dL_law_300 (by decide) (fun c_300 => ?_) (fun c_300 => ?_)
              · exact absurd (by rw [e10, nI_add]; congr 1; omega) c_300
              ·
                refine lv_aload_n hx hb dL_law_303 rfl (lv_at hl 2 rfl) ?_
                refine lv_iconst (v := nI 0) hx hb dL_law_304 (by decide +kernel) ?_
                refine KM.callVM (As := [.int (nI 0)]) (rest := []) (W0 := (fcW cI cS f0 a s2 fl2 c0 c1 n cs b (mPlay (1 + mk31 (xs (3 * i + 1)) % 9) (mZero s)) z_2 sv ad2 t2 f62 k2)) (ws := (fcW cI cS f0 a s2 fl2 c0 c1 n cs b (mPlay (1 + mk31 (xs (3 * i + 1)) % 9) (mZero s)) z_2 sv ad2 t2 f62 k2)) (ws' := fun (_ : Unit) => (fcW cI cS f0 a s2 fl2 c0 c1 n cs b (mPlay (1 + mk31 (xs (3 * i + 1)) % 9) (mZero s)) z_2 sv ad2 t2 f62 k2)) C0 hN (k_X5_count_ok l D cI cS cL (T + 9) f0 a s2 fl2 c0 c1 n cs b (mPlay (1 + mk31 (xs (3 * i + 1)) % 9) (mZero s)) z_2 sv ad2 t2 f62 k2 0 hI2 (by omega) hk2 hn hcs (by omega)) (cwV 1 hts gL_law_X5_count rfl rfl rfl (by decide +kernel) ⟨Nat.le_of_ble_eq_true rfl, Nat.le_of_ble_eq_true rfl⟩) hK hP hD hS hA (fun _ h => h) (va_D_iff.mp hD).1 (fun _ => fcW_perm (List.Perm.refl _)) (fun _ _ h => Or.inl h) 0 5 rfl rfl rfl rfl hl.1 rfl (Nat.le_of_ble_eq_true rfl) dL_law_305 ⟨by dsimp only [room_1]; omega, by dsimp only [room_1]; omega⟩ (fun v9 u9 H locs hv hP hD hS => ?_)
                subst hv
                have hP : va_P D vwCl (fcW cI cS f0 a s2 fl2 c0 c1 n cs b (mPlay (1 + mk31 (xs (3 * i + 1)) % 9) (mZero s)) z_2 sv ad2 t2 f62 k2) H := hP
                have hD : va_D A9 (fcW cI cS f0 a s2 fl2 c0 c1 n cs b (mPlay (1 + mk31 (xs (3 * i + 1)) % 9) (mZero s)) z_2 sv ad2 t2 f62 k2) := hD
                refine W.eq (g2 := F0 m9 308 ls [.int (nI (s2 7))]) rfl ?_
                refine lv_iload hx hb dL_law_308 (lv_at hl 7 rfl) ?_
                refine lv_iload hx hb dL_law_310 (lv_at hl 14 rfl) ?_
                refine q_iadd hx hb dL_law_312 ?_
                refine q_ine (tgt := 390) (by omega) (by omega) hx hb dL_law_313 (by decide) (fun c_313 => ?_) (fun c_313 => ?_)
                · exact absurd True.intro (by omega)
                ·
                  refine lv_aload_n hx hb dL_law_316 rfl (lv_at hl 2 rfl) ?_
                  refine lv_iconst (v := nI 5) hx hb dL_law_317 (by decide +kernel) ?_
                  refine KM.callVM (As := [.int (nI 5)]) (rest := []) (W0 := (fcW cI cS f0 a s2 fl2 c0 c1 n cs b (mPlay (1 + mk31 (xs (3 * i + 1)) % 9) (mZero s)) z_2 sv ad2 t2 f62 k2)) (ws := (fcW cI cS f0 a s2 fl2 c0 c1 n cs b (mPlay (1 + mk31 (xs (3 * i + 1)) % 9) (mZero s)) z_2 sv ad2 t2 f62 k2)) (ws' := fun (_ : Unit) => (fcW cI cS f0 a s2 fl2 c0 c1 n cs b (mPlay (1 + mk31 (xs (3 * i + 1)) % 9) (mZero s)) z_2 sv ad2 t2 f62 k2)) C0 hN (k_X5_count_ok l D cI cS cL (T + 9) f0 a s2 fl2 c0 c1 n cs b (mPlay (1 + mk31 (xs (3 * i + 1)) % 9) (mZero s)) z_2 sv ad2 t2 f62 k2 5 hI2 (by omega) hk2 hn hcs (by omega)) (cwV 1 hts gL_law_X5_count rfl rfl rfl (by decide +kernel) ⟨Nat.le_of_ble_eq_true rfl, Nat.le_of_ble_eq_true rfl⟩) hK hP hD hS hA (fun _ h => h) (va_D_iff.mp hD).1 (fun _ => fcW_perm (List.Perm.refl _)) (fun _ _ h => Or.inl h) 0 5 rfl rfl rfl rfl hl.1 rfl (Nat.le_of_ble_eq_true rfl) dL_law_318 ⟨by dsimp only [room_1]; omega, by dsimp only [room_1]; omega⟩ (fun v9 u9 H locs hv hP hD hS => ?_)
                  subst hv
                  have hP : va_P D vwCl (fcW cI cS f0 a s2 fl2 c0 c1 n cs b (mPlay (1 + mk31 (xs (3 * i + 1)) % 9) (mZero s)) z_2 sv ad2 t2 f62 k2) H := hP
                  have hD : va_D A9 (fcW cI cS f0 a s2 fl2 c0 c1 n cs b (mPlay (1 + mk31 (xs (3 * i + 1)) % 9) (mZero s)) z_2 sv ad2 t2 f62 k2) := hD
                  refine W.eq (g2 := F0 m9 321 ls [.int (nI (s2 11))]) rfl ?_
                  refine lv_iload hx hb dL_law_321 (lv_at hl 11 rfl) ?_
                  refine lv_iload hx hb dL_law_323 (lv_at hl 16 rfl) ?_
                  refine q_iadd hx hb dL_law_325 ?_
                  refine q_ine (tgt := 390) (by omega) (by omega) hx hb dL_law_326 (by decide) (fun c_326 => ?_) (fun c_326 => ?_)
                  · exact absurd True.intro (by omega)
                  ·
                    refine lv_aload_n hx hb dL_law_329 rfl (lv_at hl 2 rfl) ?_
                    refine lv_bipush (v := nI 7) hx hb dL_law_330 (by decide +kernel) ?_
                    refine KM.callVM (As := [.int (nI 7)]) (rest := []) (W0 := (fcW cI cS f0 a s2 fl2 c0 c1 n cs b (mPlay (1 + mk31 (xs (3 * i + 1)) % 9) (mZero s)) z_2 sv ad2 t2 f62 k2)) (ws := (fcW cI cS f0 a s2 fl2 c0 c1 n cs b (mPlay (1 + mk31 (xs (3 * i + 1)) % 9) (mZero s)) z_2 sv ad2 t2 f62 k2)) (ws' := fun (_ : Unit) => (fcW cI cS f0 a s2 fl2 c0 c1 n cs b (mPlay (1 + mk31 (xs (3 * i + 1)) % 9) (mZero s)) z_2 sv ad2 t2 f62 k2)) C0 hN (k_X5_count_ok l D cI cS cL (T + 9) f0 a s2 fl2 c0 c1 n cs b (mPlay (1 + mk31 (xs (3 * i + 1)) % 9) (mZero s)) z_2 sv ad2 t2 f62 k2 7 hI2 (by omega) hk2 hn hcs (by omega)) (cwV 1 hts gL_law_X5_count rfl rfl rfl (by decide +kernel) ⟨Nat.le_of_ble_eq_true rfl, Nat.le_of_ble_eq_true rfl⟩) hK hP hD hS hA (fun _ h => h) (va_D_iff.mp hD).1 (fun _ => fcW_perm (List.Perm.refl _)) (fun _ _ h => Or.inl h) 0 5 rfl rfl rfl rfl hl.1 rfl (Nat.le_of_ble_eq_true rfl) dL_law_332 ⟨by dsimp only [room_1]; omega, by dsimp only [room_1]; omega⟩ (fun v9 u9 H locs hv hP hD hS => ?_)
                    subst hv
                    have hP : va_P D vwCl (fcW cI cS f0 a s2 fl2 c0 c1 n cs b (mPlay (1 + mk31 (xs (3 * i + 1)) % 9) (mZero s)) z_2 sv ad2 t2 f62 k2) H := hP
                    have hD : va_D A9 (fcW cI cS f0 a s2 fl2 c0 c1 n cs b (mPlay (1 + mk31 (xs (3 * i + 1)) % 9) (mZero s)) z_2 sv ad2 t2 f62 k2) := hD
                    refine W.eq (g2 := F0 m9 335 ls [.int (nI (s2 12))]) rfl ?_
                    refine lv_aload_n hx hb dL_law_335 rfl (lv_at hl 2 rfl) ?_
                    refine lv_iconst (v := nI 1) hx hb dL_law_336 (by decide +kernel) ?_
                    refine KM.callVM (As := [.int (nI 1)]) (rest := [.int (nI (s2 12))]) (W0 := (fcW cI cS f0 a s2 fl2 c0 c1 n cs b (mPlay (1 + mk31 (xs (3 * i + 1)) % 9) (mZero s)) z_2 sv ad2 t2 f62 k2)) (ws := (fcW cI cS f0 a s2 fl2 c0 c1 n cs b (mPlay (1 + mk31 (xs (3 * i + 1)) % 9) (mZero s)) z_2 sv ad2 t2 f62 k2)) (ws' := fun (_ : Unit) => (fcW cI cS f0 a s2 fl2 c0 c1 n cs b (mPlay (1 + mk31 (xs (3 * i + 1)) % 9) (mZero s)) z_2 sv ad2 t2 f62 k2)) C0 hN (k_X5_count_ok l D cI cS cL (T + 9) f0 a s2 fl2 c0 c1 n cs b (mPlay (1 + mk31 (xs (3 * i + 1)) % 9) (mZero s)) z_2 sv ad2 t2 f62 k2 1 hI2 (by omega) hk2 hn hcs (by omega)) (cwV 1 hts gL_law_X5_count rfl rfl rfl (by decide +kernel) ⟨Nat.le_of_ble_eq_true rfl, Nat.le_of_ble_eq_true rfl⟩) hK hP hD hS hA (fun _ h => h) (va_D_iff.mp hD).1 (fun _ => fcW_perm (List.Perm.refl _)) (fun _ _ h => Or.inl h) 0 5 rfl rfl rfl rfl hl.1 rfl (Nat.le_of_ble_eq_true rfl) dL_law_337 ⟨by dsimp only [room_1]; omega, by dsimp only [room_1]; omega⟩ (fun v9 u9 H locs hv hP hD hS => ?_)
                    subst hv
                    have hP : va_P D vwCl (fcW cI cS f0 a s2 fl2 c0 c1 n cs b (mPlay (1 + mk31 (xs (3 * i + 1)) % 9) (mZero s)) z_2 sv ad2 t2 f62 k2) H := hP
                    have hD : va_D A9 (fcW cI cS f0 a s2 fl2 c0 c1 n cs b (mPlay (1 + mk31 (xs (3 * i + 1)) % 9) (mZero s)) z_2 sv ad2 t2 f62 k2) := hD
                    refine W.eq (g2 := F0 m9 340 ls [.int (nI (s2 8)), .int (nI (s2 12))]) rfl ?_
                    refine lv_iadd hx hb dL_law_340 ?_
                    refine lv_iload hx hb dL_law_341 (lv_at hl 10 rfl) ?_
                    refine lv_iload hx hb dL_law_343 (lv_at hl 6 rfl) ?_
                    refine lv_iadd hx hb dL_law_345 ?_
                    refine lv_icmp_ne (tgt := 390) hx hb dL_law_346 (by decide) (fun c_346 => ?_) (fun c_346 => ?_)
                    · exact absurd (by rw [nI_add, nI_add, e12, e8]; congr 1; omega) c_346
                    ·
                      refine W.widen (k := (ce + 1)) (n := (sl + 6)) (by first | omega | (dsimp only; omega)) (by first | omega | (dsimp only; omega)) ?_
                      exact L349   _ _ ls   hP hD hS (lv_sub hl [1, 2, 0, 3, 4, 5, 6, 7, 8, 9, 10, 11, 12, 13, 14, 15, 16, 17, 18] rfl)
  refine W.widen (k := ce + 1) (n := sl + 6) (by first | omega | (dsimp only; omega)) (by first | omega | (dsimp only; omega)) ?_
  refine lv_iload hx hb dL_law_200 (lv_at hl 0 rfl) ?_
  refine lv_if_ge (tgt := 246) hx hb dL_law_202 (by decide) (fun c_202 => ?_) (fun c_202 => ?_)
  ·
    refine W.widen (k := (ce + 1)) (n := (sl + 6)) (by first | omega | (dsimp only; omega)) (by first | omega | (dsimp only; omega)) ?_
    exact L246   _ _ ls   hP hD hS (lv_sub hl [14, 15, 16, 17, 18, 13, 12, 11, 10, 9, 8, 7, 6, 5, 4, 3, 2, 1, 0] rfl)
  ·
    obtain ⟨e1, e2⟩ := hneg c_202
    refine lv_aload_n hx hb dL_law_205 rfl (lv_at hl 15 rfl) ?_
    refine lv_bipush (v := nI 9) hx hb dL_law_206 (by decide +kernel) ?_
    refine KM.callVM (As := [.int (nI 9)]) (rest := []) (W0 := (fcW cI cS f0 a s2 fl2 c0 c1 n cs b (mPlay (1 + mk31 (xs (3 * i + 1)) % 9) (mZero s)) z_2 sv ad2 t2 f62 k2)) (ws := (fcW cI cS f0 a s2 fl2 c0 c1 n cs b (mPlay (1 + mk31 (xs (3 * i + 1)) % 9) (mZero s)) z_2 sv ad2 t2 f62 k2)) (ws' := fun (_ : Unit) => (fcW cI cS f0 a s2 fl2 c0 c1 n cs b (mPlay (1 + mk31 (xs (3 * i + 1)) % 9) (mZero s)) z_2 sv ad2 t2 f62 k2)) C0 hN (k_X5_count_ok l D cI cS cL (T + 9) f0 a s2 fl2 c0 c1 n cs b (mPlay (1 + mk31 (xs (3 * i + 1)) % 9) (mZero s)) z_2 sv ad2 t2 f62 k2 9 hI2 (by omega) hk2 hn hcs (by omega)) (cwV 1 hts gL_law_X5_count rfl rfl rfl (by decide +kernel) ⟨Nat.le_of_ble_eq_true rfl, Nat.le_of_ble_eq_true rfl⟩) hK hP hD hS hA (fun _ h => h) (va_D_iff.mp hD).1 (fun _ => fcW_perm (List.Perm.refl _)) (fun _ _ h => Or.inl h) 0 5 rfl rfl rfl rfl hl.1 rfl (Nat.le_of_ble_eq_true rfl) dL_law_208 ⟨by dsimp only [room_1]; omega, by dsimp only [room_1]; omega⟩ (fun v9 u9 H locs hv hP hD hS => ?_)
    subst hv
    have hP : va_P D vwCl (fcW cI cS f0 a s2 fl2 c0 c1 n cs b (mPlay (1 + mk31 (xs (3 * i + 1)) % 9) (mZero s)) z_2 sv ad2 t2 f62 k2) H := hP
    have hD : va_D A9 (fcW cI cS f0 a s2 fl2 c0 c1 n cs b (mPlay (1 + mk31 (xs (3 * i + 1)) % 9) (mZero s)) z_2 sv ad2 t2 f62 k2) := hD
    refine W.eq (g2 := F0 m9 211 ls [.int (nI k2)]) rfl ?_
    refine lv_iload hx hb dL_law_211 (lv_at hl 13 rfl) ?_
    refine q_ine (tgt := 250) (by omega) (by omega) hx hb dL_law_213 (by decide) (fun c_213 => ?_) (fun c_213 => ?_)
    · exact absurd e2 c_213
    ·
      refine lv_aload_n hx hb dL_law_216 rfl (lv_at hl 15 rfl) ?_
      refine lv_iconst (v := nI 1) hx hb dL_law_217 (by decide +kernel) ?_
      refine KM.callVM (As := [.int (nI 1)]) (rest := []) (W0 := (fcW cI cS f0 a s2 fl2 c0 c1 n cs b (mPlay (1 + mk31 (xs (3 * i + 1)) % 9) (mZero s)) z_2 sv ad2 t2 f62 k2)) (ws := (fcW cI cS f0 a s2 fl2 c0 c1 n cs b (mPlay (1 + mk31 (xs (3 * i + 1)) % 9) (mZero s)) z_2 sv ad2 t2 f62 k2)) (ws' := fun (_ : Unit) => (fcW cI cS f0 a s2 fl2 c0 c1 n cs b (mPlay (1 + mk31 (xs (3 * i + 1)) % 9) (mZero s)) z_2 sv ad2 t2 f62 k2)) C0 hN (k_X5_count_ok l D cI cS cL (T + 9) f0 a s2 fl2 c0 c1 n cs b (mPlay (1 + mk31 (xs (3 * i + 1)) % 9) (mZero s)) z_2 sv ad2 t2 f62 k2 1 hI2 (by omega) hk2 hn hcs (by omega)) (cwV 1 hts gL_law_X5_count rfl rfl rfl (by decide +kernel) ⟨Nat.le_of_ble_eq_true rfl, Nat.le_of_ble_eq_true rfl⟩) hK hP hD hS hA (fun _ h => h) (va_D_iff.mp hD).1 (fun _ => fcW_perm (List.Perm.refl _)) (fun _ _ h => Or.inl h) 0 5 rfl rfl rfl rfl hl.1 rfl (Nat.le_of_ble_eq_true rfl) dL_law_218 ⟨by dsimp only [room_1]; omega, by dsimp only [room_1]; omega⟩ (fun v9 u9 H locs hv hP hD hS => ?_)
      subst hv
      have hP : va_P D vwCl (fcW cI cS f0 a s2 fl2 c0 c1 n cs b (mPlay (1 + mk31 (xs (3 * i + 1)) % 9) (mZero s)) z_2 sv ad2 t2 f62 k2) H := hP
      have hD : va_D A9 (fcW cI cS f0 a s2 fl2 c0 c1 n cs b (mPlay (1 + mk31 (xs (3 * i + 1)) % 9) (mZero s)) z_2 sv ad2 t2 f62 k2) := hD
      refine W.eq (g2 := F0 m9 221 ls [.int (nI (s2 8))]) rfl ?_
      refine lv_iload hx hb dL_law_221 (lv_at hl 12 rfl) ?_
      refine q_ine (tgt := 250) (by omega) (by omega) hx hb dL_law_223 (by decide) (fun c_223 => ?_) (fun c_223 => ?_)
      · exact absurd (by rw [e1]) c_223
      ·
        refine lv_aload_n hx hb dL_law_226 rfl (lv_at hl 15 rfl) ?_
        refine lv_iconst (v := nI 0) hx hb dL_law_227 (by decide +kernel) ?_
        refine KM.callVM (As := [.int (nI 0)]) (rest := []) (W0 := (fcW cI cS f0 a s2 fl2 c0 c1 n cs b (mPlay (1 + mk31 (xs (3 * i + 1)) % 9) (mZero s)) z_2 sv ad2 t2 f62 k2)) (ws := (fcW cI cS f0 a s2 fl2 c0 c1 n cs b (mPlay (1 + mk31 (xs (3 * i + 1)) % 9) (mZero s)) z_2 sv ad2 t2 f62 k2)) (ws' := fun (_ : Unit) => (fcW cI cS f0 a s2 fl2 c0 c1 n cs b (mPlay (1 + mk31 (xs (3 * i + 1)) % 9) (mZero s)) z_2 sv ad2 t2 f62 k2)) C0 hN (k_X5_count_ok l D cI cS cL (T + 9) f0 a s2 fl2 c0 c1 n cs b (mPlay (1 + mk31 (xs (3 * i + 1)) % 9) (mZero s)) z_2 sv ad2 t2 f62 k2 0 hI2 (by omega) hk2 hn hcs (by omega)) (cwV 1 hts gL_law_X5_count rfl rfl rfl (by decide +kernel) ⟨Nat.le_of_ble_eq_true rfl, Nat.le_of_ble_eq_true rfl⟩) hK hP hD hS hA (fun _ h => h) (va_D_iff.mp hD).1 (fun _ => fcW_perm (List.Perm.refl _)) (fun _ _ h => Or.inl h) 0 5 rfl rfl rfl rfl hl.1 rfl (Nat.le_of_ble_eq_true rfl) dL_law_228 ⟨by dsimp only [room_1]; omega, by dsimp only [room_1]; omega⟩ (fun v9 u9 H locs hv hP hD hS => ?_)
        subst hv
        have hP : va_P D vwCl (fcW cI cS f0 a s2 fl2 c0 c1 n cs b (mPlay (1 + mk31 (xs (3 * i + 1)) % 9) (mZero s)) z_2 sv ad2 t2 f62 k2) H := hP
        have hD : va_D A9 (fcW cI cS f0 a s2 fl2 c0 c1 n cs b (mPlay (1 + mk31 (xs (3 * i + 1)) % 9) (mZero s)) z_2 sv ad2 t2 f62 k2) := hD
        refine W.eq (g2 := F0 m9 231 ls [.int (nI (s2 7))]) rfl ?_
        refine lv_iload hx hb dL_law_231 (lv_at hl 11 rfl) ?_
        refine q_ine (tgt := 250) (by omega) (by omega) hx hb dL_law_233 (by decide) (fun c_233 => ?_) (fun c_233 => ?_)
        · exact absurd (by rw [e1]) c_233
        ·
          refine lv_aload_n hx hb dL_law_236 rfl (lv_at hl 15 rfl) ?_
          refine lv_iconst (v := nI 3) hx hb dL_law_237 (by decide +kernel) ?_
          refine KM.callVM (As := [.int (nI 3)]) (rest := []) (W0 := (fcW cI cS f0 a s2 fl2 c0 c1 n cs b (mPlay (1 + mk31 (xs (3 * i + 1)) % 9) (mZero s)) z_2 sv ad2 t2 f62 k2)) (ws := (fcW cI cS f0 a s2 fl2 c0 c1 n cs b (mPlay (1 + mk31 (xs (3 * i + 1)) % 9) (mZero s)) z_2 sv ad2 t2 f62 k2)) (ws' := fun (_ : Unit) => (fcW cI cS f0 a s2 fl2 c0 c1 n cs b (mPlay (1 + mk31 (xs (3 * i + 1)) % 9) (mZero s)) z_2 sv ad2 t2 f62 k2)) C0 hN (k_X5_count_ok l D cI cS cL (T + 9) f0 a s2 fl2 c0 c1 n cs b (mPlay (1 + mk31 (xs (3 * i + 1)) % 9) (mZero s)) z_2 sv ad2 t2 f62 k2 3 hI2 (by omega) hk2 hn hcs (by omega)) (cwV 1 hts gL_law_X5_count rfl rfl rfl (by decide +kernel) ⟨Nat.le_of_ble_eq_true rfl, Nat.le_of_ble_eq_true rfl⟩) hK hP hD hS hA (fun _ h => h) (va_D_iff.mp hD).1 (fun _ => fcW_perm (List.Perm.refl _)) (fun _ _ h => Or.inl h) 0 5 rfl rfl rfl rfl hl.1 rfl (Nat.le_of_ble_eq_true rfl) dL_law_238 ⟨by dsimp only [room_1]; omega, by dsimp only [room_1]; omega⟩ (fun v9 u9 H locs hv hP hD hS => ?_)
          subst hv
          have hP : va_P D vwCl (fcW cI cS f0 a s2 fl2 c0 c1 n cs b (mPlay (1 + mk31 (xs (3 * i + 1)) % 9) (mZero s)) z_2 sv ad2 t2 f62 k2) H := hP
          have hD : va_D A9 (fcW cI cS f0 a s2 fl2 c0 c1 n cs b (mPlay (1 + mk31 (xs (3 * i + 1)) % 9) (mZero s)) z_2 sv ad2 t2 f62 k2) := hD
          refine W.eq (g2 := F0 m9 241 ls [.int (nI (s2 6))]) rfl ?_
          refine lv_iload hx hb dL_law_241 (lv_at hl 10 rfl) ?_
          refine q_ine (tgt := 250) (by omega) (by omega) hx hb dL_law_243 (by decide) (fun c_243 => ?_) (fun c_243 => ?_)
          · exact absurd (by rw [e1]) c_243
          ·
            refine W.widen (k := (ce + 1)) (n := (sl + 6)) (by first | omega | (dsimp only; omega)) (by first | omega | (dsimp only; omega)) ?_
            exact L246   _ _ ls   hP hD hS (lv_sub hl [14, 15, 16, 17, 18, 13, 12, 11, 10, 9, 8, 7, 6, 5, 4, 3, 2, 1, 0] rfl)
