set_option maxHeartbeats 4000000 in
set_option maxRecDepth 100000 in
theorem k_L_fountain (l : Launch) (D : va_G) (cI cS cL : ClassId) (T : Nat) (f0 : Nat) (a : Nat → Nat) (s : Nat → Nat) (fl : Nat → Nat) (c0 : Nat) (c1 : Nat) (n : Nat) (cs : Nat → Nat) (b : Nat → Nat) (r : Nat → Nat) (gl : Nat → Nat) (sv : Nat) (ad : Nat → Nat → Nat) (t : Nat → Nat → Nat) (f6 : Nat → Nat → Nat) (k : Nat) (hI : sI T s) (hT : T ≤ 900000) (hk : k ≤ 6) (hn : n ≤ 60) (hcs : ∀ j, j < n → cs j < 2 ^ 31) (hJ : sJ s) : KM l D (TY cI cS cL) yL_fountain wsL_fountain ({ frames := 6, cells := 0, slots := 0, locals := 131 } : Room) (fcW cI cS f0 a s fl c0 c1 n cs b r gl sv ad t f6 k) [.ref f0] (fun (v : Option Value) (_ : Unit) => v = some (.int (nI 1))) (fun _ : Unit => (fcW cI cS f0 a s fl c0 c1 n cs b r gl sv ad t f6 k)) := by
  refine KM.of (cc := cL_fountain) (maxL := 8) (ret := (some .boolean)) (by decide) rfl (Nat.le_of_ble_eq_true rfl) ?_
  intro p9 e9 s9 m9 ar9 be9 me9 c9 Q9 A9 ls C0 hN hnm hlk hK hA hret hP hD hS hl
  obtain ⟨hx, hb, hml, hown, hts⟩ := id C0
  have hl : lv_has ls 8 [(0, .ref f0)] := hl
  obtain ⟨H, hH0⟩ : ∃ H, H = s9.heap := ⟨_, rfl⟩
  obtain ⟨locs, hlc0⟩ : ∃ z : List Loc, z = [] := ⟨_, rfl⟩
  have hP : va_P D vwCl (fcW cI cS f0 a s fl c0 c1 n cs b r gl sv ad t f6 k) H := by rw [hH0]; exact hP
  have hD : va_D A9 (fcW cI cS f0 a s fl c0 c1 n cs b r gl sv ad t f6 k) := hD
  have hS : va_S A9 s9.heap H locs := by rw [hH0, hlc0]; exact hS
  suffices hgo : W p9 l e9 ({ frames := 6, cells := 0, slots := 0, locals := 131 } : Room) s9 m9 ar9 be9 me9 c9 H locs 0 0 Q9 (F0 m9 0 ls []) by rw [hH0, hlc0] at hgo; exact hgo
  clear hH0 hlc0
  obtain ⟨hI1, hI2, hI3, hI4, hI5, hI6, hI7, hI8, hI9, hI10, hI11⟩ := id hI
  obtain ⟨hB1, hB2, hB3, hB4, hB5, hB6, hB7, hB8⟩ := id hI1
  obtain ⟨hJ1, hJ2, hJ3, hJ4⟩ := id hJ
  have h50 : s 0 ≤ 20 := hB5
  have hlm := lm_le s 8
  refine lv_iconst (v := nI 0) hx hb dL_fountain_0 (by decide +kernel) ?_
  refine q_topi (y := (nI (lmS s (4 * 0)))) (by rfl) ?_
  refine lv_istore_n (lv' := [(1, .int (nI (lmS s (4 * 0)))), (0, .ref f0)]) hx hb dL_fountain_1 rfl hl (by decide) rfl (fun ls hl => ?_)
  refine lv_aload_n hx hb dL_fountain_2 rfl (lv_at hl 1 rfl) ?_
  refine lv_iconst (v := nI 1) hx hb dL_fountain_3 (by decide +kernel) ?_
  refine KM.callVM (As := [.int (nI 1)]) (rest := []) (W0 := (fcW cI cS f0 a s fl c0 c1 n cs b r gl sv ad t f6 k)) (ws := (fcW cI cS f0 a s fl c0 c1 n cs b r gl sv ad t f6 k)) (ws' := fun (_ : Unit) => (fcW cI cS f0 a s fl c0 c1 n cs b r gl sv ad t f6 k)) C0 hN (k_X5_count_ok l D cI cS cL T f0 a s fl c0 c1 n cs b r gl sv ad t f6 k 1 hI (by omega) hk hn hcs (by omega)) (cwV 1 hts gL_fountain_X5_count rfl rfl rfl (by decide +kernel) ⟨Nat.le_of_ble_eq_true rfl, Nat.le_of_ble_eq_true rfl⟩) hK hP hD hS hA (fun _ h => h) (va_D_iff.mp hD).1 (fun _ => fcW_perm (List.Perm.refl _)) (fun _ _ h => Or.inl h) 0 5 rfl rfl rfl rfl hl.1 rfl (Nat.le_of_ble_eq_true rfl) dL_fountain_4 ⟨Nat.le_of_ble_eq_true rfl, Nat.le_of_ble_eq_true rfl⟩ (fun v9 u9 H locs hv hP hD hS => ?_)
  subst hv
  have hP : va_P D vwCl (fcW cI cS f0 a s fl c0 c1 n cs b r gl sv ad t f6 k) H := hP
  have hD : va_D A9 (fcW cI cS f0 a s fl c0 c1 n cs b r gl sv ad t f6 k) := hD
  refine W.eq (g2 := F0 m9 7 ls [.int (nI (s 8))]) rfl ?_
  refine lv_bipush (v := nI 16) hx hb dL_fountain_7 (by decide +kernel) ?_
  refine q_igt (tgt := 45) (by omega) (by omega) hx hb dL_fountain_9 (by decide) (fun c_9 => ?_) (fun c_9 => ?_)
  · exact absurd True.intro (by omega)
  ·
    refine lv_aload_n hx hb dL_fountain_12 rfl (lv_at hl 1 rfl) ?_
    refine lv_iconst (v := nI 3) hx hb dL_fountain_13 (by decide +kernel) ?_
    refine KM.callVM (As := [.int (nI 3)]) (rest := []) (W0 := (fcW cI cS f0 a s fl c0 c1 n cs b r gl sv ad t f6 k)) (ws := (fcW cI cS f0 a s fl c0 c1 n cs b r gl sv ad t f6 k)) (ws' := fun (_ : Unit) => (fcW cI cS f0 a s fl c0 c1 n cs b r gl sv ad t f6 k)) C0 hN (k_X5_count_ok l D cI cS cL T f0 a s fl c0 c1 n cs b r gl sv ad t f6 k 3 hI (by omega) hk hn hcs (by omega)) (cwV 1 hts gL_fountain_X5_count rfl rfl rfl (by decide +kernel) ⟨Nat.le_of_ble_eq_true rfl, Nat.le_of_ble_eq_true rfl⟩) hK hP hD hS hA (fun _ h => h) (va_D_iff.mp hD).1 (fun _ => fcW_perm (List.Perm.refl _)) (fun _ _ h => Or.inl h) 0 5 rfl rfl rfl rfl hl.1 rfl (Nat.le_of_ble_eq_true rfl) dL_fountain_14 ⟨Nat.le_of_ble_eq_true rfl, Nat.le_of_ble_eq_true rfl⟩ (fun v9 u9 H locs hv hP hD hS => ?_)
    subst hv
    have hP : va_P D vwCl (fcW cI cS f0 a s fl c0 c1 n cs b r gl sv ad t f6 k) H := hP
    have hD : va_D A9 (fcW cI cS f0 a s fl c0 c1 n cs b r gl sv ad t f6 k) := hD
    refine W.eq (g2 := F0 m9 17 ls [.int (nI (s 6))]) rfl ?_
    refine lv_if_lt (tgt := 45) hx hb dL_fountain_17 (by decide) (fun c_17 => ?_) (fun c_17 => ?_)
    · exact absurd c_17 (nI_pos (by omega))
    ·
      refine lv_aload_n hx hb dL_fountain_20 rfl (lv_at hl 1 rfl) ?_
      refine lv_iconst (v := nI 3) hx hb dL_fountain_21 (by decide +kernel) ?_
      refine KM.callVM (As := [.int (nI 3)]) (rest := []) (W0 := (fcW cI cS f0 a s fl c0 c1 n cs b r gl sv ad t f6 k)) (ws := (fcW cI cS f0 a s fl c0 c1 n cs b r gl sv ad t f6 k)) (ws' := fun (_ : Unit) => (fcW cI cS f0 a s fl c0 c1 n cs b r gl sv ad t f6 k)) C0 hN (k_X5_count_ok l D cI cS cL T f0 a s fl c0 c1 n cs b r gl sv ad t f6 k 3 hI (by omega) hk hn hcs (by omega)) (cwV 1 hts gL_fountain_X5_count rfl rfl rfl (by decide +kernel) ⟨Nat.le_of_ble_eq_true rfl, Nat.le_of_ble_eq_true rfl⟩) hK hP hD hS hA (fun _ h => h) (va_D_iff.mp hD).1 (fun _ => fcW_perm (List.Perm.refl _)) (fun _ _ h => Or.inl h) 0 5 rfl rfl rfl rfl hl.1 rfl (Nat.le_of_ble_eq_true rfl) dL_fountain_22 ⟨Nat.le_of_ble_eq_true rfl, Nat.le_of_ble_eq_true rfl⟩ (fun v9 u9 H locs hv hP hD hS => ?_)
      subst hv
      have hP : va_P D vwCl (fcW cI cS f0 a s fl c0 c1 n cs b r gl sv ad t f6 k) H := hP
      have hD : va_D A9 (fcW cI cS f0 a s fl c0 c1 n cs b r gl sv ad t f6 k) := hD
      refine W.eq (g2 := F0 m9 25 ls [.int (nI (s 6))]) rfl ?_
      refine lv_ldc (v := nI 99999) hx hb hown (hts (.constant RL 33 (nI 99999)) (by decide +kernel)) dL_fountain_25 ?_
      refine q_igt (tgt := 45) (by omega) (by omega) hx hb dL_fountain_27 (by decide) (fun c_27 => ?_) (fun c_27 => ?_)
      · exact absurd True.intro (by omega)
      ·
        refine lv_aload_n hx hb dL_fountain_30 rfl (lv_at hl 1 rfl) ?_
        refine lv_bipush (v := nI 8) hx hb dL_fountain_31 (by decide +kernel) ?_
        refine KM.callVM (As := [.int (nI 8)]) (rest := []) (W0 := (fcW cI cS f0 a s fl c0 c1 n cs b r gl sv ad t f6 k)) (ws := (fcW cI cS f0 a s fl c0 c1 n cs b r gl sv ad t f6 k)) (ws' := fun (_ : Unit) => (fcW cI cS f0 a s fl c0 c1 n cs b r gl sv ad t f6 k)) C0 hN (k_X5_count_ok l D cI cS cL T f0 a s fl c0 c1 n cs b r gl sv ad t f6 k 8 hI (by omega) hk hn hcs (by omega)) (cwV 1 hts gL_fountain_X5_count rfl rfl rfl (by decide +kernel) ⟨Nat.le_of_ble_eq_true rfl, Nat.le_of_ble_eq_true rfl⟩) hK hP hD hS hA (fun _ h => h) (va_D_iff.mp hD).1 (fun _ => fcW_perm (List.Perm.refl _)) (fun _ _ h => Or.inl h) 0 5 rfl rfl rfl rfl hl.1 rfl (Nat.le_of_ble_eq_true rfl) dL_fountain_33 ⟨Nat.le_of_ble_eq_true rfl, Nat.le_of_ble_eq_true rfl⟩ (fun v9 u9 H locs hv hP hD hS => ?_)
        subst hv
        have hP : va_P D vwCl (fcW cI cS f0 a s fl c0 c1 n cs b r gl sv ad t f6 k) H := hP
        have hD : va_D A9 (fcW cI cS f0 a s fl c0 c1 n cs b r gl sv ad t f6 k) := hD
        refine W.eq (g2 := F0 m9 36 ls [.int (nI (s 13))]) rfl ?_
        refine lv_bipush (v := nI 10) hx hb dL_fountain_36 (by decide +kernel) ?_
        refine q_igt (tgt := 45) (by omega) (by omega) hx hb dL_fountain_38 (by decide) (fun c_38 => ?_) (fun c_38 => ?_)
        · exact absurd True.intro (by omega)
        ·
          refine lv_iconst (v := nI 1) hx hb dL_fountain_41 (by decide +kernel) ?_
          refine lv_goto (tgt := 46) hx hb dL_fountain_42 (by decide) ?_
          refine lv_istore_n (lv' := [(2, .int (nI 1)), (1, .int (nI (lmS s (4 * 0)))), (0, .ref f0)]) hx hb dL_fountain_46 rfl hl (by decide) rfl (fun ls hl => ?_)
          refine lv_bipush (v := nI 10) hx hb dL_fountain_47 (by decide +kernel) ?_
          refine lv_aload_n hx hb dL_fountain_49 rfl (lv_at hl 2 rfl) ?_
          refine lv_iconst (v := nI 0) hx hb dL_fountain_50 (by decide +kernel) ?_
          refine KM.callVM (As := [.int (nI 0)]) (rest := [.int (nI 10)]) (W0 := (fcW cI cS f0 a s fl c0 c1 n cs b r gl sv ad t f6 k)) (ws := (fcW cI cS f0 a s fl c0 c1 n cs b r gl sv ad t f6 k)) (ws' := fun (_ : Unit) => (fcW cI cS f0 a s fl c0 c1 n cs b r gl sv ad t f6 k)) C0 hN (k_X5_setting_ok l D cI cS cL T f0 a s fl c0 c1 n cs b r gl sv ad t f6 k 0 hI (by omega) hk hn hcs (by omega)) (cwV 1 hts gL_fountain_X5_setting rfl rfl rfl (by decide +kernel) ⟨Nat.le_of_ble_eq_true rfl, Nat.le_of_ble_eq_true rfl⟩) hK hP hD hS hA (fun _ h => h) (va_D_iff.mp hD).1 (fun _ => fcW_perm (List.Perm.refl _)) (fun _ _ h => Or.inl h) 0 5 rfl rfl rfl rfl hl.1 rfl (Nat.le_of_ble_eq_true rfl) dL_fountain_51 ⟨Nat.le_of_ble_eq_true rfl, Nat.le_of_ble_eq_true rfl⟩ (fun v9 u9 H locs hv hP hD hS => ?_)
          subst hv
          have hP : va_P D vwCl (fcW cI cS f0 a s fl c0 c1 n cs b r gl sv ad t f6 k) H := hP
          have hD : va_D A9 (fcW cI cS f0 a s fl c0 c1 n cs b r gl sv ad t f6 k) := hD
          refine W.eq (g2 := F0 m9 54 ls [.int (nI (s 0)), .int (nI 10)]) rfl ?_
          refine lv_iadd hx hb dL_fountain_54 ?_
          refine lv_aload_n hx hb dL_fountain_55 rfl (lv_at hl 2 rfl) ?_
          refine lv_iconst (v := nI 2) hx hb dL_fountain_56 (by decide +kernel) ?_
          refine KM.callVM (As := [.int (nI 2)]) (rest := [.int ((nI 10) + (nI (s 0)))]) (W0 := (fcW cI cS f0 a s fl c0 c1 n cs b r gl sv ad t f6 k)) (ws := (fcW cI cS f0 a s fl c0 c1 n cs b r gl sv ad t f6 k)) (ws' := fun (_ : Unit) => (fcW cI cS f0 a s fl c0 c1 n cs b r gl sv ad t f6 k)) C0 hN (k_X5_count_ok l D cI cS cL T f0 a s fl c0 c1 n cs b r gl sv ad t f6 k 2 hI (by omega) hk hn hcs (by omega)) (cwV 1 hts gL_fountain_X5_count rfl rfl rfl (by decide +kernel) ⟨Nat.le_of_ble_eq_true rfl, Nat.le_of_ble_eq_true rfl⟩) hK hP hD hS hA (fun _ h => h) (va_D_iff.mp hD).1 (fun _ => fcW_perm (List.Perm.refl _)) (fun _ _ h => Or.inl h) 0 5 rfl rfl rfl rfl hl.1 rfl (Nat.le_of_ble_eq_true rfl) dL_fountain_57 ⟨Nat.le_of_ble_eq_true rfl, Nat.le_of_ble_eq_true rfl⟩ (fun v9 u9 H locs hv hP hD hS => ?_)
          subst hv
          have hP : va_P D vwCl (fcW cI cS f0 a s fl c0 c1 n cs b r gl sv ad t f6 k) H := hP
          have hD : va_D A9 (fcW cI cS f0 a s fl c0 c1 n cs b r gl sv ad t f6 k) := hD
          refine W.eq (g2 := F0 m9 60 ls [.int (nI (s 5)), .int ((nI 10) + (nI (s 0)))]) rfl ?_
          refine lv_isub hx hb dL_fountain_60 ?_
          refine lv_istore_n (lv' := [(3, .int (((nI 10) + (nI (s 0))) - (nI (s 5)))), (2, .int (nI 1)), (1, .int (nI (lmS s (4 * 0)))), (0, .ref f0)]) hx hb dL_fountain_61 rfl hl (by decide) rfl (fun ls hl => ?_)
          refine lv_iconst (v := nI 0) hx hb dL_fountain_62 (by decide +kernel) ?_
          refine lv_istore (lv' := [(4, .int (nI 0)), (3, .int (((nI 10) + (nI (s 0))) - (nI (s 5)))), (2, .int (nI 1)), (1, .int (nI (lmS s (4 * 0)))), (0, .ref f0)]) hx hb dL_fountain_63 hl (by decide) rfl (fun ls hl => ?_)
          have L65 : ∀ (fuel : Nat) (p : Nat) (H : Heap) (locs : List Loc) (ls : Array Slot), (p ≤ 2) → (2 - p < fuel) → va_P D vwCl (fcW cI cS f0 a s fl c0 c1 n cs b r gl sv ad t f6 k) H → va_D A9 (fcW cI cS f0 a s fl c0 c1 n cs b r gl sv ad t f6 k) → va_S A9 s9.heap H locs → lv_has ls 8 [(0, .ref f0), (4, .int (nI p)), (1, .int (nI (lmS s (4 * p)))), (2, .int (nI 1)), (3, .int ((nI 10 + nI (s 0)) - nI (s 5)))] → W p9 l e9 ({ frames := 6, cells := 0, slots := 0, locals := 131 } : Room) s9 m9 ar9 be9 me9 c9 H locs 0 0 Q9 (F0 m9 65 ls []) := by
            intro fuel
            induction fuel with
            | zero => intro p H locs ls hp hfu; exact absurd hfu (Nat.not_lt_zero _)
            | succ fuel ih65 =>
              intro p H locs ls hp hfu hP hD hS hl
              refine lv_iload hx hb dL_fountain_65 (lv_at hl 1 rfl) ?_
              refine lv_iconst (v := nI 2) hx hb dL_fountain_67 (by decide +kernel) ?_
              refine q_ige (tgt := 346) (by omega) (by omega) hx hb dL_fountain_68 (by decide) (fun c_68 => ?_) (fun c_68 => ?_)
              ·
                have el346_1 : lmS s (4 * p) = lmS s 8 := by rw [show p = 2 by omega]
                rw [el346_1] at hl
                have hl : lv_has ls 8 [(0, .ref f0), (4, .int (nI p)), (1, .int (nI (lmS s 8))), (2, .int (nI 1)), (3, .int ((nI 10 + nI (s 0)) - nI (s 5)))] := hl
                refine lv_iconst (v := nI 0) hx hb dL_fountain_346 (by decide +kernel) ?_
                refine lv_istore (lv' := [(4, .int (nI 0)), (0, .ref f0), (1, .int (nI (lmS s 8))), (2, .int (nI 1)), (3, .int ((nI 10 + nI (s 0)) - nI (s 5)))]) hx hb dL_fountain_347 hl (by decide) rfl (fun ls hl => ?_)
                have L349 : ∀ (fuel : Nat) (c : Nat) (H : Heap) (locs : List Loc) (ls : Array Slot), (c ≤ s 8) → (s 8 - c < fuel) → va_P D vwCl (fcW cI cS f0 a s fl c0 c1 n cs b r gl sv ad t f6 k) H → va_D A9 (fcW cI cS f0 a s fl c0 c1 n cs b r gl sv ad t f6 k) → va_S A9 s9.heap H locs → lv_has ls 8 [(0, .ref f0), (4, .int (nI c)), (1, .int (nI (lmS s 8))), (2, .int (nI 1))] → W p9 l e9 ({ frames := 6, cells := 0, slots := 0, locals := 131 } : Room) s9 m9 ar9 be9 me9 c9 H locs 0 0 Q9 (F0 m9 349 ls []) := by
                  intro fuel
                  induction fuel with
                  | zero => intro c H locs ls hc hfu; exact absurd hfu (Nat.not_lt_zero _)
                  | succ fuel ih349 =>
                    intro c H locs ls hc hfu hP hD hS hl
                    refine lv_iload hx hb dL_fountain_349 (lv_at hl 1 rfl) ?_
                    refine lv_aload_n hx hb dL_fountain_351 rfl (lv_at hl 0 rfl) ?_
                    refine lv_iconst (v := nI 1) hx hb dL_fountain_352 (by decide +kernel) ?_
                    refine KM.callVM (As := [.int (nI 1)]) (rest := [.int (nI c)]) (W0 := (fcW cI cS f0 a s fl c0 c1 n cs b r gl sv ad t f6 k)) (ws := (fcW cI cS f0 a s fl c0 c1 n cs b r gl sv ad t f6 k)) (ws' := fun (_ : Unit) => (fcW cI cS f0 a s fl c0 c1 n cs b r gl sv ad t f6 k)) C0 hN (k_X5_count_ok l D cI cS cL T f0 a s fl c0 c1 n cs b r gl sv ad t f6 k 1 hI (by omega) hk hn hcs (by omega)) (cwV 1 hts gL_fountain_X5_count rfl rfl rfl (by decide +kernel) ⟨Nat.le_of_ble_eq_true rfl, Nat.le_of_ble_eq_true rfl⟩) hK hP hD hS hA (fun _ h => h) (va_D_iff.mp hD).1 (fun _ => fcW_perm (List.Perm.refl _)) (fun _ _ h => Or.inl h) 0 5 rfl rfl rfl rfl hl.1 rfl (Nat.le_of_ble_eq_true rfl) dL_fountain_353 ⟨Nat.le_of_ble_eq_true rfl, Nat.le_of_ble_eq_true rfl⟩ (fun v9 u9 H locs hv hP hD hS => ?_)
                    subst hv
                    have hP : va_P D vwCl (fcW cI cS f0 a s fl c0 c1 n cs b r gl sv ad t f6 k) H := hP
                    have hD : va_D A9 (fcW cI cS f0 a s fl c0 c1 n cs b r gl sv ad t f6 k) := hD
                    refine W.eq (g2 := F0 m9 356 ls [.int (nI (s 8)), .int (nI c)]) rfl ?_
                    refine q_ige (tgt := 512) (by omega) (by omega) hx hb dL_fountain_356 (by decide) (fun c_356 => ?_) (fun c_356 => ?_)
                    ·
                      refine lv_iload_n hx hb dL_fountain_512 rfl (lv_at hl 3 rfl) ?_
                      refine q_feq (tgt := 562) (by omega) hx hb dL_fountain_513 (by decide) (fun c_513 => ?_) (fun c_513 => ?_)
                      · exact absurd True.intro (by omega)
                      ·
                        refine lv_iload_n hx hb dL_fountain_516 rfl (lv_at hl 2 rfl) ?_
                        refine lv_aload_n hx hb dL_fountain_517 rfl (lv_at hl 0 rfl) ?_
                        refine lv_bipush (v := nI 6) hx hb dL_fountain_518 (by decide +kernel) ?_
                        refine KM.callVM (As := [.int (nI 6)]) (rest := [.int (nI (lmS s 8))]) (W0 := (fcW cI cS f0 a s fl c0 c1 n cs b r gl sv ad t f6 k)) (ws := (fcW cI cS f0 a s fl c0 c1 n cs b r gl sv ad t f6 k)) (ws' := fun (_ : Unit) => (fcW cI cS f0 a s fl c0 c1 n cs b r gl sv ad t f6 k)) C0 hN (k_X5_count_ok l D cI cS cL T f0 a s fl c0 c1 n cs b r gl sv ad t f6 k 6 hI (by omega) hk hn hcs (by omega)) (cwV 1 hts gL_fountain_X5_count rfl rfl rfl (by decide +kernel) ⟨Nat.le_of_ble_eq_true rfl, Nat.le_of_ble_eq_true rfl⟩) hK hP hD hS hA (fun _ h => h) (va_D_iff.mp hD).1 (fun _ => fcW_perm (List.Perm.refl _)) (fun _ _ h => Or.inl h) 0 5 rfl rfl rfl rfl hl.1 rfl (Nat.le_of_ble_eq_true rfl) dL_fountain_520 ⟨Nat.le_of_ble_eq_true rfl, Nat.le_of_ble_eq_true rfl⟩ (fun v9 u9 H locs hv hP hD hS => ?_)
                        subst hv
                        have hP : va_P D vwCl (fcW cI cS f0 a s fl c0 c1 n cs b r gl sv ad t f6 k) H := hP
                        have hD : va_D A9 (fcW cI cS f0 a s fl c0 c1 n cs b r gl sv ad t f6 k) := hD
                        refine W.eq (g2 := F0 m9 523 ls [.int (nI (lmS s 8)), .int (nI (lmS s 8))]) rfl ?_
                        refine q_ine (tgt := 562) (by omega) (by omega) hx hb dL_fountain_523 (by decide) (fun c_523 => ?_) (fun c_523 => ?_)
                        · exact absurd rfl c_523
                        ·
                          refine lv_aload_n hx hb dL_fountain_526 rfl (lv_at hl 0 rfl) ?_
                          refine lv_aload_n hx hb dL_fountain_527 rfl (lv_at hl 0 rfl) ?_
                          refine lv_iconst (v := nI 1) hx hb dL_fountain_528 (by decide +kernel) ?_
                          refine KM.callVM (As := [.int (nI 1)]) (rest := [.ref f0]) (W0 := (fcW cI cS f0 a s fl c0 c1 n cs b r gl sv ad t f6 k)) (ws := (fcW cI cS f0 a s fl c0 c1 n cs b r gl sv ad t f6 k)) (ws' := fun (_ : Unit) => (fcW cI cS f0 a s fl c0 c1 n cs b r gl sv ad t f6 k)) C0 hN (k_X5_count_ok l D cI cS cL T f0 a s fl c0 c1 n cs b r gl sv ad t f6 k 1 hI (by omega) hk hn hcs (by omega)) (cwV 1 hts gL_fountain_X5_count rfl rfl rfl (by decide +kernel) ⟨Nat.le_of_ble_eq_true rfl, Nat.le_of_ble_eq_true rfl⟩) hK hP hD hS hA (fun _ h => h) (va_D_iff.mp hD).1 (fun _ => fcW_perm (List.Perm.refl _)) (fun _ _ h => Or.inl h) 0 5 rfl rfl rfl rfl hl.1 rfl (Nat.le_of_ble_eq_true rfl) dL_fountain_529 ⟨Nat.le_of_ble_eq_true rfl, Nat.le_of_ble_eq_true rfl⟩ (fun v9 u9 H locs hv hP hD hS => ?_)
                          subst hv
                          have hP : va_P D vwCl (fcW cI cS f0 a s fl c0 c1 n cs b r gl sv ad t f6 k) H := hP
                          have hD : va_D A9 (fcW cI cS f0 a s fl c0 c1 n cs b r gl sv ad t f6 k) := hD
                          refine W.eq (g2 := F0 m9 532 ls [.int (nI (s 8)), .ref f0]) rfl ?_
                          refine lv_iconst (v := nI 0) hx hb dL_fountain_532 (by decide +kernel) ?_
                          refine KM.callVM (As := [.int (nI (s 8)), .int (nI 0)]) (rest := []) (W0 := (fcW cI cS f0 a s fl c0 c1 n cs b r gl sv ad t f6 k)) (ws := (fcW cI cS f0 a s fl c0 c1 n cs b r gl sv ad t f6 k)) (ws' := fun (_ : Unit) => (fcW cI cS f0 a s fl c0 c1 n cs b r gl sv ad t f6 k)) C0 hN (k_X5_cueOf_ok l D cI cS cL T f0 a s fl c0 c1 n cs b r gl sv ad t f6 k (s 8) 0 hI (by omega) hk hn hcs (by omega) (by omega)) (cwV 2 hts gL_fountain_X5_cueOf rfl rfl rfl (by decide +kernel) ⟨Nat.le_of_ble_eq_true rfl, Nat.le_of_ble_eq_true rfl⟩) hK hP hD hS hA (fun _ h => h) (va_D_iff.mp hD).1 (fun _ => fcW_perm (List.Perm.refl _)) (fun _ _ h => Or.inl h) 0 5 rfl rfl rfl rfl hl.1 rfl (Nat.le_of_ble_eq_true rfl) dL_fountain_533 ⟨Nat.le_of_ble_eq_true rfl, Nat.le_of_ble_eq_true rfl⟩ (fun v9 u9 H locs hv hP hD hS => ?_)
                          subst hv
                          have hP : va_P D vwCl (fcW cI cS f0 a s fl c0 c1 n cs b r gl sv ad t f6 k) H := hP
                          have hD : va_D A9 (fcW cI cS f0 a s fl c0 c1 n cs b r gl sv ad t f6 k) := hD
                          refine W.eq (g2 := F0 m9 536 ls [.int (if (s 8) < s 8 then nI (numS (nuF s) (tiF s) (jeF s) (acF s) 0 (s 8)) else -1)]) rfl ?_
                          refine q_topi (y := (-1)) (by exact if_neg (by omega)) ?_
                          refine lv_iconst (v := (-1)) hx hb dL_fountain_536 (by decide +kernel) ?_
                          refine lv_icmp_ne (tgt := 562) hx hb dL_fountain_537 (by decide) (fun c_537 => ?_) (fun c_537 => ?_)
                          · exact absurd rfl c_537
                          ·
                            refine lv_aload_n hx hb dL_fountain_540 rfl (lv_at hl 0 rfl) ?_
                            refine KM.callVM (As := []) (rest := []) (W0 := (fcW cI cS f0 a s fl c0 c1 n cs b r gl sv ad t f6 k)) (ws := (fcW cI cS f0 a s fl c0 c1 n cs b r gl sv ad t f6 k)) (ws' := fun (_ : Unit) => (fcW cI cS f0 a s fl c0 c1 n cs b r gl sv ad t f6 k)) C0 hN (k_X5_share_ok l D cI cS cL T f0 a s fl c0 c1 n cs b r gl sv ad t f6 k hI (by omega) hk hn hcs) (cwV 0 hts gL_fountain_X5_share rfl rfl rfl (by decide +kernel) ⟨Nat.le_of_ble_eq_true rfl, Nat.le_of_ble_eq_true rfl⟩) hK hP hD hS hA (fun _ h => h) (va_D_iff.mp hD).1 (fun _ => fcW_perm (List.Perm.refl _)) (fun _ _ h => Or.inl h) 0 5 rfl rfl rfl rfl hl.1 rfl (Nat.le_of_ble_eq_true rfl) dL_fountain_541 ⟨Nat.le_of_ble_eq_true rfl, Nat.le_of_ble_eq_true rfl⟩ (fun v9 u9 H locs hv hP hD hS => ?_)
                            subst hv
                            have hP : va_P D vwCl (fcW cI cS f0 a s fl c0 c1 n cs b r gl sv ad t f6 k) H := hP
                            have hD : va_D A9 (fcW cI cS f0 a s fl c0 c1 n cs b r gl sv ad t f6 k) := hD
                            refine W.eq (g2 := F0 m9 544 ls [.double (shS s)]) rfl ?_
                            refine lv_dconst0 hx hb dL_fountain_544 ?_
                            refine lv_dcmp hx hb dL_fountain_545 ?_
                            refine lv_if_lt (tgt := 562) hx hb dL_fountain_546 (by decide) (fun c_546 => ?_) (fun c_546 => ?_)
                            · exact absurd c_546 (shS_l hI)
                            ·
                              refine lv_aload_n hx hb dL_fountain_549 rfl (lv_at hl 0 rfl) ?_
                              refine KM.callVM (As := []) (rest := []) (W0 := (fcW cI cS f0 a s fl c0 c1 n cs b r gl sv ad t f6 k)) (ws := (fcW cI cS f0 a s fl c0 c1 n cs b r gl sv ad t f6 k)) (ws' := fun (_ : Unit) => (fcW cI cS f0 a s fl c0 c1 n cs b r gl sv ad t f6 k)) C0 hN (k_X5_share_ok l D cI cS cL T f0 a s fl c0 c1 n cs b r gl sv ad t f6 k hI (by omega) hk hn hcs) (cwV 0 hts gL_fountain_X5_share rfl rfl rfl (by decide +kernel) ⟨Nat.le_of_ble_eq_true rfl, Nat.le_of_ble_eq_true rfl⟩) hK hP hD hS hA (fun _ h => h) (va_D_iff.mp hD).1 (fun _ => fcW_perm (List.Perm.refl _)) (fun _ _ h => Or.inl h) 0 5 rfl rfl rfl rfl hl.1 rfl (Nat.le_of_ble_eq_true rfl) dL_fountain_550 ⟨Nat.le_of_ble_eq_true rfl, Nat.le_of_ble_eq_true rfl⟩ (fun v9 u9 H locs hv hP hD hS => ?_)
                              subst hv
                              have hP : va_P D vwCl (fcW cI cS f0 a s fl c0 c1 n cs b r gl sv ad t f6 k) H := hP
                              have hD : va_D A9 (fcW cI cS f0 a s fl c0 c1 n cs b r gl sv ad t f6 k) := hD
                              refine W.eq (g2 := F0 m9 553 ls [.double (shS s)]) rfl ?_
                              refine lv_dconst1 hx hb dL_fountain_553 ?_
                              refine lv_dcmp hx hb dL_fountain_554 ?_
                              refine lv_if_gt (tgt := 562) hx hb dL_fountain_555 (by decide) (fun c_555 => ?_) (fun c_555 => ?_)
                              · exact absurd c_555 (shS_g hI)
                              ·
                                refine lv_iconst (v := nI 1) hx hb dL_fountain_558 (by decide +kernel) ?_
                                refine lv_goto (tgt := 563) hx hb dL_fountain_559 (by decide) ?_
                                exact hret _ _ _ _ (some (.int (nI 1))) () 563 ls (by decide) (by decide) (by rfl) hP hD hS (ret_z dL_fountain_563 (by first | exact bI_le | omega))
                    ·
                      have hc1 := hJ1 c (by omega)
                      have hc9 := hI9 c (by omega)
                      refine lv_iload_n hx hb dL_fountain_359 rfl (lv_at hl 3 rfl) ?_
                      refine q_feq (tgt := 512) (by omega) hx hb dL_fountain_360 (by decide) (fun c_360 => ?_) (fun c_360 => ?_)
                      · exact absurd True.intro (by omega)
                      ·
                        have L440 : ∀  (H : Heap) (locs : List Loc) (ls : Array Slot),  va_P D vwCl (fcW cI cS f0 a s fl c0 c1 n cs b r gl sv ad t f6 k) H → va_D A9 (fcW cI cS f0 a s fl c0 c1 n cs b r gl sv ad t f6 k) → va_S A9 s9.heap H locs → lv_has ls 8 [(0, .ref f0), (4, .int (nI c)), (1, .int (nI (lmS s 8))), (2, .int (nI 1))] → W p9 l e9 ({ frames := 6, cells := 0, slots := 0, locals := 131 } : Room) s9 m9 ar9 be9 me9 c9 H locs 0 0 Q9 (F0 m9 440 ls []) := by
                          intro  H locs ls   hP hD hS hl
                          refine lv_iconst (v := nI 1) hx hb dL_fountain_440 (by decide +kernel) ?_
                          refine lv_goto (tgt := 445) hx hb dL_fountain_441 (by decide) ?_
                          refine lv_istore_n (lv' := [(2, .int (nI 1)), (0, .ref f0), (4, .int (nI c)), (1, .int (nI (lmS s 8)))]) hx hb dL_fountain_445 rfl hl (by decide) rfl (fun ls hl => ?_)
                          refine lv_iconst (v := nI 0) hx hb dL_fountain_446 (by decide +kernel) ?_
                          refine lv_istore (lv' := [(5, .int (nI 0)), (2, .int (nI 1)), (0, .ref f0), (4, .int (nI c)), (1, .int (nI (lmS s 8)))]) hx hb dL_fountain_447 hl (by decide) rfl (fun ls hl => ?_)
                          have L449 : ∀ (fuel : Nat) (d : Nat) (H : Heap) (locs : List Loc) (ls : Array Slot), (d ≤ c) → (c - d < fuel) → va_P D vwCl (fcW cI cS f0 a s fl c0 c1 n cs b r gl sv ad t f6 k) H → va_D A9 (fcW cI cS f0 a s fl c0 c1 n cs b r gl sv ad t f6 k) → va_S A9 s9.heap H locs → lv_has ls 8 [(0, .ref f0), (4, .int (nI c)), (5, .int (nI d)), (1, .int (nI (lmS s 8))), (2, .int (nI 1))] → W p9 l e9 ({ frames := 6, cells := 0, slots := 0, locals := 131 } : Room) s9 m9 ar9 be9 me9 c9 H locs 0 0 Q9 (F0 m9 449 ls []) := by
                            intro fuel
                            induction fuel with
                            | zero => intro d H locs ls hd hfu; exact absurd hfu (Nat.not_lt_zero _)
                            | succ fuel ih449 =>
                              intro d H locs ls hd hfu hP hD hS hl
                              refine lv_iload hx hb dL_fountain_449 (lv_at hl 2 rfl) ?_
                              refine lv_iload hx hb dL_fountain_451 (lv_at hl 1 rfl) ?_
                              refine q_ige (tgt := 506) (by omega) (by omega) hx hb dL_fountain_453 (by decide) (fun c_453 => ?_) (fun c_453 => ?_)
                              ·
                                refine lv_iinc (v := (nI (c + 1))) (lv' := [(4, .int (nI (c + 1))), (0, .ref f0), (5, .int (nI d)), (1, .int (nI (lmS s 8))), (2, .int (nI 1))]) hx hb dL_fountain_506 hl (k := 1) rfl (nI_add c 1) (by decide) rfl (fun ls hl => ?_)
                                refine lv_goto (tgt := 349) hx hb dL_fountain_509 (by decide) ?_
                                exact ih349  (c + 1) _ _ ls (by first | with_reducible assumption | omega) (by omega) hP hD hS (lv_sub hl [1, 0, 3, 4] rfl)
                              ·
                                have hd9 := hI9 d (by omega)
                                have hn3 := hJ3 d c (by omega) (by omega)
                                refine lv_iload_n hx hb dL_fountain_456 rfl (lv_at hl 4 rfl) ?_
                                refine q_feq (tgt := 506) (by omega) hx hb dL_fountain_457 (by decide) (fun c_457 => ?_) (fun c_457 => ?_)
                                · exact absurd True.intro (by omega)
                                ·
                                  have L494 : ∀  (H : Heap) (locs : List Loc) (ls : Array Slot),  va_P D vwCl (fcW cI cS f0 a s fl c0 c1 n cs b r gl sv ad t f6 k) H → va_D A9 (fcW cI cS f0 a s fl c0 c1 n cs b r gl sv ad t f6 k) → va_S A9 s9.heap H locs → lv_has ls 8 [(0, .ref f0), (4, .int (nI c)), (5, .int (nI d)), (1, .int (nI (lmS s 8))), (2, .int (nI 1))] → W p9 l e9 ({ frames := 6, cells := 0, slots := 0, locals := 131 } : Room) s9 m9 ar9 be9 me9 c9 H locs 0 0 Q9 (F0 m9 494 ls []) := by
                                    intro  H locs ls   hP hD hS hl
                                    refine lv_iconst (v := nI 1) hx hb dL_fountain_494 (by decide +kernel) ?_
                                    refine lv_goto (tgt := 499) hx hb dL_fountain_495 (by decide) ?_
                                    refine lv_istore_n (lv' := [(2, .int (nI 1)), (0, .ref f0), (4, .int (nI c)), (5, .int (nI d)), (1, .int (nI (lmS s 8)))]) hx hb dL_fountain_499 rfl hl (by decide) rfl (fun ls hl => ?_)
                                    refine lv_iinc (v := (nI (d + 1))) (lv' := [(5, .int (nI (d + 1))), (2, .int (nI 1)), (0, .ref f0), (4, .int (nI c)), (1, .int (nI (lmS s 8)))]) hx hb dL_fountain_500 hl (k := 3) rfl (nI_add d 1) (by decide) rfl (fun ls hl => ?_)
                                    refine lv_goto (tgt := 449) hx hb dL_fountain_503 (by decide) ?_
                                    exact ih449  (d + 1) _ _ ls (by first | with_reducible assumption | omega) (by omega) hP hD hS (lv_sub hl [2, 3, 0, 4, 1] rfl)
                                  refine lv_aload_n hx hb dL_fountain_460 rfl (lv_at hl 0 rfl) ?_
                                  refine lv_iload hx hb dL_fountain_461 (lv_at hl 1 rfl) ?_
                                  refine lv_iconst (v := nI 1) hx hb dL_fountain_463 (by decide +kernel) ?_
                                  refine KM.callVM (As := [.int (nI c), .int (nI 1)]) (rest := []) (W0 := (fcW cI cS f0 a s fl c0 c1 n cs b r gl sv ad t f6 k)) (ws := (fcW cI cS f0 a s fl c0 c1 n cs b r gl sv ad t f6 k)) (ws' := fun (_ : Unit) => (fcW cI cS f0 a s fl c0 c1 n cs b r gl sv ad t f6 k)) C0 hN (k_X5_cueOf_ok l D cI cS cL T f0 a s fl c0 c1 n cs b r gl sv ad t f6 k c 1 hI (by omega) hk hn hcs (by omega) (by omega)) (cwV 2 hts gL_fountain_X5_cueOf rfl rfl rfl (by decide +kernel) ⟨Nat.le_of_ble_eq_true rfl, Nat.le_of_ble_eq_true rfl⟩) hK hP hD hS hA (fun _ h => h) (va_D_iff.mp hD).1 (fun _ => fcW_perm (List.Perm.refl _)) (fun _ _ h => Or.inl h) 0 5 rfl rfl rfl rfl hl.1 rfl (Nat.le_of_ble_eq_true rfl) dL_fountain_464 ⟨Nat.le_of_ble_eq_true rfl, Nat.le_of_ble_eq_true rfl⟩ (fun v9 u9 H locs hv hP hD hS => ?_)
                                  subst hv
                                  have hP : va_P D vwCl (fcW cI cS f0 a s fl c0 c1 n cs b r gl sv ad t f6 k) H := hP
                                  have hD : va_D A9 (fcW cI cS f0 a s fl c0 c1 n cs b r gl sv ad t f6 k) := hD
                                  refine W.eq (g2 := F0 m9 467 ls [.int (if c < s 8 then nI (numS (nuF s) (tiF s) (jeF s) (acF s) 1 c) else -1)]) rfl ?_
                                  refine q_topi (y := (nI (tiF s c))) (by exact if_pos (by omega)) ?_
                                  refine lv_aload_n hx hb dL_fountain_467 rfl (lv_at hl 0 rfl) ?_
                                  refine lv_iload hx hb dL_fountain_468 (lv_at hl 2 rfl) ?_
                                  refine lv_iconst (v := nI 1) hx hb dL_fountain_470 (by decide +kernel) ?_
                                  refine KM.callVM (As := [.int (nI d), .int (nI 1)]) (rest := [.int (nI (tiF s c))]) (W0 := (fcW cI cS f0 a s fl c0 c1 n cs b r gl sv ad t f6 k)) (ws := (fcW cI cS f0 a s fl c0 c1 n cs b r gl sv ad t f6 k)) (ws' := fun (_ : Unit) => (fcW cI cS f0 a s fl c0 c1 n cs b r gl sv ad t f6 k)) C0 hN (k_X5_cueOf_ok l D cI cS cL T f0 a s fl c0 c1 n cs b r gl sv ad t f6 k d 1 hI (by omega) hk hn hcs (by omega) (by omega)) (cwV 2 hts gL_fountain_X5_cueOf rfl rfl rfl (by decide +kernel) ⟨Nat.le_of_ble_eq_true rfl, Nat.le_of_ble_eq_true rfl⟩) hK hP hD hS hA (fun _ h => h) (va_D_iff.mp hD).1 (fun _ => fcW_perm (List.Perm.refl _)) (fun _ _ h => Or.inl h) 0 5 rfl rfl rfl rfl hl.1 rfl (Nat.le_of_ble_eq_true rfl) dL_fountain_471 ⟨Nat.le_of_ble_eq_true rfl, Nat.le_of_ble_eq_true rfl⟩ (fun v9 u9 H locs hv hP hD hS => ?_)
                                  subst hv
                                  have hP : va_P D vwCl (fcW cI cS f0 a s fl c0 c1 n cs b r gl sv ad t f6 k) H := hP
                                  have hD : va_D A9 (fcW cI cS f0 a s fl c0 c1 n cs b r gl sv ad t f6 k) := hD
                                  refine W.eq (g2 := F0 m9 474 ls [.int (if d < s 8 then nI (numS (nuF s) (tiF s) (jeF s) (acF s) 1 d) else -1), .int (nI (tiF s c))]) rfl ?_
                                  refine q_topi (y := (nI (tiF s d))) (by exact if_pos (by omega)) ?_
                                  refine q_ine (tgt := 494) (by omega) (by omega) hx hb dL_fountain_474 (by decide) (fun c_474 => ?_) (fun c_474 => ?_)
                                  ·
                                    exact L494   _ _ ls   hP hD hS (lv_sub hl [0, 1, 2, 3, 4] rfl)
                                  ·
                                    refine lv_aload_n hx hb dL_fountain_477 rfl (lv_at hl 0 rfl) ?_
                                    refine lv_iload hx hb dL_fountain_478 (lv_at hl 1 rfl) ?_
                                    refine lv_iconst (v := nI 2) hx hb dL_fountain_480 (by decide +kernel) ?_
                                    refine KM.callVM (As := [.int (nI c), .int (nI 2)]) (rest := []) (W0 := (fcW cI cS f0 a s fl c0 c1 n cs b r gl sv ad t f6 k)) (ws := (fcW cI cS f0 a s fl c0 c1 n cs b r gl sv ad t f6 k)) (ws' := fun (_ : Unit) => (fcW cI cS f0 a s fl c0 c1 n cs b r gl sv ad t f6 k)) C0 hN (k_X5_cueOf_ok l D cI cS cL T f0 a s fl c0 c1 n cs b r gl sv ad t f6 k c 2 hI (by omega) hk hn hcs (by omega) (by omega)) (cwV 2 hts gL_fountain_X5_cueOf rfl rfl rfl (by decide +kernel) ⟨Nat.le_of_ble_eq_true rfl, Nat.le_of_ble_eq_true rfl⟩) hK hP hD hS hA (fun _ h => h) (va_D_iff.mp hD).1 (fun _ => fcW_perm (List.Perm.refl _)) (fun _ _ h => Or.inl h) 0 5 rfl rfl rfl rfl hl.1 rfl (Nat.le_of_ble_eq_true rfl) dL_fountain_481 ⟨Nat.le_of_ble_eq_true rfl, Nat.le_of_ble_eq_true rfl⟩ (fun v9 u9 H locs hv hP hD hS => ?_)
                                    subst hv
                                    have hP : va_P D vwCl (fcW cI cS f0 a s fl c0 c1 n cs b r gl sv ad t f6 k) H := hP
                                    have hD : va_D A9 (fcW cI cS f0 a s fl c0 c1 n cs b r gl sv ad t f6 k) := hD
                                    refine W.eq (g2 := F0 m9 484 ls [.int (if c < s 8 then nI (numS (nuF s) (tiF s) (jeF s) (acF s) 2 c) else -1)]) rfl ?_
                                    refine q_topi (y := (nI (jeF s c))) (by exact if_pos (by omega)) ?_
                                    refine lv_aload_n hx hb dL_fountain_484 rfl (lv_at hl 0 rfl) ?_
                                    refine lv_iload hx hb dL_fountain_485 (lv_at hl 2 rfl) ?_
                                    refine lv_iconst (v := nI 2) hx hb dL_fountain_487 (by decide +kernel) ?_
                                    refine KM.callVM (As := [.int (nI d), .int (nI 2)]) (rest := [.int (nI (jeF s c))]) (W0 := (fcW cI cS f0 a s fl c0 c1 n cs b r gl sv ad t f6 k)) (ws := (fcW cI cS f0 a s fl c0 c1 n cs b r gl sv ad t f6 k)) (ws' := fun (_ : Unit) => (fcW cI cS f0 a s fl c0 c1 n cs b r gl sv ad t f6 k)) C0 hN (k_X5_cueOf_ok l D cI cS cL T f0 a s fl c0 c1 n cs b r gl sv ad t f6 k d 2 hI (by omega) hk hn hcs (by omega) (by omega)) (cwV 2 hts gL_fountain_X5_cueOf rfl rfl rfl (by decide +kernel) ⟨Nat.le_of_ble_eq_true rfl, Nat.le_of_ble_eq_true rfl⟩) hK hP hD hS hA (fun _ h => h) (va_D_iff.mp hD).1 (fun _ => fcW_perm (List.Perm.refl _)) (fun _ _ h => Or.inl h) 0 5 rfl rfl rfl rfl hl.1 rfl (Nat.le_of_ble_eq_true rfl) dL_fountain_488 ⟨Nat.le_of_ble_eq_true rfl, Nat.le_of_ble_eq_true rfl⟩ (fun v9 u9 H locs hv hP hD hS => ?_)
                                    subst hv
                                    have hP : va_P D vwCl (fcW cI cS f0 a s fl c0 c1 n cs b r gl sv ad t f6 k) H := hP
                                    have hD : va_D A9 (fcW cI cS f0 a s fl c0 c1 n cs b r gl sv ad t f6 k) := hD
                                    refine W.eq (g2 := F0 m9 491 ls [.int (if d < s 8 then nI (numS (nuF s) (tiF s) (jeF s) (acF s) 2 d) else -1), .int (nI (jeF s c))]) rfl ?_
                                    refine q_topi (y := (nI (jeF s d))) (by exact if_pos (by omega)) ?_
                                    refine q_ieq (tgt := 498) (by omega) (by omega) hx hb dL_fountain_491 (by decide) (fun c_491 => ?_) (fun c_491 => ?_)
                                    · exact absurd True.intro (by omega)
                                    ·
                                      exact L494   _ _ ls   hP hD hS (lv_sub hl [0, 1, 2, 3, 4] rfl)
                          exact L449 (c - 0 + 1) 0 _ _ ls (by first | with_reducible assumption | omega) (by omega) hP hD hS (lv_sub hl [2, 3, 0, 4, 1] rfl)
                        refine lv_aload_n hx hb dL_fountain_363 rfl (lv_at hl 0 rfl) ?_
                        refine lv_iload hx hb dL_fountain_364 (lv_at hl 1 rfl) ?_
                        refine lv_iconst (v := nI 1) hx hb dL_fountain_366 (by decide +kernel) ?_
                        refine KM.callVM (As := [.int (nI c), .int (nI 1)]) (rest := []) (W0 := (fcW cI cS f0 a s fl c0 c1 n cs b r gl sv ad t f6 k)) (ws := (fcW cI cS f0 a s fl c0 c1 n cs b r gl sv ad t f6 k)) (ws' := fun (_ : Unit) => (fcW cI cS f0 a s fl c0 c1 n cs b r gl sv ad t f6 k)) C0 hN (k_X5_cueOf_ok l D cI cS cL T f0 a s fl c0 c1 n cs b r gl sv ad t f6 k c 1 hI (by omega) hk hn hcs (by omega) (by omega)) (cwV 2 hts gL_fountain_X5_cueOf rfl rfl rfl (by decide +kernel) ⟨Nat.le_of_ble_eq_true rfl, Nat.le_of_ble_eq_true rfl⟩) hK hP hD hS hA (fun _ h => h) (va_D_iff.mp hD).1 (fun _ => fcW_perm (List.Perm.refl _)) (fun _ _ h => Or.inl h) 0 5 rfl rfl rfl rfl hl.1 rfl (Nat.le_of_ble_eq_true rfl) dL_fountain_367 ⟨Nat.le_of_ble_eq_true rfl, Nat.le_of_ble_eq_true rfl⟩ (fun v9 u9 H locs hv hP hD hS => ?_)
                        subst hv
                        have hP : va_P D vwCl (fcW cI cS f0 a s fl c0 c1 n cs b r gl sv ad t f6 k) H := hP
                        have hD : va_D A9 (fcW cI cS f0 a s fl c0 c1 n cs b r gl sv ad t f6 k) := hD
                        refine W.eq (g2 := F0 m9 370 ls [.int (if c < s 8 then nI (numS (nuF s) (tiF s) (jeF s) (acF s) 1 c) else -1)]) rfl ?_
                        refine q_topi (y := (nI (tiF s c))) (by exact if_pos (by omega)) ?_
                        refine lv_aload_n hx hb dL_fountain_370 rfl (lv_at hl 0 rfl) ?_
                        refine lv_iconst (v := nI 0) hx hb dL_fountain_371 (by decide +kernel) ?_
                        refine KM.callVM (As := [.int (nI 0)]) (rest := [.int (nI (tiF s c))]) (W0 := (fcW cI cS f0 a s fl c0 c1 n cs b r gl sv ad t f6 k)) (ws := (fcW cI cS f0 a s fl c0 c1 n cs b r gl sv ad t f6 k)) (ws' := fun (_ : Unit) => (fcW cI cS f0 a s fl c0 c1 n cs b r gl sv ad t f6 k)) C0 hN (k_X5_count_ok l D cI cS cL T f0 a s fl c0 c1 n cs b r gl sv ad t f6 k 0 hI (by omega) hk hn hcs (by omega)) (cwV 1 hts gL_fountain_X5_count rfl rfl rfl (by decide +kernel) ⟨Nat.le_of_ble_eq_true rfl, Nat.le_of_ble_eq_true rfl⟩) hK hP hD hS hA (fun _ h => h) (va_D_iff.mp hD).1 (fun _ => fcW_perm (List.Perm.refl _)) (fun _ _ h => Or.inl h) 0 5 rfl rfl rfl rfl hl.1 rfl (Nat.le_of_ble_eq_true rfl) dL_fountain_372 ⟨Nat.le_of_ble_eq_true rfl, Nat.le_of_ble_eq_true rfl⟩ (fun v9 u9 H locs hv hP hD hS => ?_)
                        subst hv
                        have hP : va_P D vwCl (fcW cI cS f0 a s fl c0 c1 n cs b r gl sv ad t f6 k) H := hP
                        have hD : va_D A9 (fcW cI cS f0 a s fl c0 c1 n cs b r gl sv ad t f6 k) := hD
                        refine W.eq (g2 := F0 m9 375 ls [.int (nI (s 7)), .int (nI (tiF s c))]) rfl ?_
                        refine q_ilt (tgt := 444) (by omega) (by omega) hx hb dL_fountain_375 (by decide) (fun c_375 => ?_) (fun c_375 => ?_)
                        · exact absurd True.intro (by omega)
                        ·
                          refine lv_iload hx hb dL_fountain_378 (lv_at hl 1 rfl) ?_
                          refine q_feq (tgt := 440) (by omega) hx hb dL_fountain_380 (by decide) (fun c_380 => ?_) (fun c_380 => ?_)
                          ·
                            exact L440   _ _ ls   hP hD hS (lv_sub hl [0, 1, 2, 3] rfl)
                          ·
                            have hd9 := hI9 (c - 1) (by omega)
                            have hso := hJ2 (c - 1) c (by omega) (by omega)
                            refine lv_aload_n hx hb dL_fountain_383 rfl (lv_at hl 0 rfl) ?_
                            refine lv_iload hx hb dL_fountain_384 (lv_at hl 1 rfl) ?_
                            refine lv_iconst (v := nI 1) hx hb dL_fountain_386 (by decide +kernel) ?_
                            refine q_isub (by omega) hx hb dL_fountain_387 ?_
                            refine lv_iconst (v := nI 1) hx hb dL_fountain_388 (by decide +kernel) ?_
                            refine KM.callVM (As := [.int (nI (c - 1)), .int (nI 1)]) (rest := []) (W0 := (fcW cI cS f0 a s fl c0 c1 n cs b r gl sv ad t f6 k)) (ws := (fcW cI cS f0 a s fl c0 c1 n cs b r gl sv ad t f6 k)) (ws' := fun (_ : Unit) => (fcW cI cS f0 a s fl c0 c1 n cs b r gl sv ad t f6 k)) C0 hN (k_X5_cueOf_ok l D cI cS cL T f0 a s fl c0 c1 n cs b r gl sv ad t f6 k (c - 1) 1 hI (by omega) hk hn hcs (by omega) (by omega)) (cwV 2 hts gL_fountain_X5_cueOf rfl rfl rfl (by decide +kernel) ⟨Nat.le_of_ble_eq_true rfl, Nat.le_of_ble_eq_true rfl⟩) hK hP hD hS hA (fun _ h => h) (va_D_iff.mp hD).1 (fun _ => fcW_perm (List.Perm.refl _)) (fun _ _ h => Or.inl h) 0 5 rfl rfl rfl rfl hl.1 rfl (Nat.le_of_ble_eq_true rfl) dL_fountain_389 ⟨Nat.le_of_ble_eq_true rfl, Nat.le_of_ble_eq_true rfl⟩ (fun v9 u9 H locs hv hP hD hS => ?_)
                            subst hv
                            have hP : va_P D vwCl (fcW cI cS f0 a s fl c0 c1 n cs b r gl sv ad t f6 k) H := hP
                            have hD : va_D A9 (fcW cI cS f0 a s fl c0 c1 n cs b r gl sv ad t f6 k) := hD
                            refine W.eq (g2 := F0 m9 392 ls [.int (if (c - 1) < s 8 then nI (numS (nuF s) (tiF s) (jeF s) (acF s) 1 (c - 1)) else -1)]) rfl ?_
                            refine q_topi (y := (nI (tiF s (c - 1)))) (by exact if_pos (by omega)) ?_
                            refine lv_aload_n hx hb dL_fountain_392 rfl (lv_at hl 0 rfl) ?_
                            refine lv_iload hx hb dL_fountain_393 (lv_at hl 1 rfl) ?_
                            refine lv_iconst (v := nI 1) hx hb dL_fountain_395 (by decide +kernel) ?_
                            refine KM.callVM (As := [.int (nI c), .int (nI 1)]) (rest := [.int (nI (tiF s (c - 1)))]) (W0 := (fcW cI cS f0 a s fl c0 c1 n cs b r gl sv ad t f6 k)) (ws := (fcW cI cS f0 a s fl c0 c1 n cs b r gl sv ad t f6 k)) (ws' := fun (_ : Unit) => (fcW cI cS f0 a s fl c0 c1 n cs b r gl sv ad t f6 k)) C0 hN (k_X5_cueOf_ok l D cI cS cL T f0 a s fl c0 c1 n cs b r gl sv ad t f6 k c 1 hI (by omega) hk hn hcs (by omega) (by omega)) (cwV 2 hts gL_fountain_X5_cueOf rfl rfl rfl (by decide +kernel) ⟨Nat.le_of_ble_eq_true rfl, Nat.le_of_ble_eq_true rfl⟩) hK hP hD hS hA (fun _ h => h) (va_D_iff.mp hD).1 (fun _ => fcW_perm (List.Perm.refl _)) (fun _ _ h => Or.inl h) 0 5 rfl rfl rfl rfl hl.1 rfl (Nat.le_of_ble_eq_true rfl) dL_fountain_396 ⟨Nat.le_of_ble_eq_true rfl, Nat.le_of_ble_eq_true rfl⟩ (fun v9 u9 H locs hv hP hD hS => ?_)
                            subst hv
                            have hP : va_P D vwCl (fcW cI cS f0 a s fl c0 c1 n cs b r gl sv ad t f6 k) H := hP
                            have hD : va_D A9 (fcW cI cS f0 a s fl c0 c1 n cs b r gl sv ad t f6 k) := hD
                            refine W.eq (g2 := F0 m9 399 ls [.int (if c < s 8 then nI (numS (nuF s) (tiF s) (jeF s) (acF s) 1 c) else -1), .int (nI (tiF s (c - 1)))]) rfl ?_
                            refine q_topi (y := (nI (tiF s c))) (by exact if_pos (by omega)) ?_
                            refine q_ilt (tgt := 440) (by omega) (by omega) hx hb dL_fountain_399 (by decide) (fun c_399 => ?_) (fun c_399 => ?_)
                            ·
                              exact L440   _ _ ls   hP hD hS (lv_sub hl [0, 1, 2, 3] rfl)
                            ·
                              refine lv_aload_n hx hb dL_fountain_402 rfl (lv_at hl 0 rfl) ?_
                              refine lv_iload hx hb dL_fountain_403 (lv_at hl 1 rfl) ?_
                              refine lv_iconst (v := nI 1) hx hb dL_fountain_405 (by decide +kernel) ?_
                              refine q_isub (by omega) hx hb dL_fountain_406 ?_
                              refine lv_iconst (v := nI 1) hx hb dL_fountain_407 (by decide +kernel) ?_
                              refine KM.callVM (As := [.int (nI (c - 1)), .int (nI 1)]) (rest := []) (W0 := (fcW cI cS f0 a s fl c0 c1 n cs b r gl sv ad t f6 k)) (ws := (fcW cI cS f0 a s fl c0 c1 n cs b r gl sv ad t f6 k)) (ws' := fun (_ : Unit) => (fcW cI cS f0 a s fl c0 c1 n cs b r gl sv ad t f6 k)) C0 hN (k_X5_cueOf_ok l D cI cS cL T f0 a s fl c0 c1 n cs b r gl sv ad t f6 k (c - 1) 1 hI (by omega) hk hn hcs (by omega) (by omega)) (cwV 2 hts gL_fountain_X5_cueOf rfl rfl rfl (by decide +kernel) ⟨Nat.le_of_ble_eq_true rfl, Nat.le_of_ble_eq_true rfl⟩) hK hP hD hS hA (fun _ h => h) (va_D_iff.mp hD).1 (fun _ => fcW_perm (List.Perm.refl _)) (fun _ _ h => Or.inl h) 0 5 rfl rfl rfl rfl hl.1 rfl (Nat.le_of_ble_eq_true rfl) dL_fountain_408 ⟨Nat.le_of_ble_eq_true rfl, Nat.le_of_ble_eq_true rfl⟩ (fun v9 u9 H locs hv hP hD hS => ?_)
                              subst hv
                              have hP : va_P D vwCl (fcW cI cS f0 a s fl c0 c1 n cs b r gl sv ad t f6 k) H := hP
                              have hD : va_D A9 (fcW cI cS f0 a s fl c0 c1 n cs b r gl sv ad t f6 k) := hD
                              refine W.eq (g2 := F0 m9 411 ls [.int (if (c - 1) < s 8 then nI (numS (nuF s) (tiF s) (jeF s) (acF s) 1 (c - 1)) else -1)]) rfl ?_
                              refine q_topi (y := (nI (tiF s (c - 1)))) (by exact if_pos (by omega)) ?_
                              refine lv_aload_n hx hb dL_fountain_411 rfl (lv_at hl 0 rfl) ?_
                              refine lv_iload hx hb dL_fountain_412 (lv_at hl 1 rfl) ?_
                              refine lv_iconst (v := nI 1) hx hb dL_fountain_414 (by decide +kernel) ?_
                              refine KM.callVM (As := [.int (nI c), .int (nI 1)]) (rest := [.int (nI (tiF s (c - 1)))]) (W0 := (fcW cI cS f0 a s fl c0 c1 n cs b r gl sv ad t f6 k)) (ws := (fcW cI cS f0 a s fl c0 c1 n cs b r gl sv ad t f6 k)) (ws' := fun (_ : Unit) => (fcW cI cS f0 a s fl c0 c1 n cs b r gl sv ad t f6 k)) C0 hN (k_X5_cueOf_ok l D cI cS cL T f0 a s fl c0 c1 n cs b r gl sv ad t f6 k c 1 hI (by omega) hk hn hcs (by omega) (by omega)) (cwV 2 hts gL_fountain_X5_cueOf rfl rfl rfl (by decide +kernel) ⟨Nat.le_of_ble_eq_true rfl, Nat.le_of_ble_eq_true rfl⟩) hK hP hD hS hA (fun _ h => h) (va_D_iff.mp hD).1 (fun _ => fcW_perm (List.Perm.refl _)) (fun _ _ h => Or.inl h) 0 5 rfl rfl rfl rfl hl.1 rfl (Nat.le_of_ble_eq_true rfl) dL_fountain_415 ⟨Nat.le_of_ble_eq_true rfl, Nat.le_of_ble_eq_true rfl⟩ (fun v9 u9 H locs hv hP hD hS => ?_)
                              subst hv
                              have hP : va_P D vwCl (fcW cI cS f0 a s fl c0 c1 n cs b r gl sv ad t f6 k) H := hP
                              have hD : va_D A9 (fcW cI cS f0 a s fl c0 c1 n cs b r gl sv ad t f6 k) := hD
                              refine W.eq (g2 := F0 m9 418 ls [.int (if c < s 8 then nI (numS (nuF s) (tiF s) (jeF s) (acF s) 1 c) else -1), .int (nI (tiF s (c - 1)))]) rfl ?_
                              refine q_topi (y := (nI (tiF s c))) (by exact if_pos (by omega)) ?_
                              refine q_ine (tgt := 444) (by omega) (by omega) hx hb dL_fountain_418 (by decide) (fun c_418 => ?_) (fun c_418 => ?_)
                              · exact absurd True.intro (by omega)
                              ·
                                refine lv_aload_n hx hb dL_fountain_421 rfl (lv_at hl 0 rfl) ?_
                                refine lv_iload hx hb dL_fountain_422 (lv_at hl 1 rfl) ?_
                                refine lv_iconst (v := nI 1) hx hb dL_fountain_424 (by decide +kernel) ?_
                                refine q_isub (by omega) hx hb dL_fountain_425 ?_
                                refine lv_iconst (v := nI 0) hx hb dL_fountain_426 (by decide +kernel) ?_
                                refine KM.callVM (As := [.int (nI (c - 1)), .int (nI 0)]) (rest := []) (W0 := (fcW cI cS f0 a s fl c0 c1 n cs b r gl sv ad t f6 k)) (ws := (fcW cI cS f0 a s fl c0 c1 n cs b r gl sv ad t f6 k)) (ws' := fun (_ : Unit) => (fcW cI cS f0 a s fl c0 c1 n cs b r gl sv ad t f6 k)) C0 hN (k_X5_cueOf_ok l D cI cS cL T f0 a s fl c0 c1 n cs b r gl sv ad t f6 k (c - 1) 0 hI (by omega) hk hn hcs (by omega) (by omega)) (cwV 2 hts gL_fountain_X5_cueOf rfl rfl rfl (by decide +kernel) ⟨Nat.le_of_ble_eq_true rfl, Nat.le_of_ble_eq_true rfl⟩) hK hP hD hS hA (fun _ h => h) (va_D_iff.mp hD).1 (fun _ => fcW_perm (List.Perm.refl _)) (fun _ _ h => Or.inl h) 0 5 rfl rfl rfl rfl hl.1 rfl (Nat.le_of_ble_eq_true rfl) dL_fountain_427 ⟨Nat.le_of_ble_eq_true rfl, Nat.le_of_ble_eq_true rfl⟩ (fun v9 u9 H locs hv hP hD hS => ?_)
                                subst hv
                                have hP : va_P D vwCl (fcW cI cS f0 a s fl c0 c1 n cs b r gl sv ad t f6 k) H := hP
                                have hD : va_D A9 (fcW cI cS f0 a s fl c0 c1 n cs b r gl sv ad t f6 k) := hD
                                refine W.eq (g2 := F0 m9 430 ls [.int (if (c - 1) < s 8 then nI (numS (nuF s) (tiF s) (jeF s) (acF s) 0 (c - 1)) else -1)]) rfl ?_
                                refine q_topi (y := (nI (nuF s (c - 1)))) (by exact if_pos (by omega)) ?_
                                refine lv_aload_n hx hb dL_fountain_430 rfl (lv_at hl 0 rfl) ?_
                                refine lv_iload hx hb dL_fountain_431 (lv_at hl 1 rfl) ?_
                                refine lv_iconst (v := nI 0) hx hb dL_fountain_433 (by decide +kernel) ?_
                                refine KM.callVM (As := [.int (nI c), .int (nI 0)]) (rest := [.int (nI (nuF s (c - 1)))]) (W0 := (fcW cI cS f0 a s fl c0 c1 n cs b r gl sv ad t f6 k)) (ws := (fcW cI cS f0 a s fl c0 c1 n cs b r gl sv ad t f6 k)) (ws' := fun (_ : Unit) => (fcW cI cS f0 a s fl c0 c1 n cs b r gl sv ad t f6 k)) C0 hN (k_X5_cueOf_ok l D cI cS cL T f0 a s fl c0 c1 n cs b r gl sv ad t f6 k c 0 hI (by omega) hk hn hcs (by omega) (by omega)) (cwV 2 hts gL_fountain_X5_cueOf rfl rfl rfl (by decide +kernel) ⟨Nat.le_of_ble_eq_true rfl, Nat.le_of_ble_eq_true rfl⟩) hK hP hD hS hA (fun _ h => h) (va_D_iff.mp hD).1 (fun _ => fcW_perm (List.Perm.refl _)) (fun _ _ h => Or.inl h) 0 5 rfl rfl rfl rfl hl.1 rfl (Nat.le_of_ble_eq_true rfl) dL_fountain_434 ⟨Nat.le_of_ble_eq_true rfl, Nat.le_of_ble_eq_true rfl⟩ (fun v9 u9 H locs hv hP hD hS => ?_)
                                subst hv
                                have hP : va_P D vwCl (fcW cI cS f0 a s fl c0 c1 n cs b r gl sv ad t f6 k) H := hP
                                have hD : va_D A9 (fcW cI cS f0 a s fl c0 c1 n cs b r gl sv ad t f6 k) := hD
                                refine W.eq (g2 := F0 m9 437 ls [.int (if c < s 8 then nI (numS (nuF s) (tiF s) (jeF s) (acF s) 0 c) else -1), .int (nI (nuF s (c - 1)))]) rfl ?_
                                refine q_topi (y := (nI (nuF s c))) (by exact if_pos (by omega)) ?_
                                refine q_ige (tgt := 444) (by omega) (by omega) hx hb dL_fountain_437 (by decide) (fun c_437 => ?_) (fun c_437 => ?_)
                                · exact absurd True.intro (by omega)
                                ·
                                  exact L440   _ _ ls   hP hD hS (lv_sub hl [0, 1, 2, 3] rfl)
                exact L349 (s 8 - 0 + 1) 0 _ _ ls (by first | with_reducible assumption | omega) (by omega) hP hD hS (lv_sub hl [1, 0, 2, 3] rfl)
              ·
                refine lv_iload_n hx hb dL_fountain_71 rfl (lv_at hl 3 rfl) ?_
                refine q_feq (tgt := 346) (by omega) hx hb dL_fountain_72 (by decide) (fun c_72 => ?_) (fun c_72 => ?_)
                · exact absurd True.intro (by omega)
                ·
                  refine lv_iconst (v := nI 0) hx hb dL_fountain_75 (by decide +kernel) ?_
                  refine q_topi (y := (nI (asT s p (4 * p - p * 4)))) (by rw [show 4 * p - p * 4 = 0 by omega]; rfl) ?_
                  refine lv_istore (lv' := [(5, .int (nI (asT s p (4 * p - p * 4)))), (0, .ref f0), (4, .int (nI p)), (1, .int (nI (lmS s (4 * p)))), (2, .int (nI 1)), (3, .int ((nI 10 + nI (s 0)) - nI (s 5)))]) hx hb dL_fountain_76 hl (by decide) rfl (fun ls hl => ?_)
                  refine lv_iconst (v := nI 0) hx hb dL_fountain_78 (by decide +kernel) ?_
                  refine q_topi (y := (nI (gtT s p (4 * p - p * 4)))) (by rw [show 4 * p - p * 4 = 0 by omega]; rfl) ?_
                  refine lv_istore (lv' := [(6, .int (nI (gtT s p (4 * p - p * 4)))), (5, .int (nI (asT s p (4 * p - p * 4)))), (0, .ref f0), (4, .int (nI p)), (1, .int (nI (lmS s (4 * p)))), (2, .int (nI 1)), (3, .int ((nI 10 + nI (s 0)) - nI (s 5)))]) hx hb dL_fountain_79 hl (by decide) rfl (fun ls hl => ?_)
                  refine lv_iconst (v := nI 4) hx hb dL_fountain_81 (by decide +kernel) ?_
                  refine lv_iload hx hb dL_fountain_82 (lv_at hl 3 rfl) ?_
                  refine q_imul hx hb dL_fountain_84 ?_
                  refine lv_istore (lv' := [(7, .int (nI (4 * p))), (6, .int (nI (gtT s p (4 * p - p * 4)))), (5, .int (nI (asT s p (4 * p - p * 4)))), (0, .ref f0), (4, .int (nI p)), (1, .int (nI (lmS s (4 * p)))), (2, .int (nI 1)), (3, .int ((nI 10 + nI (s 0)) - nI (s 5)))]) hx hb dL_fountain_85 hl (by decide) rfl (fun ls hl => ?_)
                  have L87 : ∀ (fuel : Nat) (j : Nat) (H : Heap) (locs : List Loc) (ls : Array Slot), (4 * p ≤ j) → (j ≤ 4 * p + 4) → (4 * p + 4 - j < fuel) → va_P D vwCl (fcW cI cS f0 a s fl c0 c1 n cs b r gl sv ad t f6 k) H → va_D A9 (fcW cI cS f0 a s fl c0 c1 n cs b r gl sv ad t f6 k) → va_S A9 s9.heap H locs → lv_has ls 8 [(0, .ref f0), (4, .int (nI p)), (7, .int (nI j)), (1, .int (nI (lmS s j))), (2, .int (nI 1)), (3, .int ((nI 10 + nI (s 0)) - nI (s 5))), (5, .int (nI (asT s p (j - p * 4)))), (6, .int (nI (gtT s p (j - p * 4))))] → W p9 l e9 ({ frames := 6, cells := 0, slots := 0, locals := 131 } : Room) s9 m9 ar9 be9 me9 c9 H locs 0 0 Q9 (F0 m9 87 ls []) := by
                    intro fuel
                    induction fuel with
                    | zero => intro j H locs ls hj1 hj2 hfu; exact absurd hfu (Nat.not_lt_zero _)
                    | succ fuel ih87 =>
                      intro j H locs ls hj1 hj2 hfu hP hD hS hl
                      refine lv_iload hx hb dL_fountain_87 (lv_at hl 2 rfl) ?_
                      refine lv_iconst (v := nI 4) hx hb dL_fountain_89 (by decide +kernel) ?_
                      refine lv_iload hx hb dL_fountain_90 (lv_at hl 1 rfl) ?_
                      refine q_imul hx hb dL_fountain_92 ?_
                      refine lv_iconst (v := nI 4) hx hb dL_fountain_93 (by decide +kernel) ?_
                      refine q_iadd hx hb dL_fountain_94 ?_
                      refine q_ige (tgt := 294) (by omega) (by omega) hx hb dL_fountain_95 (by decide) (fun c_95 => ?_) (fun c_95 => ?_)
                      ·
                        have hp1 := pA_le hI1 (show p < 2 by omega)
                        have hgl := gt_li s p
                        have hl1 := hB4 p (by omega)
                        have el294_1 : lmS s j = lmS s (4 * (p + 1)) := by rw [show j = 4 * (p + 1) by omega]
                        rw [el294_1] at hl
                        have el294_5 : asT s p (j - p * 4) = pA (szF s) (vaF s) p := by rw [show j - p * 4 = 4 by omega]; rfl
                        rw [el294_5] at hl
                        have el294_6 : gtT s p (j - p * 4) = gtT s p 4 := by rw [show j - p * 4 = 4 by omega]
                        rw [el294_6] at hl
                        have hl : lv_has ls 8 [(0, .ref f0), (4, .int (nI p)), (7, .int (nI j)), (1, .int (nI (lmS s (4 * (p + 1))))), (2, .int (nI 1)), (3, .int ((nI 10 + nI (s 0)) - nI (s 5))), (5, .int (nI (pA (szF s) (vaF s) p))), (6, .int (nI (gtT s p 4)))] := hl
                        refine lv_iload_n hx hb dL_fountain_294 rfl (lv_at hl 4 rfl) ?_
                        refine q_feq (tgt := 338) (by omega) hx hb dL_fountain_295 (by decide) (fun c_295 => ?_) (fun c_295 => ?_)
                        · exact absurd True.intro (by omega)
                        ·
                          refine lv_aload_n hx hb dL_fountain_298 rfl (lv_at hl 0 rfl) ?_
                          refine lv_iload hx hb dL_fountain_299 (lv_at hl 1 rfl) ?_
                          refine lv_iconst (v := nI 1) hx hb dL_fountain_301 (by decide +kernel) ?_
                          refine KM.callVM (As := [.int (nI p), .int (nI 1)]) (rest := []) (W0 := (fcW cI cS f0 a s fl c0 c1 n cs b r gl sv ad t f6 k)) (ws := (fcW cI cS f0 a s fl c0 c1 n cs b r gl sv ad t f6 k)) (ws' := fun (_ : Unit) => (fcW cI cS f0 a s fl c0 c1 n cs b r gl sv ad t f6 k)) C0 hN (k_X5_pumpOf_ok l D cI cS cL T f0 a s fl c0 c1 n cs b r gl sv ad t f6 k p 1 hI (by omega) hk hn hcs (by omega) (by omega)) (cwV 2 hts gL_fountain_X5_pumpOf rfl rfl rfl (by decide +kernel) ⟨Nat.le_of_ble_eq_true rfl, Nat.le_of_ble_eq_true rfl⟩) hK hP hD hS hA (fun _ h => h) (va_D_iff.mp hD).1 (fun _ => fcW_perm (List.Perm.refl _)) (fun _ _ h => Or.inl h) 0 5 rfl rfl rfl rfl hl.1 rfl (Nat.le_of_ble_eq_true rfl) dL_fountain_302 ⟨Nat.le_of_ble_eq_true rfl, Nat.le_of_ble_eq_true rfl⟩ (fun v9 u9 H locs hv hP hD hS => ?_)
                          subst hv
                          have hP : va_P D vwCl (fcW cI cS f0 a s fl c0 c1 n cs b r gl sv ad t f6 k) H := hP
                          have hD : va_D A9 (fcW cI cS f0 a s fl c0 c1 n cs b r gl sv ad t f6 k) := hD
                          refine W.eq (g2 := F0 m9 305 ls [.int (nI (pA (szF s) (vaF s) p))]) rfl ?_
                          refine lv_iload hx hb dL_fountain_305 (lv_at hl 6 rfl) ?_
                          refine q_ine (tgt := 338) (by omega) (by omega) hx hb dL_fountain_307 (by decide) (fun c_307 => ?_) (fun c_307 => ?_)
                          · exact absurd rfl c_307
                          ·
                            refine lv_aload_n hx hb dL_fountain_310 rfl (lv_at hl 0 rfl) ?_
                            refine lv_iload hx hb dL_fountain_311 (lv_at hl 1 rfl) ?_
                            refine lv_iconst (v := nI 2) hx hb dL_fountain_313 (by decide +kernel) ?_
                            refine KM.callVM (As := [.int (nI p), .int (nI 2)]) (rest := []) (W0 := (fcW cI cS f0 a s fl c0 c1 n cs b r gl sv ad t f6 k)) (ws := (fcW cI cS f0 a s fl c0 c1 n cs b r gl sv ad t f6 k)) (ws' := fun (_ : Unit) => (fcW cI cS f0 a s fl c0 c1 n cs b r gl sv ad t f6 k)) C0 hN (k_X5_pumpOf_ok l D cI cS cL T f0 a s fl c0 c1 n cs b r gl sv ad t f6 k p 2 hI (by omega) hk hn hcs (by omega) (by omega)) (cwV 2 hts gL_fountain_X5_pumpOf rfl rfl rfl (by decide +kernel) ⟨Nat.le_of_ble_eq_true rfl, Nat.le_of_ble_eq_true rfl⟩) hK hP hD hS hA (fun _ h => h) (va_D_iff.mp hD).1 (fun _ => fcW_perm (List.Perm.refl _)) (fun _ _ h => Or.inl h) 0 5 rfl rfl rfl rfl hl.1 rfl (Nat.le_of_ble_eq_true rfl) dL_fountain_314 ⟨Nat.le_of_ble_eq_true rfl, Nat.le_of_ble_eq_true rfl⟩ (fun v9 u9 H locs hv hP hD hS => ?_)
                            subst hv
                            have hP : va_P D vwCl (fcW cI cS f0 a s fl c0 c1 n cs b r gl sv ad t f6 k) H := hP
                            have hD : va_D A9 (fcW cI cS f0 a s fl c0 c1 n cs b r gl sv ad t f6 k) := hD
                            refine W.eq (g2 := F0 m9 317 ls [.int (nI (pmpS s p 2))]) rfl ?_
                            refine q_topi (y := (nI (gtT s p 4))) (by exact congrArg nI (gt_all s p)) ?_
                            refine lv_iload hx hb dL_fountain_317 (lv_at hl 7 rfl) ?_
                            refine q_ine (tgt := 338) (by omega) (by omega) hx hb dL_fountain_319 (by decide) (fun c_319 => ?_) (fun c_319 => ?_)
                            · exact absurd rfl c_319
                            ·
                              refine lv_iload hx hb dL_fountain_322 (lv_at hl 7 rfl) ?_
                              refine lv_aload_n hx hb dL_fountain_324 rfl (lv_at hl 0 rfl) ?_
                              refine lv_iload hx hb dL_fountain_325 (lv_at hl 1 rfl) ?_
                              refine lv_iconst (v := nI 0) hx hb dL_fountain_327 (by decide +kernel) ?_
                              refine KM.callVM (As := [.int (nI p), .int (nI 0)]) (rest := [.int (nI (gtT s p 4))]) (W0 := (fcW cI cS f0 a s fl c0 c1 n cs b r gl sv ad t f6 k)) (ws := (fcW cI cS f0 a s fl c0 c1 n cs b r gl sv ad t f6 k)) (ws' := fun (_ : Unit) => (fcW cI cS f0 a s fl c0 c1 n cs b r gl sv ad t f6 k)) C0 hN (k_X5_pumpOf_ok l D cI cS cL T f0 a s fl c0 c1 n cs b r gl sv ad t f6 k p 0 hI (by omega) hk hn hcs (by omega) (by omega)) (cwV 2 hts gL_fountain_X5_pumpOf rfl rfl rfl (by decide +kernel) ⟨Nat.le_of_ble_eq_true rfl, Nat.le_of_ble_eq_true rfl⟩) hK hP hD hS hA (fun _ h => h) (va_D_iff.mp hD).1 (fun _ => fcW_perm (List.Perm.refl _)) (fun _ _ h => Or.inl h) 0 5 rfl rfl rfl rfl hl.1 rfl (Nat.le_of_ble_eq_true rfl) dL_fountain_328 ⟨Nat.le_of_ble_eq_true rfl, Nat.le_of_ble_eq_true rfl⟩ (fun v9 u9 H locs hv hP hD hS => ?_)
                              subst hv
                              have hP : va_P D vwCl (fcW cI cS f0 a s fl c0 c1 n cs b r gl sv ad t f6 k) H := hP
                              have hD : va_D A9 (fcW cI cS f0 a s fl c0 c1 n cs b r gl sv ad t f6 k) := hD
                              refine W.eq (g2 := F0 m9 331 ls [.int (nI (liF s p)), .int (nI (gtT s p 4))]) rfl ?_
                              refine q_igt (tgt := 338) (by omega) (by omega) hx hb dL_fountain_331 (by decide) (fun c_331 => ?_) (fun c_331 => ?_)
                              · exact absurd True.intro (by omega)
                              ·
                                refine lv_iconst (v := nI 1) hx hb dL_fountain_334 (by decide +kernel) ?_
                                refine lv_goto (tgt := 339) hx hb dL_fountain_335 (by decide) ?_
                                refine lv_istore_n (lv' := [(2, .int (nI 1)), (0, .ref f0), (4, .int (nI p)), (7, .int (nI j)), (1, .int (nI (lmS s (4 * (p + 1))))), (3, .int ((nI 10 + nI (s 0)) - nI (s 5))), (5, .int (nI (pA (szF s) (vaF s) p))), (6, .int (nI (gtT s p 4)))]) hx hb dL_fountain_339 rfl hl (by decide) rfl (fun ls hl => ?_)
                                refine lv_iinc (v := (nI (p + 1))) (lv' := [(4, .int (nI (p + 1))), (2, .int (nI 1)), (0, .ref f0), (7, .int (nI j)), (1, .int (nI (lmS s (4 * (p + 1))))), (3, .int ((nI 10 + nI (s 0)) - nI (s 5))), (5, .int (nI (pA (szF s) (vaF s) p))), (6, .int (nI (gtT s p 4)))]) hx hb dL_fountain_340 hl (k := 2) rfl (nI_add p 1) (by decide) rfl (fun ls hl => ?_)
                                refine lv_goto (tgt := 65) hx hb dL_fountain_343 (by decide) ?_
                                exact ih65  (p + 1) _ _ ls (by first | with_reducible assumption | omega) (by omega) hP hD hS (lv_sub hl [2, 0, 4, 1, 5] rfl)
                      ·
                        have hj8 : j < 8 := by omega
                        have hs1 := hB1 j hj8
                        have hv1 := hB2 j hj8
                        have ha1 := asks_le hI1 hj8
                        have hg1 := gS_asks s j
                        have hg2 := gS_le hI hj8
                        have hh1 := heS_le hI hj8
                        have hq1 : gS s j / szF s j ≤ 10 := hh1
                        have hb1 := hJ4 j hj8
                        refine lv_iload_n hx hb dL_fountain_98 rfl (lv_at hl 4 rfl) ?_
                        refine q_feq (tgt := 294) (by omega) hx hb dL_fountain_99 (by decide) (fun c_99 => ?_) (fun c_99 => ?_)
                        · exact absurd True.intro (by omega)
                        ·
                          refine lv_iload hx hb dL_fountain_102 (lv_at hl 6 rfl) ?_
                          refine lv_aload_n hx hb dL_fountain_104 rfl (lv_at hl 0 rfl) ?_
                          refine lv_iload hx hb dL_fountain_105 (lv_at hl 2 rfl) ?_
                          refine lv_iconst (v := nI 4) hx hb dL_fountain_107 (by decide +kernel) ?_
                          refine KM.callVM (As := [.int (nI j), .int (nI 4)]) (rest := [.int (nI (asT s p (j - p * 4)))]) (W0 := (fcW cI cS f0 a s fl c0 c1 n cs b r gl sv ad t f6 k)) (ws := (fcW cI cS f0 a s fl c0 c1 n cs b r gl sv ad t f6 k)) (ws' := fun (_ : Unit) => (fcW cI cS f0 a s fl c0 c1 n cs b r gl sv ad t f6 k)) C0 hN (k_X5_jetOf_ok l D cI cS cL T f0 a s fl c0 c1 n cs b r gl sv ad t f6 k j 4 hI (by omega) hk hn hcs (by omega) (by omega)) (cwV 2 hts gL_fountain_X5_jetOf rfl rfl rfl (by decide +kernel) ⟨Nat.le_of_ble_eq_true rfl, Nat.le_of_ble_eq_true rfl⟩) hK hP hD hS hA (fun _ h => h) (va_D_iff.mp hD).1 (fun _ => fcW_perm (List.Perm.refl _)) (fun _ _ h => Or.inl h) 0 5 rfl rfl rfl rfl hl.1 rfl (Nat.le_of_ble_eq_true rfl) dL_fountain_108 ⟨Nat.le_of_ble_eq_true rfl, Nat.le_of_ble_eq_true rfl⟩ (fun v9 u9 H locs hv hP hD hS => ?_)
                          subst hv
                          have hP : va_P D vwCl (fcW cI cS f0 a s fl c0 c1 n cs b r gl sv ad t f6 k) H := hP
                          have hD : va_D A9 (fcW cI cS f0 a s fl c0 c1 n cs b r gl sv ad t f6 k) := hD
                          refine W.eq (g2 := F0 m9 111 ls [.int (nI (szF s j * vaF s j)), .int (nI (asT s p (j - p * 4)))]) rfl ?_
                          refine q_iadd hx hb dL_fountain_111 ?_
                          refine q_topi (y := (nI (asT s p ((j + 1) - p * 4)))) (by exact congrArg nI (as_step s (by omega))) ?_
                          refine lv_istore (lv' := [(5, .int (nI (asT s p ((j + 1) - p * 4)))), (0, .ref f0), (4, .int (nI p)), (7, .int (nI j)), (1, .int (nI (lmS s j))), (2, .int (nI 1)), (3, .int ((nI 10 + nI (s 0)) - nI (s 5))), (6, .int (nI (gtT s p (j - p * 4))))]) hx hb dL_fountain_112 hl (by decide) rfl (fun ls hl => ?_)
                          refine lv_iload hx hb dL_fountain_114 (lv_at hl 7 rfl) ?_
                          refine lv_aload_n hx hb dL_fountain_116 rfl (lv_at hl 1 rfl) ?_
                          refine lv_iload hx hb dL_fountain_117 (lv_at hl 3 rfl) ?_
                          refine lv_iconst (v := nI 5) hx hb dL_fountain_119 (by decide +kernel) ?_
                          refine KM.callVM (As := [.int (nI j), .int (nI 5)]) (rest := [.int (nI (gtT s p (j - p * 4)))]) (W0 := (fcW cI cS f0 a s fl c0 c1 n cs b r gl sv ad t f6 k)) (ws := (fcW cI cS f0 a s fl c0 c1 n cs b r gl sv ad t f6 k)) (ws' := fun (_ : Unit) => (fcW cI cS f0 a s fl c0 c1 n cs b r gl sv ad t f6 k)) C0 hN (k_X5_jetOf_ok l D cI cS cL T f0 a s fl c0 c1 n cs b r gl sv ad t f6 k j 5 hI (by omega) hk hn hcs (by omega) (by omega)) (cwV 2 hts gL_fountain_X5_jetOf rfl rfl rfl (by decide +kernel) ⟨Nat.le_of_ble_eq_true rfl, Nat.le_of_ble_eq_true rfl⟩) hK hP hD hS hA (fun _ h => h) (va_D_iff.mp hD).1 (fun _ => fcW_perm (List.Perm.refl _)) (fun _ _ h => Or.inl h) 0 5 rfl rfl rfl rfl hl.1 rfl (Nat.le_of_ble_eq_true rfl) dL_fountain_120 ⟨Nat.le_of_ble_eq_true rfl, Nat.le_of_ble_eq_true rfl⟩ (fun v9 u9 H locs hv hP hD hS => ?_)
                          subst hv
                          have hP : va_P D vwCl (fcW cI cS f0 a s fl c0 c1 n cs b r gl sv ad t f6 k) H := hP
                          have hD : va_D A9 (fcW cI cS f0 a s fl c0 c1 n cs b r gl sv ad t f6 k) := hD
                          refine W.eq (g2 := F0 m9 123 ls [.int (nI (gS s j)), .int (nI (gtT s p (j - p * 4)))]) rfl ?_
                          refine q_iadd hx hb dL_fountain_123 ?_
                          refine q_topi (y := (nI (gtT s p ((j + 1) - p * 4)))) (by exact congrArg nI (gt_step s (by omega))) ?_
                          refine lv_istore (lv' := [(6, .int (nI (gtT s p ((j + 1) - p * 4)))), (5, .int (nI (asT s p ((j + 1) - p * 4)))), (0, .ref f0), (4, .int (nI p)), (7, .int (nI j)), (1, .int (nI (lmS s j))), (2, .int (nI 1)), (3, .int ((nI 10 + nI (s 0)) - nI (s 5)))]) hx hb dL_fountain_124 hl (by decide) rfl (fun ls hl => ?_)
                          have L143 : ∀ (e : Nat) (H : Heap) (locs : List Loc) (ls : Array Slot), (e = if 0 < heS s j then 1 else 0) →  va_P D vwCl (fcW cI cS f0 a s fl c0 c1 n cs b r gl sv ad t f6 k) H → va_D A9 (fcW cI cS f0 a s fl c0 c1 n cs b r gl sv ad t f6 k) → va_S A9 s9.heap H locs → lv_has ls 8 [(0, .ref f0), (4, .int (nI p)), (7, .int (nI j)), (1, .int (nI (lmS s j))), (2, .int (nI 1)), (3, .int ((nI 10 + nI (s 0)) - nI (s 5))), (5, .int (nI (asT s p ((j + 1) - p * 4)))), (6, .int (nI (gtT s p ((j + 1) - p * 4))))] → W p9 l e9 ({ frames := 6, cells := 0, slots := 0, locals := 131 } : Room) s9 m9 ar9 be9 me9 c9 H locs 0 0 Q9 (F0 m9 143 ls [.int (nI e), .int (nI (lmS s j))]) := by
                            intro e H locs ls he  hP hD hS hl
                            refine q_iadd hx hb dL_fountain_143 ?_
                            refine q_topi (y := (nI (lmS s (j + 1)))) (by exact congrArg nI (lm_step s j he)) ?_
                            refine lv_istore_n (lv' := [(1, .int (nI (lmS s (j + 1)))), (0, .ref f0), (4, .int (nI p)), (7, .int (nI j)), (2, .int (nI 1)), (3, .int ((nI 10 + nI (s 0)) - nI (s 5))), (5, .int (nI (asT s p ((j + 1) - p * 4)))), (6, .int (nI (gtT s p ((j + 1) - p * 4))))]) hx hb dL_fountain_144 rfl hl (by decide) rfl (fun ls hl => ?_)
                            refine lv_aload_n hx hb dL_fountain_145 rfl (lv_at hl 1 rfl) ?_
                            refine lv_iload hx hb dL_fountain_146 (lv_at hl 3 rfl) ?_
                            refine lv_iconst (v := nI 5) hx hb dL_fountain_148 (by decide +kernel) ?_
                            refine KM.callVM (As := [.int (nI j), .int (nI 5)]) (rest := []) (W0 := (fcW cI cS f0 a s fl c0 c1 n cs b r gl sv ad t f6 k)) (ws := (fcW cI cS f0 a s fl c0 c1 n cs b r gl sv ad t f6 k)) (ws' := fun (_ : Unit) => (fcW cI cS f0 a s fl c0 c1 n cs b r gl sv ad t f6 k)) C0 hN (k_X5_jetOf_ok l D cI cS cL T f0 a s fl c0 c1 n cs b r gl sv ad t f6 k j 5 hI (by omega) hk hn hcs (by omega) (by omega)) (cwV 2 hts gL_fountain_X5_jetOf rfl rfl rfl (by decide +kernel) ⟨Nat.le_of_ble_eq_true rfl, Nat.le_of_ble_eq_true rfl⟩) hK hP hD hS hA (fun _ h => h) (va_D_iff.mp hD).1 (fun _ => fcW_perm (List.Perm.refl _)) (fun _ _ h => Or.inl h) 0 5 rfl rfl rfl rfl hl.1 rfl (Nat.le_of_ble_eq_true rfl) dL_fountain_149 ⟨Nat.le_of_ble_eq_true rfl, Nat.le_of_ble_eq_true rfl⟩ (fun v9 u9 H locs hv hP hD hS => ?_)
                            subst hv
                            have hP : va_P D vwCl (fcW cI cS f0 a s fl c0 c1 n cs b r gl sv ad t f6 k) H := hP
                            have hD : va_D A9 (fcW cI cS f0 a s fl c0 c1 n cs b r gl sv ad t f6 k) := hD
                            refine W.eq (g2 := F0 m9 152 ls [.int (nI (gS s j))]) rfl ?_
                            refine lv_aload_n hx hb dL_fountain_152 rfl (lv_at hl 1 rfl) ?_
                            refine lv_iload hx hb dL_fountain_153 (lv_at hl 3 rfl) ?_
                            refine lv_iconst (v := nI 4) hx hb dL_fountain_155 (by decide +kernel) ?_
                            refine KM.callVM (As := [.int (nI j), .int (nI 4)]) (rest := [.int (nI (gS s j))]) (W0 := (fcW cI cS f0 a s fl c0 c1 n cs b r gl sv ad t f6 k)) (ws := (fcW cI cS f0 a s fl c0 c1 n cs b r gl sv ad t f6 k)) (ws' := fun (_ : Unit) => (fcW cI cS f0 a s fl c0 c1 n cs b r gl sv ad t f6 k)) C0 hN (k_X5_jetOf_ok l D cI cS cL T f0 a s fl c0 c1 n cs b r gl sv ad t f6 k j 4 hI (by omega) hk hn hcs (by omega) (by omega)) (cwV 2 hts gL_fountain_X5_jetOf rfl rfl rfl (by decide +kernel) ⟨Nat.le_of_ble_eq_true rfl, Nat.le_of_ble_eq_true rfl⟩) hK hP hD hS hA (fun _ h => h) (va_D_iff.mp hD).1 (fun _ => fcW_perm (List.Perm.refl _)) (fun _ _ h => Or.inl h) 0 5 rfl rfl rfl rfl hl.1 rfl (Nat.le_of_ble_eq_true rfl) dL_fountain_156 ⟨Nat.le_of_ble_eq_true rfl, Nat.le_of_ble_eq_true rfl⟩ (fun v9 u9 H locs hv hP hD hS => ?_)
                            subst hv
                            have hP : va_P D vwCl (fcW cI cS f0 a s fl c0 c1 n cs b r gl sv ad t f6 k) H := hP
                            have hD : va_D A9 (fcW cI cS f0 a s fl c0 c1 n cs b r gl sv ad t f6 k) := hD
                            refine W.eq (g2 := F0 m9 159 ls [.int (nI (szF s j * vaF s j)), .int (nI (gS s j))]) rfl ?_
                            refine q_igt (tgt := 286) (by omega) (by omega) hx hb dL_fountain_159 (by decide) (fun c_159 => ?_) (fun c_159 => ?_)
                            · exact absurd True.intro (by omega)
                            ·
                              refine lv_aload_n hx hb dL_fountain_162 rfl (lv_at hl 1 rfl) ?_
                              refine lv_iload hx hb dL_fountain_163 (lv_at hl 3 rfl) ?_
                              refine lv_iconst (v := nI 5) hx hb dL_fountain_165 (by decide +kernel) ?_
                              refine KM.callVM (As := [.int (nI j), .int (nI 5)]) (rest := []) (W0 := (fcW cI cS f0 a s fl c0 c1 n cs b r gl sv ad t f6 k)) (ws := (fcW cI cS f0 a s fl c0 c1 n cs b r gl sv ad t f6 k)) (ws' := fun (_ : Unit) => (fcW cI cS f0 a s fl c0 c1 n cs b r gl sv ad t f6 k)) C0 hN (k_X5_jetOf_ok l D cI cS cL T f0 a s fl c0 c1 n cs b r gl sv ad t f6 k j 5 hI (by omega) hk hn hcs (by omega) (by omega)) (cwV 2 hts gL_fountain_X5_jetOf rfl rfl rfl (by decide +kernel) ⟨Nat.le_of_ble_eq_true rfl, Nat.le_of_ble_eq_true rfl⟩) hK hP hD hS hA (fun _ h => h) (va_D_iff.mp hD).1 (fun _ => fcW_perm (List.Perm.refl _)) (fun _ _ h => Or.inl h) 0 5 rfl rfl rfl rfl hl.1 rfl (Nat.le_of_ble_eq_true rfl) dL_fountain_166 ⟨Nat.le_of_ble_eq_true rfl, Nat.le_of_ble_eq_true rfl⟩ (fun v9 u9 H locs hv hP hD hS => ?_)
                              subst hv
                              have hP : va_P D vwCl (fcW cI cS f0 a s fl c0 c1 n cs b r gl sv ad t f6 k) H := hP
                              have hD : va_D A9 (fcW cI cS f0 a s fl c0 c1 n cs b r gl sv ad t f6 k) := hD
                              refine W.eq (g2 := F0 m9 169 ls [.int (nI (gS s j))]) rfl ?_
                              refine lv_if_lt (tgt := 286) hx hb dL_fountain_169 (by decide) (fun c_169 => ?_) (fun c_169 => ?_)
                              · exact absurd c_169 (nI_pos (by omega))
                              ·
                                refine lv_aload_n hx hb dL_fountain_172 rfl (lv_at hl 1 rfl) ?_
                                refine lv_iload hx hb dL_fountain_173 (lv_at hl 3 rfl) ?_
                                refine lv_bipush (v := nI 6) hx hb dL_fountain_175 (by decide +kernel) ?_
                                refine KM.callVM (As := [.int (nI j), .int (nI 6)]) (rest := []) (W0 := (fcW cI cS f0 a s fl c0 c1 n cs b r gl sv ad t f6 k)) (ws := (fcW cI cS f0 a s fl c0 c1 n cs b r gl sv ad t f6 k)) (ws' := fun (_ : Unit) => (fcW cI cS f0 a s fl c0 c1 n cs b r gl sv ad t f6 k)) C0 hN (k_X5_jetOf_ok l D cI cS cL T f0 a s fl c0 c1 n cs b r gl sv ad t f6 k j 6 hI (by omega) hk hn hcs (by omega) (by omega)) (cwV 2 hts gL_fountain_X5_jetOf rfl rfl rfl (by decide +kernel) ⟨Nat.le_of_ble_eq_true rfl, Nat.le_of_ble_eq_true rfl⟩) hK hP hD hS hA (fun _ h => h) (va_D_iff.mp hD).1 (fun _ => fcW_perm (List.Perm.refl _)) (fun _ _ h => Or.inl h) 0 5 rfl rfl rfl rfl hl.1 rfl (Nat.le_of_ble_eq_true rfl) dL_fountain_177 ⟨Nat.le_of_ble_eq_true rfl, Nat.le_of_ble_eq_true rfl⟩ (fun v9 u9 H locs hv hP hD hS => ?_)
                                subst hv
                                have hP : va_P D vwCl (fcW cI cS f0 a s fl c0 c1 n cs b r gl sv ad t f6 k) H := hP
                                have hD : va_D A9 (fcW cI cS f0 a s fl c0 c1 n cs b r gl sv ad t f6 k) := hD
                                refine W.eq (g2 := F0 m9 180 ls [.int (nI (heS s j))]) rfl ?_
                                refine lv_aload_n hx hb dL_fountain_180 rfl (lv_at hl 1 rfl) ?_
                                refine lv_iload hx hb dL_fountain_181 (lv_at hl 3 rfl) ?_
                                refine lv_iconst (v := nI 5) hx hb dL_fountain_183 (by decide +kernel) ?_
                                refine KM.callVM (As := [.int (nI j), .int (nI 5)]) (rest := [.int (nI (heS s j))]) (W0 := (fcW cI cS f0 a s fl c0 c1 n cs b r gl sv ad t f6 k)) (ws := (fcW cI cS f0 a s fl c0 c1 n cs b r gl sv ad t f6 k)) (ws' := fun (_ : Unit) => (fcW cI cS f0 a s fl c0 c1 n cs b r gl sv ad t f6 k)) C0 hN (k_X5_jetOf_ok l D cI cS cL T f0 a s fl c0 c1 n cs b r gl sv ad t f6 k j 5 hI (by omega) hk hn hcs (by omega) (by omega)) (cwV 2 hts gL_fountain_X5_jetOf rfl rfl rfl (by decide +kernel) ⟨Nat.le_of_ble_eq_true rfl, Nat.le_of_ble_eq_true rfl⟩) hK hP hD hS hA (fun _ h => h) (va_D_iff.mp hD).1 (fun _ => fcW_perm (List.Perm.refl _)) (fun _ _ h => Or.inl h) 0 5 rfl rfl rfl rfl hl.1 rfl (Nat.le_of_ble_eq_true rfl) dL_fountain_184 ⟨Nat.le_of_ble_eq_true rfl, Nat.le_of_ble_eq_true rfl⟩ (fun v9 u9 H locs hv hP hD hS => ?_)
                                subst hv
                                have hP : va_P D vwCl (fcW cI cS f0 a s fl c0 c1 n cs b r gl sv ad t f6 k) H := hP
                                have hD : va_D A9 (fcW cI cS f0 a s fl c0 c1 n cs b r gl sv ad t f6 k) := hD
                                refine W.eq (g2 := F0 m9 187 ls [.int (nI (gS s j)), .int (nI (heS s j))]) rfl ?_
                                refine lv_aload_n hx hb dL_fountain_187 rfl (lv_at hl 1 rfl) ?_
                                refine lv_iload hx hb dL_fountain_188 (lv_at hl 3 rfl) ?_
                                refine lv_iconst (v := nI 0) hx hb dL_fountain_190 (by decide +kernel) ?_
                                refine KM.callVM (As := [.int (nI j), .int (nI 0)]) (rest := [.int (nI (gS s j)), .int (nI (heS s j))]) (W0 := (fcW cI cS f0 a s fl c0 c1 n cs b r gl sv ad t f6 k)) (ws := (fcW cI cS f0 a s fl c0 c1 n cs b r gl sv ad t f6 k)) (ws' := fun (_ : Unit) => (fcW cI cS f0 a s fl c0 c1 n cs b r gl sv ad t f6 k)) C0 hN (k_X5_jetOf_ok l D cI cS cL T f0 a s fl c0 c1 n cs b r gl sv ad t f6 k j 0 hI (by omega) hk hn hcs (by omega) (by omega)) (cwV 2 hts gL_fountain_X5_jetOf rfl rfl rfl (by decide +kernel) ⟨Nat.le_of_ble_eq_true rfl, Nat.le_of_ble_eq_true rfl⟩) hK hP hD hS hA (fun _ h => h) (va_D_iff.mp hD).1 (fun _ => fcW_perm (List.Perm.refl _)) (fun _ _ h => Or.inl h) 0 5 rfl rfl rfl rfl hl.1 rfl (Nat.le_of_ble_eq_true rfl) dL_fountain_191 ⟨Nat.le_of_ble_eq_true rfl, Nat.le_of_ble_eq_true rfl⟩ (fun v9 u9 H locs hv hP hD hS => ?_)
                                subst hv
                                have hP : va_P D vwCl (fcW cI cS f0 a s fl c0 c1 n cs b r gl sv ad t f6 k) H := hP
                                have hD : va_D A9 (fcW cI cS f0 a s fl c0 c1 n cs b r gl sv ad t f6 k) := hD
                                refine W.eq (g2 := F0 m9 194 ls [.int (nI (szF s j)), .int (nI (gS s j)), .int (nI (heS s j))]) rfl ?_
                                refine q_idiv (by omega) (by omega) (by omega) hx hb dL_fountain_194 ?_
                                refine q_ine (tgt := 286) (by omega) (by omega) hx hb dL_fountain_195 (by decide) (fun c_195 => ?_) (fun c_195 => ?_)
                                · exact absurd rfl c_195
                                ·
                                  refine lv_aload_n hx hb dL_fountain_198 rfl (lv_at hl 1 rfl) ?_
                                  refine lv_iload hx hb dL_fountain_199 (lv_at hl 3 rfl) ?_
                                  refine lv_bipush (v := nI 6) hx hb dL_fountain_201 (by decide +kernel) ?_
                                  refine KM.callVM (As := [.int (nI j), .int (nI 6)]) (rest := []) (W0 := (fcW cI cS f0 a s fl c0 c1 n cs b r gl sv ad t f6 k)) (ws := (fcW cI cS f0 a s fl c0 c1 n cs b r gl sv ad t f6 k)) (ws' := fun (_ : Unit) => (fcW cI cS f0 a s fl c0 c1 n cs b r gl sv ad t f6 k)) C0 hN (k_X5_jetOf_ok l D cI cS cL T f0 a s fl c0 c1 n cs b r gl sv ad t f6 k j 6 hI (by omega) hk hn hcs (by omega) (by omega)) (cwV 2 hts gL_fountain_X5_jetOf rfl rfl rfl (by decide +kernel) ⟨Nat.le_of_ble_eq_true rfl, Nat.le_of_ble_eq_true rfl⟩) hK hP hD hS hA (fun _ h => h) (va_D_iff.mp hD).1 (fun _ => fcW_perm (List.Perm.refl _)) (fun _ _ h => Or.inl h) 0 5 rfl rfl rfl rfl hl.1 rfl (Nat.le_of_ble_eq_true rfl) dL_fountain_203 ⟨Nat.le_of_ble_eq_true rfl, Nat.le_of_ble_eq_true rfl⟩ (fun v9 u9 H locs hv hP hD hS => ?_)
                                  subst hv
                                  have hP : va_P D vwCl (fcW cI cS f0 a s fl c0 c1 n cs b r gl sv ad t f6 k) H := hP
                                  have hD : va_D A9 (fcW cI cS f0 a s fl c0 c1 n cs b r gl sv ad t f6 k) := hD
                                  refine W.eq (g2 := F0 m9 206 ls [.int (nI (heS s j))]) rfl ?_
                                  refine lv_bipush (v := nI 10) hx hb dL_fountain_206 (by decide +kernel) ?_
                                  refine q_igt (tgt := 286) (by omega) (by omega) hx hb dL_fountain_208 (by decide) (fun c_208 => ?_) (fun c_208 => ?_)
                                  · exact absurd True.intro (by omega)
                                  ·
                                    refine lv_aload_n hx hb dL_fountain_211 rfl (lv_at hl 1 rfl) ?_
                                    refine lv_iload hx hb dL_fountain_212 (lv_at hl 3 rfl) ?_
                                    refine lv_iconst (v := nI 2) hx hb dL_fountain_214 (by decide +kernel) ?_
                                    refine KM.callVM (As := [.int (nI j), .int (nI 2)]) (rest := []) (W0 := (fcW cI cS f0 a s fl c0 c1 n cs b r gl sv ad t f6 k)) (ws := (fcW cI cS f0 a s fl c0 c1 n cs b r gl sv ad t f6 k)) (ws' := fun (_ : Unit) => (fcW cI cS f0 a s fl c0 c1 n cs b r gl sv ad t f6 k)) C0 hN (k_X5_jetOf_ok l D cI cS cL T f0 a s fl c0 c1 n cs b r gl sv ad t f6 k j 2 hI (by omega) hk hn hcs (by omega) (by omega)) (cwV 2 hts gL_fountain_X5_jetOf rfl rfl rfl (by decide +kernel) ⟨Nat.le_of_ble_eq_true rfl, Nat.le_of_ble_eq_true rfl⟩) hK hP hD hS hA (fun _ h => h) (va_D_iff.mp hD).1 (fun _ => fcW_perm (List.Perm.refl _)) (fun _ _ h => Or.inl h) 0 5 rfl rfl rfl rfl hl.1 rfl (Nat.le_of_ble_eq_true rfl) dL_fountain_215 ⟨Nat.le_of_ble_eq_true rfl, Nat.le_of_ble_eq_true rfl⟩ (fun v9 u9 H locs hv hP hD hS => ?_)
                                    subst hv
                                    have hP : va_P D vwCl (fcW cI cS f0 a s fl c0 c1 n cs b r gl sv ad t f6 k) H := hP
                                    have hD : va_D A9 (fcW cI cS f0 a s fl c0 c1 n cs b r gl sv ad t f6 k) := hD
                                    refine W.eq (g2 := F0 m9 218 ls [.int (nI (vaF s j))]) rfl ?_
                                    refine lv_if_lt (tgt := 286) hx hb dL_fountain_218 (by decide) (fun c_218 => ?_) (fun c_218 => ?_)
                                    · exact absurd c_218 (nI_pos (by omega))
                                    ·
                                      refine lv_aload_n hx hb dL_fountain_221 rfl (lv_at hl 1 rfl) ?_
                                      refine lv_iload hx hb dL_fountain_222 (lv_at hl 3 rfl) ?_
                                      refine lv_iconst (v := nI 2) hx hb dL_fountain_224 (by decide +kernel) ?_
                                      refine KM.callVM (As := [.int (nI j), .int (nI 2)]) (rest := []) (W0 := (fcW cI cS f0 a s fl c0 c1 n cs b r gl sv ad t f6 k)) (ws := (fcW cI cS f0 a s fl c0 c1 n cs b r gl sv ad t f6 k)) (ws' := fun (_ : Unit) => (fcW cI cS f0 a s fl c0 c1 n cs b r gl sv ad t f6 k)) C0 hN (k_X5_jetOf_ok l D cI cS cL T f0 a s fl c0 c1 n cs b r gl sv ad t f6 k j 2 hI (by omega) hk hn hcs (by omega) (by omega)) (cwV 2 hts gL_fountain_X5_jetOf rfl rfl rfl (by decide +kernel) ⟨Nat.le_of_ble_eq_true rfl, Nat.le_of_ble_eq_true rfl⟩) hK hP hD hS hA (fun _ h => h) (va_D_iff.mp hD).1 (fun _ => fcW_perm (List.Perm.refl _)) (fun _ _ h => Or.inl h) 0 5 rfl rfl rfl rfl hl.1 rfl (Nat.le_of_ble_eq_true rfl) dL_fountain_225 ⟨Nat.le_of_ble_eq_true rfl, Nat.le_of_ble_eq_true rfl⟩ (fun v9 u9 H locs hv hP hD hS => ?_)
                                      subst hv
                                      have hP : va_P D vwCl (fcW cI cS f0 a s fl c0 c1 n cs b r gl sv ad t f6 k) H := hP
                                      have hD : va_D A9 (fcW cI cS f0 a s fl c0 c1 n cs b r gl sv ad t f6 k) := hD
                                      refine W.eq (g2 := F0 m9 228 ls [.int (nI (vaF s j))]) rfl ?_
                                      refine lv_bipush (v := nI 10) hx hb dL_fountain_228 (by decide +kernel) ?_
                                      refine q_igt (tgt := 286) (by omega) (by omega) hx hb dL_fountain_230 (by decide) (fun c_230 => ?_) (fun c_230 => ?_)
                                      · exact absurd True.intro (by omega)
                                      ·
                                        have L266 : ∀  (H : Heap) (locs : List Loc) (ls : Array Slot),  va_P D vwCl (fcW cI cS f0 a s fl c0 c1 n cs b r gl sv ad t f6 k) H → va_D A9 (fcW cI cS f0 a s fl c0 c1 n cs b r gl sv ad t f6 k) → va_S A9 s9.heap H locs → lv_has ls 8 [(0, .ref f0), (4, .int (nI p)), (7, .int (nI j)), (1, .int (nI (lmS s (j + 1)))), (2, .int (nI 1)), (3, .int ((nI 10 + nI (s 0)) - nI (s 5))), (5, .int (nI (asT s p ((j + 1) - p * 4)))), (6, .int (nI (gtT s p ((j + 1) - p * 4))))] → W p9 l e9 ({ frames := 6, cells := 0, slots := 0, locals := 131 } : Room) s9 m9 ar9 be9 me9 c9 H locs 0 0 Q9 (F0 m9 266 ls []) := by
                                          intro  H locs ls   hP hD hS hl
                                          refine lv_aload_n hx hb dL_fountain_266 rfl (lv_at hl 0 rfl) ?_
                                          refine lv_iload hx hb dL_fountain_267 (lv_at hl 2 rfl) ?_
                                          refine lv_bipush (v := nI 7) hx hb dL_fountain_269 (by decide +kernel) ?_
                                          refine KM.callVM (As := [.int (nI j), .int (nI 7)]) (rest := []) (W0 := (fcW cI cS f0 a s fl c0 c1 n cs b r gl sv ad t f6 k)) (ws := (fcW cI cS f0 a s fl c0 c1 n cs b r gl sv ad t f6 k)) (ws' := fun (_ : Unit) => (fcW cI cS f0 a s fl c0 c1 n cs b r gl sv ad t f6 k)) C0 hN (k_X5_jetOf_ok l D cI cS cL T f0 a s fl c0 c1 n cs b r gl sv ad t f6 k j 7 hI (by omega) hk hn hcs (by omega) (by omega)) (cwV 2 hts gL_fountain_X5_jetOf rfl rfl rfl (by decide +kernel) ⟨Nat.le_of_ble_eq_true rfl, Nat.le_of_ble_eq_true rfl⟩) hK hP hD hS hA (fun _ h => h) (va_D_iff.mp hD).1 (fun _ => fcW_perm (List.Perm.refl _)) (fun _ _ h => Or.inl h) 0 5 rfl rfl rfl rfl hl.1 rfl (Nat.le_of_ble_eq_true rfl) dL_fountain_271 ⟨Nat.le_of_ble_eq_true rfl, Nat.le_of_ble_eq_true rfl⟩ (fun v9 u9 H locs hv hP hD hS => ?_)
                                          subst hv
                                          have hP : va_P D vwCl (fcW cI cS f0 a s fl c0 c1 n cs b r gl sv ad t f6 k) H := hP
                                          have hD : va_D A9 (fcW cI cS f0 a s fl c0 c1 n cs b r gl sv ad t f6 k) := hD
                                          refine W.eq (g2 := F0 m9 274 ls [.int (nI (buF s j))]) rfl ?_
                                          refine lv_aload_n hx hb dL_fountain_274 rfl (lv_at hl 0 rfl) ?_
                                          refine lv_iconst (v := nI 0) hx hb dL_fountain_275 (by decide +kernel) ?_
                                          refine KM.callVM (As := [.int (nI 0)]) (rest := [.int (nI (buF s j))]) (W0 := (fcW cI cS f0 a s fl c0 c1 n cs b r gl sv ad t f6 k)) (ws := (fcW cI cS f0 a s fl c0 c1 n cs b r gl sv ad t f6 k)) (ws' := fun (_ : Unit) => (fcW cI cS f0 a s fl c0 c1 n cs b r gl sv ad t f6 k)) C0 hN (k_X5_count_ok l D cI cS cL T f0 a s fl c0 c1 n cs b r gl sv ad t f6 k 0 hI (by omega) hk hn hcs (by omega)) (cwV 1 hts gL_fountain_X5_count rfl rfl rfl (by decide +kernel) ⟨Nat.le_of_ble_eq_true rfl, Nat.le_of_ble_eq_true rfl⟩) hK hP hD hS hA (fun _ h => h) (va_D_iff.mp hD).1 (fun _ => fcW_perm (List.Perm.refl _)) (fun _ _ h => Or.inl h) 0 5 rfl rfl rfl rfl hl.1 rfl (Nat.le_of_ble_eq_true rfl) dL_fountain_276 ⟨Nat.le_of_ble_eq_true rfl, Nat.le_of_ble_eq_true rfl⟩ (fun v9 u9 H locs hv hP hD hS => ?_)
                                          subst hv
                                          have hP : va_P D vwCl (fcW cI cS f0 a s fl c0 c1 n cs b r gl sv ad t f6 k) H := hP
                                          have hD : va_D A9 (fcW cI cS f0 a s fl c0 c1 n cs b r gl sv ad t f6 k) := hD
                                          refine W.eq (g2 := F0 m9 279 ls [.int (nI (s 7)), .int (nI (buF s j))]) rfl ?_
                                          refine q_igt (tgt := 286) (by omega) (by omega) hx hb dL_fountain_279 (by decide) (fun c_279 => ?_) (fun c_279 => ?_)
                                          · exact absurd True.intro (by omega)
                                          ·
                                            refine lv_iconst (v := nI 1) hx hb dL_fountain_282 (by decide +kernel) ?_
                                            refine lv_goto (tgt := 287) hx hb dL_fountain_283 (by decide) ?_
                                            refine lv_istore_n (lv' := [(2, .int (nI 1)), (0, .ref f0), (4, .int (nI p)), (7, .int (nI j)), (1, .int (nI (lmS s (j + 1)))), (3, .int ((nI 10 + nI (s 0)) - nI (s 5))), (5, .int (nI (asT s p ((j + 1) - p * 4)))), (6, .int (nI (gtT s p ((j + 1) - p * 4))))]) hx hb dL_fountain_287 rfl hl (by decide) rfl (fun ls hl => ?_)
                                            refine lv_iinc (v := (nI (j + 1))) (lv' := [(7, .int (nI (j + 1))), (2, .int (nI 1)), (0, .ref f0), (4, .int (nI p)), (1, .int (nI (lmS s (j + 1)))), (3, .int ((nI 10 + nI (s 0)) - nI (s 5))), (5, .int (nI (asT s p ((j + 1) - p * 4)))), (6, .int (nI (gtT s p ((j + 1) - p * 4))))]) hx hb dL_fountain_288 hl (k := 3) rfl (nI_add j 1) (by decide) rfl (fun ls hl => ?_)
                                            refine lv_goto (tgt := 87) hx hb dL_fountain_291 (by decide) ?_
                                            exact ih87  (j + 1) _ _ ls (by first | with_reducible assumption | omega) (by first | with_reducible assumption | omega) (by omega) hP hD hS (lv_sub hl [2, 3, 0, 4, 1, 5, 6, 7] rfl)
                                        refine lv_aload_n hx hb dL_fountain_233 rfl (lv_at hl 1 rfl) ?_
                                        refine lv_iconst (v := nI 2) hx hb dL_fountain_234 (by decide +kernel) ?_
                                        refine KM.callVM (As := [.int (nI 2)]) (rest := []) (W0 := (fcW cI cS f0 a s fl c0 c1 n cs b r gl sv ad t f6 k)) (ws := (fcW cI cS f0 a s fl c0 c1 n cs b r gl sv ad t f6 k)) (ws' := fun (_ : Unit) => (fcW cI cS f0 a s fl c0 c1 n cs b r gl sv ad t f6 k)) C0 hN (k_X5_count_ok l D cI cS cL T f0 a s fl c0 c1 n cs b r gl sv ad t f6 k 2 hI (by omega) hk hn hcs (by omega)) (cwV 1 hts gL_fountain_X5_count rfl rfl rfl (by decide +kernel) ⟨Nat.le_of_ble_eq_true rfl, Nat.le_of_ble_eq_true rfl⟩) hK hP hD hS hA (fun _ h => h) (va_D_iff.mp hD).1 (fun _ => fcW_perm (List.Perm.refl _)) (fun _ _ h => Or.inl h) 0 5 rfl rfl rfl rfl hl.1 rfl (Nat.le_of_ble_eq_true rfl) dL_fountain_235 ⟨Nat.le_of_ble_eq_true rfl, Nat.le_of_ble_eq_true rfl⟩ (fun v9 u9 H locs hv hP hD hS => ?_)
                                        subst hv
                                        have hP : va_P D vwCl (fcW cI cS f0 a s fl c0 c1 n cs b r gl sv ad t f6 k) H := hP
                                        have hD : va_D A9 (fcW cI cS f0 a s fl c0 c1 n cs b r gl sv ad t f6 k) := hD
                                        refine W.eq (g2 := F0 m9 238 ls [.int (nI (s 5))]) rfl ?_
                                        refine lv_aload_n hx hb dL_fountain_238 rfl (lv_at hl 1 rfl) ?_
                                        refine lv_iconst (v := nI 0) hx hb dL_fountain_239 (by decide +kernel) ?_
                                        refine KM.callVM (As := [.int (nI 0)]) (rest := [.int (nI (s 5))]) (W0 := (fcW cI cS f0 a s fl c0 c1 n cs b r gl sv ad t f6 k)) (ws := (fcW cI cS f0 a s fl c0 c1 n cs b r gl sv ad t f6 k)) (ws' := fun (_ : Unit) => (fcW cI cS f0 a s fl c0 c1 n cs b r gl sv ad t f6 k)) C0 hN (k_X5_setting_ok l D cI cS cL T f0 a s fl c0 c1 n cs b r gl sv ad t f6 k 0 hI (by omega) hk hn hcs (by omega)) (cwV 1 hts gL_fountain_X5_setting rfl rfl rfl (by decide +kernel) ⟨Nat.le_of_ble_eq_true rfl, Nat.le_of_ble_eq_true rfl⟩) hK hP hD hS hA (fun _ h => h) (va_D_iff.mp hD).1 (fun _ => fcW_perm (List.Perm.refl _)) (fun _ _ h => Or.inl h) 0 5 rfl rfl rfl rfl hl.1 rfl (Nat.le_of_ble_eq_true rfl) dL_fountain_240 ⟨Nat.le_of_ble_eq_true rfl, Nat.le_of_ble_eq_true rfl⟩ (fun v9 u9 H locs hv hP hD hS => ?_)
                                        subst hv
                                        have hP : va_P D vwCl (fcW cI cS f0 a s fl c0 c1 n cs b r gl sv ad t f6 k) H := hP
                                        have hD : va_D A9 (fcW cI cS f0 a s fl c0 c1 n cs b r gl sv ad t f6 k) := hD
                                        refine W.eq (g2 := F0 m9 243 ls [.int (nI (s 0)), .int (nI (s 5))]) rfl ?_
                                        refine q_ile (tgt := 266) (by omega) (by omega) hx hb dL_fountain_243 (by decide) (fun c_243 => ?_) (fun c_243 => ?_)
                                        ·
                                          exact L266   _ _ ls   hP hD hS (lv_sub hl [1, 2, 3, 0, 4, 5, 6, 7] rfl)
                                        ·
                                          have hw1 := he_wind hI hj8 (by omega)
                                          refine lv_aload_n hx hb dL_fountain_246 rfl (lv_at hl 1 rfl) ?_
                                          refine lv_iload hx hb dL_fountain_247 (lv_at hl 3 rfl) ?_
                                          refine lv_bipush (v := nI 6) hx hb dL_fountain_249 (by decide +kernel) ?_
                                          refine KM.callVM (As := [.int (nI j), .int (nI 6)]) (rest := []) (W0 := (fcW cI cS f0 a s fl c0 c1 n cs b r gl sv ad t f6 k)) (ws := (fcW cI cS f0 a s fl c0 c1 n cs b r gl sv ad t f6 k)) (ws' := fun (_ : Unit) => (fcW cI cS f0 a s fl c0 c1 n cs b r gl sv ad t f6 k)) C0 hN (k_X5_jetOf_ok l D cI cS cL T f0 a s fl c0 c1 n cs b r gl sv ad t f6 k j 6 hI (by omega) hk hn hcs (by omega) (by omega)) (cwV 2 hts gL_fountain_X5_jetOf rfl rfl rfl (by decide +kernel) ⟨Nat.le_of_ble_eq_true rfl, Nat.le_of_ble_eq_true rfl⟩) hK hP hD hS hA (fun _ h => h) (va_D_iff.mp hD).1 (fun _ => fcW_perm (List.Perm.refl _)) (fun _ _ h => Or.inl h) 0 5 rfl rfl rfl rfl hl.1 rfl (Nat.le_of_ble_eq_true rfl) dL_fountain_251 ⟨Nat.le_of_ble_eq_true rfl, Nat.le_of_ble_eq_true rfl⟩ (fun v9 u9 H locs hv hP hD hS => ?_)
                                          subst hv
                                          have hP : va_P D vwCl (fcW cI cS f0 a s fl c0 c1 n cs b r gl sv ad t f6 k) H := hP
                                          have hD : va_D A9 (fcW cI cS f0 a s fl c0 c1 n cs b r gl sv ad t f6 k) := hD
                                          refine W.eq (g2 := F0 m9 254 ls [.int (nI (heS s j))]) rfl ?_
                                          refine lv_iload_n hx hb dL_fountain_254 rfl (lv_at hl 5 rfl) ?_
                                          refine lv_if_ge (tgt := 262) hx hb dL_fountain_255 (by decide) (fun c_255 => ?_) (fun c_255 => ?_)
                                          ·
                                            refine lv_iload_n hx hb dL_fountain_262 rfl (lv_at hl 5 rfl) ?_
                                            refine q_topi (y := (nI (10 + s 0 - s 5))) (by exact most_ge h50 hB8 c_255) ?_
                                            refine q_igt (tgt := 286) (by omega) (by omega) hx hb dL_fountain_263 (by decide) (fun c_263 => ?_) (fun c_263 => ?_)
                                            · exact absurd True.intro (by omega)
                                            ·
                                              exact L266   _ _ ls   hP hD hS (lv_sub hl [1, 2, 3, 0, 4, 5, 6, 7] rfl)
                                          ·
                                            have hm0 := most_lt h50 hB8 c_255
                                            refine lv_iconst (v := nI 0) hx hb dL_fountain_258 (by decide +kernel) ?_
                                            refine lv_goto (tgt := 263) hx hb dL_fountain_259 (by decide) ?_
                                            refine q_igt (tgt := 286) (by omega) (by omega) hx hb dL_fountain_263 (by decide) (fun c_263 => ?_) (fun c_263 => ?_)
                                            · exact absurd True.intro (by omega)
                                            ·
                                              exact L266   _ _ ls   hP hD hS (lv_sub hl [1, 2, 3, 0, 4, 5, 6, 7] rfl)
                          refine lv_iload_n hx hb dL_fountain_126 rfl (lv_at hl 5 rfl) ?_
                          refine lv_aload_n hx hb dL_fountain_127 rfl (lv_at hl 2 rfl) ?_
                          refine lv_iload hx hb dL_fountain_128 (lv_at hl 4 rfl) ?_
                          refine lv_bipush (v := nI 6) hx hb dL_fountain_130 (by decide +kernel) ?_
                          refine KM.callVM (As := [.int (nI j), .int (nI 6)]) (rest := [.int (nI (lmS s j))]) (W0 := (fcW cI cS f0 a s fl c0 c1 n cs b r gl sv ad t f6 k)) (ws := (fcW cI cS f0 a s fl c0 c1 n cs b r gl sv ad t f6 k)) (ws' := fun (_ : Unit) => (fcW cI cS f0 a s fl c0 c1 n cs b r gl sv ad t f6 k)) C0 hN (k_X5_jetOf_ok l D cI cS cL T f0 a s fl c0 c1 n cs b r gl sv ad t f6 k j 6 hI (by omega) hk hn hcs (by omega) (by omega)) (cwV 2 hts gL_fountain_X5_jetOf rfl rfl rfl (by decide +kernel) ⟨Nat.le_of_ble_eq_true rfl, Nat.le_of_ble_eq_true rfl⟩) hK hP hD hS hA (fun _ h => h) (va_D_iff.mp hD).1 (fun _ => fcW_perm (List.Perm.refl _)) (fun _ _ h => Or.inl h) 0 5 rfl rfl rfl rfl hl.1 rfl (Nat.le_of_ble_eq_true rfl) dL_fountain_132 ⟨Nat.le_of_ble_eq_true rfl, Nat.le_of_ble_eq_true rfl⟩ (fun v9 u9 H locs hv hP hD hS => ?_)
                          subst hv
                          have hP : va_P D vwCl (fcW cI cS f0 a s fl c0 c1 n cs b r gl sv ad t f6 k) H := hP
                          have hD : va_D A9 (fcW cI cS f0 a s fl c0 c1 n cs b r gl sv ad t f6 k) := hD
                          refine W.eq (g2 := F0 m9 135 ls [.int (nI (heS s j)), .int (nI (lmS s j))]) rfl ?_
                          refine q_fle (tgt := 142) (by omega) hx hb dL_fountain_135 (by decide) (fun c_135 => ?_) (fun c_135 => ?_)
                          ·
                            refine lv_iconst (v := nI 0) hx hb dL_fountain_142 (by decide +kernel) ?_
                            exact L143  0 _ _ ls (by first | exact (if_pos (by omega)).symm | exact (if_neg (by omega)).symm)  hP hD hS (lv_sub hl [2, 3, 4, 5, 6, 7, 1, 0] rfl)
                          ·
                            refine lv_iconst (v := nI 1) hx hb dL_fountain_138 (by decide +kernel) ?_
                            refine lv_goto (tgt := 143) hx hb dL_fountain_139 (by decide) ?_
                            exact L143  1 _ _ ls (by first | exact (if_pos (by omega)).symm | exact (if_neg (by omega)).symm)  hP hD hS (lv_sub hl [2, 3, 4, 5, 6, 7, 1, 0] rfl)
                  exact L87 (4 * p + 4 - (4 * p) + 1) (4 * p) _ _ ls (by first | with_reducible assumption | omega) (by first | with_reducible assumption | omega) (by omega) hP hD hS (lv_sub hl [3, 4, 0, 5, 6, 7, 2, 1] rfl)
          exact L65 (2 - 0 + 1) 0 _ _ ls (by first | with_reducible assumption | omega) (by omega) hP hD hS (lv_sub hl [4, 0, 3, 2, 1] rfl)
