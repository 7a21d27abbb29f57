theorem neg_no {x : Int32} (h : x < 0) : ¬ 0 ≤ x := fun z => by
  rw [Int32.lt_iff_toInt_lt] at h
  rw [Int32.le_iff_toInt_le] at z
  omega
theorem pos_no {x : Int32} (h : ¬ x < 0) : 0 ≤ x := by
  rw [Int32.lt_iff_toInt_lt] at h
  rw [Int32.le_iff_toInt_le]
  omega
section KCALLZW
variable {p : Program} {l : Launch} {e : Env} {R : Room} {s : State} {m : MethodId} {args : Array Value} {below : List Frame} {meth : Method} {c : Code} {H : Heap} {locs : List Loc} {cells slots : Nat} {Q : State → Prop}
variable {pc : Nat} {ls : Array Slot} {st0 rest : List Value} {a : Array Value} {S : Type} {D : va_G} {ty : List (ClassId × FieldType)} {W0 : va_W} {A0 : Nat → Prop} {post : Option Value → S → Prop} {W1 : S → va_W} {rm : Room} {b0 L : Nat} {xs : Nat → Int32}
/-- a call whose world is all there is: that what is behind it stands apart, the callee itself says -/
theorem run_goW {mc ms : Nat} (hr : va_Run p l e R s m args below meth c H locs cells slots mc ms (F0 m pc ls st0) rest (KQ post (PA D ty W0 H.size W1) (va_A W0 H.size) a) (va_A W0 H.size)) (hD : va_D A0 W0) (hS : va_S A0 s.heap H locs) (hA : ∀ q, s.heap.size ≤ q → A0 q)
    (kk : ∀ (v : Option Value) (u : S) (H1 : Heap) (locs1 : List Loc), post v u → va_P D vwCl (W1 u) H1 → va_D A0 (W1 u) → va_S A0 s.heap H1 locs1 → W p l e R s m args below meth c H1 locs1 (cells + mc) (slots + ms) Q (F0 m (pc + 3) ls (v.toList ++ rest))) : W p l e R s m args below meth c H locs cells slots Q (F0 m pc ls st0) := by
  have hf := free_M hD hS hA (fun _ h => h)
  intro T hT X
  obtain ⟨v, st₀, t, T', L, h0, X', hL, e1, e2, ⟨⟨v', u, hv, hp, hb1, hb2, hb3⟩, hz, hk⟩, st⟩ := hr T hT X
  cases hv
  rw [h0] at hz hk
  have hP1 := hb1
  rw [← e1] at hP1
  obtain ⟨t2, a1, b1⟩ := kk v u T'.heap (locs ++ L) hp hP1 (va_D_iff.mpr ⟨(va_D_iff.mp hb3).1, fun q hq => hf _ ((va_D_iff.mp hb3).2 q hq)⟩)
    ⟨Nat.le_trans hS.1 (by rw [e1]; exact hz), fun q h1 h2 => by rw [e1, hk q (Nat.lt_of_lt_of_le h1 hS.1) (fun z => h2 (hf q z))]; exact hS.2.1 q h1 h2, fun q hq => by
      rcases List.mem_append.mp hq with h | h
      · exact hS.2.2 q h
      · exact hf _ (hL q h)⟩ T' rfl X'
  exact ⟨t2, st t2 a1, b1⟩
variable {y : MethodName} {bytes cc : ByteArray} {maxL nL n index : Nat} {ret : Option FieldType} {wsc Ts : List Cond} {own : String} {As : List Value}
theorem KZ.callSW (C0 : CallFix p m c cc nL s args Ts own) (hN : NST s) (hAm : AMB A0 s s.heap) (hXN : XN s) (hSX : SX b0 L xs A0 s) (hM : KZ l D ty b0 L xs y wsc rm W0 As post W1) (cw : CallB R s args own index y bytes maxL ret wsc rm rm.cells rm.slots n ∧ (Cond.static y).before args s = true) (hK : va_K D vwCl ty s) (hP : va_P D vwCl W0 H) (hD : va_D A0 W0) (hS : va_S A0 s.heap H locs) (hA : ∀ q, s.heap.size ≤ q → A0 q)
    (hn : As.length = n) (hsize : ls.size = nL) (hstack : st0 = As.reverse ++ rest) (hW : (rest.map fun v => v.category).sum ≤ 8) (hdg : decode cc pc = .ok (.invokestatic index, 3)) (hf : cells + rm.cells ≤ R.cells ∧ slots + rm.slots ≤ R.slots)
    (kk : ∀ (v : Option Value) (u : S) (H1 : Heap) (locs1 : List Loc), post v u → va_P D vwCl (W1 u) H1 → va_D A0 (W1 u) → va_S A0 s.heap H1 locs1 → W p l e R s m args below meth c H1 locs1 (cells + rm.cells) (slots + rm.slots) Q (F0 m (pc + 3) ls (v.toList ++ rest))) : W p l e R s m args below meth c H locs cells slots Q (F0 m pc ls st0) :=
  run_goW (W0 := W0) (va_runS (As := As) (rest := rest) C0 (hM H.size) cw ⟨PBZ_blind, fun U hU hW => ⟨rfl, ⟨⟨⟨by rw [hU], by rw [hU]; exact hP, va_K.moved hW.alike hK, va_D_iff.mpr ⟨(va_D_iff.mp hD).1, fun _ _ => trivial⟩, hN.warm hW⟩, AMB.goes hAm hS hU hW (free_M hD hS hA (fun _ h => h))⟩, XN.moved hW.alike hXN⟩, hSX.goes hS hU hW (free_M hD hS hA (fun _ h => h))⟩⟩ rfl hn hsize hstack (by show 2 * 0 + _ ≤ 8; omega) hdg hf) hD hS hA kk
end KCALLZW
-- what the law's start gives
theorem nest_in : ∀ q ∈ nests, Cond.methodLinkNest q.1 q.2.1 q.2.2.1 q.2.2.2 ∈ lw_tbl := by decide +kernel
theorem nst_of {s : State} {a : Array Value} (hts : ∀ w ∈ lw_tbl, w.before a s = true) (hgv : (Jvm.Cond.and given_1 narrow_1).before a s = true) : NST s :=
  ⟨fun q hq => va_Nw.of rfl (hts _ (nest_in q hq)), by
    have hg := flat_of_before _ hgv
    have h : (Cond.arrayOver (.object RX4)).before a s = true := by first | exact hts _ (by decide +kernel) | exact hg _ (by decide +kernel)
    exact h⟩
theorem xb_of {s : State} {a : Array Value} (hts : ∀ w ∈ lw_tbl, w.before a s = true) (hgv : (Jvm.Cond.and given_1 narrow_1).before a s = true) : XB s := by
  have hg := flat_of_before _ hgv
  refine ⟨fun x hx => va_Nw.of rfl (A := a) ?_, fun q hq => va_Nw.of rfl (A := a) ?_⟩
  · simp only [xdecl, List.mem_cons, List.not_mem_nil, or_false] at hx
    rcases hx with rfl | rfl | rfl <;> first | exact hts _ (by decide +kernel) | exact hg _ (by decide +kernel)
  · simp only [xcast, List.mem_cons, List.not_mem_nil, or_false] at hq
    rcases hq with rfl | rfl | rfl <;> first | exact hts _ (by decide +kernel) | exact hg _ (by decide +kernel)
theorem str_of {s : State} {a : Array Value} (hts : ∀ w ∈ lw_tbl, w.before a s = true) : ∀ q ∈ strs, (Cond.stringRef RX5 q.1 q.2).before a s = true := by
  have h : ∀ q ∈ strs, Cond.stringRef RX5 q.1 q.2 ∈ lw_tbl := by decide +kernel
  exact fun q hq => hts _ (h q hq)
theorem nI_of_lit (n : Nat) : nI n = Int32.ofNat n := rfl
theorem tab_of {s : State} {a : Array Value} {A : Nat → Prop} {nm : String} {f : Nat → Nat} (hA : ∀ q : Nat, q < s.heap.size → ¬ A q) (h1 : (Cond.laysStatic RX5 nm "[I").before a s = true) (h2 : (Cond.initialized RX5).before a s = true) (h3 : (Cond.arrayOf (.static RX5 nm "[I") .int).before a s = true) (h4 : (Cond.eq (.length (.static RX5 nm "[I")) (.int 3)).before a s = true)
    (h5 : (Cond.eq (.elem (.static RX5 nm "[I") (.int 0)) (.int (nI (f 0)))).before a s = true) (h6 : (Cond.eq (.elem (.static RX5 nm "[I") (.int 1)) (.int (nI (f 1)))).before a s = true) (h7 : (Cond.eq (.elem (.static RX5 nm "[I") (.int 2)) (.int (nI (f 2)))).before a s = true) :
    ∃ t, va_Z RX5 nm "[I" (.ref t) A s s.heap ∧ va_T .int t 3 (fun j => .int (nI (f j))) A s s.heap := by
  obtain ⟨t, ht, hT⟩ := va_Tof (N := 3) (f := fun j => .int (nI (f j))) (by decide) h3 (va_eqt h4) (fun j hj => by
    rcases (show j = 0 ∨ j = 1 ∨ j = 2 by omega) with rfl | rfl | rfl
    · exact va_eqt h5
    · exact va_eqt h6
    · exact va_eqt h7) hA
  exact ⟨t, va_Zref h1 h2 ht hA, hT⟩
theorem amb_of {s : State} {a : Array Value} {A : Nat → Prop} (hts : ∀ w ∈ lw_tbl, w.before a s = true) (hgv : (Jvm.Cond.and given_1 narrow_1).before a s = true) (hA : ∀ q : Nat, q < s.heap.size → ¬ A q) : AMB A s s.heap := by
  have hg := flat_of_before _ hgv
  refine ⟨vx_Zqof (hts _ (by decide +kernel)) (hts _ (by decide +kernel)) (hg _ (by decide +kernel)) hA, vx_Zqof (hts _ (by decide +kernel)) (hts _ (by decide +kernel)) (hg _ (by decide +kernel)) hA, fun q hq => ?_,
    tab_of (f := leF) hA (hts _ (by decide +kernel)) (hts _ (by decide +kernel)) (hg _ (by decide +kernel)) (hg _ (by decide +kernel)) (hg _ (by decide +kernel)) (hg _ (by decide +kernel)) (hg _ (by decide +kernel)),
    tab_of (f := moF) hA (hts _ (by decide +kernel)) (hts _ (by decide +kernel)) (hg _ (by decide +kernel)) (hg _ (by decide +kernel)) (hg _ (by decide +kernel)) (hg _ (by decide +kernel)) (hg _ (by decide +kernel)), xb_of hts hgv⟩
  have h1 := str_of hts q hq
  have h2 : (Cond.exactly (.string RX5 q.1) "java/lang/String").before a s = true := by
    simp only [strs, List.mem_cons, List.not_mem_nil, or_false] at hq
    rcases hq with rfl | rfl | rfl | rfl | rfl | rfl | rfl | rfl | rfl <;> exact hg _ (by decide +kernel)
  obtain ⟨sa, c, cell, k, hv, -⟩ := Cond.exactly_spec (args := a) (first := s) (o := none) (s := s) (idx := []) h2
  exact ⟨sa, vk_R.of h1 hv⟩
theorem ar_of {s : State} {a : Array Value} {ty : FieldType} (hp : ∀ C, ty ≠ .object C) (h : (Cond.arrayClass ty).before a s = true) : ∃ cA : ClassId, ArrOfT s cA ty ∧ s.vm.findClass ("[" ++ ty.toString) = some cA := by
  obtain ⟨c, k, comp, h1, h2, h3⟩ := Cond.arrayClass_spec (args := a) (first := s) (o := none) (s := s) (idx := []) h
  exact ⟨c, fun n z => ⟨fun k h => (by cases h), k, h2, comp, h3⟩, h1⟩
theorem k_of {s : State} {a : Array Value} (hts : ∀ w ∈ lw_tbl, w.before a s = true) (hN : NST s) : ∃ (D : va_G) (cI cS : ClassId), va_K D vwCl (TY cI cS cI) s := by
  obtain ⟨c0, i0, k0⟩ := u_known (C := RX0) (T := TX0) (N := 2) (n := 2) hts inX0 (hts (.instantiable RX0 2) (by decide +kernel))
  obtain ⟨c1, i1, k1⟩ := u_known (C := RX1) (T := TX1) (N := 6) (n := 6) hts inX1 (hts (.instantiable RX1 6) (by decide +kernel))
  obtain ⟨c2, i2, k2⟩ := u_known (C := RX2) (T := TX2) (N := 7) (n := 7) hts inX2 (hts (.instantiable RX2 7) (by decide +kernel))
  obtain ⟨c3, i3, k3⟩ := u_known (C := RX3) (T := TX3) (N := 2) (n := 2) hts inX3 (hts (.instantiable RX3 2) (by decide +kernel))
  obtain ⟨c4, i4, k4⟩ := u_known (C := RX4) (T := TX4) (N := 10) (n := 10) hts inX4 (hts (.instantiable RX4 10) (by decide +kernel))
  obtain ⟨c5, i5, k5⟩ := u_known (C := RX5) (T := TX5) (N := 4) (n := 4) hts inX5 (hts (.instantiable RX5 4) (by decide +kernel))
  obtain ⟨cI, a1, a2⟩ := ar_of (ty := .int) (fun C h => by cases h) (hts (.arrayClass .int) (by decide +kernel))
  obtain ⟨comp, cS, kA, f1, -, f3, f4, f5⟩ := Cond.arrayOver_spec (args := #[]) (first := s) (o := none) (s := s) (idx := []) (va_AO.use (A := #[]) hN.2)
  have hAr : ArrOfT s cS (.object RX4) := fun N z => ⟨(fun k h => by cases h), kA, f3, comp, f4⟩
  refine ⟨(fun k => [c0, c1, c2, c3, c4, c5].getD k c0, fun k => [i0, i1, i2, i3, i4, i5].getD k i0), cI, cS, ?_, ?_⟩
  · intro k q hq
    match k, hq with
    | 0, hq => cases hq; exact k0
    | 1, hq => cases hq; exact k1
    | 2, hq => cases hq; exact k2
    | 3, hq => cases hq; exact k3
    | 4, hq => cases hq; exact k4
    | 5, hq => cases hq; exact k5
    | k + 6, hq => simp [vwCl] at hq
  · intro k q hq
    match k, hq with
    | 0, hq => cases hq; exact ⟨a1, a2⟩
    | 1, hq => cases hq; exact ⟨hAr, kA, comp, f3, f4, f1, f5⟩
    | 2, hq => cases hq; exact ⟨a1, a2⟩
    | k + 3, hq => simp at hq
