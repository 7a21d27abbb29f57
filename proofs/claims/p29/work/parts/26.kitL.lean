theorem suf_mem {A : Nat → Prop} {X X' R : va_W} (hD : va_D A (R ++ X)) (hp : (X'.map (fun q => q.1)).Perm (X.map (fun q => q.1))) : (∀ q ∈ X, q ∈ R ++ X) ∧ (X.map (fun q => q.1)).Nodup ∧ ((R ++ X').map (fun q => q.1)).Perm ((R ++ X).map (fun q => q.1)) ∧ ∀ q, q ∈ R ++ X' → q ∈ X' ∨ (q ∈ R ++ X ∧ q.1 ∉ X.map (fun q => q.1)) := by
  refine ⟨fun _ h => List.mem_append_right _ h, (va_D_iff.mp hD).1.sublist (List.Sublist.map _ (List.sublist_append_right _ _)), by rw [List.map_append, List.map_append]; exact hp.append_left _, fun q hq => ?_⟩
  have h := (va_D_iff.mp hD).1
  rw [List.map_append, List.nodup_append] at h
  rcases List.mem_append.mp hq with h1 | h1
  · exact Or.inr ⟨List.mem_append_left _ h1, fun z => h.2.2 _ (List.mem_map_of_mem h1) _ z rfl⟩
  · exact Or.inl h1
theorem fcW_perm {cI cS : ClassId} {f0 c0 c1 n n' sv k k' : Nat} {a s s' fl fl' cs cs' b r r' gl gl' : Nat → Nat} {ad ad' t t' f6 f6' : Nat → Nat → Nat} (hp : ((svW cI cS sv ad' t' f6' k').map (fun q => q.1)).Perm ((svW cI cS sv ad t f6 k).map (fun q => q.1))) : ((fcW cI cS f0 a s' fl' c0 c1 n' cs' b r' gl' sv ad' t' f6' k').map (fun q => q.1)).Perm ((fcW cI cS f0 a s fl c0 c1 n cs b r gl sv ad t f6 k).map (fun q => q.1)) := by
  rw [fcW_cp, fcW_cp]
  simp only [List.map_append, shw_adr]
  exact List.Perm.append_left _ (List.Perm.append_left _ (List.Perm.append_left _ (List.Perm.append_left _ hp)))
-- the law's wrappers: calls by membership that may throw, methods with tables
def XN (U : State) : Prop := ∀ q ∈ ([] : List (String × String)), va_Nc q.1 q.2 U
theorem XN.moved {u U : State} (hv : u.vm.Alike U.vm) (h : XN u) : XN U := fun q hq => (h q hq).moved hv
def PBY (D : va_G) (ty : List (ClassId × FieldType)) (W0 : va_W) (sz : Nat) : State → Prop := fun U => PBX D ty W0 sz U ∧ XN U
theorem PBY_blind {D : va_G} {ty : List (ClassId × FieldType)} {W0 : va_W} {sz : Nat} {av : List Value} : FrameBlind (va_Pc av (PBY D ty W0 sz)) := by
  intro a U g mk q
  obtain ⟨q0, q1, q2⟩ := q
  exact ⟨q0, (PBX_blind a U g mk ⟨q0, q1⟩).2, XN.moved (u := U) (U := U.calling g mk a) (Vm.Alike.refl U.vm) q2⟩
/-- a contract of a method with a table of what it catches -/
def KC {S : Type} (l : Launch) (D : va_G) (ty : List (ClassId × FieldType)) (y : MethodName) (ws : List Cond) (rm : Room) (W0 : va_W) (av : List Value) (post : Option Value → S → Prop) (W1 : S → va_W) : Prop :=
  ∀ sz, Met l y ws rm (va_Pc av (PBY D ty W0 sz)) (KQ post (PA D ty W0 sz W1) (va_A W0 sz)) rm.cells rm.slots (va_A W0 sz)
theorem KC.of {S : Type} {l : Launch} {D : va_G} {ty : List (ClassId × FieldType)} {y : MethodName} {ws ws' : List Cond} {rm : Room} {W0 : va_W} {av : List Value} {post : Option Value → S → Prop} {W1 : S → va_W} {cc : ByteArray} {maxL : Nat} {ret : Option FieldType} {hh : List (Nat × Nat × Nat × Nat)} (hy : plainName y.cls = true) (hw : ws = Cond.codeWith y cc maxL ret hh :: ws') (hn : (lg_sl av).length ≤ maxL)
    (body : ∀ (p : Program) (e : Env) (s : State) (m : MethodId) (args : Array Value) (below : List Frame) (meth : Method) (c : Code) (Q : State → Prop) (A : Nat → Prop) (ls : Array Slot), CallFix p m c cc maxL s args ws y.cls → NST s → AMB A s s.heap → XN s → c.exceptionTable.toList = tableOf hh → meth.name = y.name → meth.locks = false → va_K D vwCl ty s → (∀ q, s.heap.size ≤ q → A q) →
      (∀ (H : Heap) (locs : List Loc) (k n : Nat) (v : Option Value) (u : S) (pc : Nat) (ls : Array Slot), k ≤ rm.cells → n ≤ rm.slots → post v u → va_P D vwCl (W1 u) H → va_D A (W1 u) → va_S A s.heap H locs → RetAt cc ret pc v → W p l e rm s m args below meth c H locs k n Q (F0 m pc ls v.toList)) →
      va_P D vwCl W0 s.heap → va_D A W0 → va_S A s.heap s.heap [] → lv_has ls maxL (lv_args 0 av) → W p l e rm s m args below meth c s.heap [] 0 0 Q (F0 m 0 ls [])) : KC l D ty y ws rm W0 av post W1 := by
  intro sz
  refine va_MetW (cc := cc) (maxL := maxL) (ret := ret) hy hw ?_
  intro p e s m args below meth c s₁ B hml hv
  obtain ⟨rfl, ⟨⟨hsz, hP, hK, hD0, hN⟩, hAm⟩, hXN⟩ := hv
  subst hsz
  have hts := atoms_spec (ws := ws) B.pre
  have hown : s.vm.findClass y.cls = some m.cls := findClass_of_methodNamed B.named
  have hl := lv_entry av hn
  rw [lg_entry_eq]
  generalize (lg_sl av ++ List.replicate (maxL - (lg_sl av).length) Slot.unset).toArray = ls at hl ⊢
  refine body p e s m av.toArray below meth c _ (va_A W0 s.heap.size) ls ⟨B.exec, B.bytes, hml, hown, hts⟩ hN hAm hXN (vx_table (x := y) B (hts _ (by rw [hw]; exact List.mem_cons_self))) (name_of_methodNamed B.named B.method).1 B.notSynchronized hK (fun q h => Or.inr h) ?_ hP hD0.self va_S.rf hl
  intro H locs k n v u pc ls' hk hnn hpost hP1 hD1 hS1 hret
  refine W.widen hk hnn ?_
  exact W_ret B.exec B.bytes B.returns (fun t ht hW => ⟨⟨v, u, rfl, hpost, by rw [ht]; exact hP1, va_K.moved hW.alike hK, hD1⟩, hS1.F ht⟩) hS1.2.2 hret B.notSynchronized
section KCALLX
variable {p : Program} {l : Launch} {e : Env} {R : Room} {s : State} {m : MethodId} {args : Array Value} {below : List Frame} {meth : Method} {c : Code} {H : Heap} {locs : List Loc} {cells slots : Nat} {Q : State → Prop}
variable {pc : Nat} {ls : Array Slot} {st0 rest : List Value} {a : Array Value} {S : Type} {D : va_G} {ty : List (ClassId × FieldType)} {ws W0 : va_W} {A0 : Nat → Prop} {post : Option Value → S → Prop} {px : String → Prop} {W1 ws' : S → va_W} {rm : Room}
theorem mem_one {A : Nat → Prop} {ws : va_W} (hD : va_D A ws) {x y : Nat × va_E} (hx : x ∈ ws) (hy : y ∈ ws) (h : x.1 = y.1) : x = y := by
  obtain ⟨i, hi⟩ := List.mem_iff_getElem?.mp hx
  obtain ⟨j, hj⟩ := List.mem_iff_getElem?.mp hy
  have e := hD.1 i j x y hi hj h
  subst e
  exact Option.some.inj (hi.symm.trans hj)
theorem free_M (hD : va_D A0 ws) (hS : va_S A0 s.heap H locs) (hA : ∀ q, s.heap.size ≤ q → A0 q) (hsub : ∀ q ∈ W0, q ∈ ws) : ∀ q, va_A W0 H.size q → A0 q := by
  intro q h
  rcases h with ⟨k, e, h⟩ | h
  · exact (va_D_iff.mp hD).2 (q, e) (hsub _ (List.mem_of_getElem? h))
  · exact hA q (Nat.le_trans hS.1 h)
theorem runx_goM {mc ms : Nat} (hr : vx_Run p l e R s m args below meth c H locs cells slots mc ms (F0 m pc ls st0) rest (KQ post (PA D ty W0 H.size W1) (va_A W0 H.size) a) (XQ D W0 H.size px) (va_A W0 H.size)) (hP : va_P D vwCl ws H) (hD : va_D A0 ws) (hS : va_S A0 s.heap H locs) (hA : ∀ q, s.heap.size ≤ q → A0 q) (hsub : ∀ q ∈ W0, q ∈ ws) (hadr : ∀ u, ((ws' u).map (fun q => q.1)).Perm (ws.map (fun q => q.1))) (hmem : ∀ u q, q ∈ ws' u → q ∈ W1 u ∨ (q ∈ ws ∧ q.1 ∉ W0.map (fun q => q.1)))
    (kx : ∀ (E : String) (ce : Cell) (q : Addr) (H1 : Heap) (locs1 : List Loc), px E → va_P D vwCl ws H1 → va_S A0 s.heap H1 locs1 → H1[q]? = some ce → ce.vm = .none → s.vm.findClass E = some ce.cls → vx_W p l e R s m args below meth c H1 locs1 (cells + mc) (slots + ms) Q (F0 m pc ls rest) q)
    (kk : ∀ (v : Option Value) (u : S) (H1 : Heap) (locs1 : List Loc), post v u → va_P D vwCl (ws' u) H1 → va_D A0 (ws' u) → va_S A0 s.heap H1 locs1 → W p l e R s m args below meth c H1 locs1 (cells + mc) (slots + ms) Q (F0 m (pc + 3) ls (v.toList ++ rest))) : W p l e R s m args below meth c H locs cells slots Q (F0 m pc ls st0) := by
  have hf := free_M hD hS hA hsub
  intro T hT X
  rcases hr T hT X with ⟨v, st₀, t, T', L, h0, X', hL, e1, e2, ⟨⟨v', u, hv, hp, hb1, hb2, hb3⟩, hz, hk⟩, st⟩ | ⟨q9, st₀, t, T', L, E, ce, h0, X', hL, e1, e2, ⟨-, -, ⟨hpx, hb1⟩, hz, hk⟩, g1, g2, g3, st⟩
  · cases hv
    rw [h0] at hz hk
    have hP1 : va_P D vwCl (ws' u) t.heap := by
      refine va_P_iff.mpr fun q hq => ?_
      rcases hmem u q hq with h | ⟨h1, h2⟩
      · exact va_P_iff.mp hb1 q h
      · have hlt : q.1 < H.size := (va_P_iff.mp hP q h1).lt
        refine (va_P_iff.mp hP q h1).kept (hk q.1 hlt ?_)
        rintro (⟨k, e, h⟩ | h)
        · exact h2 (List.mem_map.mpr ⟨(q.1, e), List.mem_of_getElem? h, rfl⟩)
        · omega
    have hD1 : va_D A0 (ws' u) := by
      refine va_D_iff.mpr ⟨((hadr u).nodup_iff).mpr (va_D_iff.mp hD).1, fun q hq => ?_⟩
      have : q.1 ∈ ws.map (fun q => q.1) := (hadr u).mem_iff.mp (List.mem_map.mpr ⟨q, hq, rfl⟩)
      obtain ⟨q2, h2, h3⟩ := List.mem_map.mp this
      rw [← h3]
      exact (va_D_iff.mp hD).2 q2 h2
    rw [← e1] at hP1
    obtain ⟨t2, a1, b1⟩ := kk v u T'.heap (locs ++ L) hp hP1 hD1
      ⟨Nat.le_trans hS.1 (by rw [e1]; exact hz), fun q h1 h2 => by rw [e1, hk q (Nat.lt_of_lt_of_le h1 hS.1) (fun z => h2 (hf q z))]; exact hS.2.1 q h1 h2, fun q hq => by
        rcases List.mem_append.mp hq with h | h
        · exact hS.2.2 q h
        · exact hf _ (hL q h)⟩ T' rfl X'
    exact ⟨t2, st t2 a1, b1⟩
  · rw [h0] at hz hk
    have hP1 : va_P D vwCl ws t.heap := by
      refine va_P_iff.mpr fun q hq => ?_
      by_cases hw : q.1 ∈ W0.map (fun q => q.1)
      · obtain ⟨w, hw1, hw2⟩ := List.mem_map.mp hw
        rw [← mem_one hD (hsub w hw1) hq hw2]
        exact va_P_iff.mp hb1 w hw1
      · have hlt : q.1 < H.size := (va_P_iff.mp hP q hq).lt
        refine (va_P_iff.mp hP q hq).kept (hk q.1 hlt ?_)
        rintro (⟨k, e, h⟩ | h)
        · exact hw (List.mem_map.mpr ⟨(q.1, e), List.mem_of_getElem? h, rfl⟩)
        · omega
    rw [← e1] at hP1
    obtain ⟨t2, a1, b1⟩ := kx E ce q9 T'.heap (locs ++ L) hpx hP1
      ⟨Nat.le_trans hS.1 (by rw [e1]; exact hz), fun q h1 h2 => by rw [e1, hk q (Nat.lt_of_lt_of_le h1 hS.1) (fun z => h2 (hf q z))]; exact hS.2.1 q h1 h2, fun q hq => by
        rcases List.mem_append.mp hq with h | h
        · exact hS.2.2 q h
        · exact hf _ (hL q h)⟩ (by rw [e1]; exact g1) g2 g3 T' rfl X'
    exact ⟨t2, st.trans a1, b1⟩
variable {y : MethodName} {bytes cc : ByteArray} {maxL nL n index : Nat} {ret : Option FieldType} {wsc Ts : List Cond} {own Cn : String} {b : Addr} {As : List Value} {hh : List (Nat × Nat × Nat × Nat)}
theorem KX.callVM (C0 : CallFix p m c cc nL s args Ts own) (hN : NST s) (hAm : AMB A0 s s.heap) (hM : KX l D ty y wsc rm W0 (.ref b :: As) post px W1) (cw : CallW R s args own Cn index y bytes maxL ret wsc rm rm.cells rm.slots n) (hK : va_K D vwCl ty s) (hP : va_P D vwCl ws H) (hD : va_D A0 ws) (hS : va_S A0 s.heap H locs) (hA : ∀ q, s.heap.size ≤ q → A0 q) (hsub : ∀ q ∈ W0, q ∈ ws) (hnd : (W0.map (fun q => q.1)).Nodup) (hadr : ∀ u, ((ws' u).map (fun q => q.1)).Perm (ws.map (fun q => q.1))) (hmem : ∀ u q, q ∈ ws' u → q ∈ W1 u ∨ (q ∈ ws ∧ q.1 ∉ W0.map (fun q => q.1)))
    (q0 ci : Nat) {fs : List Value} {qc : vw_C} (hc : vwCl[ci]? = some qc) (hqc : qc.1 = Cn) (hrecv : W0[q0]? = some (b, .inr (ci, fs))) (hn : As.length = n) (hsize : ls.size = nL) (hstack : st0 = As.reverse ++ .ref b :: rest) (hW : (rest.map fun v => v.category).sum ≤ 8) (hdg : decode cc pc = .ok (.invokevirtual index, 3)) (hf : cells + rm.cells ≤ R.cells ∧ slots + rm.slots ≤ R.slots)
    (kx : ∀ (E : String) (ce : Cell) (q : Addr) (H1 : Heap) (locs1 : List Loc), px E → va_P D vwCl ws H1 → va_S A0 s.heap H1 locs1 → H1[q]? = some ce → ce.vm = .none → s.vm.findClass E = some ce.cls → vx_W p l e R s m args below meth c H1 locs1 (cells + rm.cells) (slots + rm.slots) Q (F0 m pc ls rest) q)
    (kk : ∀ (v : Option Value) (u : S) (H1 : Heap) (locs1 : List Loc), post v u → va_P D vwCl (ws' u) H1 → va_D A0 (ws' u) → va_S A0 s.heap H1 locs1 → W p l e R s m args below meth c H1 locs1 (cells + rm.cells) (slots + rm.slots) Q (F0 m (pc + 3) ls (v.toList ++ rest))) : W p l e R s m args below meth c H locs cells slots Q (F0 m pc ls st0) := by
  have hP0 : va_P D vwCl W0 H := va_P_iff.mpr fun q hq => va_P_iff.mp hP q (hsub q hq)
  refine runx_goM (W0 := W0) (vx_runV (As := As) (rest := rest) C0 (hM H.size) cw ⟨PBX_blind, ?_, fun U hU hW => ⟨rfl, ⟨by rw [hU], by rw [hU]; exact hP0, va_K.moved hW.alike hK, va_D_iff.mpr ⟨hnd, fun _ _ => trivial⟩, hN.warm hW⟩, AMB.goes hAm hS hU hW (free_M hD hS hA hsub)⟩⟩ rfl hn hsize hstack (by show 2 * 0 + _ ≤ 8; omega) hdg hf) hP hD hS hA hsub hadr hmem kx kk
  obtain ⟨cell, h1, h2, h3⟩ := va_recv hK hP0 hc hrecv
  exact ⟨cell, h1, h2, by rw [← hqc]; exact h3⟩
theorem KC.callSM (C0 : CallFix p m c cc nL s args Ts own) (hN : NST s) (hAm : AMB A0 s s.heap) (hXN : XN s) (hM : KC l D ty y wsc rm W0 As post W1) (cw : vx_CSW R s args own index y bytes maxL ret hh wsc rm rm.cells rm.slots n) (hK : va_K D vwCl ty s) (hP : va_P D vwCl ws H) (hD : va_D A0 ws) (hS : va_S A0 s.heap H locs) (hA : ∀ q, s.heap.size ≤ q → A0 q) (hsub : ∀ q ∈ W0, q ∈ ws) (hnd : (W0.map (fun q => q.1)).Nodup) (hadr : ∀ u, ((ws' u).map (fun q => q.1)).Perm (ws.map (fun q => q.1))) (hmem : ∀ u q, q ∈ ws' u → q ∈ W1 u ∨ (q ∈ ws ∧ q.1 ∉ W0.map (fun q => q.1)))
    (hn : As.length = n) (hsize : ls.size = nL) (hstack : st0 = As.reverse ++ rest) (hW : (rest.map fun v => v.category).sum ≤ 8) (hdg : decode cc pc = .ok (.invokestatic index, 3)) (hf : cells + rm.cells ≤ R.cells ∧ slots + rm.slots ≤ R.slots)
    (kk : ∀ (v : Option Value) (u : S) (H1 : Heap) (locs1 : List Loc), post v u → va_P D vwCl (ws' u) H1 → va_D A0 (ws' u) → va_S A0 s.heap H1 locs1 → W p l e R s m args below meth c H1 locs1 (cells + rm.cells) (slots + rm.slots) Q (F0 m (pc + 3) ls (v.toList ++ rest))) : W p l e R s m args below meth c H locs cells slots Q (F0 m pc ls st0) := by
  have hP0 : va_P D vwCl W0 H := va_P_iff.mpr fun q hq => va_P_iff.mp hP q (hsub q hq)
  exact run_goM (W0 := W0) (vx_runSW (As := As) (rest := rest) C0 (hM H.size) cw ⟨PBY_blind, fun U hU hW => ⟨rfl, ⟨⟨by rw [hU], by rw [hU]; exact hP0, va_K.moved hW.alike hK, va_D_iff.mpr ⟨hnd, fun _ _ => trivial⟩, hN.warm hW⟩, AMB.goes hAm hS hU hW (free_M hD hS hA hsub)⟩, XN.moved hW.alike hXN⟩⟩ rfl hn hsize hstack (by show 2 * 0 + _ ≤ 8; omega) hdg hf) hP hD hS hA hsub hadr hmem kk
end KCALLX
/-- a call on the first part of a world -/
theorem pre_mem {A : Nat → Prop} {X X' R : va_W} (hD : va_D A (X ++ R)) (hp : (X'.map (fun q => q.1)).Perm (X.map (fun q => q.1))) : (∀ q ∈ X, q ∈ X ++ R) ∧ (X.map (fun q => q.1)).Nodup ∧ ((X' ++ R).map (fun q => q.1)).Perm ((X ++ R).map (fun q => q.1)) ∧ ∀ q, q ∈ X' ++ R → q ∈ X' ∨ (q ∈ X ++ R ∧ q.1 ∉ X.map (fun q => q.1)) :=
  ⟨fun _ h => List.mem_append_left _ h, (va_D_iff.mp hD).1.sublist (List.Sublist.map _ (List.sublist_append_left _ _)), by rw [List.map_append, List.map_append]; exact hp.append_right _, fun _ hq => one_mem hD hq⟩
-- what a method that reads the script finds beside its world
def SX (b0 L : Nat) (xs : Nat → Int32) (A : Nat → Prop) (U : State) : Prop := va_X b0 L xs U U.heap ∧ b0 < U.heap.size ∧ ¬ A b0
theorem SX.goes {b0 L : Nat} {xs : Nat → Int32} {A B : Nat → Prop} {s U : State} {H : Heap} {locs : List Loc} (h : SX b0 L xs A s) (hS : va_S A s.heap H locs) (hU : U.heap = H) (hW : s.WarmedH U.vm) (hAB : ∀ q, B q → A q) : SX b0 L xs B U := by
  obtain ⟨h1, h2, h3⟩ := h
  exact ⟨by rw [hU]; exact va_X.moved hW.alike (h1.kept (hS.2.1 b0 h2 h3)), by rw [hU]; exact Nat.lt_of_lt_of_le h2 hS.1, fun z => h3 (hAB _ z)⟩
def PBZ (D : va_G) (ty : List (ClassId × FieldType)) (b0 L : Nat) (xs : Nat → Int32) (W0 : va_W) (sz : Nat) : State → Prop := fun U => PBY D ty W0 sz U ∧ SX b0 L xs (va_A W0 sz) U
theorem PBZ_blind {D : va_G} {ty : List (ClassId × FieldType)} {b0 L : Nat} {xs : Nat → Int32} {W0 : va_W} {sz : Nat} {av : List Value} : FrameBlind (va_Pc av (PBZ D ty b0 L xs W0 sz)) := by
  intro a U g mk q
  obtain ⟨q0, q1, q2, q3⟩ := q
  exact ⟨q0, (PBY_blind a U g mk ⟨q0, q1⟩).2, va_X.moved (u := U) (U := U.calling g mk a) (Vm.Alike.refl U.vm) q2, q3⟩
/-- a contract of a method that reads the script -/
def KZ {S : Type} (l : Launch) (D : va_G) (ty : List (ClassId × FieldType)) (b0 L : Nat) (xs : Nat → Int32) (y : MethodName) (ws : List Cond) (rm : Room) (W0 : va_W) (av : List Value) (post : Option Value → S → Prop) (W1 : S → va_W) : Prop :=
  ∀ sz, Met l y ws rm (va_Pc av (PBZ D ty b0 L xs W0 sz)) (KQ post (PA D ty W0 sz W1) (va_A W0 sz)) rm.cells rm.slots (va_A W0 sz)
theorem KZ.of {S : Type} {l : Launch} {D : va_G} {ty : List (ClassId × FieldType)} {b0 L : Nat} {xs : Nat → Int32} {y : MethodName} {ws ws' : List Cond} {rm : Room} {W0 : va_W} {av : List Value} {post : Option Value → S → Prop} {W1 : S → va_W} {cc : ByteArray} {maxL : Nat} {ret : Option FieldType} (hy : plainName y.cls = true) (hw : ws = Cond.code y cc maxL ret :: ws') (hn : (lg_sl av).length ≤ maxL)
    (body : ∀ (p : Program) (e : Env) (s : State) (m : MethodId) (args : Array Value) (below : List Frame) (meth : Method) (c : Code) (Q : State → Prop) (A : Nat → Prop) (ls : Array Slot), CallFix p m c cc maxL s args ws y.cls → NST s → AMB A s s.heap → XN s → SX b0 L xs A s → meth.name = y.name → meth.locks = false → va_K D vwCl ty s → (∀ q, s.heap.size ≤ q → A q) →
      (∀ (H : Heap) (locs : List Loc) (k n : Nat) (v : Option Value) (u : S) (pc : Nat) (ls : Array Slot), k ≤ rm.cells → n ≤ rm.slots → post v u → va_P D vwCl (W1 u) H → va_D A (W1 u) → va_S A s.heap H locs → RetAt cc ret pc v → W p l e rm s m args below meth c H locs k n Q (F0 m pc ls v.toList)) →
      va_P D vwCl W0 s.heap → va_D A W0 → va_S A s.heap s.heap [] → lv_has ls maxL (lv_args 0 av) → W p l e rm s m args below meth c s.heap [] 0 0 Q (F0 m 0 ls [])) : KZ l D ty b0 L xs y ws rm W0 av post W1 := by
  intro sz
  refine Met.ofW (cc := cc) (maxL := maxL) (ret := ret) hy hw ?_
  intro p e s m args below meth c s₁ B hml hv
  obtain ⟨rfl, ⟨⟨⟨hsz, hP, hK, hD0, hN⟩, hAm⟩, hXN⟩, hSX⟩ := hv
  subst hsz
  have hts := atoms_spec (ws := ws) B.pre
  have hown : s.vm.findClass y.cls = some m.cls := findClass_of_methodNamed B.named
  have hl := lv_entry av hn
  rw [lg_entry_eq]
  generalize (lg_sl av ++ List.replicate (maxL - (lg_sl av).length) Slot.unset).toArray = ls at hl ⊢
  refine body p e s m av.toArray below meth c _ (va_A W0 s.heap.size) ls ⟨B.exec, B.bytes, hml, hown, hts⟩ hN hAm hXN hSX (name_of_methodNamed B.named B.method).1 B.notSynchronized hK (fun q h => Or.inr h) ?_ hP hD0.self va_S.rf hl
  intro H locs k n v u pc ls' hk hnn hpost hP1 hD1 hS1 hret
  refine W.widen hk hnn ?_
  exact W_ret B.exec B.bytes B.returns (fun t ht hW => ⟨⟨v, u, rfl, hpost, by rw [ht]; exact hP1, va_K.moved hW.alike hK, hD1⟩, hS1.F ht⟩) hS1.2.2 hret B.notSynchronized
section KCALLZ
variable {p : Program} {l : Launch} {e : Env} {R : Room} {s : State} {m : MethodId} {args : Array Value} {below : List Frame} {meth : Method} {c : Code} {H : Heap} {locs : List Loc} {cells slots : Nat} {Q : State → Prop}
variable {pc : Nat} {ls : Array Slot} {st0 rest : List Value} {S : Type} {D : va_G} {ty : List (ClassId × FieldType)} {ws W0 : va_W} {A0 : Nat → Prop} {post : Option Value → S → Prop} {W1 ws' : S → va_W} {rm : Room} {b0 L : Nat} {xs : Nat → Int32}
variable {y : MethodName} {bytes cc : ByteArray} {maxL nL n index : Nat} {ret : Option FieldType} {wsc Ts : List Cond} {own : String} {As : List Value}
theorem KZ.callSM (C0 : CallFix p m c cc nL s args Ts own) (hN : NST s) (hAm : AMB A0 s s.heap) (hXN : XN s) (hSX : SX b0 L xs A0 s) (hM : KZ l D ty b0 L xs y wsc rm W0 As post W1) (cw : CallB R s args own index y bytes maxL ret wsc rm rm.cells rm.slots n ∧ (Cond.static y).before args s = true) (hK : va_K D vwCl ty s) (hP : va_P D vwCl ws H) (hD : va_D A0 ws) (hS : va_S A0 s.heap H locs) (hA : ∀ q, s.heap.size ≤ q → A0 q) (hsub : ∀ q ∈ W0, q ∈ ws) (hnd : (W0.map (fun q => q.1)).Nodup) (hadr : ∀ u, ((ws' u).map (fun q => q.1)).Perm (ws.map (fun q => q.1))) (hmem : ∀ u q, q ∈ ws' u → q ∈ W1 u ∨ (q ∈ ws ∧ q.1 ∉ W0.map (fun q => q.1)))
    (hn : As.length = n) (hsize : ls.size = nL) (hstack : st0 = As.reverse ++ rest) (hW : (rest.map fun v => v.category).sum ≤ 8) (hdg : decode cc pc = .ok (.invokestatic index, 3)) (hf : cells + rm.cells ≤ R.cells ∧ slots + rm.slots ≤ R.slots)
    (kk : ∀ (v : Option Value) (u : S) (H1 : Heap) (locs1 : List Loc), post v u → va_P D vwCl (ws' u) H1 → va_D A0 (ws' u) → va_S A0 s.heap H1 locs1 → W p l e R s m args below meth c H1 locs1 (cells + rm.cells) (slots + rm.slots) Q (F0 m (pc + 3) ls (v.toList ++ rest))) : W p l e R s m args below meth c H locs cells slots Q (F0 m pc ls st0) := by
  have hP0 : va_P D vwCl W0 H := va_P_iff.mpr fun q hq => va_P_iff.mp hP q (hsub q hq)
  exact run_goM (W0 := W0) (va_runS (As := As) (rest := rest) C0 (hM H.size) cw ⟨PBZ_blind, fun U hU hW => ⟨rfl, ⟨⟨⟨by rw [hU], by rw [hU]; exact hP0, va_K.moved hW.alike hK, va_D_iff.mpr ⟨hnd, fun _ _ => trivial⟩, hN.warm hW⟩, AMB.goes hAm hS hU hW (free_M hD hS hA hsub)⟩, XN.moved hW.alike hXN⟩, hSX.goes hS hU hW (free_M hD hS hA hsub)⟩⟩ rfl hn hsize hstack (by show 2 * 0 + _ ≤ 8; omega) hdg hf) hP hD hS hA hsub hadr hmem kk
theorem KM.callSM (C0 : CallFix p m c cc nL s args Ts own) (hN : NST s) (hM : KM l D ty y wsc rm W0 As post W1) (cw : CallB R s args own index y bytes maxL ret wsc rm rm.cells rm.slots n ∧ (Cond.static y).before args s = true) (hK : va_K D vwCl ty s) (hP : va_P D vwCl ws H) (hD : va_D A0 ws) (hS : va_S A0 s.heap H locs) (hA : ∀ q, s.heap.size ≤ q → A0 q) (hsub : ∀ q ∈ W0, q ∈ ws) (hnd : (W0.map (fun q => q.1)).Nodup) (hadr : ∀ u, ((ws' u).map (fun q => q.1)).Perm (ws.map (fun q => q.1))) (hmem : ∀ u q, q ∈ ws' u → q ∈ W1 u ∨ (q ∈ ws ∧ q.1 ∉ W0.map (fun q => q.1)))
    (hn : As.length = n) (hsize : ls.size = nL) (hstack : st0 = As.reverse ++ rest) (hW : (rest.map fun v => v.category).sum ≤ 8) (hdg : decode cc pc = .ok (.invokestatic index, 3)) (hf : cells + rm.cells ≤ R.cells ∧ slots + rm.slots ≤ R.slots)
    (kk : ∀ (v : Option Value) (u : S) (H1 : Heap) (locs1 : List Loc), post v u → va_P D vwCl (ws' u) H1 → va_D A0 (ws' u) → va_S A0 s.heap H1 locs1 → W p l e R s m args below meth c H1 locs1 (cells + rm.cells) (slots + rm.slots) Q (F0 m (pc + 3) ls (v.toList ++ rest))) : W p l e R s m args below meth c H locs cells slots Q (F0 m pc ls st0) := by
  have hP0 : va_P D vwCl W0 H := va_P_iff.mpr fun q hq => va_P_iff.mp hP q (hsub q hq)
  exact run_goM (W0 := W0) (va_runS (As := As) (rest := rest) C0 (hM H.size) cw ⟨PB_blind, fun U hU hW => ⟨rfl, by rw [hU], by rw [hU]; exact hP0, va_K.moved hW.alike hK, va_D_iff.mpr ⟨hnd, fun _ _ => trivial⟩, hN.warm hW⟩⟩ rfl hn hsize hstack (by show 2 * 0 + _ ≤ 8; omega) hdg hf) hP hD hS hA hsub hadr hmem kk
end KCALLZ
-- the low bits
def mk31 (v : Int32) : Nat := v.toBitVec.toNat % 2 ^ 31
theorem mk31_lt {v : Int32} : mk31 v < 2 ^ 31 := Nat.mod_lt _ (by decide)
theorem mk31_e (v : Int32) : v &&& nI 2147483647 = nI (mk31 v) := by
  apply Int32.toBitVec_inj.mp
  apply BitVec.eq_of_toNat_eq
  show (v.toBitVec &&& (nI 2147483647).toBitVec).toNat = (BitVec.ofNat 32 (mk31 v)).toNat
  have e1 : (nI 2147483647).toBitVec.toNat = 2 ^ 31 - 1 := by decide +kernel
  rw [BitVec.toNat_and, e1, Nat.and_two_pow_sub_one_eq_mod, BitVec.toNat_ofNat]
  unfold mk31
  omega
