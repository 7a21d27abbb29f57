/-! my kit, second part: new cells, rows of references, methods that throw -/
theorem cI_eq {D : va_G} {s : State} {cI cS cL cA : ClassId} (hK : va_K D vwCl (TY cI cS cL ++ [(cA, .int)]) s) : cA = cI := by
  have h1 := (hK.2 0 (cI, .int) rfl).2
  have h2 := (hK.2 3 (cA, .int) rfl).2
  have e1 : s.vm.findClass ("[" ++ FieldType.int.toString) = some cI := h1
  have e2 : s.vm.findClass ("[" ++ FieldType.int.toString) = some cA := h2
  rw [e1] at e2
  exact (Option.some.inj e2).symm
theorem cS_eq {D : va_G} {s : State} {cI cS cL cA : ClassId} (hK : va_K D vwCl (TY cI cS cL ++ [(cA, .object RX4)]) s) : cA = cS := by
  obtain ⟨-, -, -, -, -, e1⟩ := (hK.2 1 (cS, .object RX4) rfl).2
  obtain ⟨-, -, -, -, -, e2⟩ := (hK.2 3 (cA, .object RX4) rfl).2
  rw [e1] at e2
  exact (Option.some.inj e2).symm
/-- a row of references, none null -/
def rq (n : Nat) (b : Nat → Nat) : Nat → Option Nat := fun j => if j < n then some (b j) else none
theorem rq_cg {n : Nat} {f g : Nat → Nat} (h : ∀ j, j < n → f j = g j) : rq n f = rq n g := by
  funext j
  by_cases hj : j < n
  · simp [rq, hj, h j hj]
  · simp [rq, hj]
theorem rq_at {n j : Nat} {f : Nat → Nat} (h : j < n) (hn : n < 2 ^ 31) : va_rf (rq n f (nI j).toNatClampNeg) = .ref (f j) := by
  rw [nI_clamp (by omega)]; simp [rq, h, va_rf]
theorem rq_up {n j v : Nat} {f : Nat → Nat} (h : j < n) (hn : n < 2 ^ 31) : va_up (rq n f) (nI j).toNatClampNeg (some v) = rq n (upN f j v) := by
  rw [nI_clamp (by omega)]
  funext i
  by_cases hi : i = j
  · subst hi; simp [va_up, rq, upN, h]
  · simp [va_up, rq, upN, hi]
/-- the first k of a row are there -/
def rk (k : Nat) (b : Nat → Nat) : Nat → Option Nat := fun j => if j < k then some (b j) else none
theorem rk_0 {b : Nat → Nat} : (fun _ => none) = rk 0 b := by funext j; simp [rk]
def plug2 (ws : va_W) (is : List Nat) (w1 : va_W) : va_W := plug ws is (w1.take is.length) ++ w1.drop is.length
theorem plug_id : ∀ (is : List Nat) (ws W0 : va_W), is.map (fun i => ws[i]?) = W0.map some → plug ws is W0 = ws
  | [], ws, W0, _ => by cases W0 <;> rfl
  | i :: is, ws, [], h => by simp at h
  | i :: is, ws, q :: qs, h => by
    simp only [List.map_cons, List.cons.injEq] at h
    have h1 : ws.set i q = ws := by
      apply List.ext_getElem?
      intro k
      by_cases hk : i = k
      · subst hk
        have hlt := (List.getElem?_eq_some_iff.mp h.1).1
        rw [List.getElem?_set_self hlt, h.1]
      · rw [List.getElem?_set_ne hk]
    show plug (ws.set i q) is qs = ws
    rw [h1]
    exact plug_id is ws qs h.2
theorem plug2_at {is : List Nat} {ws w1 : va_W} (hl : is.length ≤ w1.length) (hn : va_nd is = true) {k : Nat} {q : Nat × va_E} (h : (plug2 ws is w1)[k]? = some q) : (∃ j : Nat, w1[j]? = some q ∧ ((j < is.length ∧ is[j]? = some k) ∨ (is.length ≤ j ∧ k = ws.length + (j - is.length)))) ∨ (k ∉ is ∧ k < ws.length ∧ ws[k]? = some q) := by
  unfold plug2 at h
  have hlen : (plug ws is (w1.take is.length)).length = ws.length := plug_len _ _ _
  by_cases hk : k < ws.length
  · rw [List.getElem?_append_left (by omega)] at h
    rcases plug_at is ws (w1.take is.length) (by simp; omega) hn k q h with ⟨j, h1, h2⟩ | ⟨h1, h2⟩
    · left
      have hj : j < is.length := (List.getElem?_eq_some_iff.mp h1).1
      rw [List.getElem?_take_of_lt hj] at h2
      exact ⟨j, h2, Or.inl ⟨hj, h1⟩⟩
    · exact Or.inr ⟨h1, hk, h2⟩
  · rw [List.getElem?_append_right (by omega), hlen, List.getElem?_drop] at h
    left
    exact ⟨is.length + (k - ws.length), h, Or.inr ⟨by omega, by omega⟩⟩
theorem plug2_join {D : va_G} {A0 : Nat → Prop} {ws W0 W1 : va_W} {H H1 : Heap} {is : List Nat} (hP : va_P D vwCl ws H) (hD : va_D A0 ws) (hC : is.map (fun i => ws[i]?) = W0.map some) (hn : va_nd is = true) (hl : is.length ≤ W1.length)
    (hk : ∀ q : Nat, q < H.size → ¬ va_A W0 H.size q → H1[q]? = H[q]?) (hF : ∀ q, va_A W0 H.size q → A0 q) (hP1 : va_P D vwCl W1 H1) (hD1 : va_D (va_A W0 H.size) W1) : va_P D vwCl (plug2 ws is W1) H1 ∧ va_D A0 (plug2 ws is W1) := by
  have apart : ∀ (k : Nat) (q : Nat × va_E), k ∉ is → ws[k]? = some q → q.1 < H.size ∧ ¬ va_A W0 H.size q.1 := by
    intro k q hki hq
    have hlt := (hP k q hq).lt
    refine ⟨hlt, fun h => ?_⟩
    rcases h with ⟨k2, e, h⟩ | h
    · obtain ⟨j, h3, h4⟩ := sub_at hC h
      have hij := hD.1 k j q (q.1, e) hq h4 rfl
      subst hij
      exact hki (List.mem_of_getElem? h3)
    · omega
  refine ⟨fun k q hq => ?_, fun i j x y hx hy hxy => ?_, fun k q hq => ?_⟩
  · rcases plug2_at hl hn hq with ⟨j, h2, -⟩ | ⟨h1, -, h2⟩
    · exact hP1 j q h2
    · obtain ⟨g1, g2⟩ := apart k q h1 h2
      exact (hP k q h2).kept (hk q.1 g1 g2)
  · rcases plug2_at hl hn hx with ⟨i2, a2, a3⟩ | ⟨a1, a0, a2⟩ <;> rcases plug2_at hl hn hy with ⟨j2, b2, b3⟩ | ⟨b1, b0, b2⟩
    · have e := hD1.1 i2 j2 x y a2 b2 hxy
      subst e
      rcases a3 with ⟨c1, c2⟩ | ⟨c1, c2⟩ <;> rcases b3 with ⟨d1, d2⟩ | ⟨d1, d2⟩
      · rw [c2] at d2; exact Option.some.inj d2
      · omega
      · omega
      · omega
    · exact absurd (by rw [← hxy]; exact hD1.2 i2 x a2) (apart j y b1 b2).2
    · exact absurd (by rw [hxy]; exact hD1.2 j2 y b2) (apart i x a1 a2).2
    · exact hD.1 i j x y a2 b2 hxy
  · rcases plug2_at hl hn hq with ⟨j, h2, -⟩ | ⟨h1, -, h2⟩
    · exact hF q.1 (hD1.2 j q h2)
    · exact hD.2 k q h2
/-- the exception words -/
abbrev xnames : List String := ["java/lang/RuntimeException", "java/lang/Exception"]
def strs : List (Nat × String) := [(77, "the basin would run over"), (101, "the cue is refused"), (118, "no such cue"), (159, "there is no saved state"), (174, "no place is below 0"), (267, "no such jet"), (269, "no such pump"), (271, "no such setting"), (273, "out of range")]
def leF (k : Nat) : Nat := if k = 2 then 1 else 0
def moF (k : Nat) : Nat := if k = 0 then 20 else if k = 1 then 50 else 10
abbrev xdecl : List MethodName := [Bundle.initS "java/lang/RuntimeException", Bundle.initS "java/lang/Exception", Bundle.initS Bundle.tN]
abbrev xcast : List (String × String) := [("java/lang/IndexOutOfBoundsException", "java/lang/IndexOutOfBoundsException"), ("java/lang/IllegalArgumentException", "java/lang/IllegalArgumentException"), ("java/lang/IllegalStateException", "java/lang/IllegalStateException")]
abbrev xbad : List Cond := xdecl.map Cond.declares ++ xcast.map (fun q => Cond.castable q.1 q.2)
/-- the words of the throws that no list holds -/
def XB (U : State) : Prop := (∀ x ∈ xdecl, va_Nw (.declares x) U) ∧ ∀ q ∈ xcast, va_Nw (.castable q.1 q.2) U
theorem XB.warm {s U : State} (hW : s.WarmedH U.vm) (h : XB s) : XB U := ⟨fun x hx => va_Nw.warmD hW (h.1 x hx), fun q hq => va_Nw.warmC hW (h.2 q hq)⟩
theorem XB.same {u U : State} (hv : u.vm = U.vm) (h : XB u) : XB U := ⟨fun x hx => va_Nw.same rfl hv (h.1 x hx), fun q hq => va_Nw.same rfl hv (h.2 q hq)⟩
theorem XB.all {s : State} {args : Array Value} (h : XB s) : ∀ w ∈ xbad, w.before args s = true := by
  intro w hw
  rcases List.mem_append.mp hw with hw | hw
  · obtain ⟨x, hx, rfl⟩ := List.mem_map.mp hw
    exact va_Nw.use rfl (h.1 x hx)
  · obtain ⟨q, hq, rfl⟩ := List.mem_map.mp hw
    exact va_Nw.use rfl (h.2 q hq)
/-- what a method of FountainCues finds beside its world: the statics that Throwable reads, its texts, its two tables -/
def AMB (A : Nat → Prop) (U : State) (H : Heap) : Prop :=
  vx_Zq Bundle.tN "UNASSIGNED_STACK" Bundle.steD A U H ∧ vx_Zq Bundle.tN "SUPPRESSED_SENTINEL" Bundle.listD A U H ∧ (∀ q ∈ strs, ∃ sa, vk_R RX5 q.1 q.2 sa U) ∧
  (∃ t, va_Z RX5 "LEAST_SETTING" "[I" (.ref t) A U H ∧ va_T .int t 3 (fun j => .int (nI (leF j))) A U H) ∧ (∃ t, va_Z RX5 "MOST_SETTING" "[I" (.ref t) A U H ∧ va_T .int t 3 (fun j => .int (nI (moF j))) A U H) ∧ XB U
theorem AMB.same {A : Nat → Prop} {u U : State} {H : Heap} (hv : U.vm = u.vm) (h : AMB A u H) : AMB A U H := by
  have ha : u.vm.Alike U.vm := by rw [hv]; exact Vm.Alike.refl u.vm
  obtain ⟨h1, h2, h3, ⟨t4, h4, h5⟩, ⟨t6, h6, h7⟩, h8⟩ := h
  exact ⟨h1.moved ha, h2.moved ha, fun q hq => (h3 q hq).imp fun sa h => h.same hv, ⟨t4, h4.moved ha, h5.moved ha⟩, ⟨t6, h6.moved ha, h7.moved ha⟩, h8.same hv.symm⟩
theorem AMB.goes {A B : Nat → Prop} {s U : State} {H : Heap} {locs : List Loc} (h : AMB A s s.heap) (hS : va_S A s.heap H locs) (hU : U.heap = H) (hW : s.WarmedH U.vm) (hAB : ∀ q, B q → A q) : AMB B U U.heap := by
  have ha := hW.alike
  have hk : ∀ a : Nat, a < s.heap.size → ¬ A a → H[a]? = s.heap[a]? := fun a h1 h2 => hS.2.1 a h1 h2
  obtain ⟨h1, h2, h3, ⟨t4, h4, h5⟩, ⟨t6, h6, h7⟩, h8⟩ := h
  rw [hU]
  exact ⟨((h1.kept hk).moved ha).narrow hAB, ((h2.kept hk).moved ha).narrow hAB, fun q hq => (h3 q hq).imp fun sa h => h.warm hW, ⟨t4, ((h4.kept hk).moved ha).narrow hAB, ((h5.kept hk).moved ha).narrow hAB⟩, ⟨t6, ((h6.kept hk).moved ha).narrow hAB, ((h7.kept hk).moved ha).narrow hAB⟩, h8.warm hW⟩
def PBX (D : va_G) (ty : List (ClassId × FieldType)) (W0 : va_W) (sz : Nat) : State → Prop := fun U => PB D ty W0 sz U ∧ AMB (va_A W0 sz) U U.heap
def XQ (D : va_G) (W0 : va_W) (sz : Nat) (px : String → Prop) : String → State → State → Prop := vx_X (fun _ : Unit => True) (fun E _ t => px E ∧ va_P D vwCl W0 t.heap) (va_A W0 sz)
/-- a contract of a method that returns, or throws and leaves its world -/
def KX {S : Type} (l : Launch) (D : va_G) (ty : List (ClassId × FieldType)) (y : MethodName) (ws : List Cond) (rm : Room) (W0 : va_W) (av : List Value) (post : Option Value → S → Prop) (px : String → Prop) (W1 : S → va_W) : Prop :=
  ∀ sz, vx_Met l y ws rm (va_Pc av (PBX D ty W0 sz)) (KQ post (PA D ty W0 sz W1) (va_A W0 sz)) (XQ D W0 sz px) rm.cells rm.slots (va_A W0 sz)
theorem PBX_blind {D : va_G} {ty : List (ClassId × FieldType)} {W0 : va_W} {sz : Nat} {av : List Value} : FrameBlind (va_Pc av (PBX D ty W0 sz)) := by
  intro a U g mk q
  obtain ⟨q0, q1, q2⟩ := q
  exact ⟨q0, (PB_blind a U g mk ⟨q0, q1⟩).2, AMB.same rfl q2⟩
theorem KX.of {S : Type} {l : Launch} {D : va_G} {ty : List (ClassId × FieldType)} {y : MethodName} {ws ws' : List Cond} {rm : Room} {W0 : va_W} {av : List Value} {post : Option Value → S → Prop} {px : String → Prop} {W1 : S → va_W} {cc : ByteArray} {maxL : Nat} {ret : Option FieldType} (hy : plainName y.cls = true) (hw : ws = Cond.code y cc maxL ret :: ws') (hn : (lg_sl av).length ≤ maxL)
    (body : ∀ (p : Program) (e : Env) (s : State) (m : MethodId) (args : Array Value) (below : List Frame) (meth : Method) (c : Code) (Q : State → Prop) (A : Nat → Prop) (ls : Array Slot), CallFix p m c cc maxL s args ws y.cls → NST s → AMB A s s.heap → meth.name = y.name → meth.locks = false → va_K D vwCl ty s → (∀ q, s.heap.size ≤ q → A q) →
      (∀ (H : Heap) (locs : List Loc) (k n : Nat) (v : Option Value) (u : S) (pc : Nat) (ls : Array Slot), k ≤ rm.cells → n ≤ rm.slots → post v u → va_P D vwCl (W1 u) H → va_D A (W1 u) → va_S A s.heap H locs → RetAt cc ret pc v → W p l e rm s m args below meth c H locs k n Q (F0 m pc ls v.toList)) →
      (∀ (H : Heap) (locs : List Loc) (k n : Nat) (E : String) (ce : Cell) (q : Addr) (pc : Nat) (ls : Array Slot) (rest : List Value), k ≤ rm.cells → n ≤ rm.slots → px E → va_P D vwCl W0 H → va_S A s.heap H locs → H[q]? = some ce → ce.vm = .none → s.vm.findClass E = some ce.cls → vx_W p l e rm s m args below meth c H locs k n Q (F0 m pc ls rest) q) →
      (l.stackTraces = false → ∀ (H : Heap) (locs : List Loc) (k n : Nat) (cls text : String) (ik is ic sa pc : Nat) (ls : Array Slot) (rest : List Value), k + 1 ≤ rm.cells → n + 6 ≤ rm.slots → px cls → Bundle.fit cls = true → (Cond.classLink y.cls ik cls).before args s = true → (Cond.initialized cls).before args s = true → vk_R y.cls is text sa s → (∀ w ∈ vx_atS y.cls ic cls xnames, w.before args s = true) → (∀ w ∈ Cond.classLink y.cls ik cls :: Cond.initialized cls :: vx_atS y.cls ic cls xnames, vx_ot w = true) → va_P D vwCl W0 H → va_S A s.heap H locs → ls.size = maxL →
        decode cc pc = .ok (.new ik, 3) → decode cc (pc + 3) = .ok (.dup, 1) → ((decode cc (pc + 4) = .ok (.ldc is, 2) ∧ decode cc (pc + 6) = .ok (.invokespecial ic, 3) ∧ decode cc (pc + 9) = .ok (.athrow, 1)) ∨ (decode cc (pc + 4) = .ok (.ldc_w is, 3) ∧ decode cc (pc + 7) = .ok (.invokespecial ic, 3) ∧ decode cc (pc + 10) = .ok (.athrow, 1))) → 5 < rm.frames → (rest.map fun v => v.category).sum + 82 ≤ rm.locals → W p l e rm s m args below meth c H locs k n Q (F0 m pc ls rest)) →
      va_P D vwCl W0 s.heap → va_D A W0 → va_S A s.heap s.heap [] → lv_has ls maxL (lv_args 0 av) → W p l e rm s m args below meth c s.heap [] 0 0 Q (F0 m 0 ls [])) : KX l D ty y ws rm W0 av post px W1 := by
  intro sz
  refine vx_ofW (cc := cc) (maxL := maxL) (ret := ret) hy hw ?_
  intro p e s m args below meth c s₁ B hml hxt hv
  obtain ⟨rfl, ⟨hsz, hP, hK, hD0, hN⟩, hAm⟩ := hv
  subst hsz
  have hts := atoms_spec (ws := ws) B.pre
  have hown : s.vm.findClass y.cls = some m.cls := findClass_of_methodNamed B.named
  have hl := lv_entry av hn
  have hout : ∀ pc : Nat, ∀ x ∈ c.exceptionTable.toList, covers x pc = false := fun pc x hx => (hxt x hx).elim
  have keep : ∀ {H : Heap} {t : State}, va_P D vwCl W0 H → H.size ≤ t.heap.size → (∀ q : Nat, q < H.size → t.heap[q]? = H[q]?) → va_P D vwCl W0 t.heap := fun hP1 _ hk => hP1.kept fun k q hq => hk q.1 ((hP1 k q hq).lt)
  rw [lg_entry_eq]
  generalize (lg_sl av ++ List.replicate (maxL - (lg_sl av).length) Slot.unset).toArray = ls at hl ⊢
  refine body p e s m av.toArray below meth c _ (va_A W0 s.heap.size) ls ⟨B.exec, B.bytes, hml, hown, hts⟩ hN hAm (name_of_methodNamed B.named B.method).1 B.notSynchronized hK (fun q h => Or.inr h) ?_ ?_ ?_ hP hD0.self va_S.rf hl
  · intro H locs k n v u pc ls' hk hnn hpost hP1 hD1 hS1 hret
    refine vx_ret ?_
    refine W.widen hk hnn ?_
    exact W_ret B.exec B.bytes B.returns (fun t ht hW => ⟨⟨v, u, rfl, hpost, by rw [ht]; exact hP1, va_K.moved hW.alike hK, hD1⟩, hS1.F ht⟩) hS1.2.2 hret B.notSynchronized
  · intro H locs k n E ce q pc ls' rest hk hnn hpx hP1 hS1 h1 h2 h3
    exact vx_out (hout pc) B.notSynchronized h1 h2 h3 (fun t ht _ => ⟨(), trivial, ⟨hpx, by rw [ht]; exact hP1⟩, hS1.F ht⟩) hS1.2.2 hk hnn
  · intro hst H locs k n cls text ik is ic sa pc ls' rest hk hnn hpx hfit hck hini hstr hat hgood hP1 hS1 hsize d0 d3 d4 hfr hlo
    have hxx : ∀ t : State, s.vm.Alike t.vm → H.size ≤ t.heap.size → (∀ q : Nat, q < H.size → t.heap[q]? = H[q]?) → XQ D W0 s.heap.size px cls s t := fun t _ hz hq =>
      ⟨(), trivial, ⟨hpx, keep hP1 hz hq⟩, ⟨Nat.le_trans hS1.1 hz, fun q g1 g2 => by rw [hq q (Nat.lt_of_lt_of_le g1 hS1.1)]; exact hS1.2.1 q g1 g2⟩⟩
    rcases d4 with ⟨d4, d6, d9⟩ | ⟨d4, d7, d10⟩
    · exact vx_throwS B.exec B.bytes hst hown hfit (by decide) hck hini hstr hat hgood hAm.1 hAm.2.1 hS1 (hsize.trans hml.symm) d0 d3 d4 d6 d9 (hout _) hfr hlo (Nat.le_trans hk (Nat.le_refl _)) (Nat.le_trans hnn (Nat.le_refl _)) B.notSynchronized hxx hS1.2.2 hk hnn
    · exact vx_throwSW B.exec B.bytes hst hown hfit (by decide) hck hini hstr hat hgood hAm.1 hAm.2.1 hS1 (hsize.trans hml.symm) d0 d3 d4 d7 d10 (hout _) hfr hlo (Nat.le_trans hk (Nat.le_refl _)) (Nat.le_trans hnn (Nat.le_refl _)) B.notSynchronized hxx hS1.2.2 hk hnn
theorem xat_ok {args : Array Value} {s : State} {ic : Nat} {X : String} (h2 : ∀ w ∈ (vx_atS RX5 ic X xnames).filter (fun w => !goodWord w), w ∈ xbad) (h1 : ∀ w ∈ (vx_atS RX5 ic X xnames).filter goodWord, w.before args s = true) (hb : XB s) : ∀ w ∈ vx_atS RX5 ic X xnames, w.before args s = true := vx_hat h1 h2 hb.all
theorem xbad_IO : ∀ w ∈ (vx_atS RX5 120 "java/lang/IndexOutOfBoundsException" xnames).filter (fun w => !goodWord w), w ∈ xbad := by decide +kernel
theorem xot_IO : ∀ w ∈ Cond.classLink RX5 116 "java/lang/IndexOutOfBoundsException" :: Cond.initialized "java/lang/IndexOutOfBoundsException" :: vx_atS RX5 120 "java/lang/IndexOutOfBoundsException" xnames, vx_ot w = true := by decide +kernel
theorem xbad_IA : ∀ w ∈ (vx_atS RX5 153 "java/lang/IllegalArgumentException" xnames).filter (fun w => !goodWord w), w ∈ xbad := by decide +kernel
theorem xot_IA : ∀ w ∈ Cond.classLink RX5 149 "java/lang/IllegalArgumentException" :: Cond.initialized "java/lang/IllegalArgumentException" :: vx_atS RX5 153 "java/lang/IllegalArgumentException" xnames, vx_ot w = true := by decide +kernel
theorem xbad_IS : ∀ w ∈ (vx_atS RX5 79 "java/lang/IllegalStateException" xnames).filter (fun w => !goodWord w), w ∈ xbad := by decide +kernel
theorem xot_IS : ∀ w ∈ Cond.classLink RX5 75 "java/lang/IllegalStateException" :: Cond.initialized "java/lang/IllegalStateException" :: vx_atS RX5 79 "java/lang/IllegalStateException" xnames, vx_ot w = true := by decide +kernel
section KCALL2
variable {p : Program} {l : Launch} {e : Env} {R : Room} {s : State} {m : MethodId} {args : Array Value} {below : List Frame} {meth : Method} {c : Code} {H : Heap} {locs : List Loc} {cells slots : Nat} {Q : State → Prop}
variable {pc : Nat} {ls : Array Slot} {rest st0 : List Value} {a : Array Value} {A0 : Nat → Prop} {D : va_G} {ty : List (ClassId × FieldType)} {ws W0 : va_W} {rm : Room} {S : Type} {post : Option Value → S → Prop} {px : String → Prop} {W1 : S → va_W}
/-- a call behind which there are more cells -/
theorem run_goA {mc ms : Nat} (hr : va_Run p l e R s m args below meth c H locs cells slots mc ms (F0 m pc ls st0) rest (KQ post (PA D ty W0 H.size W1) (va_A W0 H.size) a) (va_A W0 H.size)) (hP : va_P D vwCl ws H) (hD : va_D A0 ws) (hS : va_S A0 s.heap H locs) (hA : ∀ q, s.heap.size ≤ q → A0 q) (is : List Nat) (hC : is.map (fun i => ws[i]?) = W0.map some) (hn : va_nd is = true) (hl : ∀ u, is.length ≤ (W1 u).length)
    (kk : ∀ (v : Option Value) (u : S) (H1 : Heap) (locs1 : List Loc), post v u → va_P D vwCl (plug2 ws is (W1 u)) H1 → va_D A0 (plug2 ws is (W1 u)) → va_S A0 s.heap H1 locs1 → W p l e R s m args below meth c H1 locs1 (cells + mc) (slots + ms) Q (F0 m (pc + 3) ls (v.toList ++ rest))) : W p l e R s m args below meth c H locs cells slots Q (F0 m pc ls st0) := by
  have hf : ∀ q, va_A W0 H.size q → A0 q := va_free hD hS hA is hC
  intro T hT X
  obtain ⟨v, st₀, t, T', L, h0, X', hL, e1, e2, ⟨⟨v', u, hv, hp, hb1, hb2, hb3⟩, hz, hk⟩, st⟩ := hr T hT X
  cases hv
  rw [h0] at hz hk
  obtain ⟨hP1, hD1⟩ := plug2_join hP hD hC hn (hl u) (fun q h1 h2 => hk q h1 h2) hf hb1 hb3
  rw [← e1] at hP1
  obtain ⟨t2, a1, b1⟩ := kk v u T'.heap (locs ++ L) hp hP1 hD1
    ⟨Nat.le_trans hS.1 (by rw [e1]; exact hz), fun q h1 h2 => by rw [e1, hk q (Nat.lt_of_lt_of_le h1 hS.1) (fun z => h2 (hf q z))]; exact hS.2.1 q h1 h2, fun q hq => by
      rcases List.mem_append.mp hq with h | h
      · exact hS.2.2 q h
      · exact hf _ (hL q h)⟩ T' rfl X'
  exact ⟨t2, st t2 a1, b1⟩
/-- a call that may throw -/
theorem runx_go {mc ms : Nat} (hr : vx_Run p l e R s m args below meth c H locs cells slots mc ms (F0 m pc ls st0) rest (KQ post (PA D ty W0 H.size W1) (va_A W0 H.size) a) (XQ D W0 H.size px) (va_A W0 H.size)) (hP : va_P D vwCl ws H) (hD : va_D A0 ws) (hS : va_S A0 s.heap H locs) (hA : ∀ q, s.heap.size ≤ q → A0 q) (is : List Nat) (hC : is.map (fun i => ws[i]?) = W0.map some) (hn : va_nd is = true) (hl : ∀ u, (W1 u).length = is.length)
    (kx : ∀ (E : String) (ce : Cell) (q : Addr) (H1 : Heap) (locs1 : List Loc), px E → va_P D vwCl ws H1 → va_S A0 s.heap H1 locs1 → H1[q]? = some ce → ce.vm = .none → s.vm.findClass E = some ce.cls → vx_W p l e R s m args below meth c H1 locs1 (cells + mc) (slots + ms) Q (F0 m pc ls rest) q)
    (kk : ∀ (v : Option Value) (u : S) (H1 : Heap) (locs1 : List Loc), post v u → va_P D vwCl (plug ws is (W1 u)) H1 → va_D A0 (plug ws is (W1 u)) → va_S A0 s.heap H1 locs1 → W p l e R s m args below meth c H1 locs1 (cells + mc) (slots + ms) Q (F0 m (pc + 3) ls (v.toList ++ rest))) : W p l e R s m args below meth c H locs cells slots Q (F0 m pc ls st0) := by
  have hf : ∀ q, va_A W0 H.size q → A0 q := va_free hD hS hA is hC
  intro T hT X
  rcases hr T hT X with ⟨v, st₀, t, T', L, h0, X', hL, e1, e2, ⟨⟨v', u, hv, hp, hb1, hb2, hb3⟩, hz, hk⟩, st⟩ | ⟨q9, st₀, t, T', L, E, ce, h0, X', hL, e1, e2, ⟨-, -, ⟨hpx, hb1⟩, hz, hk⟩, g1, g2, g3, st⟩
  · cases hv
    rw [h0] at hz hk
    obtain ⟨hP1, hD1⟩ := plug_join hP hD hC hn (hl u) (fun q h1 h2 => hk q h1 h2) hf hb1 hb3
    rw [← e1] at hP1
    obtain ⟨t2, a1, b1⟩ := kk v u T'.heap (locs ++ L) hp hP1 hD1
      ⟨Nat.le_trans hS.1 (by rw [e1]; exact hz), fun q h1 h2 => by rw [e1, hk q (Nat.lt_of_lt_of_le h1 hS.1) (fun z => h2 (hf q z))]; exact hS.2.1 q h1 h2, fun q hq => by
        rcases List.mem_append.mp hq with h | h
        · exact hS.2.2 q h
        · exact hf _ (hL q h)⟩ T' rfl X'
    exact ⟨t2, st t2 a1, b1⟩
  · rw [h0] at hz hk
    have hD0 : va_D (va_A W0 H.size) W0 := (hD.sub is hn hC).self
    obtain ⟨hP1, -⟩ := plug_join hP hD hC hn (by have := congrArg List.length hC; simpa using this.symm) (fun q h1 h2 => hk q h1 h2) hf hb1 hD0
    rw [plug_id is ws W0 hC, ← e1] at hP1
    obtain ⟨t2, a1, b1⟩ := kx E ce q9 T'.heap (locs ++ L) hpx hP1
      ⟨Nat.le_trans hS.1 (by rw [e1]; exact hz), fun q h1 h2 => by rw [e1, hk q (Nat.lt_of_lt_of_le h1 hS.1) (fun z => h2 (hf q z))]; exact hS.2.1 q h1 h2, fun q hq => by
        rcases List.mem_append.mp hq with h | h
        · exact hS.2.2 q h
        · exact hf _ (hL q h)⟩ (by rw [e1]; exact g1) g2 g3 T' rfl X'
    exact ⟨t2, st.trans a1, b1⟩
variable {y : MethodName} {bytes cc : ByteArray} {maxL nL n index : Nat} {ret : Option FieldType} {wsc Ts : List Cond} {own Cn host : String} {b : Addr} {As : List Value}
theorem PBX_pre {av : List Value} (hN : NST s) (hAm : AMB A0 s s.heap) (hS : va_S A0 s.heap H locs) (hA : ∀ q, s.heap.size ≤ q → A0 q) (hK : va_K D vwCl ty s) (hP : va_P D vwCl ws H) (hD : va_D A0 ws) {is : List Nat} (hC : is.map (fun i => ws[i]?) = W0.map some) (hn : va_nd is = true) : ∀ U : State, U.heap = H → s.WarmedH U.vm → va_Pc av (PBX D ty W0 H.size) av.toArray U :=
  fun U hU hW => ⟨rfl, (PB_pre (av := av) hN hK hP hD hC hn U hU hW).2, AMB.goes hAm hS hU hW (va_free hD hS hA is hC)⟩
theorem KM.callIA (C0 : CallFix p m c cc nL s args Ts own) (hN : NST s) (hM : KM l D ty y wsc rm W0 (.ref b :: As) post W1) (cw : CallB R s args own index y bytes maxL none wsc rm rm.cells rm.slots n ∧ y.name = "<init>" ∧ (Cond.instanceMethod y).before args s = true) (hK : va_K D vwCl ty s) (hP : va_P D vwCl ws H) (hD : va_D A0 ws) (hS : va_S A0 s.heap H locs) (hA : ∀ q, s.heap.size ≤ q → A0 q) (is : List Nat) (hC : is.map (fun i => ws[i]?) = W0.map some) (hnd : va_nd is = true) (hl : ∀ u, is.length ≤ (W1 u).length) (hn : As.length = n) (hsize : ls.size = nL) (hstack : st0 = As.reverse ++ .ref b :: rest) (hW : (rest.map fun v => v.category).sum ≤ 8) (hdg : decode cc pc = .ok (.invokespecial index, 3)) (hf : cells + rm.cells ≤ R.cells ∧ slots + rm.slots ≤ R.slots)
    (kk : ∀ (v : Option Value) (u : S) (H1 : Heap) (locs1 : List Loc), post v u → va_P D vwCl (plug2 ws is (W1 u)) H1 → va_D A0 (plug2 ws is (W1 u)) → va_S A0 s.heap H1 locs1 → W p l e R s m args below meth c H1 locs1 (cells + rm.cells) (slots + rm.slots) Q (F0 m (pc + 3) ls (v.toList ++ rest))) : W p l e R s m args below meth c H locs cells slots Q (F0 m pc ls st0) :=
  run_goA (W0 := W0) (va_runI (As := As) (rest := rest) C0 (hM H.size) cw ⟨PB_blind, PB_pre hN hK hP hD hC hnd⟩ rfl hn hsize hstack (by show 2 * 0 + _ ≤ 8; omega) hdg hf) hP hD hS hA is hC hnd hl kk
theorem KM.callINA (C0 : CallFix p m c cc nL s args Ts own) (hN : NST s) (hM : KM l D ty y wsc rm W0 (.ref b :: As) post W1) (cw : va_CN R s args own index y host bytes maxL none wsc rm rm.cells rm.slots n ∧ y.name = "<init>" ∧ (Cond.instanceMethod y).before args s = true) (hK : va_K D vwCl ty s) (hP : va_P D vwCl ws H) (hD : va_D A0 ws) (hS : va_S A0 s.heap H locs) (hA : ∀ q, s.heap.size ≤ q → A0 q) (is : List Nat) (hC : is.map (fun i => ws[i]?) = W0.map some) (hnd : va_nd is = true) (hl : ∀ u, is.length ≤ (W1 u).length) (hn : As.length = n) (hsize : ls.size = nL) (hstack : st0 = As.reverse ++ .ref b :: rest) (hW : (rest.map fun v => v.category).sum ≤ 8) (hdg : decode cc pc = .ok (.invokespecial index, 3)) (hf : cells + rm.cells ≤ R.cells ∧ slots + rm.slots ≤ R.slots)
    (kk : ∀ (v : Option Value) (u : S) (H1 : Heap) (locs1 : List Loc), post v u → va_P D vwCl (plug2 ws is (W1 u)) H1 → va_D A0 (plug2 ws is (W1 u)) → va_S A0 s.heap H1 locs1 → W p l e R s m args below meth c H1 locs1 (cells + rm.cells) (slots + rm.slots) Q (F0 m (pc + 3) ls (v.toList ++ rest))) : W p l e R s m args below meth c H locs cells slots Q (F0 m pc ls st0) :=
  run_goA (W0 := W0) (va_runIN (As := As) (rest := rest) C0 (hM H.size) cw ⟨PB_blind, PB_pre hN hK hP hD hC hnd⟩ rfl hn hsize hstack (by show 2 * 0 + _ ≤ 8; omega) hdg hf) hP hD hS hA is hC hnd hl kk
theorem KX.callV (C0 : CallFix p m c cc nL s args Ts own) (hN : NST s) (hAm : AMB A0 s s.heap) (hM : KX l D ty y wsc rm W0 (.ref b :: As) post px W1) (cw : CallW R s args own Cn index y bytes maxL ret wsc rm rm.cells rm.slots n) (hK : va_K D vwCl ty s) (hP : va_P D vwCl ws H) (hD : va_D A0 ws) (hS : va_S A0 s.heap H locs) (hA : ∀ q, s.heap.size ≤ q → A0 q) (is : List Nat) (hC : is.map (fun i => ws[i]?) = W0.map some) (hnd : va_nd is = true) (hl : ∀ u, (W1 u).length = is.length) (q0 ci : Nat) {fs : List Value} {qc : vw_C} (hc : vwCl[ci]? = some qc) (hqc : qc.1 = Cn) (hrecv : ws[q0]? = some (b, .inr (ci, fs))) (hn : As.length = n) (hsize : ls.size = nL) (hstack : st0 = As.reverse ++ .ref b :: rest) (hW : (rest.map fun v => v.category).sum ≤ 8) (hdg : decode cc pc = .ok (.invokevirtual index, 3)) (hf : cells + rm.cells ≤ R.cells ∧ slots + rm.slots ≤ R.slots)
    (kx : ∀ (E : String) (ce : Cell) (q : Addr) (H1 : Heap) (locs1 : List Loc), px E → va_P D vwCl ws H1 → va_S A0 s.heap H1 locs1 → H1[q]? = some ce → ce.vm = .none → s.vm.findClass E = some ce.cls → vx_W p l e R s m args below meth c H1 locs1 (cells + rm.cells) (slots + rm.slots) Q (F0 m pc ls rest) q)
    (kk : ∀ (v : Option Value) (u : S) (H1 : Heap) (locs1 : List Loc), post v u → va_P D vwCl (plug ws is (W1 u)) H1 → va_D A0 (plug ws is (W1 u)) → va_S A0 s.heap H1 locs1 → W p l e R s m args below meth c H1 locs1 (cells + rm.cells) (slots + rm.slots) Q (F0 m (pc + 3) ls (v.toList ++ rest))) : W p l e R s m args below meth c H locs cells slots Q (F0 m pc ls st0) := by
  refine runx_go (W0 := W0) (vx_runV (As := As) (rest := rest) C0 (hM H.size) cw ⟨PBX_blind, ?_, PBX_pre hN hAm hS hA hK hP hD hC hnd⟩ rfl hn hsize hstack (by show 2 * 0 + _ ≤ 8; omega) hdg hf) hP hD hS hA is hC hnd hl kx kk
  obtain ⟨cell, h1, h2, h3⟩ := va_recv hK hP hc hrecv
  exact ⟨cell, h1, h2, by rw [← hqc]; exact h3⟩
theorem KX.callS (C0 : CallFix p m c cc nL s args Ts own) (hN : NST s) (hAm : AMB A0 s s.heap) (hM : KX l D ty y wsc rm W0 As post px W1) (cw : CallB R s args own index y bytes maxL ret wsc rm rm.cells rm.slots n ∧ (Cond.static y).before args s = true) (hK : va_K D vwCl ty s) (hP : va_P D vwCl ws H) (hD : va_D A0 ws) (hS : va_S A0 s.heap H locs) (hA : ∀ q, s.heap.size ≤ q → A0 q) (is : List Nat) (hC : is.map (fun i => ws[i]?) = W0.map some) (hnd : va_nd is = true) (hl : ∀ u, (W1 u).length = is.length) (hn : As.length = n) (hsize : ls.size = nL) (hstack : st0 = As.reverse ++ rest) (hW : (rest.map fun v => v.category).sum ≤ 8) (hdg : decode cc pc = .ok (.invokestatic index, 3)) (hf : cells + rm.cells ≤ R.cells ∧ slots + rm.slots ≤ R.slots)
    (kx : ∀ (E : String) (ce : Cell) (q : Addr) (H1 : Heap) (locs1 : List Loc), px E → va_P D vwCl ws H1 → va_S A0 s.heap H1 locs1 → H1[q]? = some ce → ce.vm = .none → s.vm.findClass E = some ce.cls → vx_W p l e R s m args below meth c H1 locs1 (cells + rm.cells) (slots + rm.slots) Q (F0 m pc ls rest) q)
    (kk : ∀ (v : Option Value) (u : S) (H1 : Heap) (locs1 : List Loc), post v u → va_P D vwCl (plug ws is (W1 u)) H1 → va_D A0 (plug ws is (W1 u)) → va_S A0 s.heap H1 locs1 → W p l e R s m args below meth c H1 locs1 (cells + rm.cells) (slots + rm.slots) Q (F0 m (pc + 3) ls (v.toList ++ rest))) : W p l e R s m args below meth c H locs cells slots Q (F0 m pc ls st0) :=
  runx_go (W0 := W0) (vx_runS (As := As) (rest := rest) C0 (hM H.size) cw ⟨PBX_blind, PBX_pre hN hAm hS hA hK hP hD hC hnd⟩ rfl hn hsize hstack (by show 2 * 0 + _ ≤ 8; omega) hdg hf) hP hD hS hA is hC hnd hl kx kk
end KCALL2
section KSTEP2
variable {p : Program} {l : Launch} {e : Env} {R : Room} {s : State} {m : MethodId} {args : Array Value} {below : List Frame} {meth : Method} {c : Code} {H : Heap} {locs : List Loc} {cells slots : Nat} {Q : State → Prop}
variable {pc : Nat} {ls : Array Slot} {rest : List Value} {cc : ByteArray} {a b : Nat} {off : Int} {tgt : Nat} {D : va_G} {ws : va_W} {A : Nat → Prop} {H0 : Heap} {cI cS cL : ClassId}
theorem q_newa {N : Nat} (hx : p.tables.exec = Jvm.exec) (hb : c.code = cc) (harr : (Cond.arrayClass .int).before args s = true) (hK : va_K D vwCl (TY cI cS cL) s) (hP : va_P D vwCl ws H) (hD : va_D A ws) (hS : va_S A H0 H locs) (hA : ∀ q, H0.size ≤ q → A q) (hN : N < 65536) (hcells : cells + 1 ≤ R.cells) (hslots : slots + N ≤ R.slots) (hdg : decode cc pc = .ok (.newarray .int, 2))
    (kk : ∀ (q : Nat) (H1 : Heap), va_P D vwCl (ws ++ [(q, .inl (cI, N, .inl (ro N (fun _ => 0))))]) H1 → va_D A (ws ++ [(q, .inl (cI, N, .inl (ro N (fun _ => 0))))]) → va_S A H0 H1 locs → W p l e R s m args below meth c H1 locs (cells + 1) (slots + N) Q (F0 m (pc + 2) ls (.ref q :: rest))) : W p l e R s m args below meth c H locs cells slots Q (F0 m pc ls (.int (nI N) :: rest)) := by
  refine va_newa (atype := .int) (ty := .int) (a0 := (N, .inl (ro N (fun _ => 0)))) (N' := N) hx hb harr rfl hK hP hD hS hA (fun cA => ?_) (nI_pos (by omega)) (nI_clamp (by omega)) (by show N * 4 ≤ _; omega) hcells hslots hdg (fun q cA H1 hK1 hP1 hD1 hS1 => ?_)
  · rw [vp_cell_i, ro_0]; rfl
  · have e := cI_eq hK1
    subst e
    exact kk q H1 hP1 hD1 hS1
theorem q_aald {n : Nat} {f : Nat → Nat} {q : Nat} (q0 : Nat) (hj : b < n) (hn : n < 2 ^ 31) (hx : p.tables.exec = Jvm.exec) (hb : c.code = cc) (hK : va_K D vwCl (TY cI cS cL) s) (hP : va_P D vwCl ws H) (ha : ws[q0]? = some (q, .inl (cS, n, .inr (.inr (.inr (.inr (rq n f))))))) (hdg : decode cc pc = .ok (.aaload, 1)) (kk : W p l e R s m args below meth c H locs cells slots Q (F0 m (pc + 1) ls (.ref (f b) :: rest))) : W p l e R s m args below meth c H locs cells slots Q (F0 m pc ls (.int (nI b) :: .ref q :: rest)) :=
  va_aldq hx hb hK hP q0 1 ha rfl (vp_in_nI hj hn) hdg (by rw [rq_at hj hn]; exact kk)
theorem q_aast {n : Nat} {f : Nat → Nat} {q v : Nat} {vs : List Value} (q0 qk : Nat) (hj : b < n) (hn : n < 2 ^ 31) (hx : p.tables.exec = Jvm.exec) (hb : c.code = cc) (hK : va_K D vwCl (TY cI cS cL) s) (hP : va_P D vwCl ws H) (hD : va_D A ws) (hS : va_S A H0 H locs) (ha : ws[q0]? = some (q, .inl (cS, n, .inr (.inr (.inr (.inr (rq n f))))))) (hv : ws[qk]? = some (v, .inr (4, vs))) (hdg : decode cc pc = .ok (.aastore, 1)) (kk : ∀ (H1 : Heap) (locs1 : List Loc), va_P D vwCl (ws.set q0 (q, .inl (cS, n, .inr (.inr (.inr (.inr (rq n (upN f b v)))))))) H1 → va_D A (ws.set q0 (q, .inl (cS, n, .inr (.inr (.inr (.inr (rq n (upN f b v)))))))) → va_S A H0 H1 locs1 → W p l e R s m args below meth c H1 locs1 cells slots Q (F0 m (pc + 1) ls rest)) : W p l e R s m args below meth c H locs cells slots Q (F0 m pc ls (.ref v :: .int (nI b) :: .ref q :: rest)) :=
  va_astq (r := (RX4, TX4, 10)) hx hb hK hP hD hS q0 1 qk 4 ha rfl hv rfl (vp_in_nI hj hn) hdg (fun H1 locs1 h1 h2 h3 => kk H1 locs1 (by rw [rq_up hj hn] at h1; exact h1) (by rw [rq_up hj hn] at h2; exact h2) h3)
end KSTEP2
