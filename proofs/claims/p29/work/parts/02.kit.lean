/-! my own kit: worlds by rows of numbers, contracts by outcome, calls by places -/
def upN (f : Nat → Nat) (k v : Nat) : Nat → Nat := fun j => if j = k then v else f j
theorem upN_s {f : Nat → Nat} {k v : Nat} : upN f k v k = v := by simp [upN]
theorem upN_n {f : Nat → Nat} {k v j : Nat} (h : j ≠ k) : upN f k v j = f j := by simp [upN, h]
def ro (n : Nat) (f : Nat → Nat) : Nat → Int32 := fun j => if j < n then nI (f j) else 0
theorem ro_at {n j : Nat} {f : Nat → Nat} (h : j < n) (hn : n < 2 ^ 31) : ro n f (nI j).toNatClampNeg = nI (f j) := by
  rw [nI_clamp (by omega)]; simp [ro, h]
theorem ro_up {n j v : Nat} {f : Nat → Nat} (h : j < n) (hn : n < 2 ^ 31) : upd (ro n f) (nI j).toNatClampNeg (nI v) = ro n (upN f j v) := by
  rw [nI_clamp (by omega)]
  funext i
  by_cases hi : i = j
  · subst hi; simp [upd, ro, upN, h]
  · simp [upd, ro, upN, hi]
theorem ro_cg {n : Nat} {f g : Nat → Nat} (h : ∀ j, j < n → f j = g j) : ro n f = ro n g := by
  funext j
  by_cases hj : j < n
  · simp [ro, hj, h j hj]
  · simp [ro, hj]
theorem ro_0 {n : Nat} : ro n (fun _ => 0) = fun _ => 0 := by
  funext j
  by_cases hj : j < n <;> simp [ro, hj, nI_0]
def bI (P : Prop) [Decidable P] : Nat := if P then 1 else 0
theorem bI_t {P : Prop} [Decidable P] (h : P) : bI P = 1 := by simp [bI, h]
theorem bI_f {P : Prop} [Decidable P] (h : ¬ P) : bI P = 0 := by simp [bI, h]
theorem bI_le {P : Prop} [Decidable P] : bI P ≤ 1 := by unfold bI; split <;> omega
theorem bI_lt {P : Prop} [Decidable P] : bI P < 2 ^ 31 := by unfold bI; split <;> decide
theorem bI_nz {P : Prop} [Decidable P] (h : bI P ≠ 0) : P := by
  by_cases hp : P
  · exact hp
  · exact absurd (bI_f hp) h
theorem bI_z {P : Prop} [Decidable P] (h : bI P = 0) : ¬ P := by
  intro hp; rw [bI_t hp] at h; omega
def sumTo (f : Nat → Nat) : Nat → Nat
  | 0 => 0
  | n + 1 => sumTo f n + f n
abbrev TY (cI cS cL : ClassId) : List (ClassId × FieldType) := [(cI, .int), (cS, .object RX4), (cI, .int)]
/-- links between nest mates, which no word list holds -/
abbrev nests : List (String × Nat × MethodName × String) := [(RX5, 9, yX4_init, RX5), (RX4, 20, yX1_init, RX5), (RX3, 17, yX4_init, RX5), (RX5, 28, yX0_init, RX5), (RX2, 30, yX5_copyRow, RX5), (RX1, 24, yX5_copyRow, RX5), (RX4, 43, yX5_copyRow, RX5), (RX2, 57, yX5_quotient, RX5)]
def NST (U : State) : Prop := (∀ q ∈ nests, va_Nw (.methodLinkNest q.1 q.2.1 q.2.2.1 q.2.2.2) U) ∧ va_AO RX4 U
theorem NST.warm {s U : State} (hW : s.WarmedH U.vm) (h : NST s) : NST U := ⟨fun q hq => va_Nw.warmM hW (h.1 q hq), va_AO.moved hW.alike h.2⟩
theorem NST.same {u U : State} (hv : u.vm = U.vm) (h : NST u) : NST U := ⟨fun q hq => va_Nw.same rfl hv (h.1 q hq), va_AO.moved (by rw [← hv]; exact Vm.Alike.refl u.vm) h.2⟩
-- what a method starts from, and ends in
def PB (D : va_G) (ty : List (ClassId × FieldType)) (W0 : va_W) (sz : Nat) : State → Prop := fun U => U.heap.size = sz ∧ va_P D vwCl W0 U.heap ∧ va_K D vwCl ty U ∧ va_D (fun _ => True) W0 ∧ NST U
def KQ {S : Type} (post : Option Value → S → Prop) (B : S → State → Prop) (A : Nat → Prop) : Array Value → State → Outcome → State → Prop := fun _ st oc t => (∃ (v : Option Value) (u : S), oc = .returned v ∧ post v u ∧ B u t) ∧ va_F A st t
def PA {S : Type} (D : va_G) (ty : List (ClassId × FieldType)) (W0 : va_W) (sz : Nat) (W1 : S → va_W) : S → State → Prop := fun u t => va_P D vwCl (W1 u) t.heap ∧ va_K D vwCl ty t ∧ va_D (va_A W0 sz) (W1 u)
/-- a contract of a method that returns -/
def KM {S : Type} (l : Launch) (D : va_G) (ty : List (ClassId × FieldType)) (y : MethodName) (ws : List Cond) (rm : Room) (W0 : va_W) (av : List Value) (post : Option Value → S → Prop) (W1 : S → va_W) : Prop :=
  ∀ sz, Met l y ws rm (va_Pc av (PB D ty W0 sz)) (KQ post (PA D ty W0 sz W1) (va_A W0 sz)) rm.cells rm.slots (va_A W0 sz)
theorem PB_blind {D : va_G} {ty : List (ClassId × FieldType)} {W0 : va_W} {sz : Nat} {av : List Value} : FrameBlind (va_Pc av (PB D ty W0 sz)) := by
  intro a U g mk q
  obtain ⟨q0, q1, qP, qK, qD, qN⟩ := q
  exact ⟨q0, q1, qP, va_K.moved (u := U) (U := U.calling g mk a) (Vm.Alike.refl U.vm) qK, qD, NST.same rfl qN⟩
/-- the row at which a method returns v -/
def RetAt (cc : ByteArray) (ret : Option FieldType) (pc : Nat) : Option Value → Prop
  | none => decode cc pc = .ok (.return_, 1) ∧ ret = none
  | some (.int x) => decode cc pc = .ok (.ireturn, 1) ∧ ∃ ty, ret = some ty ∧ narrow ty (.int x) = .int x
  | some (.long _) => decode cc pc = .ok (.lreturn, 1) ∧ ret = some .long
  | some (.double _) => decode cc pc = .ok (.dreturn, 1) ∧ ret = some .double
  | _ => False
theorem ret_i {cc : ByteArray} {pc : Nat} {x : Int32} (h : decode cc pc = .ok (.ireturn, 1)) : RetAt cc (some .int) pc (some (.int x)) := ⟨h, .int, rfl, rfl⟩
theorem ret_z {cc : ByteArray} {pc : Nat} {n : Nat} (h : decode cc pc = .ok (.ireturn, 1)) (hn : n ≤ 1) : RetAt cc (some .boolean) pc (some (.int (nI n))) := by
  refine ⟨h, .boolean, rfl, ?_⟩
  rcases (show n = 0 ∨ n = 1 by omega) with rfl | rfl <;> decide +kernel
theorem ret_v {cc : ByteArray} {pc : Nat} (h : decode cc pc = .ok (.return_, 1)) : RetAt cc none pc none := ⟨h, rfl⟩
theorem ret_l {cc : ByteArray} {pc : Nat} {x : Int64} (h : decode cc pc = .ok (.lreturn, 1)) : RetAt cc (some .long) pc (some (.long x)) := ⟨h, rfl⟩
theorem ret_d {cc : ByteArray} {pc : Nat} {x : UInt64} (h : decode cc pc = .ok (.dreturn, 1)) : RetAt cc (some .double) pc (some (.double x)) := ⟨h, rfl⟩
theorem W_ret {p : Program} {l : Launch} {e : Env} {R : Room} {s : State} {m : MethodId} {args : Array Value} {below : List Frame} {meth : Method} {c : Code} {H : Heap} {locs : List Loc} {cells slots : Nat} {cc : ByteArray} {Qc : Array Value → State → Outcome → State → Prop} {free : Addr → Prop} {v : Option Value} {ret : Option FieldType} (hexec : p.tables.exec = Jvm.exec) (hb : c.code = cc) (hr : meth.sig.returnType = ret)
    (hq : ∀ t : State, t.heap = H → s.WarmedH t.vm → Qc args s (.returned v) t) (hf : ∀ q ∈ locs, free q.base)
    {pc : Nat} {ls : Array Slot} (hdg : RetAt cc ret pc v) (hlocks : meth.locks = false) : W p l e R s m args below meth c H locs cells slots (MQ below Qc args s cells slots free) (F0 m pc ls v.toList) := by
  cases v with
  | none => exact W.vret hexec hb (hr.trans hdg.2) hq hf hdg.1 hlocks
  | some w =>
    cases w with
    | int x =>
      obtain ⟨h1, ty, h2, h3⟩ := hdg
      exact W.zret hexec hb (hr.trans h2) h3 hq hf h1 hlocks
    | long x => exact W.lret hexec hb (hr.trans hdg.2) hq hf hdg.1 hlocks
    | double x => exact W.dret hexec hb (hr.trans hdg.2) hq hf hdg.1 hlocks
    | _ => exact absurd hdg id
/-- a contract out of a walk of the body -/
theorem KM.of {S : Type} {l : Launch} {D : va_G} {ty : List (ClassId × FieldType)} {y : MethodName} {ws ws' : List Cond} {rm : Room} {W0 : va_W} {av : List Value} {post : Option Value → S → Prop} {W1 : S → va_W} {cc : ByteArray} {maxL : Nat} {ret : Option FieldType} (hy : plainName y.cls = true) (hw : ws = Cond.code y cc maxL ret :: ws') (hn : (lg_sl av).length ≤ maxL)
    (body : ∀ (p : Program) (e : Env) (s : State) (m : MethodId) (args : Array Value) (below : List Frame) (meth : Method) (c : Code) (Q : State → Prop) (A : Nat → Prop) (ls : Array Slot), CallFix p m c cc maxL s args ws y.cls → NST s → meth.name = y.name → meth.locks = false → va_K D vwCl ty s → (∀ q, s.heap.size ≤ q → A q) →
      (∀ (H : Heap) (locs : List Loc) (k n : Nat) (v : Option Value) (u : S) (pc : Nat) (ls : Array Slot), k ≤ rm.cells → n ≤ rm.slots → post v u → va_P D vwCl (W1 u) H → va_D A (W1 u) → va_S A s.heap H locs → RetAt cc ret pc v → W p l e rm s m args below meth c H locs k n Q (F0 m pc ls v.toList)) →
      va_P D vwCl W0 s.heap → va_D A W0 → va_S A s.heap s.heap [] → lv_has ls maxL (lv_args 0 av) → W p l e rm s m args below meth c s.heap [] 0 0 Q (F0 m 0 ls [])) : KM l D ty y ws rm W0 av post W1 := by
  intro sz
  refine Met.ofW (cc := cc) (maxL := maxL) (ret := ret) hy hw ?_
  intro p e s m args below meth c s₁ B hml hv
  obtain ⟨rfl, hsz, hP, hK, hD0, hN⟩ := hv
  subst hsz
  have hts := atoms_spec (ws := ws) B.pre
  have hown : s.vm.findClass y.cls = some m.cls := findClass_of_methodNamed B.named
  have hl := lv_entry av hn
  rw [lg_entry_eq]
  generalize (lg_sl av ++ List.replicate (maxL - (lg_sl av).length) Slot.unset).toArray = ls at hl ⊢
  refine body p e s m av.toArray below meth c _ (va_A W0 s.heap.size) ls ⟨B.exec, B.bytes, hml, hown, hts⟩ hN (name_of_methodNamed B.named B.method).1 B.notSynchronized hK (fun q h => Or.inr h) ?_ hP hD0.self va_S.rf hl
  intro H locs k n v u pc ls' hk hnn hpost hP1 hD1 hS1 hret
  refine W.widen hk hnn ?_
  exact W_ret B.exec B.bytes B.returns (fun t ht hW => ⟨⟨v, u, rfl, hpost, by rw [ht]; exact hP1, va_K.moved hW.alike hK, hD1⟩, hS1.F ht⟩) hS1.2.2 hret B.notSynchronized
/-- the cells of a world put at places of another -/
def plug : va_W → List Nat → va_W → va_W
  | ws, i :: is, q :: qs => plug (ws.set i q) is qs
  | ws, _, _ => ws
theorem plug_len : ∀ (is : List Nat) (ws w1 : va_W), (plug ws is w1).length = ws.length
  | [], ws, w1 => by cases w1 <;> rfl
  | i :: is, ws, [] => rfl
  | i :: is, ws, q :: qs => by
    show (plug (ws.set i q) is qs).length = _
    rw [plug_len is]; simp
theorem plug_at : ∀ (is : List Nat) (ws w1 : va_W), w1.length = is.length → va_nd is = true → ∀ (k : Nat) (q : Nat × va_E), (plug ws is w1)[k]? = some q → (∃ j : Nat, is[j]? = some k ∧ w1[j]? = some q) ∨ (k ∉ is ∧ ws[k]? = some q)
  | [], ws, w1, _, _, k, q, h => by
    right
    refine ⟨List.not_mem_nil, ?_⟩
    cases w1 <;> exact h
  | i :: is, ws, [], hl, _, k, q, h => by simp at hl
  | i :: is, ws, x :: xs, hl, hn, k, q, h => by
    simp only [va_nd, Bool.and_eq_true, decide_eq_true_eq] at hn
    have h' : (plug (ws.set i x) is xs)[k]? = some q := h
    rcases plug_at is (ws.set i x) xs (by simpa using hl) hn.2 k q h' with ⟨j, h1, h2⟩ | ⟨h1, h2⟩
    · exact Or.inl ⟨j + 1, by simpa using h1, by simpa using h2⟩
    · by_cases hk : k = i
      · subst hk
        left
        refine ⟨0, rfl, ?_⟩
        have hlt : k < (ws.set k x).length := (List.getElem?_eq_some_iff.mp h2).1
        rw [List.getElem?_set_self (by simpa using hlt)] at h2
        exact h2
      · right
        rw [List.getElem?_set_ne (Ne.symm hk)] at h2
        exact ⟨by simp only [List.mem_cons, not_or]; exact ⟨hk, h1⟩, h2⟩
theorem sub_at {ws W0 : va_W} {is : List Nat} (hs : is.map (fun i => ws[i]?) = W0.map some) {k : Nat} {q : Nat × va_E} (hq : W0[k]? = some q) : ∃ i, is[k]? = some i ∧ ws[i]? = some q := by
  have h1 : (is.map (fun i => ws[i]?))[k]? = some (some q) := by rw [hs, List.getElem?_map, hq]; rfl
  rw [List.getElem?_map] at h1
  cases hi : is[k]? with
  | none => rw [hi] at h1; cases h1
  | some i => rw [hi] at h1; exact ⟨i, rfl, Option.some.inj h1⟩
theorem plug_join {D : va_G} {A0 : Nat → Prop} {ws W0 W1 : va_W} {H H1 : Heap} {is : List Nat} (hP : va_P D vwCl ws H) (hD : va_D A0 ws) (hC : is.map (fun i => ws[i]?) = W0.map some) (hn : va_nd is = true) (hl : W1.length = is.length)
    (hk : ∀ q : Nat, q < H.size → ¬ va_A W0 H.size q → H1[q]? = H[q]?) (hF : ∀ q, va_A W0 H.size q → A0 q) (hP1 : va_P D vwCl W1 H1) (hD1 : va_D (va_A W0 H.size) W1) : va_P D vwCl (plug ws is W1) H1 ∧ va_D A0 (plug ws is W1) := by
  have apart : ∀ (k : Nat) (q : Nat × va_E), k ∉ is → ws[k]? = some q → q.1 < H.size ∧ ¬ va_A W0 H.size q.1 := by
    intro k q hki hq
    have hlt := (hP k q hq).lt
    refine ⟨hlt, fun h => ?_⟩
    rcases h with ⟨k2, e, h⟩ | h
    · obtain ⟨j, h3, h4⟩ := sub_at hC h
      have hij := hD.1 k j q (q.1, e) hq h4 rfl
      subst hij
      exact hki (List.mem_of_getElem? h3)
    · omega
  refine ⟨fun k q hq => ?_, fun i j x y hx hy hxy => ?_, fun k q hq => ?_⟩
  · rcases plug_at is ws W1 hl hn k q hq with ⟨j, -, h2⟩ | ⟨h1, h2⟩
    · exact hP1 j q h2
    · obtain ⟨g1, g2⟩ := apart k q h1 h2
      exact (hP k q h2).kept (hk q.1 g1 g2)
  · rcases plug_at is ws W1 hl hn i x hx with ⟨i2, a1, a2⟩ | ⟨a1, a2⟩ <;> rcases plug_at is ws W1 hl hn j y hy with ⟨j2, b1, b2⟩ | ⟨b1, b2⟩
    · have e := hD1.1 i2 j2 x y a2 b2 hxy
      subst e
      rw [a1] at b1
      exact Option.some.inj b1
    · exact absurd (by rw [← hxy]; exact hD1.2 i2 x a2) (apart j y b1 b2).2
    · exact absurd (by rw [hxy]; exact hD1.2 j2 y b2) (apart i x a1 a2).2
    · exact hD.1 i j x y a2 b2 hxy
  · rcases plug_at is ws W1 hl hn k q hq with ⟨j, -, h2⟩ | ⟨h1, h2⟩
    · exact hF q.1 (hD1.2 j q h2)
    · exact hD.2 k q h2
theorem va_P.sub2 {D : va_G} {ws W0 : va_W} {H : Heap} {is : List Nat} (hP : va_P D vwCl ws H) (hC : is.map (fun i => ws[i]?) = W0.map some) : va_P D vwCl W0 H := by
  intro k q hq
  obtain ⟨i, -, h⟩ := sub_at hC hq
  exact hP i q h
section KCALL
variable {p : Program} {l : Launch} {e : Env} {R : Room} {s : State} {m : MethodId} {args : Array Value} {below : List Frame} {meth : Method} {c : Code} {H : Heap} {locs : List Loc} {cells slots : Nat} {Q : State → Prop}
variable {pc : Nat} {ls : Array Slot} {rest st0 : List Value} {a : Array Value} {A0 : Nat → Prop} {D : va_G} {ty : List (ClassId × FieldType)} {ws W0 : va_W} {rm : Room} {S : Type} {post : Option Value → S → Prop} {W1 : S → va_W}
theorem run_go {mc ms : Nat} (hr : va_Run p l e R s m args below meth c H locs cells slots mc ms (F0 m pc ls st0) rest (KQ post (PA D ty W0 H.size W1) (va_A W0 H.size) a) (va_A W0 H.size)) (hP : va_P D vwCl ws H) (hD : va_D A0 ws) (hS : va_S A0 s.heap H locs) (hA : ∀ q, s.heap.size ≤ q → A0 q) (is : List Nat) (hC : is.map (fun i => ws[i]?) = W0.map some) (hn : va_nd is = true) (hl : ∀ u, (W1 u).length = is.length)
    (kk : ∀ (v : Option Value) (u : S) (H1 : Heap) (locs1 : List Loc), post v u → va_P D vwCl (plug ws is (W1 u)) H1 → va_D A0 (plug ws is (W1 u)) → va_S A0 s.heap H1 locs1 → W p l e R s m args below meth c H1 locs1 (cells + mc) (slots + ms) Q (F0 m (pc + 3) ls (v.toList ++ rest))) : W p l e R s m args below meth c H locs cells slots Q (F0 m pc ls st0) := by
  have hf : ∀ q, va_A W0 H.size q → A0 q := va_free hD hS hA is hC
  intro T hT X
  obtain ⟨v, st₀, t, T', L, h0, X', hL, e1, e2, ⟨⟨v', u, hv, hp, hb1, hb2, hb3⟩, hz, hk⟩, st⟩ := hr T hT X
  cases hv
  rw [h0] at hz hk
  obtain ⟨hP1, hD1⟩ := plug_join hP hD hC hn (hl u) (fun q h1 h2 => hk q h1 h2) hf hb1 hb3
  rw [← e1] at hP1
  obtain ⟨t2, a1, b1⟩ := kk v u T'.heap (locs ++ L) hp hP1 hD1
    ⟨Nat.le_trans hS.1 (by rw [e1]; exact hz), fun q h1 h2 => by rw [e1, hk q (Nat.lt_of_lt_of_le h1 hS.1) (fun z => h2 (hf q z))]; exact hS.2.1 q h1 h2, fun q hq => by
      rcases List.mem_append.mp hq with h | h
      · exact hS.2.2 q h
      · exact hf _ (hL q h)⟩ T' rfl X'
  exact ⟨t2, st t2 a1, b1⟩
variable {y : MethodName} {bytes cc : ByteArray} {maxL nL n index : Nat} {ret : Option FieldType} {wsc Ts : List Cond} {own Cn : String} {b : Addr} {As : List Value}
theorem PB_pre {av : List Value} (hN : NST s) (hK : va_K D vwCl ty s) (hP : va_P D vwCl ws H) (hD : va_D A0 ws) {is : List Nat} (hC : is.map (fun i => ws[i]?) = W0.map some) (hn : va_nd is = true) : ∀ U : State, U.heap = H → s.WarmedH U.vm → va_Pc av (PB D ty W0 H.size) av.toArray U :=
  fun U hU hW => ⟨rfl, by rw [hU], by rw [hU]; exact hP.sub2 hC, va_K.moved hW.alike hK, (hD.sub is hn hC).weaken (fun _ _ _ _ => trivial), hN.warm hW⟩
/-- a virtual call -/
theorem KM.callV (C0 : CallFix p m c cc nL s args Ts own) (hN : NST s) (hM : KM l D ty y wsc rm W0 (.ref b :: As) post W1) (cw : CallW R s args own Cn index y bytes maxL ret wsc rm rm.cells rm.slots n) (hK : va_K D vwCl ty s) (hP : va_P D vwCl ws H) (hD : va_D A0 ws) (hS : va_S A0 s.heap H locs) (hA : ∀ q, s.heap.size ≤ q → A0 q) (is : List Nat) (hC : is.map (fun i => ws[i]?) = W0.map some) (hnd : va_nd is = true) (hl : ∀ u, (W1 u).length = is.length)
    (q0 ci : Nat) {fs : List Value} {qc : vw_C} (hc : vwCl[ci]? = some qc) (hqc : qc.1 = Cn) (hrecv : ws[q0]? = some (b, .inr (ci, fs))) (hn : As.length = n) (hsize : ls.size = nL) (hstack : st0 = As.reverse ++ .ref b :: rest) (hW : (rest.map fun v => v.category).sum ≤ 8) (hdg : decode cc pc = .ok (.invokevirtual index, 3)) (hf : cells + rm.cells ≤ R.cells ∧ slots + rm.slots ≤ R.slots)
    (kk : ∀ (v : Option Value) (u : S) (H1 : Heap) (locs1 : List Loc), post v u → va_P D vwCl (plug ws is (W1 u)) H1 → va_D A0 (plug ws is (W1 u)) → va_S A0 s.heap H1 locs1 → W p l e R s m args below meth c H1 locs1 (cells + rm.cells) (slots + rm.slots) Q (F0 m (pc + 3) ls (v.toList ++ rest))) : W p l e R s m args below meth c H locs cells slots Q (F0 m pc ls st0) := by
  refine run_go (W0 := W0) (va_runV (As := As) (rest := rest) C0 (hM H.size) cw ⟨PB_blind, ?_, PB_pre hN hK hP hD hC hnd⟩ rfl hn hsize hstack (by show 2 * 0 + _ ≤ 8; omega) hdg hf) hP hD hS hA is hC hnd hl kk
  obtain ⟨cell, h1, h2, h3⟩ := va_recv hK hP hc hrecv
  exact ⟨cell, h1, h2, by rw [← hqc]; exact h3⟩
/-- a static call -/
theorem KM.callS (C0 : CallFix p m c cc nL s args Ts own) (hN : NST s) (hM : KM l D ty y wsc rm W0 As post W1) (cw : CallB R s args own index y bytes maxL ret wsc rm rm.cells rm.slots n ∧ (Cond.static y).before args s = true) (hK : va_K D vwCl ty s) (hP : va_P D vwCl ws H) (hD : va_D A0 ws) (hS : va_S A0 s.heap H locs) (hA : ∀ q, s.heap.size ≤ q → A0 q) (is : List Nat) (hC : is.map (fun i => ws[i]?) = W0.map some) (hnd : va_nd is = true) (hl : ∀ u, (W1 u).length = is.length)
    (hn : As.length = n) (hsize : ls.size = nL) (hstack : st0 = As.reverse ++ rest) (hW : (rest.map fun v => v.category).sum ≤ 8) (hdg : decode cc pc = .ok (.invokestatic index, 3)) (hf : cells + rm.cells ≤ R.cells ∧ slots + rm.slots ≤ R.slots)
    (kk : ∀ (v : Option Value) (u : S) (H1 : Heap) (locs1 : List Loc), post v u → va_P D vwCl (plug ws is (W1 u)) H1 → va_D A0 (plug ws is (W1 u)) → va_S A0 s.heap H1 locs1 → W p l e R s m args below meth c H1 locs1 (cells + rm.cells) (slots + rm.slots) Q (F0 m (pc + 3) ls (v.toList ++ rest))) : W p l e R s m args below meth c H locs cells slots Q (F0 m pc ls st0) :=
  run_go (W0 := W0) (va_runS (As := As) (rest := rest) C0 (hM H.size) cw ⟨PB_blind, PB_pre hN hK hP hD hC hnd⟩ rfl hn hsize hstack (by show 2 * 0 + _ ≤ 8; omega) hdg hf) hP hD hS hA is hC hnd hl kk
variable {host : String}
theorem KM.callSN (C0 : CallFix p m c cc nL s args Ts own) (hN : NST s) (hM : KM l D ty y wsc rm W0 As post W1) (cw : va_CN R s args own index y host bytes maxL ret wsc rm rm.cells rm.slots n ∧ (Cond.static y).before args s = true ∧ True) (hK : va_K D vwCl ty s) (hP : va_P D vwCl ws H) (hD : va_D A0 ws) (hS : va_S A0 s.heap H locs) (hA : ∀ q, s.heap.size ≤ q → A0 q) (is : List Nat) (hC : is.map (fun i => ws[i]?) = W0.map some) (hnd : va_nd is = true) (hl : ∀ u, (W1 u).length = is.length)
    (hn : As.length = n) (hsize : ls.size = nL) (hstack : st0 = As.reverse ++ rest) (hW : (rest.map fun v => v.category).sum ≤ 8) (hdg : decode cc pc = .ok (.invokestatic index, 3)) (hf : cells + rm.cells ≤ R.cells ∧ slots + rm.slots ≤ R.slots)
    (kk : ∀ (v : Option Value) (u : S) (H1 : Heap) (locs1 : List Loc), post v u → va_P D vwCl (plug ws is (W1 u)) H1 → va_D A0 (plug ws is (W1 u)) → va_S A0 s.heap H1 locs1 → W p l e R s m args below meth c H1 locs1 (cells + rm.cells) (slots + rm.slots) Q (F0 m (pc + 3) ls (v.toList ++ rest))) : W p l e R s m args below meth c H locs cells slots Q (F0 m pc ls st0) :=
  run_go (W0 := W0) (va_runSN (As := As) (rest := rest) C0 (hM H.size) cw ⟨PB_blind, PB_pre hN hK hP hD hC hnd⟩ rfl hn hsize hstack (by show 2 * 0 + _ ≤ 8; omega) hdg hf) hP hD hS hA is hC hnd hl kk
theorem KM.callI (C0 : CallFix p m c cc nL s args Ts own) (hN : NST s) (hM : KM l D ty y wsc rm W0 (.ref b :: As) post W1) (cw : CallB R s args own index y bytes maxL none wsc rm rm.cells rm.slots n ∧ y.name = "<init>" ∧ (Cond.instanceMethod y).before args s = true) (hK : va_K D vwCl ty s) (hP : va_P D vwCl ws H) (hD : va_D A0 ws) (hS : va_S A0 s.heap H locs) (hA : ∀ q, s.heap.size ≤ q → A0 q) (is : List Nat) (hC : is.map (fun i => ws[i]?) = W0.map some) (hnd : va_nd is = true) (hl : ∀ u, (W1 u).length = is.length)
    (hn : As.length = n) (hsize : ls.size = nL) (hstack : st0 = As.reverse ++ .ref b :: rest) (hW : (rest.map fun v => v.category).sum ≤ 8) (hdg : decode cc pc = .ok (.invokespecial index, 3)) (hf : cells + rm.cells ≤ R.cells ∧ slots + rm.slots ≤ R.slots)
    (kk : ∀ (v : Option Value) (u : S) (H1 : Heap) (locs1 : List Loc), post v u → va_P D vwCl (plug ws is (W1 u)) H1 → va_D A0 (plug ws is (W1 u)) → va_S A0 s.heap H1 locs1 → W p l e R s m args below meth c H1 locs1 (cells + rm.cells) (slots + rm.slots) Q (F0 m (pc + 3) ls (v.toList ++ rest))) : W p l e R s m args below meth c H locs cells slots Q (F0 m pc ls st0) :=
  run_go (W0 := W0) (va_runI (As := As) (rest := rest) C0 (hM H.size) cw ⟨PB_blind, PB_pre hN hK hP hD hC hnd⟩ rfl hn hsize hstack (by show 2 * 0 + _ ≤ 8; omega) hdg hf) hP hD hS hA is hC hnd hl kk
theorem KM.callIN (C0 : CallFix p m c cc nL s args Ts own) (hN : NST s) (hM : KM l D ty y wsc rm W0 (.ref b :: As) post W1) (cw : va_CN R s args own index y host bytes maxL none wsc rm rm.cells rm.slots n ∧ y.name = "<init>" ∧ (Cond.instanceMethod y).before args s = true) (hK : va_K D vwCl ty s) (hP : va_P D vwCl ws H) (hD : va_D A0 ws) (hS : va_S A0 s.heap H locs) (hA : ∀ q, s.heap.size ≤ q → A0 q) (is : List Nat) (hC : is.map (fun i => ws[i]?) = W0.map some) (hnd : va_nd is = true) (hl : ∀ u, (W1 u).length = is.length)
    (hn : As.length = n) (hsize : ls.size = nL) (hstack : st0 = As.reverse ++ .ref b :: rest) (hW : (rest.map fun v => v.category).sum ≤ 8) (hdg : decode cc pc = .ok (.invokespecial index, 3)) (hf : cells + rm.cells ≤ R.cells ∧ slots + rm.slots ≤ R.slots)
    (kk : ∀ (v : Option Value) (u : S) (H1 : Heap) (locs1 : List Loc), post v u → va_P D vwCl (plug ws is (W1 u)) H1 → va_D A0 (plug ws is (W1 u)) → va_S A0 s.heap H1 locs1 → W p l e R s m args below meth c H1 locs1 (cells + rm.cells) (slots + rm.slots) Q (F0 m (pc + 3) ls (v.toList ++ rest))) : W p l e R s m args below meth c H locs cells slots Q (F0 m pc ls st0) :=
  run_go (W0 := W0) (va_runIN (As := As) (rest := rest) C0 (hM H.size) cw ⟨PB_blind, PB_pre hN hK hP hD hC hnd⟩ rfl hn hsize hstack (by show 2 * 0 + _ ≤ 8; omega) hdg hf) hP hD hS hA is hC hnd hl kk
end KCALL
section KSTEP
variable {p : Program} {l : Launch} {e : Env} {R : Room} {s : State} {m : MethodId} {args : Array Value} {below : List Frame} {meth : Method} {c : Code} {H : Heap} {locs : List Loc} {cells slots : Nat} {Q : State → Prop}
variable {pc : Nat} {ls : Array Slot} {rest : List Value} {cc : ByteArray} {a b : Nat} {off : Int} {tgt : Nat}
theorem q_iadd (hx : p.tables.exec = Jvm.exec) (hb : c.code = cc) (hdg : decode cc pc = .ok (.iadd, 1)) (k : W p l e R s m args below meth c H locs cells slots Q (F0 m (pc + 1) ls (.int (nI (a + b)) :: rest))) : W p l e R s m args below meth c H locs cells slots Q (F0 m pc ls (.int (nI b) :: .int (nI a) :: rest)) := lv_iadd hx hb hdg (by rw [nI_add]; exact k)
theorem q_imul (hx : p.tables.exec = Jvm.exec) (hb : c.code = cc) (hdg : decode cc pc = .ok (.imul, 1)) (k : W p l e R s m args below meth c H locs cells slots Q (F0 m (pc + 1) ls (.int (nI (a * b)) :: rest))) : W p l e R s m args below meth c H locs cells slots Q (F0 m pc ls (.int (nI b) :: .int (nI a) :: rest)) := lv_imul hx hb hdg (by rw [pk_mul]; exact k)
theorem q_isub (h : b ≤ a) (hx : p.tables.exec = Jvm.exec) (hb : c.code = cc) (hdg : decode cc pc = .ok (.isub, 1)) (k : W p l e R s m args below meth c H locs cells slots Q (F0 m (pc + 1) ls (.int (nI (a - b)) :: rest))) : W p l e R s m args below meth c H locs cells slots Q (F0 m pc ls (.int (nI b) :: .int (nI a) :: rest)) := lv_isub hx hb hdg (by rw [pk_sub h]; exact k)
theorem q_idiv (h1 : a < 2 ^ 31) (h2 : 0 < b) (h3 : b < 2 ^ 31) (hx : p.tables.exec = Jvm.exec) (hb : c.code = cc) (hdg : decode cc pc = .ok (.idiv, 1)) (k : W p l e R s m args below meth c H locs cells slots Q (F0 m (pc + 1) ls (.int (nI (a / b)) :: rest))) : W p l e R s m args below meth c H locs cells slots Q (F0 m pc ls (.int (nI b) :: .int (nI a) :: rest)) := lv_idiv hx hb hdg (nI_ne0 h2 h3) (by rw [pk_div h1 h2 h3]; exact k)
theorem q_irem (h1 : a < 2 ^ 31) (h2 : 0 < b) (h3 : b < 2 ^ 31) (hx : p.tables.exec = Jvm.exec) (hb : c.code = cc) (hdg : decode cc pc = .ok (.irem, 1)) (k : W p l e R s m args below meth c H locs cells slots Q (F0 m (pc + 1) ls (.int (nI (a % b)) :: rest))) : W p l e R s m args below meth c H locs cells slots Q (F0 m pc ls (.int (nI b) :: .int (nI a) :: rest)) := lv_irem hx hb hdg (nI_ne0 h2 h3) (by rw [pk_rem h1 h2 h3]; exact k)
theorem q_topi {x y : Int32} (h : x = y) (k : W p l e R s m args below meth c H locs cells slots Q (F0 m pc ls (.int y :: rest))) : W p l e R s m args below meth c H locs cells slots Q (F0 m pc ls (.int x :: rest)) := by rw [h]; exact k
theorem q_ige (ha : a < 2 ^ 31) (hb' : b < 2 ^ 31) (hx : p.tables.exec = Jvm.exec) (hb : c.code = cc) (hdg : decode cc pc = .ok (.if_icmp .ge off, 3)) (ht : (pc : Int) + off = (tgt : Int)) (kt : b ≤ a → W p l e R s m args below meth c H locs cells slots Q (F0 m tgt ls rest)) (kf : a < b → W p l e R s m args below meth c H locs cells slots Q (F0 m (pc + 3) ls rest)) : W p l e R s m args below meth c H locs cells slots Q (F0 m pc ls (.int (nI b) :: .int (nI a) :: rest)) := lv_icmp_ge hx hb hdg ht (fun h => kt ((nI_leI hb' ha).mp h)) (fun h => kf (by rw [nI_leI hb' ha] at h; omega))
theorem q_ilt (ha : a < 2 ^ 31) (hb' : b < 2 ^ 31) (hx : p.tables.exec = Jvm.exec) (hb : c.code = cc) (hdg : decode cc pc = .ok (.if_icmp .lt off, 3)) (ht : (pc : Int) + off = (tgt : Int)) (kt : a < b → W p l e R s m args below meth c H locs cells slots Q (F0 m tgt ls rest)) (kf : b ≤ a → W p l e R s m args below meth c H locs cells slots Q (F0 m (pc + 3) ls rest)) : W p l e R s m args below meth c H locs cells slots Q (F0 m pc ls (.int (nI b) :: .int (nI a) :: rest)) := lv_icmp_lt hx hb hdg ht (fun h => kt ((nI_ltI ha hb').mp h)) (fun h => kf (by rw [nI_ltI ha hb'] at h; omega))
theorem q_igt (ha : a < 2 ^ 31) (hb' : b < 2 ^ 31) (hx : p.tables.exec = Jvm.exec) (hb : c.code = cc) (hdg : decode cc pc = .ok (.if_icmp .gt off, 3)) (ht : (pc : Int) + off = (tgt : Int)) (kt : b < a → W p l e R s m args below meth c H locs cells slots Q (F0 m tgt ls rest)) (kf : a ≤ b → W p l e R s m args below meth c H locs cells slots Q (F0 m (pc + 3) ls rest)) : W p l e R s m args below meth c H locs cells slots Q (F0 m pc ls (.int (nI b) :: .int (nI a) :: rest)) := lv_icmp_gt hx hb hdg ht (fun h => kt ((nI_ltI hb' ha).mp h)) (fun h => kf (by rw [nI_ltI hb' ha] at h; omega))
theorem q_ile (ha : a < 2 ^ 31) (hb' : b < 2 ^ 31) (hx : p.tables.exec = Jvm.exec) (hb : c.code = cc) (hdg : decode cc pc = .ok (.if_icmp .le off, 3)) (ht : (pc : Int) + off = (tgt : Int)) (kt : a ≤ b → W p l e R s m args below meth c H locs cells slots Q (F0 m tgt ls rest)) (kf : b < a → W p l e R s m args below meth c H locs cells slots Q (F0 m (pc + 3) ls rest)) : W p l e R s m args below meth c H locs cells slots Q (F0 m pc ls (.int (nI b) :: .int (nI a) :: rest)) := lv_icmp_le hx hb hdg ht (fun h => kt ((nI_leI ha hb').mp h)) (fun h => kf (by rw [nI_leI ha hb'] at h; omega))
theorem q_ieq (ha : a < 2 ^ 31) (hb' : b < 2 ^ 31) (hx : p.tables.exec = Jvm.exec) (hb : c.code = cc) (hdg : decode cc pc = .ok (.if_icmp .eq off, 3)) (ht : (pc : Int) + off = (tgt : Int)) (kt : a = b → W p l e R s m args below meth c H locs cells slots Q (F0 m tgt ls rest)) (kf : a ≠ b → W p l e R s m args below meth c H locs cells slots Q (F0 m (pc + 3) ls rest)) : W p l e R s m args below meth c H locs cells slots Q (F0 m pc ls (.int (nI b) :: .int (nI a) :: rest)) := lv_icmp_eq hx hb hdg ht (fun h => kt ((nI_eq ha hb').mp h)) (fun h => kf (fun g => h ((nI_eq ha hb').mpr g)))
theorem q_ine (ha : a < 2 ^ 31) (hb' : b < 2 ^ 31) (hx : p.tables.exec = Jvm.exec) (hb : c.code = cc) (hdg : decode cc pc = .ok (.if_icmp .ne off, 3)) (ht : (pc : Int) + off = (tgt : Int)) (kt : a ≠ b → W p l e R s m args below meth c H locs cells slots Q (F0 m tgt ls rest)) (kf : a = b → W p l e R s m args below meth c H locs cells slots Q (F0 m (pc + 3) ls rest)) : W p l e R s m args below meth c H locs cells slots Q (F0 m pc ls (.int (nI b) :: .int (nI a) :: rest)) := lv_icmp_ne hx hb hdg ht (fun h => kt (fun g => h ((nI_eq ha hb').mpr g))) (fun h => kf ((nI_eq ha hb').mp h))
theorem q_feq (ha : a < 2 ^ 31) (hx : p.tables.exec = Jvm.exec) (hb : c.code = cc) (hdg : decode cc pc = .ok (.ifCond .eq off, 3)) (ht : (pc : Int) + off = (tgt : Int)) (kt : a = 0 → W p l e R s m args below meth c H locs cells slots Q (F0 m tgt ls rest)) (kf : a ≠ 0 → W p l e R s m args below meth c H locs cells slots Q (F0 m (pc + 3) ls rest)) : W p l e R s m args below meth c H locs cells slots Q (F0 m pc ls (.int (nI a) :: rest)) := lv_if_eq hx hb hdg ht (fun h => kt (by rw [← nI_0] at h; exact (nI_eq ha (by omega)).mp h)) (fun h => kf (fun g => h (by rw [g]; exact nI_0)))
theorem q_fne (ha : a < 2 ^ 31) (hx : p.tables.exec = Jvm.exec) (hb : c.code = cc) (hdg : decode cc pc = .ok (.ifCond .ne off, 3)) (ht : (pc : Int) + off = (tgt : Int)) (kt : a ≠ 0 → W p l e R s m args below meth c H locs cells slots Q (F0 m tgt ls rest)) (kf : a = 0 → W p l e R s m args below meth c H locs cells slots Q (F0 m (pc + 3) ls rest)) : W p l e R s m args below meth c H locs cells slots Q (F0 m pc ls (.int (nI a) :: rest)) := lv_if_ne hx hb hdg ht (fun h => kt (fun g => h (by rw [g]; exact nI_0))) (fun h => kf (by rw [← nI_0] at h; exact (nI_eq ha (by omega)).mp h))
theorem q_fle (ha : a < 2 ^ 31) (hx : p.tables.exec = Jvm.exec) (hb : c.code = cc) (hdg : decode cc pc = .ok (.ifCond .le off, 3)) (ht : (pc : Int) + off = (tgt : Int)) (kt : a = 0 → W p l e R s m args below meth c H locs cells slots Q (F0 m tgt ls rest)) (kf : a ≠ 0 → W p l e R s m args below meth c H locs cells slots Q (F0 m (pc + 3) ls rest)) : W p l e R s m args below meth c H locs cells slots Q (F0 m pc ls (.int (nI a) :: rest)) := lv_if_le hx hb hdg ht (fun h => kt (by rw [← nI_0, nI_leI ha (by omega)] at h; omega)) (fun h => kf (fun g => h (by rw [g, nI_0]; decide)))
theorem q_fgt (ha : a < 2 ^ 31) (hx : p.tables.exec = Jvm.exec) (hb : c.code = cc) (hdg : decode cc pc = .ok (.ifCond .gt off, 3)) (ht : (pc : Int) + off = (tgt : Int)) (kt : a ≠ 0 → W p l e R s m args below meth c H locs cells slots Q (F0 m tgt ls rest)) (kf : a = 0 → W p l e R s m args below meth c H locs cells slots Q (F0 m (pc + 3) ls rest)) : W p l e R s m args below meth c H locs cells slots Q (F0 m pc ls (.int (nI a) :: rest)) := lv_if_gt hx hb hdg ht (fun h => kt (fun g => by rw [g, nI_0] at h; exact absurd h (by decide))) (fun h => kf (by rw [← nI_0, nI_ltI (by omega) ha] at h; omega))
theorem q_iald {D : va_G} {ty : List (ClassId × FieldType)} {ws : va_W} {n : Nat} {f : Nat → Nat} {q : Nat} {cA : ClassId} (q0 t0 : Nat) (hj : b < n) (hn : n < 2 ^ 31) (hx : p.tables.exec = Jvm.exec) (hb : c.code = cc) (hK : va_K D vwCl ty s) (hP : va_P D vwCl ws H) (ha : ws[q0]? = some (q, .inl (cA, n, .inl (ro n f)))) (ht : ty[t0]? = some (cA, .int)) (hdg : decode cc pc = .ok (.iaload, 1)) (kk : W p l e R s m args below meth c H locs cells slots Q (F0 m (pc + 1) ls (.int (nI (f b)) :: rest))) : W p l e R s m args below meth c H locs cells slots Q (F0 m pc ls (.int (nI b) :: .ref q :: rest)) :=
  va_iald hx hb hK hP q0 t0 ha ht (vp_in_nI hj hn) hdg (by rw [ro_at hj hn]; exact kk)
theorem q_iast {D : va_G} {ty : List (ClassId × FieldType)} {ws : va_W} {n : Nat} {f : Nat → Nat} {q v : Nat} {cA : ClassId} {A : Nat → Prop} {H0 : Heap} (q0 t0 : Nat) (hj : b < n) (hn : n < 2 ^ 31) (hx : p.tables.exec = Jvm.exec) (hb : c.code = cc) (hK : va_K D vwCl ty s) (hP : va_P D vwCl ws H) (hD : va_D A ws) (hS : va_S A H0 H locs) (ha : ws[q0]? = some (q, .inl (cA, n, .inl (ro n f)))) (ht : ty[t0]? = some (cA, .int)) (hdg : decode cc pc = .ok (.iastore, 1)) (kk : ∀ (H1 : Heap) (locs1 : List Loc), va_P D vwCl (ws.set q0 (q, .inl (cA, n, .inl (ro n (upN f b v))))) H1 → va_D A (ws.set q0 (q, .inl (cA, n, .inl (ro n (upN f b v))))) → va_S A H0 H1 locs1 → W p l e R s m args below meth c H1 locs1 cells slots Q (F0 m (pc + 1) ls rest)) : W p l e R s m args below meth c H locs cells slots Q (F0 m pc ls (.int (nI v) :: .int (nI b) :: .ref q :: rest)) :=
  va_iast hx hb hK hP hD hS q0 t0 ha ht (vp_in_nI hj hn) hdg (fun H1 locs1 h1 h2 h3 => kk H1 locs1 (by rw [ro_up hj hn] at h1; exact h1) (by rw [ro_up hj hn] at h2; exact h2) h3)
end KSTEP
