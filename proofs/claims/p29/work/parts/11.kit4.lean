/-! my kit, fourth part: worlds by their members -/
theorem va_P_iff {D : va_G} {ws : va_W} {H : Heap} : va_P D vwCl ws H ↔ ∀ q ∈ ws, va_at D vwCl q H := by
  constructor
  · intro h q hq
    obtain ⟨k, hk⟩ := List.getElem?_of_mem hq
    exact h k q hk
  · intro h k q hk
    exact h q (List.mem_of_getElem? hk)
theorem va_D_iff {A : Nat → Prop} {ws : va_W} : va_D A ws ↔ (ws.map (fun q => q.1)).Nodup ∧ ∀ q ∈ ws, A q.1 := by
  constructor
  · intro h
    refine ⟨List.pairwise_iff_getElem.mpr (fun i j hi hj hij => ?_), fun q hq => ?_⟩
    · simp only [List.length_map] at hi hj
      simp only [List.getElem_map]
      intro he
      have := h.1 i j ws[i] ws[j] (List.getElem?_eq_getElem hi) (List.getElem?_eq_getElem hj) he
      omega
    · obtain ⟨k, hk⟩ := List.getElem?_of_mem hq
      exact h.2 k q hk
  · rintro ⟨h1, h2⟩
    refine ⟨fun i j p q hi hj he => ?_, fun k q hk => h2 q (List.mem_of_getElem? hk)⟩
    obtain ⟨hi1, hi2⟩ := List.getElem?_eq_some_iff.mp hi
    obtain ⟨hj1, hj2⟩ := List.getElem?_eq_some_iff.mp hj
    have hp := List.pairwise_iff_getElem.mp h1
    rcases Nat.lt_trichotomy i j with h | h | h
    · have := hp i j (by simpa using hi1) (by simpa using hj1) h
      simp only [List.getElem_map] at this
      rw [hi2, hj2] at this
      exact absurd he this
    · exact h
    · have := hp j i (by simpa using hj1) (by simpa using hi1) h
      simp only [List.getElem_map] at this
      rw [hi2, hj2] at this
      exact absurd he.symm this
section KCALLM
variable {p : Program} {l : Launch} {e : Env} {R : Room} {s : State} {m : MethodId} {args : Array Value} {below : List Frame} {meth : Method} {c : Code} {H : Heap} {locs : List Loc} {cells slots : Nat} {Q : State → Prop}
variable {pc : Nat} {ls : Array Slot} {rest st0 : List Value} {a : Array Value} {A0 : Nat → Prop} {D : va_G} {ty : List (ClassId × FieldType)} {ws W0 : va_W} {rm : Room} {S : Type} {post : Option Value → S → Prop} {W1 ws' : S → va_W}
theorem run_goM {mc ms : Nat} (hr : va_Run p l e R s m args below meth c H locs cells slots mc ms (F0 m pc ls st0) rest (KQ post (PA D ty W0 H.size W1) (va_A W0 H.size) a) (va_A W0 H.size)) (hP : va_P D vwCl ws H) (hD : va_D A0 ws) (hS : va_S A0 s.heap H locs) (hA : ∀ q, s.heap.size ≤ q → A0 q) (hsub : ∀ q ∈ W0, q ∈ ws) (hadr : ∀ u, ((ws' u).map (fun q => q.1)).Perm (ws.map (fun q => q.1))) (hmem : ∀ u q, q ∈ ws' u → q ∈ W1 u ∨ (q ∈ ws ∧ q.1 ∉ W0.map (fun q => q.1)))
    (kk : ∀ (v : Option Value) (u : S) (H1 : Heap) (locs1 : List Loc), post v u → va_P D vwCl (ws' u) H1 → va_D A0 (ws' u) → va_S A0 s.heap H1 locs1 → W p l e R s m args below meth c H1 locs1 (cells + mc) (slots + ms) Q (F0 m (pc + 3) ls (v.toList ++ rest))) : W p l e R s m args below meth c H locs cells slots Q (F0 m pc ls st0) := by
  have hf : ∀ q, va_A W0 H.size q → A0 q := by
    intro q h
    rcases h with ⟨k, e, h⟩ | h
    · exact (va_D_iff.mp hD).2 (q, e) (hsub _ (List.mem_of_getElem? h))
    · exact hA q (Nat.le_trans hS.1 h)
  intro T hT X
  obtain ⟨v, st₀, t, T', L, h0, X', hL, e1, e2, ⟨⟨v', u, hv, hp, hb1, hb2, hb3⟩, hz, hk⟩, st⟩ := hr T hT X
  cases hv
  rw [h0] at hz hk
  have hP1 : va_P D vwCl (ws' u) t.heap := by
    refine va_P_iff.mpr fun q hq => ?_
    rcases hmem u q hq with h | ⟨h1, h2⟩
    · exact va_P_iff.mp hb1 q h
    · have hlt : q.1 < H.size := (va_P_iff.mp hP q h1).lt
      refine (va_P_iff.mp hP q h1).kept (hk q.1 hlt ?_)
      rintro (⟨k, e, h⟩ | h)
      · exact h2 (List.mem_map.mpr ⟨(q.1, e), List.mem_of_getElem? h, rfl⟩)
      · omega
  have hD1 : va_D A0 (ws' u) := by
    refine va_D_iff.mpr ⟨((hadr u).nodup_iff).mpr (va_D_iff.mp hD).1, fun q hq => ?_⟩
    have : q.1 ∈ ws.map (fun q => q.1) := (hadr u).mem_iff.mp (List.mem_map.mpr ⟨q, hq, rfl⟩)
    obtain ⟨q2, h1, h2⟩ := List.mem_map.mp this
    rw [← h2]
    exact (va_D_iff.mp hD).2 q2 h1
  rw [← e1] at hP1
  obtain ⟨t2, a1, b1⟩ := kk v u T'.heap (locs ++ L) hp hP1 hD1
    ⟨Nat.le_trans hS.1 (by rw [e1]; exact hz), fun q h1 h2 => by rw [e1, hk q (Nat.lt_of_lt_of_le h1 hS.1) (fun z => h2 (hf q z))]; exact hS.2.1 q h1 h2, fun q hq => by
      rcases List.mem_append.mp hq with h | h
      · exact hS.2.2 q h
      · exact hf _ (hL q h)⟩ T' rfl X'
  exact ⟨t2, st t2 a1, b1⟩
variable {y : MethodName} {bytes cc : ByteArray} {maxL nL n index : Nat} {ret : Option FieldType} {wsc Ts : List Cond} {own Cn : String} {b : Addr} {As : List Value}
theorem KM.callVM (C0 : CallFix p m c cc nL s args Ts own) (hN : NST s) (hM : KM l D ty y wsc rm W0 (.ref b :: As) post W1) (cw : CallW R s args own Cn index y bytes maxL ret wsc rm rm.cells rm.slots n) (hK : va_K D vwCl ty s) (hP : va_P D vwCl ws H) (hD : va_D A0 ws) (hS : va_S A0 s.heap H locs) (hA : ∀ q, s.heap.size ≤ q → A0 q) (hsub : ∀ q ∈ W0, q ∈ ws) (hnd : (W0.map (fun q => q.1)).Nodup) (hadr : ∀ u, ((ws' u).map (fun q => q.1)).Perm (ws.map (fun q => q.1))) (hmem : ∀ u q, q ∈ ws' u → q ∈ W1 u ∨ (q ∈ ws ∧ q.1 ∉ W0.map (fun q => q.1)))
    (q0 ci : Nat) {fs : List Value} {qc : vw_C} (hc : vwCl[ci]? = some qc) (hqc : qc.1 = Cn) (hrecv : W0[q0]? = some (b, .inr (ci, fs))) (hn : As.length = n) (hsize : ls.size = nL) (hstack : st0 = As.reverse ++ .ref b :: rest) (hW : (rest.map fun v => v.category).sum ≤ 8) (hdg : decode cc pc = .ok (.invokevirtual index, 3)) (hf : cells + rm.cells ≤ R.cells ∧ slots + rm.slots ≤ R.slots)
    (kk : ∀ (v : Option Value) (u : S) (H1 : Heap) (locs1 : List Loc), post v u → va_P D vwCl (ws' u) H1 → va_D A0 (ws' u) → va_S A0 s.heap H1 locs1 → W p l e R s m args below meth c H1 locs1 (cells + rm.cells) (slots + rm.slots) Q (F0 m (pc + 3) ls (v.toList ++ rest))) : W p l e R s m args below meth c H locs cells slots Q (F0 m pc ls st0) := by
  have hP0 : va_P D vwCl W0 H := va_P_iff.mpr fun q hq => va_P_iff.mp hP q (hsub q hq)
  refine run_goM (W0 := W0) (va_runV (As := As) (rest := rest) C0 (hM H.size) cw ⟨PB_blind, ?_, fun U hU hW => ⟨rfl, by rw [hU], by rw [hU]; exact hP0, va_K.moved hW.alike hK, va_D_iff.mpr ⟨hnd, fun _ _ => trivial⟩, hN.warm hW⟩⟩ rfl hn hsize hstack (by show 2 * 0 + _ ≤ 8; omega) hdg hf) hP hD hS hA hsub hadr hmem kk
  obtain ⟨cell, h1, h2, h3⟩ := va_recv hK hP0 hc hrecv
  exact ⟨cell, h1, h2, by rw [← hqc]; exact h3⟩
end KCALLM
/-- two parts of a world are changed, all else stays -/
theorem two_mem {A : Nat → Prop} {L X M Y R X' Y' : va_W} (hD : va_D A (L ++ (X ++ (M ++ (Y ++ R))))) {q : Nat × va_E} (hq : q ∈ L ++ (X' ++ (M ++ (Y' ++ R)))) : (q ∈ X' ∨ q ∈ Y') ∨ (q ∈ L ++ (X ++ (M ++ (Y ++ R))) ∧ q.1 ∉ X.map (fun q => q.1) ∧ q.1 ∉ Y.map (fun q => q.1)) := by
  have hn := (va_D_iff.mp hD).1
  simp only [List.map_append, List.nodup_append, List.mem_append, List.mem_map] at hn
  obtain ⟨-, ⟨-, ⟨-, ⟨-, -, n4⟩, n3⟩, n2⟩, n1⟩ := hn
  have hx : ∀ z : Nat × va_E, z ∈ X → ∃ a, a ∈ X ∧ a.1 = z.1 := fun z h => ⟨z, h, rfl⟩
  simp only [List.mem_append] at hq ⊢
  have no : ∀ {P : va_W}, (∀ z ∈ P, q.1 ≠ z.1) → q.1 ∉ P.map (fun q => q.1) := fun h z => by
    obtain ⟨w, h1, h2⟩ := List.mem_map.mp z
    exact h w h1 h2.symm
  rcases hq with h | h | h | h | h
  · exact Or.inr ⟨Or.inl h, no fun z hz => n1 q.1 ⟨q, h, rfl⟩ z.1 (Or.inl ⟨z, hz, rfl⟩), no fun z hz => n1 q.1 ⟨q, h, rfl⟩ z.1 (Or.inr (Or.inr (Or.inl ⟨z, hz, rfl⟩)))⟩
  · exact Or.inl (Or.inl h)
  · exact Or.inr ⟨Or.inr (Or.inr (Or.inl h)), no fun z hz => (n2 z.1 ⟨z, hz, rfl⟩ q.1 (Or.inl ⟨q, h, rfl⟩)).symm, no fun z hz => n3 q.1 ⟨q, h, rfl⟩ z.1 (Or.inl ⟨z, hz, rfl⟩)⟩
  · exact Or.inl (Or.inr h)
  · exact Or.inr ⟨Or.inr (Or.inr (Or.inr (Or.inr h))), no fun z hz => (n2 z.1 ⟨z, hz, rfl⟩ q.1 (Or.inr (Or.inr ⟨q, h, rfl⟩))).symm, no fun z hz => (n4 z.1 ⟨z, hz, rfl⟩ q.1 ⟨q, h, rfl⟩).symm⟩
theorem shw_adr (cI : ClassId) (a s fl : Nat → Nat) : (shw cI a s fl).map (fun q => q.1) = [a 0, a 1, a 2, a 3, a 4, a 5, a 6, a 7, a 8, a 9, a 10, a 11, a 12, a 13, a 14] := rfl
/-- six shows -/
def b6 (cI : ClassId) (ad t fl : Nat → Nat → Nat) : va_W := shw cI (ad 0) (t 0) (fl 0) ++ (shw cI (ad 1) (t 1) (fl 1) ++ (shw cI (ad 2) (t 2) (fl 2) ++ (shw cI (ad 3) (t 3) (fl 3) ++ (shw cI (ad 4) (t 4) (fl 4) ++ shw cI (ad 5) (t 5) (fl 5)))))
def upF (t : Nat → Nat → Nat) (i : Nat) (s : Nat → Nat) : Nat → Nat → Nat := fun j => if j = i then s else t j
theorem b6_split {cI : ClassId} {ad t fl : Nat → Nat → Nat} {k : Nat} (hk : k < 6) : ∃ L M : va_W, b6 cI ad t fl = L ++ (shw cI (ad k) (t k) (fl k) ++ M) ∧ ∀ s, b6 cI ad (upF t k s) fl = L ++ (shw cI (ad k) s (fl k) ++ M) := by
  rcases (show k = 0 ∨ k = 1 ∨ k = 2 ∨ k = 3 ∨ k = 4 ∨ k = 5 by omega) with rfl | rfl | rfl | rfl | rfl | rfl
  · exact ⟨[], _, rfl, fun s => rfl⟩
  · exact ⟨shw cI (ad 0) (t 0) (fl 0), _, rfl, fun s => rfl⟩
  · exact ⟨shw cI (ad 0) (t 0) (fl 0) ++ shw cI (ad 1) (t 1) (fl 1), shw cI (ad 3) (t 3) (fl 3) ++ (shw cI (ad 4) (t 4) (fl 4) ++ shw cI (ad 5) (t 5) (fl 5)), by simp only [b6, List.append_assoc], fun s => by rw [List.append_assoc]; rfl⟩
  · exact ⟨shw cI (ad 0) (t 0) (fl 0) ++ (shw cI (ad 1) (t 1) (fl 1) ++ shw cI (ad 2) (t 2) (fl 2)), shw cI (ad 4) (t 4) (fl 4) ++ shw cI (ad 5) (t 5) (fl 5), by simp only [b6, List.append_assoc], fun s => by rw [List.append_assoc, List.append_assoc]; rfl⟩
  · exact ⟨shw cI (ad 0) (t 0) (fl 0) ++ (shw cI (ad 1) (t 1) (fl 1) ++ (shw cI (ad 2) (t 2) (fl 2) ++ shw cI (ad 3) (t 3) (fl 3))), shw cI (ad 5) (t 5) (fl 5), by simp only [b6, List.append_assoc], fun s => by rw [List.append_assoc, List.append_assoc, List.append_assoc]; rfl⟩
  · exact ⟨shw cI (ad 0) (t 0) (fl 0) ++ (shw cI (ad 1) (t 1) (fl 1) ++ (shw cI (ad 2) (t 2) (fl 2) ++ (shw cI (ad 3) (t 3) (fl 3) ++ shw cI (ad 4) (t 4) (fl 4)))), [], by simp only [b6, List.append_assoc, List.append_nil], fun s => by rw [List.append_assoc, List.append_assoc, List.append_assoc, List.append_assoc, List.append_nil]; rfl⟩
theorem b6_rot {cI : ClassId} {ad t fl : Nat → Nat → Nat} : (b6 cI (rotA ad) (rotA t) (rotA fl)).Perm (b6 cI ad t fl) := by
  show (shw cI (ad 1) (t 1) (fl 1) ++ (shw cI (ad 2) (t 2) (fl 2) ++ (shw cI (ad 3) (t 3) (fl 3) ++ (shw cI (ad 4) (t 4) (fl 4) ++ (shw cI (ad 5) (t 5) (fl 5) ++ shw cI (ad 0) (t 0) (fl 0)))))).Perm _
  unfold b6
  refine List.Perm.trans ?_ List.perm_append_comm
  simp only [List.append_assoc]
  exact List.Perm.refl _
theorem perm_P {D : va_G} {w w' : va_W} {H : Heap} (hp : w'.Perm w) (h : va_P D vwCl w H) : va_P D vwCl w' H := va_P_iff.mpr fun q hq => va_P_iff.mp h q (hp.mem_iff.mp hq)
theorem perm_D {A : Nat → Prop} {w w' : va_W} (hp : w'.Perm w) (h : va_D A w) : va_D A w' := va_D_iff.mpr ⟨((hp.map (fun q => q.1)).nodup_iff).mpr (va_D_iff.mp h).1, fun q hq => (va_D_iff.mp h).2 q (hp.mem_iff.mp hq)⟩
theorem upF_id (t : Nat → Nat → Nat) (k : Nat) : upF t k (t k) = t := by
  funext j
  unfold upF
  split
  · next h => rw [h]
  · rfl
theorem b6_hold {A : Nat → Prop} {L0 S S' : va_W} {cI : ClassId} {ad t fl : Nat → Nat → Nat} {k : Nat} {s' : Nat → Nat} (hk : k < 6) (hD : va_D A (L0 ++ (b6 cI ad t fl ++ S))) (hS' : S'.map (fun q => q.1) = S.map (fun q => q.1)) :
    (∀ q, (q ∈ shw cI (ad k) (t k) (fl k) ∨ q ∈ S) → q ∈ L0 ++ (b6 cI ad t fl ++ S)) ∧ ((shw cI (ad k) (t k) (fl k) ++ S).map (fun q => q.1)).Nodup ∧ (L0 ++ (b6 cI ad (upF t k s') fl ++ S')).map (fun q => q.1) = (L0 ++ (b6 cI ad t fl ++ S)).map (fun q => q.1) ∧
    ∀ q ∈ L0 ++ (b6 cI ad (upF t k s') fl ++ S'), (q ∈ shw cI (ad k) s' (fl k) ∨ q ∈ S') ∨ (q ∈ L0 ++ (b6 cI ad t fl ++ S) ∧ q.1 ∉ (shw cI (ad k) (t k) (fl k)).map (fun q => q.1) ∧ q.1 ∉ S.map (fun q => q.1)) := by
  obtain ⟨L, M, e1, e2⟩ := b6_split (cI := cI) (ad := ad) (t := t) (fl := fl) hk
  have f1 : L0 ++ (b6 cI ad t fl ++ S) = (L0 ++ L) ++ (shw cI (ad k) (t k) (fl k) ++ (M ++ (S ++ []))) := by rw [e1]; simp only [List.append_assoc, List.append_nil]
  have f2 : L0 ++ (b6 cI ad (upF t k s') fl ++ S') = (L0 ++ L) ++ (shw cI (ad k) s' (fl k) ++ (M ++ (S' ++ []))) := by rw [e2]; simp only [List.append_assoc, List.append_nil]
  rw [f1] at hD ⊢
  rw [f2]
  refine ⟨fun q hq => ?_, ?_, ?_, fun q hq => two_mem hD hq⟩
  · simp only [List.mem_append]
    rcases hq with h | h
    · exact Or.inr (Or.inl h)
    · exact Or.inr (Or.inr (Or.inr (Or.inl h)))
  · have hn := (va_D_iff.mp hD).1
    refine hn.sublist (List.Sublist.map _ ?_)
    refine List.Sublist.trans ?_ (List.sublist_append_right _ _)
    refine List.Sublist.append (List.Sublist.refl _) ?_
    rw [List.append_nil]
    exact List.sublist_append_right _ _
  · simp only [List.map_append, shw_adr, hS']
theorem one_mem {A : Nat → Prop} {X X' R : va_W} (hD : va_D A (X ++ R)) {q : Nat × va_E} (hq : q ∈ X' ++ R) : q ∈ X' ∨ (q ∈ X ++ R ∧ q.1 ∉ X.map (fun q => q.1)) := by
  rcases two_mem (L := []) (X := X) (M := []) (Y := []) (R := R) (X' := X') (Y' := []) hD hq with (h | h) | ⟨h1, h2, -⟩
  · exact Or.inl h
  · exact absurd h List.not_mem_nil
  · exact Or.inr ⟨h1, h2⟩
def svO (sv : Nat) (ad : Nat → Nat → Nat) (k : Nat) : Nat × va_E := (sv, .inr (3, [.ref (ad 6 0), .int (nI k)]))
def svR (cS : ClassId) (ad : Nat → Nat → Nat) : Nat × va_E := (ad 6 0, .inl (cS, 6, .inr (.inr (.inr (.inr (rq 6 (fun i => ad i 0)))))))
def svW (cI cS : ClassId) (sv : Nat) (ad t fl : Nat → Nat → Nat) (k : Nat) : va_W := svO sv ad k :: svR cS ad :: b6 cI ad t fl
def kpA (k : Nat) (ad : Nat → Nat → Nat) : Nat → Nat → Nat := if k < 6 then ad else rotA ad
def kpT (k : Nat) (t : Nat → Nat → Nat) (s : Nat → Nat) : Nat → Nat → Nat := upF (kpA k t) (if k < 6 then k else 5) s
def kpK (k : Nat) : Nat := if k < 6 then k + 1 else 6
theorem b6_adr (cI : ClassId) (ad t fl t' fl' : Nat → Nat → Nat) : (b6 cI ad t fl).map (fun q => q.1) = (b6 cI ad t' fl').map (fun q => q.1) := by simp only [b6, List.map_append, shw_adr]
theorem copy_mem {B S B' S' : va_W} {X Y : va_W} (h : ∀ q ∈ X, (q ∈ B' ∨ q ∈ S') ∨ (q ∈ Y ∧ q.1 ∉ B.map (fun q => q.1) ∧ q.1 ∉ S.map (fun q => q.1))) : ∀ q, q ∈ X → q ∈ B' ++ S' ∨ (q ∈ Y ∧ q.1 ∉ (B ++ S).map (fun q => q.1)) := fun q hq => (h q hq).imp List.mem_append.mpr fun z => ⟨z.1, by rw [List.map_append]; exact fun w => (List.mem_append.mp w).elim z.2.1 z.2.2⟩
theorem copy_mem2 {B S B' S' : va_W} {X Y : va_W} (h : ∀ q ∈ X, (q ∈ B' ∨ q ∈ S') ∨ (q ∈ Y ∧ q.1 ∉ B.map (fun q => q.1) ∧ q.1 ∉ S.map (fun q => q.1))) : ∀ q, q ∈ X → q ∈ S' ++ B' ∨ (q ∈ Y ∧ q.1 ∉ (S ++ B).map (fun q => q.1)) := fun q hq => (h q hq).imp (fun z => List.mem_append.mpr z.symm) fun z => ⟨z.1, by rw [List.map_append]; exact fun w => (List.mem_append.mp w).elim z.2.2 z.2.1⟩
theorem swap_nodup {B S : va_W} (h : ((B ++ S).map (fun q => q.1)).Nodup) : ((S ++ B).map (fun q => q.1)).Nodup := ((List.Perm.map (fun q : Nat × va_E => q.1) (List.perm_append_comm (l₁ := B) (l₂ := S))).nodup_iff).mp h
theorem drop_adr {cI cS : ClassId} {sv k : Nat} {ad t fl : Nat → Nat → Nat} {S : va_W} : ((svW cI cS sv (rotA ad) (rotA t) (rotA fl) 5 ++ S).map (fun q => q.1)).Perm ((svW cI cS sv ad t fl k ++ S).map (fun q => q.1)) := by
  simp only [svW, svO, svR, List.cons_append, List.map_cons, List.map_append]
  exact (((b6_rot.map (fun q => q.1)).append_right _).cons _).cons _
