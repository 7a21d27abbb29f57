theorem mid4 {A : Nat → Prop} {L X X' R : va_W} (hD : va_D A (L ++ (X ++ R))) (hp : (X'.map (fun q => q.1)).Perm (X.map (fun q => q.1))) : (∀ q ∈ X, q ∈ L ++ (X ++ R)) ∧ (X.map (fun q => q.1)).Nodup ∧ ((L ++ (X' ++ R)).map (fun q => q.1)).Perm ((L ++ (X ++ R)).map (fun q => q.1)) ∧ ∀ q, q ∈ L ++ (X' ++ R) → q ∈ X' ∨ (q ∈ L ++ (X ++ R) ∧ q.1 ∉ X.map (fun q => q.1)) :=
  ⟨fun _ h => List.mem_append_right _ (List.mem_append_left _ h), (va_D_iff.mp hD).1.sublist (List.Sublist.map _ ((List.sublist_append_left _ _).trans (List.sublist_append_right _ _))), by
    simp only [List.map_append]
    exact (hp.append_right _).append_left _, fun _ hq => mid_mem hD hq⟩
theorem lo_at (x : Int64) : lo x (nI 0).toNatClampNeg = x := by
  rw [nI_clamp (by decide)]; rfl
section KLCMP
variable {p : Program} {l : Launch} {e : Env} {R : Room} {s : State} {m : MethodId} {args : Array Value} {below : List Frame} {meth : Method} {c : Code} {H : Heap} {locs : List Loc} {cells slots : Nat} {Q : State → Prop}
variable {pc : Nat} {ls : Array Slot} {rest : List Value} {cc : ByteArray}
theorem q_lcmp_same (hexec : p.tables.exec = Jvm.exec) (hb : c.code = cc) {x : Int64} (hdg : decode cc pc = .ok (.lcmp, 1))
    (k : W p l e R s m args below meth c H locs cells slots Q (F0 m (pc + 1) ls (.int 0 :: rest))) : W p l e R s m args below meth c H locs cells slots Q (F0 m pc ls (.long x :: .long x :: rest)) := by
  intro T hT X
  obtain ⟨t, a, b⟩ := k T hT X
  refine ⟨t, ?_, b⟩
  jvm_step X.here [X.here.top, hexec, hb, hdg]
  first | exact a | (simp at a ⊢; exact a)
end KLCMP
theorem out_perm {o0 : Nat} {c c' : va_E} {X X' : va_W} (hp : (X'.map (fun q => q.1)).Perm (X.map (fun q => q.1))) : (([(o0, c')] ++ X').map (fun q => q.1)).Perm (([(o0, c)] ++ X).map (fun q => q.1)) := List.Perm.cons o0 hp
def LI (D : va_G) (cI cS cL : ClassId) (A9 : Nat → Prop) (s9 : State) (b0 i T : Nat) (H : Heap) (locs : List Loc) (ls : Array Slot) : Prop := ∃ (f0 : Nat), ∃ (a : Nat → Nat), ∃ (s : Nat → Nat), ∃ (fl : Nat → Nat), ∃ (c0 : Nat), ∃ (c1 : Nat), ∃ (n : Nat), ∃ (cs : Nat → Nat), ∃ (b : Nat → Nat), ∃ (r : Nat → Nat), ∃ (gl : Nat → Nat), ∃ (sv : Nat), ∃ (ad : Nat → Nat → Nat), ∃ (t : Nat → Nat → Nat), ∃ (f6 : Nat → Nat → Nat), ∃ (k : Nat), ∃ (m0 : Nat), ∃ (m1 : Nat), ∃ (m2 : Nat), ∃ (m3 : Nat), ∃ (m4 : Nat), ∃ (m5 : Nat), ∃ (th : Nat), ∃ (ax : Nat), ∃ (fa : Nat), ∃ (vl : Nat), ∃ (tn : Nat), ∃ (hg : Nat), ∃ (bg : Nat), ∃ (h : Nat → Nat), ∃ (td : Nat → Nat), ∃ (o0 : Nat), ∃ (xo : Int64), ∃ (t6 : Nat → Nat → Nat), (sI T s) ∧ (k ≤ 6) ∧ (n ≤ 60) ∧ (∀ j, j < n → cs j ≤ 126) ∧ (∀ j, j < k → sI T (t j)) ∧ (∀ j, j < k → t6 j = t j) ∧ va_P D vwCl (([(o0, .inl (cL, 1, .inr (.inl (lo xo))))] ++ (fcW cI cS f0 a s fl c0 c1 n cs b r gl sv ad t f6 k)) ++ [(m0, .inr (6, [.ref m1, .ref m2, .ref m3, .int (nI k), .ref m4, .int (nI n), .int (nI th), .int (nI ax), .int (nI fa), .int (nI vl), .ref m5, .int (nI tn), .int (nI hg), .int (nI bg)])), (m1, .inl (cI, 118, .inl (ro 118 s))), (m2, .inl (cI, 118, .inl (ro 118 h))), (m3, .inl (cI, 708, .inl (ro 708 (pkF t6)))), (m4, .inl (cI, 60, .inl (ro 60 cs))), (m5, .inl (cI, 48, .inl (ro 48 td)))]) H ∧ va_D A9 (([(o0, .inl (cL, 1, .inr (.inl (lo xo))))] ++ (fcW cI cS f0 a s fl c0 c1 n cs b r gl sv ad t f6 k)) ++ [(m0, .inr (6, [.ref m1, .ref m2, .ref m3, .int (nI k), .ref m4, .int (nI n), .int (nI th), .int (nI ax), .int (nI fa), .int (nI vl), .ref m5, .int (nI tn), .int (nI hg), .int (nI bg)])), (m1, .inl (cI, 118, .inl (ro 118 s))), (m2, .inl (cI, 118, .inl (ro 118 h))), (m3, .inl (cI, 708, .inl (ro 708 (pkF t6)))), (m4, .inl (cI, 60, .inl (ro 60 cs))), (m5, .inl (cI, 48, .inl (ro 48 td)))]) ∧ va_S A9 s9.heap H locs ∧ lv_has ls 9 [(0, .ref b0), (1, .ref f0), (2, .ref m0), (3, .ref o0), (4, .int (nI i))]
theorem kp_ag {k : Nat} {t t6 : Nat → Nat → Nat} {s : Nat → Nat} (hk : k ≤ 6) (h : ∀ j, j < k → t6 j = t j) : ∀ j, j < kpK k → kpT k t6 s j = kpT k t s j := by
  intro j hj
  unfold kpK at hj
  by_cases h6 : k < 6
  · have e : ∀ z : Nat → Nat → Nat, kpT k z s = upF z k s := fun z => by unfold kpT kpA; rw [if_pos h6, if_pos h6]
    rw [if_pos h6] at hj
    rw [e, e]
    show (if j = k then s else t6 j) = (if j = k then s else t j)
    by_cases h2 : j = k
    · rw [if_pos h2, if_pos h2]
    · rw [if_neg h2, if_neg h2]; exact h j (by omega)
  · have e : ∀ z : Nat → Nat → Nat, kpT k z s = upF (rotA z) 5 s := fun z => by unfold kpT kpA; rw [if_neg h6, if_neg h6]
    rw [if_neg h6] at hj
    rw [e, e]
    show (if j = 5 then s else rotA t6 j) = (if j = 5 then s else rotA t j)
    by_cases h2 : j = 5
    · rw [if_pos h2, if_pos h2]
    · rw [if_neg h2, if_neg h2]
      show (if j < 5 then t6 (j + 1) else _) = (if j < 5 then t (j + 1) else _)
      rw [if_pos (by omega), if_pos (by omega)]; exact h (j + 1) (by omega)
