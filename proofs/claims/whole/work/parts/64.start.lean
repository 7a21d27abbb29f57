-- what the law's start gives
theorem nest_in : ∀ q ∈ nests, Cond.methodLinkNest q.1 q.2.1 q.2.2.1 q.2.2.2 ∈ lw_tbl := by decide +kernel
theorem nst_of {s : State} {a : Array Value} (hts : ∀ w ∈ lw_tbl, w.before a s = true) (hgv : (Jvm.Cond.and given_1 narrow_1).before a s = true) : NST s :=
  ⟨fun q hq => va_Nw.of rfl (hts _ (nest_in q hq)), by
    have hg := flat_of_before _ hgv
    have h : (Cond.arrayOver (.object RX4)).before a s = true := by first | exact hts _ (by decide +kernel) | exact hg _ (by decide +kernel)
    exact h⟩
theorem xn_of {s : State} {a : Array Value} (hgv : (Jvm.Cond.and given_1 narrow_1).before a s = true) : XN s := by
  have hg := flat_of_before _ hgv
  intro q hq
  simp only [List.mem_cons, List.not_mem_nil, or_false] at hq
  rcases hq with rfl | rfl | rfl
  · exact va_Nc.of (hg _ (by decide +kernel))
  · exact va_Nc.of (hg _ (by decide +kernel))
  · exact va_Nc.of (hg _ (by decide +kernel))
theorem xb_of {s : State} {a : Array Value} (hts : ∀ w ∈ lw_tbl, w.before a s = true) (hgv : (Jvm.Cond.and given_1 narrow_1).before a s = true) : XB s := by
  have hg := flat_of_before _ hgv
  refine ⟨fun x hx => va_Nw.of rfl (A := a) ?_, fun q hq => va_Nw.of rfl (A := a) ?_⟩
  · simp only [xdecl, List.mem_cons, List.not_mem_nil, or_false] at hx
    rcases hx with rfl | rfl | rfl <;> first | exact hts _ (by decide +kernel) | exact hg _ (by decide +kernel)
  · simp only [xcast, List.mem_cons, List.not_mem_nil, or_false] at hq
    rcases hq with rfl | rfl | rfl <;> first | exact hts _ (by decide +kernel) | exact hg _ (by decide +kernel)
theorem str_of {s : State} {a : Array Value} (hts : ∀ w ∈ lw_tbl, w.before a s = true) : ∀ q ∈ strs, (Cond.stringRef RX5 q.1 q.2).before a s = true := by
  have h : ∀ q ∈ strs, Cond.stringRef RX5 q.1 q.2 ∈ lw_tbl := by decide +kernel
  exact fun q hq => hts _ (h q hq)
theorem nI_of_lit (n : Nat) : nI n = Int32.ofNat n := rfl
theorem tab_of {s : State} {a : Array Value} {A : Nat → Prop} {nm : String} {f : Nat → Nat} (hA : ∀ q : Nat, q < s.heap.size → ¬ A q) (h1 : (Cond.laysStatic RX5 nm "[I").before a s = true) (h2 : (Cond.initialized RX5).before a s = true) (h3 : (Cond.arrayOf (.static RX5 nm "[I") .int).before a s = true) (h4 : (Cond.eq (.length (.static RX5 nm "[I")) (.int 3)).before a s = true)
    (h5 : (Cond.eq (.elem (.static RX5 nm "[I") (.int 0)) (.int (nI (f 0)))).before a s = true) (h6 : (Cond.eq (.elem (.static RX5 nm "[I") (.int 1)) (.int (nI (f 1)))).before a s = true) (h7 : (Cond.eq (.elem (.static RX5 nm "[I") (.int 2)) (.int (nI (f 2)))).before a s = true) :
    ∃ t, va_Z RX5 nm "[I" (.ref t) A s s.heap ∧ va_T .int t 3 (fun j => .int (nI (f j))) A s s.heap := by
  obtain ⟨t, ht, hT⟩ := va_Tof (N := 3) (f := fun j => .int (nI (f j))) (by decide) h3 (va_eqt h4) (fun j hj => by
    rcases (show j = 0 ∨ j = 1 ∨ j = 2 by omega) with rfl | rfl | rfl
    · exact va_eqt h5
    · exact va_eqt h6
    · exact va_eqt h7) hA
  exact ⟨t, va_Zref h1 h2 ht hA, hT⟩
theorem amb_of {s : State} {a : Array Value} {A : Nat → Prop} (hts : ∀ w ∈ lw_tbl, w.before a s = true) (hgv : (Jvm.Cond.and given_1 narrow_1).before a s = true) (hA : ∀ q : Nat, q < s.heap.size → ¬ A q) : AMB A s s.heap := by
  have hg := flat_of_before _ hgv
  refine ⟨vx_Zqof (hts _ (by decide +kernel)) (hts _ (by decide +kernel)) (hg _ (by decide +kernel)) hA, vx_Zqof (hts _ (by decide +kernel)) (hts _ (by decide +kernel)) (hg _ (by decide +kernel)) hA, fun q hq => ?_,
    tab_of (f := leF) hA (hts _ (by decide +kernel)) (hts _ (by decide +kernel)) (hg _ (by decide +kernel)) (hg _ (by decide +kernel)) (hg _ (by decide +kernel)) (hg _ (by decide +kernel)) (hg _ (by decide +kernel)),
    tab_of (f := moF) hA (hts _ (by decide +kernel)) (hts _ (by decide +kernel)) (hg _ (by decide +kernel)) (hg _ (by decide +kernel)) (hg _ (by decide +kernel)) (hg _ (by decide +kernel)) (hg _ (by decide +kernel)), xb_of hts hgv⟩
  have h1 := str_of hts q hq
  have h2 : (Cond.exactly (.string RX5 q.1) "java/lang/String").before a s = true := by
    simp only [strs, List.mem_cons, List.not_mem_nil, or_false] at hq
    rcases hq with rfl | rfl | rfl | rfl | rfl | rfl | rfl | rfl | rfl | rfl | rfl <;> exact hg _ (by decide +kernel)
  obtain ⟨sa, c, cell, k, hv, -⟩ := Cond.exactly_spec (args := a) (first := s) (o := none) (s := s) (idx := []) h2
  exact ⟨sa, vk_R.of h1 hv⟩
