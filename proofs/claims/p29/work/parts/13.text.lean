/-! texts: what stands before a place, as numbers: tick, jet (8: none), aim -/
def prT (cs : Nat → Nat) : Nat → Nat × Nat × Nat
  | 0 => (0, 8, 0)
  | i + 1 => if isD (cs i) then (if (prT cs i).2.1 = 8 then ((prT cs i).1 * 10 + (cs i - 48), 8, (prT cs i).2.2) else ((prT cs i).1, (prT cs i).2.1, (prT cs i).2.2 * 10 + (cs i - 48)))
    else if isJ (cs i) then ((prT cs i).1, cs i - 97, (prT cs i).2.2) else if cs i = 59 then (0, 8, 0) else prT cs i
/-- the show, and how many were added, behind i characters -/
def adS (cs : Nat → Nat) (s : Nat → Nat) : Nat → Nat → Nat
  | 0 => s
  | i + 1 => if cs i = 59 then mAddIf (adS cs s i) (prT cs i).1 (prT cs i).2.1 (prT cs i).2.2 else adS cs s i
def adN (cs : Nat → Nat) (s : Nat → Nat) : Nat → Nat
  | 0 => 0
  | i + 1 => if cs i = 59 then adN cs s i + bI (rS (adS cs s i) (prT cs i).1 (prT cs i).2.1 (prT cs i).2.2 = 0) else adN cs s i
/-- at the end of a complete text -/
def allS (cs : Nat → Nat) (s : Nat → Nat) (n : Nat) : Nat → Nat := mAddIf (adS cs s n) (prT cs n).1 (prT cs n).2.1 (prT cs n).2.2
def allN (cs : Nat → Nat) (s : Nat → Nat) (n : Nat) : Nat := adN cs s n + bI (rS (adS cs s n) (prT cs n).1 (prT cs n).2.1 (prT cs n).2.2 = 0)
theorem runS_8 {cs : Nat → Nat} {i : Nat} (h : runS cs i = 8) : runS cs (i + 1) = 8 := by
  show sB (runS cs i) (cs i) = 8
  rw [h]; rfl
theorem runS_ok {cs : Nat → Nat} {n : Nat} (h : runS cs n ≠ 8) : ∀ {i}, i ≤ n → runS cs i ≠ 8 := by
  intro i hi hb
  have : ∀ d, runS cs (i + d) = 8 := fun d => by
    induction d with
    | zero => exact hb
    | succ d ih => exact runS_8 ih
  have := this (n - i)
  rw [show i + (n - i) = n by omega] at this
  exact h this
/-- what a state of the reader says of the numbers -/
def prOK (k : Nat) (q : Nat × Nat × Nat) : Prop := match k with
  | 0 => q = (0, 8, 0)
  | 1 => q.1 ≤ 9 ∧ q.2.1 = 8 ∧ q.2.2 = 0
  | 2 => q.1 ≤ 99 ∧ q.2.1 = 8 ∧ q.2.2 = 0
  | 3 => q.1 ≤ 999 ∧ q.2.1 = 8 ∧ q.2.2 = 0
  | 4 => q.1 ≤ 999 ∧ q.2.1 = 8 ∧ q.2.2 = 0
  | 5 => q.1 ≤ 999 ∧ q.2.1 < 8 ∧ q.2.2 = 0
  | 6 => q.1 ≤ 999 ∧ q.2.1 < 8 ∧ q.2.2 = 1
  | 7 => q.1 ≤ 999 ∧ q.2.1 < 8 ∧ q.2.2 ≤ 10
  | _ => True
theorem prOK_all {cs : Nat → Nat} : ∀ i, prOK (runS cs i) (prT cs i)
  | 0 => rfl
  | i + 1 => by
    have ih := prOK_all (cs := cs) i
    have hle := runS_le cs i
    show prOK (sB (runS cs i) (cs i)) _
    unfold prT
    generalize hk : runS cs i = k at ih hle ⊢
    generalize prT cs i = q at ih ⊢
    generalize cs i = x
    obtain ⟨t, j, a⟩ := q
    rcases (show k = 0 ∨ k = 1 ∨ k = 2 ∨ k = 3 ∨ k = 4 ∨ k = 5 ∨ k = 6 ∨ k = 7 ∨ k = 8 by omega) with rfl | rfl | rfl | rfl | rfl | rfl | rfl | rfl | rfl <;> simp only [prOK, Prod.mk.injEq] at ih <;> simp only [sB]
    · obtain ⟨rfl, rfl, rfl⟩ := ih
      by_cases h1 : x = 48
      · subst h1; rw [if_pos rfl, if_pos (show isD 48 by omega), if_pos rfl]; simp only [prOK]; refine ⟨?_, ?_, ?_⟩ <;> (try dsimp only) <;> first | omega | trivial
      · rw [if_neg h1]
        by_cases h2 : isD x
        · rw [if_pos h2, if_pos h2, if_pos rfl]; simp only [prOK]; refine ⟨?_, ?_, ?_⟩ <;> (try dsimp only) <;> first | omega | trivial
        · rw [if_neg h2]; trivial
    · obtain ⟨h3, rfl, rfl⟩ := ih
      by_cases h1 : x = 64
      · subst h1; rw [if_pos rfl, if_neg (show ¬ isD 64 by omega), if_neg (show ¬ isJ 64 by omega), if_neg (show ¬ (64 = 59) by omega)]; exact ⟨by (try dsimp only); omega, rfl, rfl⟩
      · rw [if_neg h1]
        by_cases h2 : isD x
        · rw [if_pos h2, if_pos h2, if_pos rfl]; simp only [prOK]; refine ⟨?_, ?_, ?_⟩ <;> (try dsimp only) <;> first | omega | trivial
        · rw [if_neg h2]; trivial
    · obtain ⟨h3, rfl, rfl⟩ := ih
      by_cases h1 : x = 64
      · subst h1; rw [if_pos rfl, if_neg (show ¬ isD 64 by omega), if_neg (show ¬ isJ 64 by omega), if_neg (show ¬ (64 = 59) by omega)]; exact ⟨by (try dsimp only); omega, rfl, rfl⟩
      · rw [if_neg h1]
        by_cases h2 : isD x
        · rw [if_pos h2, if_pos h2, if_pos rfl]; simp only [prOK]; refine ⟨?_, ?_, ?_⟩ <;> (try dsimp only) <;> first | omega | trivial
        · rw [if_neg h2]; trivial
    · obtain ⟨h3, rfl, rfl⟩ := ih
      by_cases h1 : x = 64
      · subst h1; rw [if_pos rfl, if_neg (show ¬ isD 64 by omega), if_neg (show ¬ isJ 64 by omega), if_neg (show ¬ (64 = 59) by omega)]; exact ⟨by (try dsimp only); omega, rfl, rfl⟩
      · rw [if_neg h1]; trivial
    · obtain ⟨h3, rfl, rfl⟩ := ih
      by_cases h1 : isJ x
      · rw [if_pos h1, if_neg (by omega), if_pos h1]; simp only [prOK]; refine ⟨?_, ?_, ?_⟩ <;> (try dsimp only) <;> first | omega | trivial
      · rw [if_neg h1]; trivial
    · obtain ⟨h3, h4, rfl⟩ := ih
      by_cases h1 : x = 49
      · subst h1; rw [if_pos rfl, if_pos (by omega), if_neg (by omega)]; simp only [prOK]; refine ⟨?_, ?_, ?_⟩ <;> (try dsimp only) <;> first | omega | trivial
      · rw [if_neg h1]
        by_cases h2 : isD x
        · rw [if_pos h2, if_pos h2, if_neg (by omega)]; simp only [prOK]; refine ⟨?_, ?_, ?_⟩ <;> (try dsimp only) <;> first | omega | trivial
        · rw [if_neg h2]; trivial
    · obtain ⟨h3, h4, rfl⟩ := ih
      by_cases h1 : x = 48
      · subst h1; rw [if_pos rfl, if_pos (by omega), if_neg (by omega)]; simp only [prOK]; refine ⟨?_, ?_, ?_⟩ <;> (try dsimp only) <;> first | omega | trivial
      · rw [if_neg h1]
        by_cases h2 : x = 59
        · subst h2; rw [if_pos rfl, if_neg (by omega), if_neg (by omega), if_pos rfl]; simp only [prOK]
        · rw [if_neg h2]; trivial
    · obtain ⟨h3, h4, h5⟩ := ih
      by_cases h2 : x = 59
      · subst h2; rw [if_pos rfl, if_neg (by omega), if_neg (by omega), if_pos rfl]; simp only [prOK]
      · rw [if_neg h2]; trivial
    · trivial
/-- a part ends: its numbers are in range -/
theorem prT_in {cs : Nat → Nat} {i : Nat} (h : runS cs i = 6 ∨ runS cs i = 7) : (prT cs i).1 ≤ 999 ∧ (prT cs i).2.1 < 8 ∧ (prT cs i).2.2 ≤ 10 := by
  have := prOK_all (cs := cs) i
  rcases h with h | h <;> rw [h] at this <;> simp only [prOK] at this <;> omega
/-- before a ';' of a text without error, a part ends -/
theorem semi_in {cs : Nat → Nat} {i : Nat} (h : runS cs (i + 1) ≠ 8) (hc : cs i = 59) : runS cs i = 6 ∨ runS cs i = 7 := by
  have hle := runS_le cs i
  have h2 : sB (runS cs i) 59 ≠ 8 := by rw [← hc]; exact h
  generalize runS cs i = k at hle h2
  rcases (show k = 0 ∨ k = 1 ∨ k = 2 ∨ k = 3 ∨ k = 4 ∨ k = 5 ∨ k = 6 ∨ k = 7 ∨ k = 8 by omega) with rfl | rfl | rfl | rfl | rfl | rfl | rfl | rfl | rfl
  · exact absurd (by decide) h2
  · exact absurd (by decide) h2
  · exact absurd (by decide) h2
  · exact absurd (by decide) h2
  · exact absurd (by decide) h2
  · exact absurd (by decide) h2
  · exact Or.inl rfl
  · exact Or.inr rfl
  · exact absurd (by decide) h2
