/-! PAIRS: the class and the reference answer alike -/
section PR1
variable {L : Nat} {ps : List (Option (Option Nat))} {c : mj_C} {g : Nat → Int32} {R : Nat} {h : Nat → Nat → Int32} {A : Option (Option Value × List mj_K × mj_C)} {B : List (Option (Option Nat)) → mj_C → Option (Option Value × List mj_K × mj_C)} {x : Int32}
theorem s_gt_of {x : Int32} {n : Nat} (hn : n + 1 < 2 ^ 31) (h1 : ¬ x < nI 0) (h : x < nI 0 ∨ nI (n + 1) ≤ x) : nI n < x := (s_lt_le hn).mp (h.resolve_left h1)
theorem s_first (g : Nat → Int32) : ∀ n, (∀ j, j < n → g (6 + 2 * j) = nI 1) ∨ ∃ P, P < n ∧ ¬ g (6 + 2 * P) = nI 1 ∧ ∀ j, j < P → g (6 + 2 * j) = nI 1 := by
  intro n
  induction n with
  | zero => exact Or.inl fun j hj => by omega
  | succ n ih =>
    rcases ih with h1 | ⟨P, h1, h2, h3⟩
    · by_cases q : g (6 + 2 * n) = nI 1
      · refine Or.inl fun j hj => ?_
        by_cases q2 : j = n
        · rw [q2]; exact q
        · exact h1 j (by omega)
      · exact Or.inr ⟨n, by omega, q, h1⟩
    · exact Or.inr ⟨P, by omega, h2, h3⟩
end PR1
