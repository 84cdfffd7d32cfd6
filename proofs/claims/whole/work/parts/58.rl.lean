/-! THE CLASS goes through an entry -/
section RL
variable {L : Nat} {ps : List (Option (Option Nat))} {rest : List mj_K} {f : Nat → Nat} {T : Nat}
theorem k_isLast {c : mj_C} {j : Nat} (hY : a_Y c f T) : mj_EV 82 0 [some (.ref 2), some (.int (nI j))] [] (w_sh L ps rest) c = some (some (.int (if j + 1 < T ∧ f (j + 1) ≠ 59 then nI 0 else nI 1)), w_sh L ps rest, c) ∨ 1000 < j := by
  by_cases hj : 1000 < j
  · exact Or.inr hj
  · left
    have h80 := hY.1
    rw [e82_0, hY.2.1, nI_add]
    simp (disch := omega) only [nI_leI, mj_in_nI, nI_clamp]
    by_cases q : j + 1 < T
    · obtain ⟨f1, f2, f3⟩ := hY.2.2 (j + 1) q
      rw [if_neg (by omega), if_pos (by simp; omega), f3]
      simp (disch := omega) only [nI_eq]
      by_cases q2 : f (j + 1) = 59
      · rw [if_pos q2, if_neg (fun z => z.2 q2)]
      · rw [if_neg q2, if_pos ⟨q, q2⟩]
    · rw [if_pos (by omega), if_neg (fun z => q z.1)]
theorem k_step83 {c : mj_C} {j : Nat} {x : Int32} {s s' : Nat × Nat × Nat × Nat × (Nat → Nat)} (hY : a_Y c f T) (hj : j < T) (hR : a_R c s) (h : a_step s (f j) = some s') : ∃ c', mj_EV 83 11 [some (.ref 2), some (.int x), some (.int (nI j))] [] (w_sh L ps rest) c = mj_EV 83 38 [some (.ref 2), some (.int x), some (.int (nI j))] [.int (if j + 1 < T ∧ f (j + 1) ≠ 59 then nI 0 else nI 1)] (w_sh L ps rest) c' ∧ a_R c' s' ∧ ∀ b, b ≠ 47 → b ≠ 48 → c' b = c b := by
  have h80 := hY.1
  obtain ⟨f1, f2, f3⟩ := hY.2.2 j hj
  obtain ⟨c2, e2, hR2, hF2⟩ := (k_takes (L := L) (ps := ps) (rest := rest) hR f1 f2).1 s' h
  refine ⟨c2, ?_, hR2, hF2⟩
  have e3 := (k_isLast (L := L) (ps := ps) (rest := rest) (j := j) (a_Y_F hY hF2)).resolve_right (by omega)
  rw [e83_11, hY.2.1]
  simp (disch := omega) only [nI_leI, mj_in_nI, nI_clamp]
  rw [if_neg (by omega), if_pos (by simp; omega), f3, e2, mj_then_i, e83_32, e3, mj_then_i]
theorem k_run83 {i M : Nat} {x : Int32} {s : Nat × Nat × Nat × Nat × (Nat → Nat)} (hM : i + M ≤ T) (hn : ∀ k, k < M → f (i + k) ≠ 59) : ∀ k, k < M → ∀ (c : mj_C) sk, a_Y c f T → a_R c s → a_run f s i k = some sk → ∃ c', mj_EV 83 11 [some (.ref 2), some (.int x), some (.int (nI i))] [] (w_sh L ps rest) c = mj_EV 83 11 [some (.ref 2), some (.int x), some (.int (nI (i + k)))] [] (w_sh L ps rest) c' ∧ a_R c' sk ∧ ∀ b, b ≠ 47 → b ≠ 48 → c' b = c b := by
  intro k
  induction k with
  | zero =>
    intro _ c sk hY hR h
    have h : some s = some sk := h
    cases h
    exact ⟨c, rfl, hR, fun _ _ _ => rfl⟩
  | succ k ih =>
    intro hk c sk hY hR h
    have h : (a_run f s i k).bind (fun s' => a_step s' (f (i + k))) = some sk := h
    cases e : a_run f s i k with
    | none =>
      rw [e] at h
      cases h
    | some s1 =>
      rw [e] at h
      have h : a_step s1 (f (i + k)) = some sk := h
      obtain ⟨c1, e1, hR1, hF1⟩ := ih (by omega) c s1 hY hR e
      obtain ⟨c2, e2, hR2, hF2⟩ := k_step83 (L := L) (ps := ps) (rest := rest) (x := x) (j := i + k) (a_Y_F hY hF1) (by omega) hR1 h
      refine ⟨c2, ?_, hR2, fun b h1 h2 => (hF2 b h1 h2).trans (hF1 b h1 h2)⟩
      have h59 := hn (k + 1) hk
      rw [e1, e2, if_pos ⟨by omega, by rw [Nat.add_assoc]; exact h59⟩, e83_38, if_pos rfl, nI_add, Nat.add_assoc]
theorem k_entry {i m : Nat} {x : Int32} {c : mj_C} {s s' : Nat × Nat × Nat × Nat × (Nat → Nat)} (hE : a_E f T i m s s') (hY : a_Y c f T) (hR : a_R c s) : ∃ c', mj_EV 83 11 [some (.ref 2), some (.int x), some (.int (nI i))] [] (w_sh L ps rest) c = mj_EV 83 38 [some (.ref 2), some (.int x), some (.int (nI (i + m - 1)))] [.int (nI 1)] (w_sh L ps rest) c' ∧ a_R c' s' ∧ ∀ b, b ≠ 47 → b ≠ 48 → c' b = c b := by
  obtain ⟨h1, h2, h3, h4, h5, h6⟩ := hE
  rw [show m = (m - 1) + 1 by omega] at h3
  obtain ⟨s1, g1, g2⟩ := a_split (s' := s') 1 s' h3
  have g2 : a_step s1 (f (i + (m - 1))) = some s' := g2
  obtain ⟨c1, e1, hR1, hF1⟩ := k_run83 (L := L) (ps := ps) (rest := rest) (x := x) h1 h5 (m - 1) (by omega) c s1 hY hR g1
  obtain ⟨c2, e2, hR2, hF2⟩ := k_step83 (L := L) (ps := ps) (rest := rest) (x := x) (j := i + (m - 1)) (a_Y_F hY hF1) (by omega) hR1 g2
  refine ⟨c2, ?_, hR2, fun b h1 h2 => (hF2 b h1 h2).trans (hF1 b h1 h2)⟩
  have q : ¬ (i + (m - 1) + 1 < T ∧ f (i + (m - 1) + 1) ≠ 59) := by
    rw [show i + (m - 1) + 1 = i + m by omega]
    intro z
    exact z.2 (h6 z.1).1
  rw [e1, e2, if_neg q, show i + (m - 1) = i + m - 1 by omega]
end RL
