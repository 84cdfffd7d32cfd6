/-! THE ROOM -/
theorem w_slA (a b : List mj_K) : mj_sl (a ++ b) = mj_sl a + mj_sl b := by
  unfold mj_sl
  rw [List.map_append, List.sum_append]
theorem w_slR : ∀ n : Nat, mj_sl (List.replicate n ((0, 5, []) : mj_K)) = 5 * n := by
  intro n
  induction n with
  | zero => rfl
  | succ n ih =>
    rw [List.replicate_succ, show ((0, 5, []) : mj_K) :: List.replicate n (0, 5, []) = [(0, 5, [])] ++ List.replicate n (0, 5, []) from rfl, w_slA, ih, show mj_sl [((0, 5, []) : mj_K)] = 5 from rfl]
    omega
theorem w_slT (L : Nat) (T : List mj_K) : mj_sl ((1000, L, []) :: T) = L + mj_sl T := rfl
theorem w_slots {L n : Nat} {ps : List (Option (Option Nat))} : mj_sl (w_sh L ps (w_lo n)) = L + 5582 + 5 * n := by
  have e1 : w_sh L ps (w_lo n) = w_sh L ps (w_lo 0) ++ List.replicate n (0, 5, []) := rfl
  have e2 : w_sh L ps (w_lo 0) = (1000, L, []) :: (w_sh 0 ps (w_lo 0)).tail := rfl
  have e3 : mj_sl (w_sh 0 ps (w_lo 0)).tail = 5582 := by
    unfold mj_sl w_sh w_lo
    simp only [List.tail_cons, List.map_cons, List.map_nil, List.replicate_zero, List.sum_cons, List.sum_nil, Nat.reduceAdd]
  rw [e1, w_slA, w_slR, e2, w_slT, e3]
