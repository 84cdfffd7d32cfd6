/-! THE LAW's OWN CELLS: its row of numbers, the words of three pages, the old line, and a row of five for each act -/
def w_lo (n : Nat) : List mj_K := (0, 17, []) :: (0, 64, []) :: (0, 64, []) :: (0, 64, []) :: (0, 8, []) :: List.replicate n (0, 5, [])
theorem w_52 {L n : Nat} {ps : List (Option (Option Nat))} : (w_sh L ps (w_lo n))[52]? = some (0, 17, []) := rfl
theorem w_53 {L n : Nat} {ps : List (Option (Option Nat))} : (w_sh L ps (w_lo n))[53]? = some (0, 64, []) := rfl
theorem w_54 {L n : Nat} {ps : List (Option (Option Nat))} : (w_sh L ps (w_lo n))[54]? = some (0, 64, []) := rfl
theorem w_55 {L n : Nat} {ps : List (Option (Option Nat))} : (w_sh L ps (w_lo n))[55]? = some (0, 64, []) := rfl
theorem w_56 {L n : Nat} {ps : List (Option (Option Nat))} : (w_sh L ps (w_lo n))[56]? = some (0, 8, []) := rfl
theorem w_len {L n : Nat} {ps : List (Option (Option Nat))} : (w_sh L ps (w_lo n)).length = 57 + n := by
  simp only [w_sh, w_lo, List.length_cons, List.length_replicate]
  omega
theorem w_app {L n : Nat} {ps : List (Option (Option Nat))} : w_sh L ps (w_lo n) ++ [(0, 5, [])] = w_sh L ps (w_lo (n + 1)) := by
  simp only [w_sh, w_lo, List.cons_append, List.replicate_succ']
theorem w_fo {L n : Nat} {ps : List (Option (Option Nat))} : (w_sh L ps (w_lo (n + 1)))[57 + n]? = some (0, 5, []) := by
  rw [← w_app, List.getElem?_append_right (by rw [w_len]; exact Nat.le_refl _), w_len, Nat.sub_self]
  rfl
