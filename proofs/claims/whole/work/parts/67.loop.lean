/-! THE LAW'S LOOP -/
theorem t_end {L i : Nat} (hL : L ≤ 2560) (hi : i ≤ L) (q : ¬ (Int32.ofNat L - nI 5 < nI i)) : i + 5 ≤ L := by
  rw [Int32.lt_iff_toInt_lt, Int32.toInt_sub, nI_toInt (by omega), nI_toInt (by omega), show (Int32.ofNat L).toInt = (L : Int) from nI_toInt (by omega)] at q
  rw [Int.bmod_def] at q
  split at q <;> omega
theorem t_if {L i : Nat} {c : mj_C} {A B : Option mj_R} {P : Prop} {iP : Decidable P} (h1 : s_Q L i c A) (h2 : s_Q L i c B) : s_Q L i c (if P then A else B) := by
  by_cases h : P
  · rw [if_pos h]; exact h1
  · rw [if_neg h]; exact h2
theorem t_key {L i : Nat} {ps : List (Option (Option Nat))} {c : mj_C} (hL : L ≤ 2560) (q : i + 5 ≤ L) (hq : ¬ (Int32.ofNat L - nI 5 < nI i)) (hV : s_V ps c) : s_Q L i c (mj_EV 167 18 [some (.ref 0), some (.ref 2), some (.ref 52), some (.int (nI i))] [] (w_al L ps) c) := by
  have hin : mj_in (nI i) L = true := by
    rw [mj_in_nI (by omega)]
    exact decide_eq_true (by omega)
  rw [e167_18, if_neg hq, if_pos hin]
  exact t_if (x_160 hL q hV) (t_if (x_183 hL q hV) (t_if (x_206 hV) (t_if (x_219 hL q hV) (t_if (x_242 hL q hV) (t_if (x_265 hV) (t_if (x_278 hL q hV) (t_if (x_331 hL q hV) (t_if (x_374 hL q hV) (t_if (x_417 hL q hV) (t_if (x_470 hL q hV) (t_if (x_513 hL q hV) (t_if (x_536 hL q hV) (t_if (x_579 hL q hV) (t_if (x_612 hL q hV) (t_if (x_655 hL q hV) (t_if (x_678 hL q hV) (t_if (x_711 hL q hV) (t_if (x_744 hL q hV) (t_if (x_797 hL q hV) (t_if (x_820 hV) (t_if (x_833 hV) (t_if (x_846 hL q hV) (t_if (x_869 hV) (t_if (x_882 hV) (t_if (x_895 hV) (t_if (x_908 hV) (t_if (x_921 hV) (⟨ps, c, rfl, hV, rfl⟩))))))))))))))))))))))))))))
theorem t_loop {L : Nat} (hL : L ≤ 2560) : ∀ (n i : Nat) (ps : List (Option (Option Nat))) (c : mj_C), L ≤ i + n → i ≤ L → s_V ps c → ∃ ps' c', mj_EV 167 18 [some (.ref 0), some (.ref 2), some (.ref 52), some (.int (nI i))] [] (w_al L ps) c = some (some (.int (nI 1)), w_al L ps', c') := by
  intro n
  induction n with
  | zero =>
    intro i ps c h1 h2 hV
    by_cases q : Int32.ofNat L - nI 5 < nI i
    · exact ⟨ps, c, by rw [e167_18, if_pos q, e167_941]⟩
    · exact absurd (t_end hL h2 q) (by omega)
  | succ n ih =>
    intro i ps c h1 h2 hV
    by_cases q : Int32.ofNat L - nI 5 < nI i
    · exact ⟨ps, c, by rw [e167_18, if_pos q, e167_941]⟩
    · have h5 := t_end hL h2 q
      obtain ⟨ps', c', e, hV', -⟩ := t_key hL h5 q hV
      rw [e, e167_935, nI_add]
      exact ih (i + 5) ps' c' (by omega) h5 hV'
