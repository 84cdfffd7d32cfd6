/-! THE TEXT: the class's reader, a state for each character. A state is (state, page, line, place, words) -/
def a_up (wf : Nat → Nat) (k x : Nat) : Nat → Nat := fun j => if j = k then x else wf j
def a_step (s : Nat × Nat × Nat × Nat × (Nat → Nat)) (ch : Nat) : Option (Nat × Nat × Nat × Nat × (Nat → Nat)) :=
  if s.1 = 0 then (if 48 ≤ ch ∧ ch ≤ 57 then some (1, ch - 48, s.2.2.1, s.2.2.2.1, s.2.2.2.2) else none)
  else if s.1 = 1 then (if ch = 58 then some (2, s.2.1, s.2.2.1, s.2.2.2.1, s.2.2.2.2) else none)
  else if s.1 = 2 then (if 48 ≤ ch ∧ ch ≤ 55 then some (3, s.2.1, ch - 48, s.2.2.2.1, s.2.2.2.2) else none)
  else if s.1 = 3 then (if ch = 61 then some (4, s.2.1, s.2.2.1, 0, s.2.2.2.2) else none)
  else if s.1 = 4 then (if 48 ≤ ch ∧ ch ≤ 57 then some (5, s.2.1, s.2.2.1, s.2.2.2.1, a_up s.2.2.2.2 s.2.2.2.1 (ch - 48)) else none)
  else if s.1 = 5 then (if 48 ≤ ch ∧ ch ≤ 57 then (if s.2.2.2.2 s.2.2.2.1 = 0 then none else if 10 * s.2.2.2.2 s.2.2.2.1 + (ch - 48) ≤ 65535 then some (5, s.2.1, s.2.2.1, s.2.2.2.1, a_up s.2.2.2.2 s.2.2.2.1 (10 * s.2.2.2.2 s.2.2.2.1 + (ch - 48))) else none) else if ch = 42 ∧ s.2.2.2.1 = 0 then some (6, s.2.1, s.2.2.1, s.2.2.2.1, fun _ => s.2.2.2.2 0) else if ch = 44 ∧ s.2.2.2.1 < 7 then some (4, s.2.1, s.2.2.1, s.2.2.2.1 + 1, s.2.2.2.2) else if ch = 59 ∧ s.2.2.2.1 = 7 then some (0, s.2.1, s.2.2.1, s.2.2.2.1, s.2.2.2.2) else none)
  else (if ch = 59 then some (0, s.2.1, s.2.2.1, s.2.2.2.1, s.2.2.2.2) else none)
def a_R (c : mj_C) (s : Nat × Nat × Nat × Nat × (Nat → Nat)) : Prop := c 47 4 = nI s.1 ∧ s.1 ≤ 6 ∧ (1 ≤ s.1 → c 47 0 = nI s.2.1 ∧ s.2.1 < 10) ∧ (3 ≤ s.1 → c 47 1 = nI s.2.2.1 ∧ s.2.2.1 < 8) ∧ (4 ≤ s.1 → c 47 3 = nI s.2.2.2.1 ∧ s.2.2.2.1 < 8) ∧ ∀ w, w < 8 → (s.1 = 4 ∧ w < s.2.2.2.1 ∨ s.1 = 5 ∧ w ≤ s.2.2.2.1 ∨ s.1 = 6) → c 48 w = nI (s.2.2.2.2 w) ∧ s.2.2.2.2 w < 65536
section AU
variable {L : Nat} {ps : List (Option (Option Nat))} {rest : List mj_K} {c : mj_C}
/-- what takes answers at a character -/
def a_T (L : Nat) (ps : List (Option (Option Nat))) (rest : List mj_K) (c : mj_C) (A : Option (Option Value × List mj_K × mj_C)) (o : Option (Nat × Nat × Nat × Nat × (Nat → Nat))) : Prop := (∀ s', o = some s' → ∃ c', A = some (some (.int (nI 1)), w_sh L ps rest, c') ∧ a_R c' s' ∧ ∀ b, b ≠ 47 → b ≠ 48 → c' b = c b) ∧ (o = none → ∃ c', A = some (some (.int (nI 0)), w_sh L ps rest, c') ∧ ∀ b, b ≠ 47 → b ≠ 48 → c' b = c b)
theorem a_T_no {A : Option (Option Value × List mj_K × mj_C)} {c' : mj_C} (h : A = some (some (.int (nI 0)), w_sh L ps rest, c')) (hc : ∀ b, b ≠ 47 → b ≠ 48 → c' b = c b) : a_T L ps rest c A none := ⟨fun _ h => (by cases h), fun _ => ⟨c', h, hc⟩⟩
theorem a_T_yes {A : Option (Option Value × List mj_K × mj_C)} {c' : mj_C} {s : Nat × Nat × Nat × Nat × (Nat → Nat)} (h : A = some (some (.int (nI 1)), w_sh L ps rest, c')) (hR : a_R c' s) (hc : ∀ b, b ≠ 47 → b ≠ 48 → c' b = c b) : a_T L ps rest c A (some s) := ⟨fun s' h' => by cases h'; exact ⟨c', h, hR, hc⟩, fun h => (by cases h)⟩
theorem a_R_mk {st pg ln pl : Nat} {wf : Nat → Nat} (h0 : c 47 4 = nI st) (h1 : st ≤ 6) (h2 : 1 ≤ st → c 47 0 = nI pg ∧ pg < 10) (h3 : 3 ≤ st → c 47 1 = nI ln ∧ ln < 8) (h4 : 4 ≤ st → c 47 3 = nI pl ∧ pl < 8) (h5 : ∀ w, w < 8 → (st = 4 ∧ w < pl ∨ st = 5 ∧ w ≤ pl ∨ st = 6) → c 48 w = nI (wf w) ∧ wf w < 65536) : a_R c (st, pg, ln, pl, wf) := ⟨h0, h1, h2, h3, h4, h5⟩
theorem k_isDigit {ch : Nat} (hch : ch < 1000) : mj_EV 75 0 [some (.int (nI ch))] [] (w_sh L ps rest) c = some (some (.int (if 48 ≤ ch ∧ ch ≤ 57 then nI 1 else nI 0)), w_sh L ps rest, c) := by
  rw [e75_0]
  simp (disch := omega) only [nI_ltI]
  by_cases q1 : ch < 48
  · rw [if_pos q1, if_neg (by omega)]
  · rw [if_neg q1]
    by_cases q2 : 57 < ch
    · rw [if_pos q2, if_neg (by omega)]
    · rw [if_neg q2, if_pos (by omega)]
theorem a_47 {x y : Int32} {k j : Nat} (h : j ≠ k) : mj_u c 47 k x 47 j = c 47 j := by rw [mj_u_self, s_upd_ne h]
theorem a_fr {k : Nat} {x : Int32} : ∀ b, b ≠ 47 → b ≠ 48 → mj_u c 47 k x b = c b := fun b h _ => mj_u_ne _ _ _ _ h
theorem k_takes {s : Nat × Nat × Nat × Nat × (Nat → Nat)} {ch : Nat} (hR : a_R c s) (h1 : 33 ≤ ch) (h2 : ch ≤ 126) : a_T L ps rest c (mj_EV 79 0 [some (.ref 47), some (.int (nI ch))] [] (w_sh L ps rest) c) (a_step s ch) := by
  obtain ⟨st, pg, ln, pl, wf⟩ := s
  obtain ⟨r0, r1, r2, r3, r4, r5⟩ := hR
  have r0 : c 47 4 = nI st := r0
  have r1 : st ≤ 6 := r1
  have r2 : 1 ≤ st → c 47 0 = nI pg ∧ pg < 10 := r2
  have r3 : 3 ≤ st → c 47 1 = nI ln ∧ ln < 8 := r3
  have r4 : 4 ≤ st → c 47 3 = nI pl ∧ pl < 8 := r4
  have r5 : ∀ w, w < 8 → (st = 4 ∧ w < pl ∨ st = 5 ∧ w ≤ pl ∨ st = 6) → c 48 w = nI (wf w) ∧ wf w < 65536 := r5
  rw [e79_0, r0]
  unfold a_step
  rcases (show st = 0 ∨ st = 1 ∨ st = 2 ∨ st = 3 ∨ st = 4 ∨ st = 5 ∨ st = 6 by omega) with rfl | rfl | rfl | rfl | rfl | rfl | rfl
  · skip
    rw [if_pos rfl, if_pos rfl, k_isDigit (by omega), mj_then_i, e79_56]
    by_cases q : 48 ≤ ch ∧ ch ≤ 57
    · rw [if_pos q, if_pos q, if_neg (by decide), e76_0, mj_then_i, e79_64, if_neg (by decide), pk_sub q.1]
      refine a_T_yes rfl (a_R_mk ?_ (by decide) (fun _ => ⟨?_, by show ch - 48 < 10; omega⟩) (fun h => absurd h (by decide)) (fun h => absurd h (by decide)) (fun w _ h => absurd h (by simp))) (fun b hb _ => by rw [mj_u_ne _ _ _ _ hb, mj_u_ne _ _ _ _ hb])
      · rw [mj_u_self, s_upd_eq]
      · rw [mj_u_self, s_upd_ne (by decide), mj_u_self, s_upd_eq]
    · rw [if_neg q, if_neg q, if_pos rfl]
      exact a_T_no rfl a_fr
  · skip
    rw [if_neg (by decide), if_pos rfl, if_neg (by decide : ¬ (1 = 0)), if_pos rfl]
    simp (disch := omega) only [nI_eq]
    by_cases q : ch = 58
    · rw [if_pos q, if_pos q, e76_0, mj_then_i, e79_84, if_neg (by decide)]
      refine a_T_yes rfl (a_R_mk ?_ (by decide) (fun _ => ?_) (fun h => absurd h (by decide)) (fun h => absurd h (by decide)) (fun w _ h => absurd h (by simp))) a_fr
      · rw [mj_u_self, s_upd_eq]
      · rw [mj_u_self, s_upd_ne (by decide)]
        exact r2 (by decide)
    · rw [if_neg q, if_neg q]
      exact a_T_no rfl (fun _ _ _ => rfl)
  · skip
    rw [if_neg (by decide), if_neg (by decide), if_pos rfl, if_neg (by decide : ¬ (2 = 0)), if_neg (by decide : ¬ (2 = 1)), if_pos rfl, mj_u_self, s_upd_eq]
    by_cases q0 : 48 ≤ ch
    · rw [pk_sub q0]
      simp (disch := omega) only [nI_ltI, nI_leI]
      rw [if_neg (by omega)]
      by_cases q : ch ≤ 55
      · rw [if_pos (show 48 ≤ ch ∧ ch ≤ 55 from ⟨q0, q⟩), if_neg (by omega), e76_0, mj_then_i, e79_122, if_neg (by decide)]
        refine a_T_yes rfl (a_R_mk ?_ (by decide) (fun _ => ?_) (fun _ => ⟨?_, by show ch - 48 < 8; omega⟩) (fun h => absurd h (by decide)) (fun w _ h => absurd h (by simp))) (fun b hb _ => by rw [mj_u_ne _ _ _ _ hb, mj_u_ne _ _ _ _ hb])
        · rw [mj_u_self, s_upd_eq]
        · rw [mj_u_self, s_upd_ne (by decide), mj_u_self, s_upd_ne (by decide)]
          exact r2 (by decide)
        · rw [mj_u_self, s_upd_ne (by decide), mj_u_self, s_upd_eq]
      · rw [if_neg (show ¬ (48 ≤ ch ∧ ch ≤ 55) from fun z => q z.2), if_pos (by omega)]
        exact a_T_no rfl a_fr
    · rw [if_pos (show nI ch - nI 48 < nI 0 by rw [nI_0]; exact pk_sneg (by omega) (by omega)), if_neg (show ¬ (48 ≤ ch ∧ ch ≤ 55) from fun z => q0 z.1)]
      exact a_T_no rfl a_fr
  · skip
    rw [if_neg (by decide), if_neg (by decide), if_neg (by decide), if_pos rfl, if_neg (by decide : ¬ (3 = 0)), if_neg (by decide : ¬ (3 = 1)), if_neg (by decide : ¬ (3 = 2)), if_pos rfl]
    simp (disch := omega) only [nI_eq]
    by_cases q : ch = 61
    · rw [if_pos q, if_pos q, e76_0, mj_then_i, e79_147, if_neg (by decide)]
      refine a_T_yes rfl (a_R_mk ?_ (by decide) (fun _ => ?_) (fun _ => ?_) (fun _ => ⟨?_, by show 0 < 8; omega⟩) (fun w _ h => ?_)) (fun b hb _ => by rw [mj_u_ne _ _ _ _ hb, mj_u_ne _ _ _ _ hb])
      · rw [mj_u_self, s_upd_eq]
      · rw [mj_u_self, s_upd_ne (by decide), mj_u_self, s_upd_ne (by decide)]
        exact r2 (by decide)
      · rw [mj_u_self, s_upd_ne (by decide), mj_u_self, s_upd_ne (by decide)]
        exact r3 (by decide)
      · rw [mj_u_self, s_upd_ne (by decide), mj_u_self, s_upd_eq]
      · exfalso
        rcases h with ⟨-, h⟩ | ⟨h, -⟩ | h
        · exact absurd h (Nat.not_lt_zero w)
        · exact absurd h (by decide)
        · exact absurd h (by decide)
    · rw [if_neg q, if_neg q]
      exact a_T_no rfl a_fr
  · skip
    obtain ⟨p3, p8⟩ := r4 (Nat.le_refl 4)
    have p3 : c 47 3 = nI pl := p3
    have p8 : pl < 8 := p8
    rw [if_neg (by decide), if_neg (by decide), if_neg (by decide), if_neg (by decide), if_pos rfl, if_neg (by decide : ¬ (4 = 0)), if_neg (by decide : ¬ (4 = 1)), if_neg (by decide : ¬ (4 = 2)), if_neg (by decide : ¬ (4 = 3)), if_pos rfl, p3, mj_in_nI (by omega), nI_clamp (by omega), if_pos (by simp; omega), k_isDigit (by omega), mj_then_i, e79_173]
    by_cases q : 48 ≤ ch ∧ ch ≤ 57
    · rw [if_pos q, if_pos q, if_neg (by decide), e76_0, mj_then_i, e79_181, if_neg (by decide), pk_sub q.1]
      refine a_T_yes rfl (a_R_mk ?_ (by decide) (fun _ => ?_) (fun _ => ?_) (fun _ => ?_) (fun w hw h => ?_)) (fun b hb hb2 => by rw [mj_u_ne _ _ _ _ hb, mj_u_ne _ _ _ _ hb2])
      · rw [mj_u_self, s_upd_eq]
      · rw [mj_u_self, s_upd_ne (by decide), mj_u_ne _ _ _ _ (by decide)]
        exact r2 (by decide)
      · rw [mj_u_self, s_upd_ne (by decide), mj_u_ne _ _ _ _ (by decide)]
        exact r3 (by decide)
      · rw [mj_u_self, s_upd_ne (by decide), mj_u_ne _ _ _ _ (by decide)]
        exact r4 (by decide)
      · rw [mj_u_ne _ _ _ _ (by decide), mj_u_self]
        show _ = nI (a_up wf pl (ch - 48) w) ∧ a_up wf pl (ch - 48) w < 65536
        unfold a_up
        by_cases qw : w = pl
        · rw [qw, s_upd_eq, if_pos rfl]
          exact ⟨rfl, by omega⟩
        · rw [s_upd_ne qw, if_neg qw]
          refine r5 w hw (Or.inl ⟨rfl, ?_⟩)
          rcases h with ⟨h, -⟩ | ⟨-, h⟩ | h
          · exact absurd h (by decide)
          · have h : w ≤ pl := h
            show w < pl
            omega
          · exact absurd h (by decide)
    · rw [if_neg q, if_neg q, if_pos rfl]
      exact a_T_no rfl (fun b _ hb2 => mj_u_ne _ _ _ _ hb2)
  · skip
    obtain ⟨p3, p8⟩ := r4 (by decide)
    have p3 : c 47 3 = nI pl := p3
    have p8 : pl < 8 := p8
    obtain ⟨pw, pw2⟩ := r5 pl p8 (Or.inr (Or.inl ⟨rfl, Nat.le_refl pl⟩))
    have pw : c 48 pl = nI (wf pl) := pw
    have pw2 : wf pl < 65536 := pw2
    rw [if_neg (by decide), if_neg (by decide), if_neg (by decide), if_neg (by decide), if_neg (by decide), if_pos rfl, if_neg (by decide : ¬ (5 = 0)), if_neg (by decide : ¬ (5 = 1)), if_neg (by decide : ¬ (5 = 2)), if_neg (by decide : ¬ (5 = 3)), if_neg (by decide : ¬ (5 = 4)), if_pos rfl, k_isDigit (by omega), mj_then_i, e79_194]
    by_cases q : 48 ≤ ch ∧ ch ≤ 57
    · rw [if_pos q, if_pos q, if_neg (by decide), pk_sub q.1, e77_0, p3, mj_in_nI (by omega), nI_clamp (by omega), if_pos (by simp; omega), if_pos (by simp; omega), pw, pk_mul, nI_add]
      simp (disch := omega) only [nI_eq, nI_leI]
      by_cases q0 : wf pl = 0
      · rw [if_pos q0, if_pos (show wf pl = 0 from q0), mj_then_i, e79_205, e79_213, if_pos (by decide)]
        exact a_T_no rfl (fun _ _ _ => rfl)
      · rw [if_neg q0, if_neg (show ¬ wf pl = 0 from q0)]
        by_cases q1 : 10 * wf pl + (ch - 48) ≤ 65535
        · rw [if_pos q1, if_pos (show 10 * wf pl + (ch - 48) ≤ 65535 from q1), if_pos (by simp; omega), mj_then_i, e79_205, e79_213, if_pos (by decide)]
          refine a_T_yes rfl (a_R_mk ?_ (by decide) (fun _ => ?_) (fun _ => ?_) (fun _ => ?_) (fun w hw h => ?_)) (fun b hb hb2 => by rw [mj_u_ne _ _ _ _ hb2])
          · rw [mj_u_ne _ _ _ _ (by decide)]
            exact r0
          · rw [mj_u_ne _ _ _ _ (by decide)]
            exact r2 (by decide)
          · rw [mj_u_ne _ _ _ _ (by decide)]
            exact r3 (by decide)
          · rw [mj_u_ne _ _ _ _ (by decide)]
            exact r4 (by decide)
          · rw [mj_u_self]
            show _ = nI (a_up wf pl (10 * wf pl + (ch - 48)) w) ∧ a_up wf pl (10 * wf pl + (ch - 48)) w < 65536
            unfold a_up
            by_cases qw : w = pl
            · rw [qw, s_upd_eq, if_pos rfl]
              exact ⟨rfl, by omega⟩
            · rw [s_upd_ne qw, if_neg qw]
              exact r5 w hw h
        · rw [if_neg q1, if_neg (show ¬ 10 * wf pl + (ch - 48) ≤ 65535 from q1), mj_then_i, e79_205, e79_213, if_pos (by decide)]
          exact a_T_no rfl (fun _ _ _ => rfl)
    · rw [if_neg q, if_neg q, if_pos rfl, e78_0, p3]
      simp (disch := omega) only [nI_eq]
      have e33 : ch ≠ 42 ∨ pl ≠ 0 → a_T L ps rest c (mj_then 79 213 [some (.ref 47), some (.int (nI ch))] [] (mj_EV 78 33 [some (.ref 47), some (.int (nI ch))] [] (w_sh L ps rest) c)) (if ch = 44 ∧ pl < 7 then some (4, pg, ln, pl + 1, wf) else if ch = 59 ∧ pl = 7 then some (0, pg, ln, pl, wf) else none) := by
        intro _
        rw [e78_33, p3]
        simp (disch := omega) only [nI_eq, nI_leI]
        by_cases q44 : ch = 44
        · rw [if_pos q44]
          by_cases q7 : 7 ≤ pl
          · rw [if_pos q7, if_neg (show ¬ ch = 59 by omega), mj_then_i, e79_213, if_pos (by decide), if_neg (show ¬ (ch = 44 ∧ pl < 7) from fun z => by omega), if_neg (show ¬ (ch = 59 ∧ pl = 7) from fun z => by omega)]
            exact a_T_no rfl (fun _ _ _ => rfl)
          · rw [if_neg q7, if_pos (show ch = 44 ∧ pl < 7 from ⟨q44, by omega⟩), e76_0, mj_then_i, e78_63, if_pos (by decide), mj_then_i, e79_213, if_pos (by decide), nI_add]
            refine a_T_yes rfl (a_R_mk ?_ (by decide) (fun _ => ?_) (fun _ => ?_) (fun _ => ⟨?_, by show pl + 1 < 8; omega⟩) (fun w hw h => ?_)) (fun b hb hb2 => by rw [mj_u_ne _ _ _ _ hb, mj_u_ne _ _ _ _ hb])
            · rw [mj_u_self, s_upd_eq]
            · rw [mj_u_self, s_upd_ne (by decide), mj_u_self, s_upd_ne (by decide)]
              exact r2 (by decide)
            · rw [mj_u_self, s_upd_ne (by decide), mj_u_self, s_upd_ne (by decide)]
              exact r3 (by decide)
            · rw [mj_u_self, s_upd_ne (by decide), mj_u_self, s_upd_eq]
            · rw [mj_u_ne _ _ _ _ (by decide), mj_u_ne _ _ _ _ (by decide)]
              refine r5 w hw (Or.inr (Or.inl ⟨rfl, ?_⟩))
              rcases h with ⟨-, h⟩ | ⟨h, -⟩ | h
              · have h : w < pl + 1 := h
                show w ≤ pl
                omega
              · exact absurd h (by decide)
              · exact absurd h (by decide)
        · rw [if_neg q44, if_neg (show ¬ (ch = 44 ∧ pl < 7) from fun z => q44 z.1)]
          by_cases q59 : ch = 59
          · rw [if_pos q59]
            by_cases q7 : pl = 7
            · rw [if_pos q7, if_pos (show ch = 59 ∧ pl = 7 from ⟨q59, q7⟩), e76_0, mj_then_i, e78_84, if_neg (by decide), mj_then_i, e79_213, if_pos (by decide)]
              refine a_T_yes rfl (a_R_mk ?_ (by decide) (fun h => absurd h (by decide)) (fun h => absurd h (by decide)) (fun h => absurd h (by decide)) (fun w hw h => ?_)) a_fr
              · rw [mj_u_self, s_upd_eq]
              · exfalso
                rcases h with ⟨h, -⟩ | ⟨h, -⟩ | h
                · exact absurd h (by decide)
                · exact absurd h (by decide)
                · exact absurd h (by decide)
            · rw [if_neg q7, if_neg (show ¬ (ch = 59 ∧ pl = 7) from fun z => q7 z.2), mj_then_i, e79_213, if_pos (by decide)]
              exact a_T_no rfl (fun _ _ _ => rfl)
          · rw [if_neg q59, if_neg (show ¬ (ch = 59 ∧ pl = 7) from fun z => q59 z.1), mj_then_i, e79_213, if_pos (by decide)]
            exact a_T_no rfl (fun _ _ _ => rfl)
      by_cases q42 : ch = 42
      · rw [if_pos q42]
        by_cases q0 : pl = 0
        · rw [if_pos q0, if_pos (show ch = 42 ∧ pl = 0 from ⟨q42, q0⟩), if_pos (by decide), j_fill w_48 (by omega), mj_then_v, e78_26, e76_0, mj_then_i, e78_32, if_pos (by decide), mj_then_i, e79_213, if_pos (by decide)]
          refine a_T_yes rfl (a_R_mk ?_ (by decide) (fun _ => ?_) (fun _ => ?_) (fun _ => ?_) (fun w hw h => ?_)) (fun b hb hb2 => by rw [mj_u_ne _ _ _ _ hb, s_set_ne _ _ hb2])
          · rw [mj_u_self, s_upd_eq]
          · rw [mj_u_self, s_upd_ne (by decide), s_set_ne _ _ (by decide)]
            exact r2 (by decide)
          · rw [mj_u_self, s_upd_ne (by decide), s_set_ne _ _ (by decide)]
            exact r3 (by decide)
          · rw [mj_u_self, s_upd_ne (by decide), s_set_ne _ _ (by decide)]
            exact r4 (by decide)
          · rw [mj_u_ne _ _ _ _ (by decide), s_set_eq, if_pos hw]
            rw [q0] at pw pw2
            exact ⟨pw, pw2⟩
        · rw [if_neg q0, if_neg (show ¬ (ch = 42 ∧ pl = 0) from fun z => q0 z.2)]
          exact e33 (Or.inr q0)
      · rw [if_neg q42, if_neg (show ¬ (ch = 42 ∧ pl = 0) from fun z => q42 z.1)]
        exact e33 (Or.inl q42)
  · skip
    rw [if_neg (by decide), if_neg (by decide), if_neg (by decide), if_neg (by decide), if_neg (by decide), if_neg (by decide), if_neg (by decide : ¬ (6 = 0)), if_neg (by decide : ¬ (6 = 1)), if_neg (by decide : ¬ (6 = 2)), if_neg (by decide : ¬ (6 = 3)), if_neg (by decide : ¬ (6 = 4)), if_neg (by decide : ¬ (6 = 5))]
    simp (disch := omega) only [nI_eq]
    by_cases q : ch = 59
    · rw [if_pos q, if_pos q, e76_0, mj_then_i, e79_225, if_neg (by decide)]
      refine a_T_yes rfl (a_R_mk ?_ (by decide) (fun h => absurd h (by decide)) (fun h => absurd h (by decide)) (fun h => absurd h (by decide)) (fun w hw h => ?_)) a_fr
      · rw [mj_u_self, s_upd_eq]
      · exfalso
        rcases h with ⟨h, -⟩ | ⟨h, -⟩ | h
        · exact absurd h (by decide)
        · exact absurd h (by decide)
        · exact absurd h (by decide)
    · rw [if_neg q, if_neg q]
      exact a_T_no rfl (fun _ _ _ => rfl)
end AU
