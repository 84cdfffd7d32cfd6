/-! AN ENTRY: the reference reads it, and the class's states go along -/
def a_end (s : Nat × Nat × Nat × Nat × (Nat → Nat)) : Prop := s.1 = 6 ∨ s.1 = 5 ∧ s.2.2.2.1 = 7
def a_ok (L : Nat) (ps : List (Option (Option Nat))) (c : mj_C) (A : Option (Option Value × List mj_K × mj_C)) (f : Nat → Nat) (T : Nat) (s : Nat × Nat × Nat × Nat × (Nat → Nat)) (i : Nat) : Prop := ∃ c' m s', A = some (some (.int (nI 1)), w_al L ps, c') ∧ i + m ≤ T ∧ c' 52 7 = nI (i + m) ∧ a_F c c' ∧ a_run f s i m = some s' ∧ a_end s' ∧ (c' 52 8 = nI s'.2.1 ∧ s'.2.1 < 10) ∧ (c' 52 9 = nI s'.2.2.1 ∧ s'.2.2.1 < 8) ∧ (∀ w, w < 8 → c' 57 w = nI (s'.2.2.2.2 w) ∧ s'.2.2.2.2 w < 65536) ∧ (∀ k, k < m → f (i + k) ≠ 59) ∧ (i + m < T → f (i + m) ≠ 59 → a_step s' (f (i + m)) = none)
def a_bad (L : Nat) (ps : List (Option (Option Nat))) (c : mj_C) (A : Option (Option Value × List mj_K × mj_C)) (f : Nat → Nat) (T : Nat) (s : Nat × Nat × Nat × Nat × (Nat → Nat)) (i : Nat) : Prop := ∃ c' m s', A = some (some (.int (nI 0)), w_al L ps, c') ∧ i + m ≤ T ∧ c' 52 7 = nI (i + m) ∧ a_F c c' ∧ a_run f s i m = some s' ∧ ¬ a_end s' ∧ (∀ k, k < m → f (i + k) ≠ 59) ∧ (i + m < T → a_step s' (f (i + m)) = none)
section EN
variable {L : Nat} {ps : List (Option (Option Nat))} {c : mj_C} {f : Nat → Nat} {T : Nat} {A : Option (Option Value × List mj_K × mj_C)} {s s1 : Nat × Nat × Nat × Nat × (Nat → Nat)}
theorem a_res_app {c0 : mj_C} {i n : Nat} (hF : a_F c0 c) (h1 : a_run f s i n = some s1) (hn : ∀ k, k < n → f (i + k) ≠ 59) (h : a_ok L ps c A f T s1 (i + n) ∨ a_bad L ps c A f T s1 (i + n)) : a_ok L ps c0 A f T s i ∨ a_bad L ps c0 A f T s i := by
  have hk : ∀ m, (∀ k, k < m → f (i + n + k) ≠ 59) → ∀ k, k < n + m → f (i + k) ≠ 59 := by
    intro m hm k hk
    by_cases q : k < n
    · exact hn k q
    · have := hm (k - n) (by omega)
      rw [show i + n + (k - n) = i + k by omega] at this
      exact this
  rcases h with ⟨c', m, s', e1, e2, e3, e4, e5, e6, e7, e8, e9, e10, e11⟩ | ⟨c', m, s', e1, e2, e3, e4, e5, e6, e7, e8⟩
  · refine Or.inl ⟨c', n + m, s', e1, by omega, by rw [← Nat.add_assoc]; exact e3, a_F_t hF e4, a_app (s2 := s) h1 m _ e5, e6, e7, e8, e9, hk m e10, ?_⟩
    rw [← Nat.add_assoc]
    exact e11
  · refine Or.inr ⟨c', n + m, s', e1, by omega, by rw [← Nat.add_assoc]; exact e3, a_F_t hF e4, a_app (s2 := s) h1 m _ e5, e6, hk m e7, ?_⟩
    rw [← Nat.add_assoc]
    exact e8
theorem a_bad0 {c' : mj_C} {i : Nat} (hA : A = some (some (.int (nI 0)), w_al L ps, c')) (hi : i ≤ T) (h7 : c' 52 7 = nI i) (hF : a_F c c') (he : ¬ a_end s) (hs : i < T → a_step s (f i) = none) : a_ok L ps c A f T s i ∨ a_bad L ps c A f T s i := Or.inr ⟨c', 0, s, hA, hi, h7, hF, rfl, he, fun k hk => absurd hk (Nat.not_lt_zero k), hs⟩
/-- from a value on, the reference has still to read the words k .. 7 -/
theorem m_words : ∀ n k : Nat, k + n = 8 → 1 ≤ k → ∀ (c : mj_C) (x1 : Int32) (j pg ln : Nat) (wf : Nat → Nat), a_X c f T → j ≤ T → c 52 7 = nI j → c 52 8 = nI pg → pg < 10 → c 52 9 = nI ln → ln < 8 → (∀ w, w < k → c 57 w = nI (wf w) ∧ wf w < 65536) → (k = 1 → j < T → f j ≠ 42) → (j < T → 48 ≤ f j → f j ≤ 57 → wf (k - 1) = 0 ∨ 65535 < 10 * wf (k - 1) + (f j - 48)) → a_ok L ps c (mj_EV 161 120 [some (.ref 52), some (.int x1), some (.int (nI k))] [] (w_al L ps) c) f T (5, pg, ln, k - 1, wf) j ∨ a_bad L ps c (mj_EV 161 120 [some (.ref 52), some (.int x1), some (.int (nI k))] [] (w_al L ps) c) f T (5, pg, ln, k - 1, wf) j := by
  intro n
  induction n with
  | zero =>
    intro k hk hk1 c x1 j pg ln wf hX hj h7 h8 hpg h9 hln hw h42 hst
    rw [e161_120]
    simp (disch := omega) only [nI_leI]
    rw [if_pos (by omega)]
    refine Or.inl ⟨c, 0, _, rfl, hj, h7, a_F_r c, rfl, Or.inr ⟨rfl, by show k - 1 = 7; omega⟩, ⟨h8, hpg⟩, ⟨h9, hln⟩, fun w hw8 => hw w (by omega), fun k hk => absurd hk (Nat.not_lt_zero k), fun h1 h2 => ?_⟩
    have h1 : j < T := h1
    have h2 : f j ≠ 59 := h2
    show a_step (5, pg, ln, k - 1, wf) (f j) = none
    rw [a_s5]
    by_cases q : 48 ≤ f j ∧ f j ≤ 57
    · rw [if_pos q]
      rcases hst h1 q.1 q.2 with h3 | h3
      · rw [if_pos h3]
      · by_cases q0 : wf (k - 1) = 0
        · rw [if_pos q0]
        · rw [if_neg q0, if_neg (by omega)]
    · rw [if_neg q, if_neg (by omega), if_neg (by omega), if_neg (by omega)]
  | succ n ih =>
    intro k hk hk1 c x1 j pg ln wf hX hj h7 h8 hpg h9 hln hw h42 hst
    have h80 := hX.1
    rw [e161_120]
    simp (disch := omega) only [nI_leI]
    rw [if_neg (by omega)]
    by_cases q : j < T ∧ f j = 44
    · have hF1 : a_F c (mj_u c 52 7 (nI (j + 1))) := a_F_u (by omega)
      have h71 : mj_u c 52 7 (nI (j + 1)) 52 7 = nI (j + 1) := by rw [mj_u_self, s_upd_eq]
      rw [m_isNext_y hX h7 q.1 q.2, mj_then_i, e161_132, if_neg (by decide)]
      have st1 : a_run f (5, pg, ln, k - 1, wf) j 1 = some (4, pg, ln, k, wf) := by
        refine a_one ?_
        rw [a_s5, if_neg (by omega), if_neg (by omega), if_pos (by omega), show k - 1 + 1 = k by omega]
      refine a_res_app (n := 1) hF1 st1 (fun k hk => by rw [show k = 0 by omega, Nat.add_zero, q.2]; decide) ?_
      by_cases q2 : j + 1 < T ∧ 48 ≤ f (j + 1) ∧ f (j + 1) ≤ 57
      · obtain ⟨c', m, v', r1, r0, r2, r3, r4, r5, r6, r7, r8, r9, r10, r11, r12⟩ := m_value_y (L := L) (ps := ps) (a_X_F hX hF1) q2.1 h71 q2.2
        obtain ⟨wf', w1, w2, w3⟩ := r11 pg ln k wf
        rw [r1, mj_then_i, e161_139, if_neg (by decide), mj_in_nI (by omega), nI_clamp (by omega), if_pos (by simp; omega), s_u c' 57, r4, nI_add]
        have hF2 : a_F (mj_u c 52 7 (nI (j + 1))) (s_set c' 57 (upd (c' 57) k (nI v'))) := a_F_t r6 a_F_w
        refine a_res_app (n := m) hF2 w1 (fun k hk => by have := r10 k hk; omega) ?_
        have hk1 : k + 1 - 1 = k := by omega
        have h := ih (k + 1) (by omega) (by omega) (s_set c' 57 (upd (c' 57) k (nI v'))) x1 (j + 1 + m) pg ln wf' (a_X_F hX (a_F_t hF1 hF2)) r2 (by rw [s_set_ne _ _ (by decide)]; exact r5) (by rw [s_set_ne _ _ (by decide), r8, mj_u_self, s_upd_ne (by decide)]; exact h8) hpg (by rw [s_set_ne _ _ (by decide), r9, mj_u_self, s_upd_ne (by decide)]; exact h9) hln (fun w hw2 => ?_) (fun z => by omega) (by rw [hk1, w2]; exact r12)
        · rw [hk1] at h
          exact h
        · rw [s_set_eq]
          by_cases qw : w = k
          · rw [qw, s_upd_eq, w2]
            exact ⟨rfl, r3⟩
          · rw [s_upd_ne qw, w3 w qw, r7, mj_u_ne _ _ _ _ (by decide)]
            exact hw w (by omega)
      · obtain ⟨c', r1, r2, r3⟩ := m_value_n (L := L) (ps := ps) (i := j + 1) (a_X_F hX hF1) (by omega) h71 (fun h1 h2 => q2 ⟨h1, h2⟩)
        rw [r1, mj_then_i, e161_139, if_pos rfl]
        refine a_bad0 rfl (by omega) r3 r2 ?_ (fun h1 => ?_)
        · intro h
          rcases h with h | ⟨h, -⟩
          · exact absurd h (by decide : ¬ 4 = 6)
          · exact absurd h (by decide : ¬ 4 = 5)
        · rw [a_s4, if_neg (fun h2 => q2 ⟨h1, h2⟩)]
    · rw [m_isNext_n hX h7 hj (by omega) (fun h1 h2 => q ⟨h1, h2⟩), mj_then_i, e161_132, if_pos rfl]
      refine a_bad0 rfl hj h7 (a_F_r c) ?_ (fun h1 => ?_)
      · intro h
        rcases h with h | ⟨-, h⟩
        · exact absurd h (by decide : ¬ 5 = 6)
        · have h : k - 1 = 7 := h
          omega
      · rw [a_s5]
        by_cases q3 : 48 ≤ f j ∧ f j ≤ 57
        · rw [if_pos q3]
          rcases hst h1 q3.1 q3.2 with h3 | h3
          · rw [if_pos h3]
          · by_cases q0 : wf (k - 1) = 0
            · rw [if_pos q0]
            · rw [if_neg q0, if_neg (by omega)]
        · rw [if_neg q3, if_neg (fun z => h42 (by omega) h1 z.1), if_neg (fun z => q ⟨h1, z.1⟩), if_neg (by omega)]
theorem m_star {x1 : Int32} : ∀ n k : Nat, k + n = 8 → mj_EV 161 84 [some (.ref 52), some (.int x1), some (.int (nI k))] [] (w_al L ps) c = some (some (.int (nI 1)), w_al L ps, s_set c 57 (fun j => if k ≤ j ∧ j < 8 then c 52 10 else c 57 j)) := by
  intro n
  induction n generalizing c with
  | zero =>
    intro k hk
    rw [e161_84]
    simp (disch := omega) only [nI_leI]
    rw [if_pos (by omega)]
    have e : (fun j => if k ≤ j ∧ j < 8 then c 52 10 else c 57 j) = c 57 := by
      funext j
      rw [if_neg (by omega)]
    rw [e, s_set_self]
  | succ n ih =>
    intro k hk
    rw [e161_84]
    simp (disch := omega) only [nI_leI, mj_in_nI, nI_clamp]
    rw [if_neg (by omega), if_pos (by simp; omega), nI_add, ih (k + 1) (by omega), s_u, s_set_set, s_set_eq, s_set_ne _ _ (by decide : 52 ≠ 57)]
    have e : (fun j => if k + 1 ≤ j ∧ j < 8 then c 52 10 else upd (c 57) k (c 52 10) j) = (fun j => if k ≤ j ∧ j < 8 then c 52 10 else c 57 j) := by
      funext j
      by_cases q : j = k
      · subst q
        rw [if_neg (by omega), s_upd_eq, if_pos (by omega)]
      · rw [s_upd_ne q]
        by_cases q2 : k ≤ j ∧ j < 8
        · rw [if_pos q2, if_pos (by omega)]
        · rw [if_neg q2, if_neg (by omega)]
    rw [e]
theorem m_entry {i pg0 ln0 pl0 : Nat} {wf0 : Nat → Nat} (hX : a_X c f T) (hi : i ≤ T) (h7 : c 52 7 = nI i) : a_ok L ps c (mj_EV 161 0 [some (.ref 52), none, none] [] (w_al L ps) c) f T (0, pg0, ln0, pl0, wf0) i ∨ a_bad L ps c (mj_EV 161 0 [some (.ref 52), none, none] [] (w_al L ps) c) f T (0, pg0, ln0, pl0, wf0) i := by
  have h80 := hX.1
  have ne : ∀ st pg ln pl (wf : Nat → Nat), st < 5 → ¬ a_end (st, pg, ln, pl, wf) := by
    intro st pg ln pl wf hst h
    rcases h with h | ⟨h, -⟩
    · have h : st = 6 := h
      omega
    · have h : st = 5 := h
      omega
  have one59 : ∀ j, f j ≠ 59 → ∀ k, k < 1 → f (j + k) ≠ 59 := by
    intro j hj k hk
    rw [show k = 0 by omega, Nat.add_zero]
    exact hj
  rw [e161_0]
  by_cases q1 : i < T ∧ 48 ≤ f i ∧ f i ≤ 57
  · -- the page
    have F1 : a_F c (mj_u (mj_u c 52 10 (nI (f i - 48))) 52 7 (nI (i + 1))) := a_F_t (a_F_u (by omega)) (a_F_u (by omega))
    rw [m_digit_y (hi := 9) hX h7 q1.1 q1.2.1 q1.2.2 (by omega), mj_then_i, e161_6, if_neg (by decide)]
    refine a_res_app (n := 1) F1 (a_one (by rw [a_s0, if_pos q1.2])) (one59 i (by omega)) ?_
    generalize hc1 : mj_u (mj_u c 52 10 (nI (f i - 48))) 52 7 (nI (i + 1)) = c1 at F1 ⊢
    have k7 : c1 52 7 = nI (i + 1) := by rw [← hc1, mj_u_self, s_upd_eq]
    have k10 : c1 52 10 = nI (f i - 48) := by rw [← hc1, mj_u_self, s_upd_ne (by decide), mj_u_self, s_upd_eq]
    rw [k10]
    have F2 : a_F c1 (mj_u c1 52 8 (nI (f i - 48))) := a_F_u (by omega)
    have X2 := a_X_F (a_X_F hX F1) F2
    refine a_res_app (n := 0) F2 rfl (fun k hk => absurd hk (Nat.not_lt_zero k)) ?_
    rw [Nat.add_zero]
    generalize hc2 : mj_u c1 52 8 (nI (f i - 48)) = c2 at F2 X2 ⊢
    have l7 : c2 52 7 = nI (i + 1) := by rw [← hc2, mj_u_self, s_upd_ne (by decide)]; exact k7
    have l8 : c2 52 8 = nI (f i - 48) := by rw [← hc2, mj_u_self, s_upd_eq]
    by_cases q2 : i + 1 < T ∧ f (i + 1) = 58
    · rw [m_isNext_y X2 l7 q2.1 q2.2, mj_then_i, e161_25, if_neg (by decide)]
      have F3 : a_F c2 (mj_u c2 52 7 (nI (i + 1 + 1))) := a_F_u (by omega)
      have X3 := a_X_F X2 F3
      refine a_res_app (n := 1) F3 (a_one (by rw [a_s1, if_pos q2.2])) (one59 (i + 1) (by omega)) ?_
      generalize hc3 : mj_u c2 52 7 (nI (i + 1 + 1)) = c3 at F3 X3 ⊢
      have n7 : c3 52 7 = nI (i + 1 + 1) := by rw [← hc3, mj_u_self, s_upd_eq]
      have n8 : c3 52 8 = nI (f i - 48) := by rw [← hc3, mj_u_self, s_upd_ne (by decide)]; exact l8
      by_cases q3 : i + 1 + 1 < T ∧ 48 ≤ f (i + 1 + 1) ∧ f (i + 1 + 1) ≤ 55
      · rw [m_digit_y (hi := 7) X3 n7 q3.1 q3.2.1 q3.2.2 (by omega), mj_then_i, e161_34, if_neg (by decide), if_neg (by decide)]
        have F4 : a_F c3 (mj_u (mj_u c3 52 10 (nI (f (i + 1 + 1) - 48))) 52 7 (nI (i + 1 + 1 + 1))) := a_F_t (a_F_u (by omega)) (a_F_u (by omega))
        have X4 := a_X_F X3 F4
        refine a_res_app (n := 1) F4 (a_one (by rw [a_s2, if_pos q3.2])) (one59 (i + 1 + 1) (by omega)) ?_
        generalize hc4 : mj_u (mj_u c3 52 10 (nI (f (i + 1 + 1) - 48))) 52 7 (nI (i + 1 + 1 + 1)) = c4 at F4 X4 ⊢
        have o7 : c4 52 7 = nI (i + 1 + 1 + 1) := by rw [← hc4, mj_u_self, s_upd_eq]
        have o8 : c4 52 8 = nI (f i - 48) := by rw [← hc4, mj_u_self, s_upd_ne (by decide), mj_u_self, s_upd_ne (by decide)]; exact n8
        have o10 : c4 52 10 = nI (f (i + 1 + 1) - 48) := by rw [← hc4, mj_u_self, s_upd_ne (by decide), mj_u_self, s_upd_eq]
        rw [o10]
        have F5 : a_F c4 (mj_u c4 52 9 (nI (f (i + 1 + 1) - 48))) := a_F_u (by omega)
        have X5 := a_X_F X4 F5
        refine a_res_app (n := 0) F5 rfl (fun k hk => absurd hk (Nat.not_lt_zero k)) ?_
        rw [Nat.add_zero]
        generalize hc5 : mj_u c4 52 9 (nI (f (i + 1 + 1) - 48)) = c5 at F5 X5 ⊢
        have p7 : c5 52 7 = nI (i + 1 + 1 + 1) := by rw [← hc5, mj_u_self, s_upd_ne (by decide)]; exact o7
        have p8 : c5 52 8 = nI (f i - 48) := by rw [← hc5, mj_u_self, s_upd_ne (by decide)]; exact o8
        have p9 : c5 52 9 = nI (f (i + 1 + 1) - 48) := by rw [← hc5, mj_u_self, s_upd_eq]
        by_cases q4 : i + 1 + 1 + 1 < T ∧ f (i + 1 + 1 + 1) = 61
        · rw [m_isNext_y X5 p7 q4.1 q4.2, mj_then_i, e161_61, if_neg (by decide)]
          have F6 : a_F c5 (mj_u c5 52 7 (nI (i + 1 + 1 + 1 + 1))) := a_F_u (by omega)
          have X6 := a_X_F X5 F6
          refine a_res_app (n := 1) F6 (a_one (by rw [a_s3, if_pos q4.2])) (one59 (i + 1 + 1 + 1) (by omega)) ?_
          generalize hc6 : mj_u c5 52 7 (nI (i + 1 + 1 + 1 + 1)) = c6 at F6 X6 ⊢
          have r7 : c6 52 7 = nI (i + 1 + 1 + 1 + 1) := by rw [← hc6, mj_u_self, s_upd_eq]
          have r8 : c6 52 8 = nI (f i - 48) := by rw [← hc6, mj_u_self, s_upd_ne (by decide)]; exact p8
          have r9 : c6 52 9 = nI (f (i + 1 + 1) - 48) := by rw [← hc6, mj_u_self, s_upd_ne (by decide)]; exact p9
          have hpg10 : f i - 48 < 10 := by omega
          have hln8 : f (i + 1 + 1) - 48 < 8 := by omega
          have hj4 : i + 1 + 1 + 1 + 1 ≤ T := by omega
          generalize i + 1 + 1 + 1 + 1 = j4 at r7 hj4 ⊢
          generalize f (i + 1 + 1) - 48 = ln at r9 hln8 ⊢
          generalize f i - 48 = pg at r8 hpg10 ⊢
          by_cases q5 : j4 < T ∧ 48 ≤ f (j4) ∧ f (j4) ≤ 57
          · obtain ⟨c7, m, v, t1, t0, t2, t3, t4, t5, F7, t7, t8, t9, t10, t11, t12⟩ := m_value_y (L := L) (ps := ps) X6 q5.1 r7 q5.2
            obtain ⟨wf', w1, w2, w3⟩ := t11 (pg) (ln) 0 wf0
            have X7 := a_X_F X6 F7
            rw [t1, mj_then_i, e161_68, if_neg (by decide)]
            refine a_res_app (n := m) F7 w1 (fun k hk => by have := t10 k hk; omega) ?_
            rw [r8] at t8
            rw [r9] at t9
            by_cases q6 : j4 + m < T ∧ f (j4 + m) = 42
            · rw [m_isNext_y X7 t5 q6.1 q6.2, mj_then_i, e161_79, if_neg (by decide), m_star 8 0 (by omega)]
              have F8 : a_F c7 (mj_u c7 52 7 (nI (j4 + m + 1))) := a_F_u (by omega)
              refine a_res_app (s1 := (6, pg, ln, 0, fun _ => wf' 0)) (n := 1) F8 (a_one ?_) (one59 _ (by omega)) (Or.inl ⟨_, 0, _, rfl, by omega, ?_, a_F_w, rfl, Or.inl rfl, ⟨?_, ?_⟩, ⟨?_, ?_⟩, fun w hw => ?_, fun k hk => absurd hk (Nat.not_lt_zero k), fun h1 h2 => ?_⟩)
              · rw [a_s5, if_neg (by omega), if_pos ⟨q6.2, rfl⟩]
              · rw [s_set_ne _ _ (by decide), mj_u_self, s_upd_eq]
              · rw [s_set_ne _ _ (by decide), mj_u_self, s_upd_ne (by decide)]; exact t8
              · exact hpg10
              · rw [s_set_ne _ _ (by decide), mj_u_self, s_upd_ne (by decide)]; exact t9
              · exact hln8
              · rw [s_set_eq, if_pos (by omega), mj_u_self, s_upd_ne (by decide), t4]
                show nI v = nI (wf' 0) ∧ wf' 0 < 65536
                rw [w2]
                exact ⟨rfl, t3⟩
              · rw [a_s6, if_neg h2]
            · rw [m_isNext_n X7 t5 (by omega) (by omega) (fun h1 h2 => q6 ⟨h1, h2⟩), mj_then_i, e161_79, if_pos rfl, mj_in_nI (by omega), nI_clamp (by omega), if_pos (by decide), s_u c7 57, t4]
              have F8 : a_F c7 (s_set c7 57 (upd (c7 57) 0 (nI v))) := a_F_w
              refine a_res_app (n := 0) F8 rfl (fun k hk => absurd hk (Nat.not_lt_zero k)) ?_
              rw [Nat.add_zero]
              refine m_words 7 1 (by omega) (by omega) _ _ (j4 + m) pg ln wf' (a_X_F X7 F8) t2 (by rw [s_set_ne _ _ (by decide)]; exact t5) (by rw [s_set_ne _ _ (by decide)]; exact t8) hpg10 (by rw [s_set_ne _ _ (by decide)]; exact t9) hln8 (fun w hw => ?_) (fun _ h1 h2 => q6 ⟨h1, h2⟩) (by rw [show 1 - 1 = 0 by omega, w2]; exact t12)
              rw [s_set_eq, show w = 0 by omega, s_upd_eq, w2]
              exact ⟨rfl, t3⟩
          · obtain ⟨c', t1, t2, t3⟩ := m_value_n (L := L) (ps := ps) (i := j4) X6 (by omega) r7 (fun h1 h2 => q5 ⟨h1, h2⟩)
            rw [t1, mj_then_i, e161_68, if_pos rfl]
            exact a_bad0 rfl (by omega) t3 t2 (ne _ _ _ _ _ (by decide)) (fun h1 => by rw [a_s4, if_neg (fun h2 => q5 ⟨h1, h2⟩)])
        · rw [m_isNext_n X5 p7 (by omega) (by omega) (fun h1 h2 => q4 ⟨h1, h2⟩), mj_then_i, e161_61, if_pos rfl]
          exact a_bad0 rfl (by omega) p7 (a_F_r _) (ne _ _ _ _ _ (by decide)) (fun h1 => by rw [a_s3, if_neg (fun h2 => q4 ⟨h1, h2⟩)])
      · obtain ⟨x, e⟩ := m_digit_n (L := L) (ps := ps) (hi := 7) X3 n7 (by omega) (fun h1 h2 => q3 ⟨h1, h2⟩) (by omega)
        rw [e, mj_then_i, e161_34, if_pos rfl, if_pos rfl]
        refine a_bad0 rfl (by omega) ?_ (a_F_t (a_F_t (a_F_u (by omega)) (a_F_u (by omega))) (a_F_u (by omega))) (ne _ _ _ _ _ (by decide)) (fun h1 => by rw [a_s2, if_neg (fun h2 => q3 ⟨h1, h2⟩)])
        rw [mj_u_self, s_upd_ne (by decide), mj_u_self, s_upd_eq]
    · rw [m_isNext_n X2 l7 (by omega) (by omega) (fun h1 h2 => q2 ⟨h1, h2⟩), mj_then_i, e161_25, if_pos rfl, if_pos rfl]
      refine a_bad0 rfl (by omega) ?_ (a_F_u (by omega)) (ne _ _ _ _ _ (by decide)) (fun h1 => by rw [a_s1, if_neg (fun h2 => q2 ⟨h1, h2⟩)])
      rw [mj_u_self, s_upd_ne (by decide)]
      exact l7
  · obtain ⟨x, e⟩ := m_digit_n (L := L) (ps := ps) (hi := 9) hX h7 hi (fun h1 h2 => q1 ⟨h1, h2⟩) (by omega)
    rw [e, mj_then_i, e161_6, if_pos rfl, if_pos rfl]
    refine a_bad0 rfl hi ?_ (a_F_t (a_F_t (a_F_u (by omega)) (a_F_u (by omega))) (a_F_t (a_F_u (by omega)) (a_F_u (by omega)))) (ne _ _ _ _ _ (by decide)) (fun h1 => by rw [a_s0, if_neg (fun h2 => q1 ⟨h1, h2⟩)])
    rw [mj_u_self, s_upd_ne (by decide), mj_u_self, s_upd_ne (by decide), mj_u_self, s_upd_eq]
end EN
