/-! WHERE A TEXT IS WRONG -/
def a_P (f : Nat → Nat) (T : Nat) (s : Nat × Nat × Nat × Nat × (Nat → Nat)) (i : Nat) (r : Int32) : Prop := (r = (-6) ∧ ∃ m s', i + m = T ∧ a_run f s i m = some s' ∧ a_end s') ∨ ∃ m s', r = nI (i + m) ∧ i + m ≤ T ∧ a_run f s i m = some s' ∧ (i + m = T → ¬ a_end s') ∧ (i + m < T → a_step s' (f (i + m)) = none)
theorem a_P_app {f : Nat → Nat} {T : Nat} {s s1 : Nat × Nat × Nat × Nat × (Nat → Nat)} {i n : Nat} {r : Int32} (h1 : a_run f s i n = some s1) (h : a_P f T s1 (i + n) r) : a_P f T s i r := by
  rcases h with ⟨hr, m, s', e1, e2, e3⟩ | ⟨m, s', e1, e2, e3, e4, e5⟩
  · exact Or.inl ⟨hr, n + m, s', by omega, a_app (s2 := s) h1 m _ e2, e3⟩
  · refine Or.inr ⟨n + m, s', by rw [← Nat.add_assoc]; exact e1, by omega, a_app (s2 := s) h1 m _ e3, ?_, ?_⟩
    · rw [← Nat.add_assoc]; exact e4
    · rw [← Nat.add_assoc]; exact e5
/-- the text of the class -/
def a_Y (c : mj_C) (f : Nat → Nat) (T : Nat) : Prop := T ≤ 80 ∧ c 2 6 = nI T ∧ ∀ i, i < T → 33 ≤ f i ∧ f i ≤ 126 ∧ c 51 i = nI (f i)
theorem a_Y_F {c c' : mj_C} {f : Nat → Nat} {T : Nat} (h : a_Y c f T) (hF : ∀ b, b ≠ 47 → b ≠ 48 → c' b = c b) : a_Y c' f T := by
  unfold a_Y
  rw [hF 2 (by decide) (by decide), hF 51 (by decide) (by decide)]
  exact h
section SY
variable {L : Nat} {ps : List (Option (Option Nat))} {rest : List mj_K} {f : Nat → Nat} {T : Nat}
theorem m_find : ∀ n i : Nat, T - i = n → ∀ (c : mj_C) (pg ln pl : Nat) (wf : Nat → Nat), a_X c f T → i ≤ T → c 52 7 = nI i → ∃ c' r, mj_EV 162 5 [some (.ref 52)] [] (w_al L ps) c = some (some (.int r), w_al L ps, c') ∧ a_F c c' ∧ a_P f T (0, pg, ln, pl, wf) i r := by
  intro n
  induction n using Nat.strongRecOn with
  | ind n ih =>
    intro i hn c pg ln pl wf hX hi h7
    have h80 := hX.1
    rcases m_entry (L := L) (ps := ps) (pg0 := pg) (ln0 := ln) (pl0 := pl) (wf0 := wf) hX hi h7 with ⟨c1, m, s', e1, e2, e3, e4, e5, e6, -, -, -, -, e11⟩ | ⟨c1, m, s', e1, e2, e3, e4, e5, e6, -, e8⟩
    · have X1 := a_X_F hX e4
      by_cases q : i + m = T
      · refine ⟨c1, (-6), ?_, e4, Or.inl ⟨rfl, m, s', q, e5, e6⟩⟩
        rw [e162_5, e1, mj_then_i, e162_9, if_neg (by decide), e3, X1.2.1, if_pos (by rw [q])]
      · by_cases q2 : f (i + m) = 59
        · have st : a_step s' (f (i + m)) = some (0, s'.2.1, s'.2.2.1, s'.2.2.2.1, s'.2.2.2.2) := by
            obtain ⟨st, pg', ln', pl', wf'⟩ := s'
            rw [q2]
            rcases e6 with h | ⟨h, h2⟩
            · have h : st = 6 := h
              subst h
              rw [a_s6, if_pos rfl]
            · have h : st = 5 := h
              have h2 : pl' = 7 := h2
              subst h
              subst h2
              rw [a_s5, if_neg (by decide), if_neg (by decide), if_neg (by decide), if_pos (by decide)]
          have F2 : a_F c1 (mj_u c1 52 7 (nI (i + m + 1))) := a_F_u (by omega)
          obtain ⟨c', r, g1, g2, g3⟩ := ih (T - (i + m + 1)) (by omega) (i + m + 1) rfl (mj_u c1 52 7 (nI (i + m + 1))) s'.2.1 s'.2.2.1 s'.2.2.2.1 s'.2.2.2.2 (a_X_F X1 F2) (by omega) (by rw [mj_u_self, s_upd_eq])
          refine ⟨c', r, ?_, a_F_t e4 (a_F_t F2 g2), a_P_app e5 (a_P_app (n := 1) (a_one st) g3)⟩
          rw [e162_5, e1, mj_then_i, e162_9, if_neg (by decide), e3, X1.2.1, if_neg (by rw [nI_eq (by omega) (by omega)]; exact q), m_isNext_y X1 e3 (by omega) q2, mj_then_i, e162_37, if_neg (by decide)]
          exact g1
        · refine ⟨c1, nI (i + m), ?_, e4, Or.inr ⟨m, s', rfl, e2, e5, fun z => absurd z q, fun z => e11 z q2⟩⟩
          rw [e162_5, e1, mj_then_i, e162_9, if_neg (by decide), e3, X1.2.1, if_neg (by rw [nI_eq (by omega) (by omega)]; exact q), m_isNext_n X1 e3 (by omega) (by omega) (fun _ => q2), mj_then_i, e162_37, if_pos rfl, e3]
    · refine ⟨c1, nI (i + m), ?_, e4, Or.inr ⟨m, s', rfl, e2, e5, fun _ => e6, e8⟩⟩
      rw [e162_5, e1, mj_then_i, e162_9, if_pos rfl, e3]
theorem k_run {i : Nat} : ∀ m, i + m ≤ T → ∀ (c : mj_C) (s s' : Nat × Nat × Nat × Nat × (Nat → Nat)), a_Y c f T → a_R c s → a_run f s i m = some s' → ∃ c', mj_EV 81 9 [some (.ref 2), some (.int (nI i))] [] (w_sh L ps rest) c = mj_EV 81 9 [some (.ref 2), some (.int (nI (i + m)))] [] (w_sh L ps rest) c' ∧ a_R c' s' ∧ ∀ b, b ≠ 47 → b ≠ 48 → c' b = c b := by
  intro m
  induction m with
  | zero =>
    intro hm c s s' hY hR h
    have h : some s = some s' := h
    cases h
    exact ⟨c, rfl, hR, fun _ _ _ => rfl⟩
  | succ m ih =>
    intro hm c s s' hY hR h
    have h80 := hY.1
    have h : (a_run f s i m).bind (fun s' => a_step s' (f (i + m))) = some s' := h
    cases e : a_run f s i m with
    | none =>
      rw [e] at h
      cases h
    | some s1 =>
      rw [e] at h
      have h : a_step s1 (f (i + m)) = some s' := h
      obtain ⟨c1, e1, hR1, hF1⟩ := ih (by omega) c s s1 hY hR e
      have Y1 := a_Y_F hY hF1
      obtain ⟨f1, f2, f3⟩ := Y1.2.2 (i + m) (by omega)
      obtain ⟨c2, e2, hR2, hF2⟩ := (k_takes (L := L) (ps := ps) (rest := rest) hR1 f1 f2).1 s' h
      refine ⟨c2, ?_, hR2, fun b h1 h2 => (hF2 b h1 h2).trans (hF1 b h1 h2)⟩
      rw [e1, e81_9, Y1.2.1]
      simp (disch := omega) only [nI_leI, mj_in_nI, nI_clamp]
      rw [if_neg (by omega), if_pos (by simp; omega), f3, e2, mj_then_i, e81_30, if_neg (by decide), nI_add]
      rfl
theorem k_atEnd {c : mj_C} {s : Nat × Nat × Nat × Nat × (Nat → Nat)} (hR : a_R c s) : (a_end s → mj_EV 80 0 [some (.ref 47)] [] (w_sh L ps rest) c = some (some (.int (nI 1)), w_sh L ps rest, c)) ∧ (¬ a_end s → mj_EV 80 0 [some (.ref 47)] [] (w_sh L ps rest) c = some (some (.int (nI 0)), w_sh L ps rest, c)) := by
  obtain ⟨st, pg, ln, pl, wf⟩ := s
  obtain ⟨r0, r1, -, -, r4, -⟩ := hR
  have r0 : c 47 4 = nI st := r0
  have r1 : st ≤ 6 := r1
  have r4 : 4 ≤ st → c 47 3 = nI pl ∧ pl < 8 := r4
  rw [e80_0, r0]
  simp (disch := omega) only [nI_eq]
  constructor
  · intro h
    rcases h with h | ⟨h, h2⟩
    · have h : st = 6 := h
      rw [if_pos h]
    · have h : st = 5 := h
      have h2 : pl = 7 := h2
      rw [if_neg (by omega), if_pos h, (r4 (by omega)).1, h2, if_pos rfl]
  · intro h
    by_cases q6 : st = 6
    · exact absurd (Or.inl q6) h
    · rw [if_neg q6]
      by_cases q5 : st = 5
      · obtain ⟨p1, p2⟩ := r4 (by omega)
        rw [if_pos q5, p1, if_neg]
        rw [nI_eq (by omega) (by omega)]
        intro z
        exact h (Or.inr ⟨q5, z⟩)
      · rw [if_neg q5]
theorem k_find {c : mj_C} {i : Nat} {r : Int32} {s : Nat × Nat × Nat × Nat × (Nat → Nat)} (hP : a_P f T s i r) (hY : a_Y c f T) (hR : a_R c s) : ∃ c', mj_EV 81 9 [some (.ref 2), some (.int (nI i))] [] (w_sh L ps rest) c = some (some (.int r), w_sh L ps rest, c') ∧ ∀ b, b ≠ 47 → b ≠ 48 → c' b = c b := by
  have h80 := hY.1
  rcases hP with ⟨hr, m, s', e1, e2, e3⟩ | ⟨m, s', e1, e2, e3, e4, e5⟩
  · obtain ⟨c1, g1, hR1, hF1⟩ := k_run (L := L) (ps := ps) (rest := rest) m (by omega) c s s' hY hR e2
    refine ⟨c1, ?_, hF1⟩
    rw [g1, e81_9, (a_Y_F hY hF1).2.1, if_pos (by rw [e1]; exact Int32.le_refl _), (k_atEnd hR1).1 e3, mj_then_i, e81_48, if_neg (by decide), hr]
  · obtain ⟨c1, g1, hR1, hF1⟩ := k_run (L := L) (ps := ps) (rest := rest) m e2 c s s' hY hR e3
    have Y1 := a_Y_F hY hF1
    by_cases q : i + m = T
    · refine ⟨c1, ?_, hF1⟩
      rw [g1, e81_9, Y1.2.1, if_pos (by rw [q]; exact Int32.le_refl _), (k_atEnd hR1).2 (e4 q), mj_then_i, e81_48, if_pos rfl, Y1.2.1, e1, q]
    · obtain ⟨f1, f2, f3⟩ := Y1.2.2 (i + m) (by omega)
      obtain ⟨c2, g2, hF2⟩ := (k_takes (L := L) (ps := ps) (rest := rest) hR1 f1 f2).2 (e5 (by omega))
      refine ⟨c2, ?_, fun b h1 h2 => (hF2 b h1 h2).trans (hF1 b h1 h2)⟩
      rw [g1, e81_9, Y1.2.1]
      simp (disch := omega) only [nI_leI, mj_in_nI, nI_clamp]
      rw [if_neg (by omega), if_pos (by simp; omega), f3, g2, mj_then_i, e81_30, if_pos rfl, e1]
/-- the text of both -/
theorem a_XY {c : mj_C} (hT : s_T c) : ∃ f T, a_X c f T ∧ a_Y c f T := by
  obtain ⟨T, h1, h2, h3, h4⟩ := hT
  refine ⟨fun i => (c 51 i).toNatClampNeg, T, ⟨h1, h3, fun i hi => ?_⟩, ⟨h1, h2, fun i hi => ?_⟩⟩
  · obtain ⟨v, v1, v2, v3, v4⟩ := h4 i hi
    have e : (c 51 i).toNatClampNeg = v := by rw [v3, nI_clamp (by omega)]
    show 33 ≤ (c 51 i).toNatClampNeg ∧ (c 51 i).toNatClampNeg ≤ 126 ∧ c 56 i = nI ((c 51 i).toNatClampNeg)
    rw [e]
    exact ⟨v1, v2, v4⟩
  · obtain ⟨v, v1, v2, v3, v4⟩ := h4 i hi
    have e : (c 51 i).toNatClampNeg = v := by rw [v3, nI_clamp (by omega)]
    show 33 ≤ (c 51 i).toNatClampNeg ∧ (c 51 i).toNatClampNeg ≤ 126 ∧ c 51 i = nI ((c 51 i).toNatClampNeg)
    rw [e]
    exact ⟨v1, v2, v3⟩
theorem a_R_begin {c : mj_C} {s : Nat × Nat × (Nat → Nat)} {pg : Nat} : a_R (mj_u c 47 4 (nI 0)) (0, pg, s) := a_R_mk (by rw [mj_u_self, s_upd_eq]) (by decide) (fun h => absurd h (by decide)) (fun h => absurd h (by decide)) (fun h => absurd h (by decide)) (fun w _ h => absurd h (by simp))
/-- syntaxError of the class; findError of the reference -/
theorem k_syntax {c : mj_C} {r : Int32} (hP : a_P f T (0, 0, 0, 0, fun _ => 0) 0 r) (hY : a_Y c f T) : ∃ c', mj_EV 81 0 [some (.ref 2), none] [] (w_sh L ps rest) c = some (some (.int r), w_sh L ps rest, c') ∧ ∀ b, b ≠ 47 → b ≠ 48 → c' b = c b := by
  have F1 : ∀ b, b ≠ 47 → b ≠ 48 → mj_u c 47 4 (nI 0) b = c b := a_fr
  obtain ⟨c', e, hF⟩ := k_find (L := L) (ps := ps) (rest := rest) hP (a_Y_F hY F1) (a_R_begin (s := (0, 0, fun _ => 0)) (pg := 0))
  refine ⟨c', ?_, fun b h1 h2 => (hF b h1 h2).trans (F1 b h1 h2)⟩
  rw [e81_0, e74_0, mj_then_v, e81_7]
  exact e
theorem m_syntax {c : mj_C} (hX : a_X c f T) : ∃ c' r, mj_EV 162 0 [some (.ref 52)] [] (w_al L ps) c = some (some (.int r), w_al L ps, c') ∧ a_F c c' ∧ a_P f T (0, 0, 0, 0, fun _ => 0) 0 r := by
  have F1 : a_F c (mj_u c 52 7 (nI 0)) := a_F_u (by omega)
  obtain ⟨c', r, e, hF, hP⟩ := m_find (L := L) (ps := ps) (T - 0) 0 rfl (mj_u c 52 7 (nI 0)) 0 0 0 (fun _ => 0) (a_X_F hX F1) (Nat.zero_le T) (by rw [mj_u_self, s_upd_eq])
  refine ⟨c', r, ?_, a_F_t F1 hF, hP⟩
  rw [e162_0]
  exact e
theorem a_P_u {c : mj_C} {r r' : Int32} (hY : a_Y c f T) (hP : a_P f T (0, 0, 0, 0, fun _ => 0) 0 r) (hP' : a_P f T (0, 0, 0, 0, fun _ => 0) 0 r') : r = r' := by
  obtain ⟨c1, e1, -⟩ := k_syntax (L := 0) (ps := []) (rest := []) hP hY
  obtain ⟨c2, e2, -⟩ := k_syntax (L := 0) (ps := []) (rest := []) hP' hY
  have e := e1.symm.trans e2
  have e := congrArg (fun z => z.map (·.1)) e
  have e : some (some (Value.int r)) = some (some (Value.int r')) := e
  cases e
  rfl
end SY
section PR3
variable {L : Nat} {ps : List (Option (Option Nat))} {c : mj_C} {g : Nat → Int32} {R : Nat} {h : Nat → Nat → Int32}
theorem p_syntax (hI : s_I ps c g R h) (hM : s_M c g R h) (hT : s_T c) : s_P L c (mj_EV 81 0 [some (.ref 2), none] [] (w_sh L ps w_mo) c) (fun ps' c1 => mj_EV 163 0 [some (.ref 52)] [] (w_al L ps') c1) := by
  obtain ⟨f, T, hX, hY⟩ := a_XY hT
  obtain ⟨-, r, -, -, hP⟩ := m_syntax (L := L) (ps := ps) hX
  obtain ⟨c1, e1, hF1⟩ := k_syntax (L := L) (ps := ps) (rest := w_mo) hP hY
  have hX1 : a_X c1 f T := by
    unfold a_X
    rw [hF1 52 (by decide) (by decide), hF1 56 (by decide) (by decide)]
    exact hX
  obtain ⟨c2, r2, e2, hF2, hP2⟩ := m_syntax (L := L) (ps := ps) hX1
  have hr := a_P_u hY hP hP2
  subst hr
  refine ⟨r, ps, c1, c2, e1, ?_, ⟨g, R, h, ?_, ?_, ?_⟩, ?_⟩
  · show mj_EV 163 0 _ _ _ _ = _
    rw [e163_0, e2, mj_then_i, e163_4]
  · exact s_I_congr hI (fun b hb => by rw [hF2.1 b (by omega) (by omega), hF1 b (by omega) (by omega)])
  · exact s_M_52 hM (by rw [hF2.1 53 (by decide) (by decide), hF1 53 (by decide) (by decide)]) (by rw [hF2.2 3 (by decide), hF1 52 (by decide) (by decide)]) (by rw [hF2.1 55 (by decide) (by decide), hF1 55 (by decide) (by decide)])
  · unfold s_T
    rw [hF2.1 2 (by decide) (by decide), hF1 2 (by decide) (by decide), hF2.2 5 (by decide), hF1 52 (by decide) (by decide), hF2.1 51 (by decide) (by decide), hF1 51 (by decide) (by decide), hF2.1 56 (by decide) (by decide), hF1 56 (by decide) (by decide)]
    exact hT
  · rw [hF2.1 0 (by decide) (by decide), hF1 0 (by decide) (by decide)]
    exact ⟨rfl, rfl⟩
end PR3
