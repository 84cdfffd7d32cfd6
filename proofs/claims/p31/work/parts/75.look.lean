/-! A TURN: look, free -/
section TV
variable {L n m t p l w : Nat} {ps : List (Option (Option Nat))} {c : mj_C} {g : Nat → Int32} {R : Nat} {h : Nat → Nat → Int32} {x8 x9 x10 x11 x12 x13 x15 x16 : Int32} {o17 o18 o19 o20 o21 o22 o23 o24 o25 o26 o27 : Option Value}
theorem s_lk1_ne {j : Nat} (h2 : j ≠ 2) (h4 : j ≠ 4) : s_lk1 g j = g j := by
  unfold s_lk1
  rw [s_upd_ne h4, s_upd_ne h2]
theorem s_lk2_ne {j : Nat} (h3 : j ≠ 3) (h4 : j ≠ 4) (h26 : j ≠ 26 + 2 * (p % 4)) (h27 : j ≠ 27 + 2 * (p % 4)) : s_lk2 g p j = g j := by
  unfold s_lk2
  rw [s_upd_ne h27, s_upd_ne h26, s_upd_ne h4, s_upd_ne h3]
theorem a_look0 (hp : p < 3) (hI : s_I ps c g R h) (hK : s_K c g) (hx : ¬ nI 16 ≤ x10) (hg : g (6 + 2 * p) = nI 0) : s_Y L (n + 1) t (mj_EV 103 1035 [some (.ref 0), some (.ref 2), some (.ref 52), some (.ref 53), some (.ref 54), some (.ref 55), some (.ref 56), some (.int (nI t)), some (.int x8), some (.int x9), some (.int x10), some (.int (nI p)), some (.int (nI l)), some (.int (nI w)), some (.ref (53 + p)), some (.int (nI 0)), some (.int (s_sum g 10)), o17, o18, o19, o20, o21, o22, o23, o24, o25, o26, o27] [] (w_sh L ps (w_lo n)) c) := by
  have e : mj_EV 57 0 [some (.ref 2), some (.int (nI p)), some (.int (nI l)), some (.int (nI w))] [] (w_sh L ps (w_lo n)) c = some (some (.int (-1)), w_sh L ps (w_lo n), c) := by
    rw [e57_0, k_hasLine_n hI.2.1 (s_nli hp hg), mj_then_i, e57_9, if_pos rfl]
  rw [e103_1035 (w_5p hp), if_neg hx, e, mj_then_i, e103_1052 (w_5p hp), if_pos rfl, if_pos rfl, if_pos rfl]
  exact t_z (w_5p hp) (by omega) ⟨g, R, h, hI, hK⟩
theorem a_look1 (hp : p < 3) (hl : l < 8) (hw : w < 8) (hI : s_I ps c g R h) (hK : s_K c g) (hx : ¬ nI 16 ≤ x10) (hg : g (6 + 2 * p) = nI 1) : s_Y L (n + 1) t (mj_EV 103 1035 [some (.ref 0), some (.ref 2), some (.ref 52), some (.ref 53), some (.ref 54), some (.ref 55), some (.ref 56), some (.int (nI t)), some (.int x8), some (.int x9), some (.int x10), some (.int (nI p)), some (.int (nI l)), some (.int (nI w)), some (.ref (53 + p)), some (.int (nI 1)), some (.int (s_sum g 10)), o17, o18, o19, o20, o21, o22, o23, o24, o25, o26, o27] [] (w_sh L ps (w_lo n)) c) := by
  obtain ⟨hit, miss⟩ := k_look (L := L) (rest := w_lo n) (by omega : p < 10) hl hw hI hg
  obtain ⟨hq, s, hs, es⟩ := s_slY hK hp hg
  have hqh := t_hq hK (by omega : p < 4)
  obtain ⟨hS, hfs, hN, hP, hH⟩ := hK
  have p4 : p % 4 = p := Nat.mod_eq_of_lt (by omega)
  have okw := s_LP_ok hP (s_S_ok hS) hp
  have key : ∀ ps' c1, mj_EV 57 0 [some (.ref 2), some (.int (nI p)), some (.int (nI l)), some (.int (nI w))] [] (w_sh L ps (w_lo n)) c = some (some (.int (s_wd g p l w)), w_sh L ps' (w_lo n), c1) → s_Fo c c1 → (mj_EV 103 1035 [some (.ref 0), some (.ref 2), some (.ref 52), some (.ref 53), some (.ref 54), some (.ref 55), some (.ref 56), some (.int (nI t)), some (.int x8), some (.int x9), some (.int x10), some (.int (nI p)), some (.int (nI l)), some (.int (nI w)), some (.ref (53 + p)), some (.int (nI 1)), some (.int (s_sum g 10)), o17, o18, o19, o20, o21, o22, o23, o24, o25, o26, o27] [] (w_sh L ps (w_lo n)) c) = (if c 52 (9 + p) = nI p then (if c 52 (13 + p) &&& (nI 1 <<< (nI l &&& 31)) = (s_mk (s_F g p) (g (7 + 2 * p)) 8) &&& (nI 1 <<< (nI l &&& 31)) then mj_EV 103 1138 [some (.ref 0), some (.ref 2), some (.ref 52), some (.ref 53), some (.ref 54), some (.ref 55), some (.ref 56), some (.int (nI t)), some (.int x8), some (.int x9), some (.int x10), some (.int (nI p)), some (.int (nI l)), some (.int (nI w)), some (.ref (53 + p)), some (.int (nI 1)), some (.int (s_sum g 10)), some (.int (s_mk (s_F g p) (g (7 + 2 * p)) 8)), o18, o19, o20, o21, o22, o23, o24, o25, o26, o27] [.int (nI 1)] (w_sh L ps' (w_lo n)) c1 else mj_EV 103 1138 [some (.ref 0), some (.ref 2), some (.ref 52), some (.ref 53), some (.ref 54), some (.ref 55), some (.ref 56), some (.int (nI t)), some (.int x8), some (.int x9), some (.int x10), some (.int (nI p)), some (.int (nI l)), some (.int (nI w)), some (.ref (53 + p)), some (.int (nI 1)), some (.int (s_sum g 10)), some (.int (s_mk (s_F g p) (g (7 + 2 * p)) 8)), o18, o19, o20, o21, o22, o23, o24, o25, o26, o27] [.int (nI 0)] (w_sh L ps' (w_lo n)) c1) else mj_EV 103 1138 [some (.ref 0), some (.ref 2), some (.ref 52), some (.ref 53), some (.ref 54), some (.ref 55), some (.ref 56), some (.int (nI t)), some (.int x8), some (.int x9), some (.int x10), some (.int (nI p)), some (.int (nI l)), some (.int (nI w)), some (.ref (53 + p)), some (.int (nI 1)), some (.int (s_sum g 10)), some (.int (s_mk (s_F g p) (g (7 + 2 * p)) 8)), o18, o19, o20, o21, o22, o23, o24, o25, o26, o27] [.int (nI 0)] (w_sh L ps' (w_lo n)) c1) := by
    intro ps' c1 e hF
    have e52 : c1 52 = c 52 := hF 52 (by omega)
    have e5p : c1 (53 + p) = s_W3 c p := hF (53 + p) (by omega)
    rw [e103_1035 (w_5p hp), if_neg hx, e, mj_then_i, e103_1052 (w_5p hp), if_neg (by decide), pk_mul, nI_add, mj_in_nI (by omega), if_pos (decide_eq_true (by omega)), nI_clamp (by omega), e5p, s_LP_wd hP hp hl hw, if_pos rfl, if_neg (by decide), nI_add, if_pos (z_i (by omega) (by omega)), nI_clamp (by omega), e52, hq, l_beside (w_5p hp) (by omega) (by rw [e5p]; exact okw), e5p, s_LP_mk hP hp, mj_then_i, e103_1097 (w_5p hp), nI_add, nI_add, if_pos (z_i (by omega) (by omega)), nI_clamp (by omega), if_pos (z_i (by omega) (by omega)), nI_clamp (by omega), e52, e103_1137 (w_5p hp)]
  by_cases q : s_hit g p l
  · obtain ⟨ps', c1, e, hI1, hF⟩ := hit q
    have e52 : c1 52 = c 52 := hF 52 (by omega)
    unfold s_hit at q
    rw [p4] at q
    have h13 : c 52 (13 + p) = g (27 + 2 * p) := by
      rcases hqh.2 with z | z
      · exact absurd (q.1.symm.trans z) (t_n6 (by omega))
      · exact z.2
    rw [key ps' c1 e hF, if_pos (hqh.1.trans q.1), h13, if_pos ((b_eq _ _ hl).mpr q.2), e103_1138 (w_5p hp), y_2, if_pos (z_i (by omega) (by omega)), if_neg (by decide), e103_1154 (w_5p hp), if_pos (z_i (by omega) (by omega)), y_2, y_3, if_pos (z_i (by omega) (by omega)), if_neg (by decide), e103_1170 (w_5p hp), if_pos (z_i (by omega) (by omega)), y_3, y_4, if_pos (z_i (by omega) (by omega)), if_neg (by decide), e103_1186 (w_5p hp), if_pos (z_i (by omega) (by omega)), y_4, nI_add, nI_add, if_pos (z_i (by omega) (by omega)), if_neg (by decide), if_pos (z_i (by omega) (by omega)), if_pos (z_i (by omega) (by omega)), nI_clamp (by omega), nI_clamp (by omega)]
    refine t_y hp (by omega) (s_J_of hI1 (fun b hb => by rw [mj_u_ne _ _ _ _ (by omega), mj_u_ne _ _ _ _ (by omega), mj_u_ne _ _ _ _ (by omega), mj_u_ne _ _ _ _ (by omega), mj_u_ne _ _ _ _ (by omega)]) ?_ ?_ ?_)
    · simp only [mj_u_self, e52]
      refine ⟨?_, ?_, ?_, ?_, ?_, ?_⟩
      · simp (disch := omega) only [s_upd_ne]; rw [s_lk1_ne (by omega) (by omega)]; exact hN.1
      · simp (disch := omega) only [s_upd_ne]; rw [s_lk1_ne (by omega) (by omega)]; exact hN.2.1
      · simp (disch := omega) only [s_upd_ne, s_upd_eq]; unfold s_lk1; simp (disch := omega) only [s_upd_ne, s_upd_eq]; rw [hN.2.2.1]
      · simp (disch := omega) only [s_upd_ne, s_upd_eq]; rw [s_lk1_ne (by omega) (by omega), nI_addz]; exact hN.2.2.2.1
      · simp (disch := omega) only [s_upd_ne, s_upd_eq]; unfold s_lk1; simp (disch := omega) only [s_upd_ne, s_upd_eq]; rw [hN.2.2.2.2.1]
      · simp (disch := omega) only [s_upd_ne]; rw [s_lk1_ne (by omega) (by omega)]; exact hN.2.2.2.2.2
    · simp only [mj_u_self, e52, s_W3_u, s_W3_Fo hF]
      refine s_LP_congr hP (fun j h1 h2 => ?_) (fun j h1 h2 => s_lk1_ne (by omega) (by omega)) (fun j h1 => s_lk1_ne (by omega) (by omega))
      simp (disch := omega) only [s_upd_ne]
    · simp only [mj_u_self, e52]
      refine s_LH_congr hH (fun j h1 h2 => ?_) (fun j h1 h2 => s_lk1_ne (by omega) (by omega))
      by_cases j1 : j = 13 + p
      · subst j1
        simp (disch := omega) only [s_upd_ne, s_upd_eq]
      · by_cases j2 : j = 9 + p
        · subst j2
          simp (disch := omega) only [s_upd_ne, s_upd_eq]
          exact (hqh.1.trans q.1).symm
        · simp (disch := omega) only [s_upd_ne]
  · obtain ⟨ps', c1, e, hI1, hF⟩ := miss q
    have e52 : c1 52 = c 52 := hF 52 (by omega)
    unfold s_hit at q
    rw [p4] at q
    have e1 : (mj_EV 103 1035 [some (.ref 0), some (.ref 2), some (.ref 52), some (.ref 53), some (.ref 54), some (.ref 55), some (.ref 56), some (.int (nI t)), some (.int x8), some (.int x9), some (.int x10), some (.int (nI p)), some (.int (nI l)), some (.int (nI w)), some (.ref (53 + p)), some (.int (nI 1)), some (.int (s_sum g 10)), o17, o18, o19, o20, o21, o22, o23, o24, o25, o26, o27] [] (w_sh L ps (w_lo n)) c) = mj_EV 103 1138 [some (.ref 0), some (.ref 2), some (.ref 52), some (.ref 53), some (.ref 54), some (.ref 55), some (.ref 56), some (.int (nI t)), some (.int x8), some (.int x9), some (.int x10), some (.int (nI p)), some (.int (nI l)), some (.int (nI w)), some (.ref (53 + p)), some (.int (nI 1)), some (.int (s_sum g 10)), some (.int (s_mk (s_F g p) (g (7 + 2 * p)) 8)), o18, o19, o20, o21, o22, o23, o24, o25, o26, o27] [.int (nI 0)] (w_sh L ps' (w_lo n)) c1 := by
      rw [key ps' c1 e hF]
      by_cases q1 : c 52 (9 + p) = nI p
      · have h26 : g (26 + 2 * p) = nI p := hqh.1.symm.trans q1
        have h13 : c 52 (13 + p) = g (27 + 2 * p) := by
          rcases hqh.2 with z | z
          · exact absurd (h26.symm.trans z) (t_n6 (by omega))
          · exact z.2
        rw [if_pos q1, h13, if_neg (fun z => q ⟨h26, (b_eq _ _ hl).mp z⟩)]
      · rw [if_neg q1]
    rw [e1, e103_1138 (w_5p hp), y_2, if_pos (z_i (by omega) (by omega)), if_pos rfl, e103_1154 (w_5p hp), if_pos (z_i (by omega) (by omega)), y_2, y_3, if_pos (z_i (by omega) (by omega)), if_pos rfl, e103_1170 (w_5p hp), if_pos (z_i (by omega) (by omega)), y_3, y_4, if_pos (z_i (by omega) (by omega)), if_pos rfl, e103_1186 (w_5p hp), if_pos (z_i (by omega) (by omega)), y_4, nI_add, nI_add, if_pos (z_i (by omega) (by omega)), if_pos rfl, if_pos (z_i (by omega) (by omega)), nI_clamp (by omega), nI_clamp (by omega)]
    refine t_y hp (by omega) (s_J_of hI1 (fun b hb => by rw [mj_u_ne _ _ _ _ (by omega), mj_u_ne _ _ _ _ (by omega), mj_u_ne _ _ _ _ (by omega), mj_u_ne _ _ _ _ (by omega), mj_u_ne _ _ _ _ (by omega)]) ?_ ?_ ?_)
    · simp only [mj_u_self, e52]
      refine ⟨?_, ?_, ?_, ?_, ?_, ?_⟩
      · simp (disch := omega) only [s_upd_ne]; rw [s_lk2_ne (by omega) (by omega) (by omega) (by omega)]; exact hN.1
      · simp (disch := omega) only [s_upd_ne]; rw [s_lk2_ne (by omega) (by omega) (by omega) (by omega)]; exact hN.2.1
      · simp (disch := omega) only [s_upd_ne, s_upd_eq]; rw [s_lk2_ne (by omega) (by omega) (by omega) (by omega), nI_addz]; exact hN.2.2.1
      · simp (disch := omega) only [s_upd_ne, s_upd_eq]; unfold s_lk2; simp (disch := omega) only [s_upd_ne, s_upd_eq]; rw [hN.2.2.2.1]
      · simp (disch := omega) only [s_upd_ne, s_upd_eq]; unfold s_lk2; simp (disch := omega) only [s_upd_ne, s_upd_eq]; rw [hN.2.2.2.2.1]
      · simp (disch := omega) only [s_upd_ne]; rw [s_lk2_ne (by omega) (by omega) (by omega) (by omega)]; exact hN.2.2.2.2.2
    · simp only [mj_u_self, e52, s_W3_u, s_W3_Fo hF]
      refine s_LP_congr hP (fun j h1 h2 => ?_) (fun j h1 h2 => s_lk2_ne (by omega) (by omega) (by omega) (by omega)) (fun j h1 => s_lk2_ne (by omega) (by omega) (by omega) (by omega))
      simp (disch := omega) only [s_upd_ne]
    · simp only [mj_u_self, e52]
      refine ⟨fun k hk => ?_, ?_, ?_⟩
      · by_cases k1 : k = p
        · subst k1
          have g26 : s_lk2 g k (26 + 2 * k) = nI k := by
            unfold s_lk2
            rw [p4]
            simp (disch := omega) only [s_upd_ne, s_upd_eq]
          have g27 : s_lk2 g k (27 + 2 * k) = s_mk (s_F g k) (g (7 + 2 * k)) 8 := by
            unfold s_lk2
            rw [p4, s_upd_eq]
          rw [g26, g27]
          simp (disch := omega) only [s_upd_ne, s_upd_eq]
          exact ⟨trivial, Or.inr ⟨trivial, trivial⟩⟩
        · rw [s_lk2_ne (by omega) (by omega) (by omega) (by omega), s_lk2_ne (by omega) (by omega) (by omega) (by omega)]
          simp (disch := omega) only [s_upd_ne]
          exact hH.1 k hk
      · simp (disch := omega) only [s_upd_ne]
        exact hH.2.1
      · rw [s_lk2_ne (by omega) (by omega) (by omega) (by omega)]
        exact hH.2.2
theorem a_free0 (hp : p < 3) (hI : s_I ps c g R h) (hK : s_K c g) (hg : g (6 + 2 * p) = nI 0) : s_Y L (n + 1) t (mj_EV 103 335 [some (.ref 0), some (.ref 2), some (.ref 52), some (.ref 53), some (.ref 54), some (.ref 55), some (.ref 56), some (.int (nI t)), some (.int x8), some (.int x9), some (.int (nI 1)), some (.int (nI p)), some (.int (nI l)), some (.int (nI w)), some (.ref (53 + p)), some (.int (nI 0)), some (.int (s_sum g 10)), o17, o18, o19, o20, o21, o22, o23, o24, o25, o26, o27] [] (w_sh L ps (w_lo n)) c) := by
  have e : mj_EV 31 0 [some (.ref 2), some (.int (nI p)), none] [] (w_sh L ps (w_lo n)) c = some (some (.int (-1)), w_sh L ps (w_lo n), c) := by
    rw [e31_0, k_hasPage_n hI.2.1 (s_npg hp hg), mj_then_i, e31_8, if_pos rfl]
  rw [e103_335 (w_5p hp), if_pos rfl, l_low (by omega) (by omega), mj_then_i, e103_350 (w_5p hp)]
  by_cases q : nI (p_low (x9 >>> (nI 8 &&& 31)) 4) ≤ nI 0
  · rw [if_pos q, if_pos rfl, e, mj_then_i, e103_385 (w_5p hp), if_pos rfl, if_pos rfl]
    exact t_z (w_5p hp) (by omega) ⟨g, R, h, hI, hK⟩
  · rw [if_neg q]
    exact t_z (w_5p hp) (by omega) ⟨g, R, h, hI, hK⟩
theorem t_zero {x17 : Int32} (hp : p < 3) : ∀ (j k : Nat) (c : mj_C), k + j = 64 → ∃ c', mj_EV 103 411 [some (.ref 0), some (.ref 2), some (.ref 52), some (.ref 53), some (.ref 54), some (.ref 55), some (.ref 56), some (.int (nI t)), some (.int x8), some (.int x9), some (.int (nI 1)), some (.int (nI p)), some (.int (nI l)), some (.int (nI w)), some (.ref (53 + p)), some (.int (nI 1)), some (.int (s_sum g 10)), some (.int x17), some (.int (nI k)), o19, o20, o21, o22, o23, o24, o25, o26, o27] [] (w_sh L ps (w_lo n)) c = mj_EV 103 411 [some (.ref 0), some (.ref 2), some (.ref 52), some (.ref 53), some (.ref 54), some (.ref 55), some (.ref 56), some (.int (nI t)), some (.int x8), some (.int x9), some (.int (nI 1)), some (.int (nI p)), some (.int (nI l)), some (.int (nI w)), some (.ref (53 + p)), some (.int (nI 1)), some (.int (s_sum g 10)), some (.int x17), some (.int (nI 64)), o19, o20, o21, o22, o23, o24, o25, o26, o27] [] (w_sh L ps (w_lo n)) c' ∧ (∀ b, b ≠ 53 + p → c' b = c b) ∧ ∀ i, c' (53 + p) i = if k ≤ i ∧ i < 64 then nI 0 else c (53 + p) i := by
  intro j
  induction j with
  | zero =>
    intro k c hk
    have hk : k = 64 := hk
    subst hk
    exact ⟨c, rfl, fun _ _ => rfl, fun i => by rw [if_neg (by omega)]⟩
  | succ j ih =>
    intro k c hk
    obtain ⟨c', h1, h2, h3⟩ := ih (k + 1) (mj_u c (53 + p) k (nI 0)) (by omega)
    refine ⟨c', ?_, fun b hb => by rw [h2 b hb, mj_u_ne _ _ _ _ hb], fun i => ?_⟩
    · rw [e103_411 (w_5p hp), if_neg (nI_ge (by omega) (by omega)), if_pos (z_i (by omega) (by omega)), nI_clamp (by omega), nI_add]
      exact h1
    · rw [h3 i, mj_u_self]
      by_cases q : i = k
      · subst q
        rw [if_neg (by omega), if_pos (by omega), s_upd_eq]
      · rw [s_upd_ne q]
        by_cases q2 : k + 1 ≤ i ∧ i < 64
        · rw [if_pos q2, if_pos (by omega)]
        · rw [if_neg q2, if_neg (by omega)]
theorem a_free1 (hp : p < 3) (hI : s_I ps c g R h) (hK : s_K c g) (hg : g (6 + 2 * p) = nI 1) : s_Y L (n + 1) t (mj_EV 103 335 [some (.ref 0), some (.ref 2), some (.ref 52), some (.ref 53), some (.ref 54), some (.ref 55), some (.ref 56), some (.int (nI t)), some (.int x8), some (.int x9), some (.int (nI 1)), some (.int (nI p)), some (.int (nI l)), some (.int (nI w)), some (.ref (53 + p)), some (.int (nI 1)), some (.int (s_sum g 10)), o17, o18, o19, o20, o21, o22, o23, o24, o25, o26, o27] [] (w_sh L ps (w_lo n)) c) := by
  rw [e103_335 (w_5p hp), if_pos rfl, l_low (by omega) (by omega), mj_then_i, e103_350 (w_5p hp)]
  by_cases q : nI (p_low (x9 >>> (nI 8 &&& 31)) 4) ≤ nI 0
  · obtain ⟨ps', c1, e, hI1, hF⟩ := k_free (L := L) (rest := w_lo n) (by omega : p < 10) hI hg
    have e52 : c1 52 = c 52 := hF 52 (by omega)
    obtain ⟨hq, s, hs, es⟩ := s_slY hK hp hg
    have hqh := t_hq hK (by omega : p < 4)
    obtain ⟨hS, hfs, hN, hP, hH⟩ := hK
    have p4 : p % 4 = p := Nat.mod_eq_of_lt (by omega)
    have okw : s_okw (c (53 + p)) := s_LP_ok hP (s_S_ok hS) hp
    have epz : ∀ y, s_pz (s_PF (c (53 + p))) y = s_pz (s_F g p) y := fun y => s_LP_pz hP hp
    obtain ⟨c2, h1, h2, h3⟩ := t_zero (L := L) (n := n) (t := t) (l := l) (w := w) (ps := ps') (g := g) (x8 := x8) (x9 := x9) (x17 := s_pz (s_F g p) (g (7 + 2 * p))) (o19 := o19) (o20 := o20) (o21 := o21) (o22 := o22) (o23 := o23) (o24 := o24) (o25 := o25) (o26 := o26) (o27 := o27) hp 64 0 (mj_u c1 52 (6 + p) (-1)) (by omega)
    rw [if_pos q, if_neg (by decide), nI_add, if_pos (z_i (by omega) (by omega)), nI_clamp (by omega), hq, l_units (w_5p hp) (by omega) okw, epz, mj_then_i, e103_373 (w_5p hp), e, mj_then_i, e103_385 (w_5p hp), if_pos rfl, if_neg (by decide), nI_add, if_pos (z_i (by omega) (by omega)), nI_clamp (by omega), h1, e103_411 (w_5p hp), if_pos (Int32.le_refl _), nI_add, if_pos (z_i (by omega) (by omega)), nI_clamp (by omega)]
    have f52 : c2 52 = upd (c 52) (6 + p) (-1) := by rw [h2 52 (by omega), mj_u_self, e52]
    have flo : ∀ b, b < 52 → c2 b = c1 b := fun b hb => by rw [h2 b (by omega), mj_u_ne _ _ _ _ (by omega)]
    have fW : ∀ k, k < 3 → k ≠ p → c2 (53 + k) = s_W3 c k := fun k hk hne => by rw [h2 _ (by omega), mj_u_ne _ _ _ _ (by omega)]; exact hF _ (by omega)
    have fWp : ∀ j, j < 64 → c2 (53 + p) j = nI 0 := fun j hj => by rw [h3 j, if_pos (by omega)]
    have zw : ∀ j, j ≠ 6 + 2 * p → j ≠ 7 + 2 * p → (j < 34 + 64 * p ∨ 34 + 64 * p + 64 ≤ j) → s_zw g p 64 j = g j := fun j a b d => s_zw_at a b d
    have g26 : s_zw g p 64 (26 + 2 * (p % 4)) = g (26 + 2 * p) := by rw [p4]; exact zw _ (by omega) (by omega) (by omega)
    have fpl : ∀ j, j < 26 → s_fp g p j = s_zw g p 64 j := fun j hj => s_fp_at (by omega) (by omega)
    have fph : ∀ j, 34 ≤ j → s_fp g p j = s_zw g p 64 j := fun j hj => s_fp_at (by omega) (by omega)
    have hNx : s_LN (upd (c 52) (6 + p) (-1)) (s_fp g p) := s_LN_congr hN (fun j hj => s_upd_ne (by omega)) (fun j hj => by rw [fpl j (by omega)]; exact zw j (by omega) (by omega) (by omega))
    have hPx : ∀ q', (∀ j, 6 ≤ j → j < 9 → q' j = upd (c 52) (6 + p) (-1) j) → ∀ W, (∀ k, k < 3 → W k = c2 (53 + k)) → s_LP q' W (s_fp g p) := by
      intro q' hq' W hW
      refine ⟨fun k hk => ?_, fun k k3 hk => ?_, fun k hk j hj => ?_⟩
      · by_cases k1 : k = p
        · subst k1
          refine Or.inr ⟨?_, by rw [hq' _ (by omega) (by omega), s_upd_eq]⟩
          rw [fpl _ (by omega)]
          unfold s_zw
          rw [if_neg (by omega), s_upd_ne (by omega), s_upd_eq]
        · rw [hq' _ (by omega) (by omega), s_upd_ne (by omega), fpl _ (by omega), fpl _ (by omega), zw _ (by omega) (by omega) (by omega), zw _ (by omega) (by omega) (by omega)]
          exact hP.1 k hk
      · rw [fpl _ (by omega), zw _ (by omega) (by omega) (by omega)]
        exact hP.2.1 k k3 hk
      · rw [hW k hk, fph _ (by omega)]
        by_cases k1 : k = p
        · subst k1
          rw [fWp j hj]
          unfold s_zw
          rw [if_pos (by omega)]
        · rw [fW k hk k1, zw _ (by omega) (by omega) (by omega)]
          exact hP.2.2 k hk j hj
    rw [show c2 52 (9 + p) = c 52 (9 + p) from by rw [f52, s_upd_ne (by omega)], hqh.1]
    by_cases q2 : g (26 + 2 * p) = nI p
    · rw [if_pos q2, if_pos (z_i (by omega) (by omega))]
      have hfp : s_fp g p = upd (upd (s_zw g p 64) (26 + 2 * (p % 4)) (-6)) (27 + 2 * (p % 4)) (nI 0) := if_pos (by rw [g26]; exact q2)
      refine t_y hp (by omega) (s_J_of hI1 (fun b hb => by rw [mj_u_ne _ _ _ _ (by omega)]; exact flo b hb) ?_ ?_ ?_)
      · rw [mj_u_self, f52]
        exact s_LN_congr hNx (fun j hj => s_upd_ne (by omega)) (fun j hj => rfl)
      · rw [mj_u_self, f52]
        exact hPx _ (fun j h1 h2 => s_upd_ne (by omega)) _ (fun k hk => mj_u_ne _ _ _ _ (by omega))
      · rw [mj_u_self, f52]
        refine ⟨fun k hk => ?_, ?_, ?_⟩
        · by_cases k1 : k = p
          · subst k1
            rw [hfp, p4, s_upd_eq, s_upd_ne (by omega : 26 + 2 * k ≠ 27 + 2 * k), s_upd_eq]
            exact ⟨rfl, Or.inl rfl⟩
          · rw [hfp, p4]
            simp (disch := omega) only [s_upd_ne, zw]
            exact hH.1 k hk
        · simp (disch := omega) only [s_upd_ne]
          exact hH.2.1
        · rw [hfp, p4]
          simp (disch := omega) only [s_upd_ne, zw]
          exact hH.2.2
    · rw [if_neg q2]
      have hfp : s_fp g p = s_zw g p 64 := if_neg (by rw [g26]; exact q2)
      refine t_y hp (by omega) (s_J_of hI1 flo ?_ ?_ ?_)
      · rw [f52]
        exact hNx
      · rw [f52]
        exact hPx _ (fun j h1 h2 => rfl) _ (fun k hk => rfl)
      · rw [f52]
        exact s_LH_congr hH (fun j h1 h2 => s_upd_ne (by omega)) (fun j h1 h2 => by rw [hfp]; exact zw j (by omega) (by omega) (by omega))
  · rw [if_neg q]
    exact t_z (w_5p hp) (by omega) ⟨g, R, h, hI, hK⟩
end TV
