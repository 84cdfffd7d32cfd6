/-! READING LINES, paired -/
section PR5
variable {L : Nat} {ps : List (Option (Option Nat))} {c : mj_C} {g : Nat → Int32} {R : Nat} {h : Nat → Nat → Int32}
theorem p_readLines (hI : s_I ps c g R h) (hM : s_M c g R h) (hT : s_T c) : s_P L c (mj_EV 84 0 [some (.ref 2), none] [] (w_sh L ps w_mo) c) (fun ps' c1 => mj_EV 164 0 [some (.ref 52), none, none] [] (w_al L ps') c1) := by
  obtain ⟨f, T, hX, hY⟩ := a_XY hT
  obtain ⟨-, r, -, -, hP⟩ := m_syntax (L := L) (ps := ps) hX
  obtain ⟨c1, e1, hF1⟩ := k_syntax (L := L) (ps := ps) (rest := w_mo) hP hY
  have ref : ∀ ps' (c' : mj_C), a_X c' f T → ∃ c2, mj_EV 162 0 [some (.ref 52)] [] (w_al L ps') c' = some (some (.int r), w_al L ps', c2) ∧ a_F c' c2 := by
    intro ps' c' hX'
    obtain ⟨c2, r2, e2, hF2, hP2⟩ := m_syntax (L := L) (ps := ps') hX'
    have hr := a_P_u hY hP hP2
    subst hr
    exact ⟨c2, e2, hF2⟩
  have hI1 : s_I ps c1 g R h := s_I_congr hI (fun b hb => hF1 b (by omega) (by omega))
  have hY1 := a_Y_F hY hF1
  by_cases q : r = (-6)
  · subst q
    obtain ⟨ps', c2, e2, hI2, hF2⟩ := k_keep (L := L) (rest := w_mo) hI1
    have hV : a_V f T 0 (0, 0, 0, 0, fun _ => 0) := by
      rcases hP with ⟨-, m, s', z1, z2, z3⟩ | ⟨m, s', z1, z2, z3, z4, z5⟩
      · exact ⟨m, s', z1, z2, z3⟩
      · exfalso
        have h80 := hY.1
        have : ∀ n, n < 81 → ¬ ((-6 : Int32) = nI n) := by decide
        exact this _ (by omega) z1
    have hS2 := hI2.2.1
    obtain ⟨r2, g', -, k2, k3⟩ := rl_both (T - 0) 0 rfl 0 0 0 (fun _ => 0) g (nI 0) (Nat.zero_le T) hV ⟨c, hX⟩ ⟨c2, hS2⟩
    obtain ⟨c3, e3, hS3, hF3⟩ := k2 L ps' w_mo (mj_u c2 47 4 (nI 0)) (s_S_congr hS2 (fun _ _ => rfl) (fun b h3 h8 => mj_u_ne _ _ _ _ (by omega))) (by rw [mj_u_ne _ _ _ _ (by decide)]; exact hI2.1) (by
      unfold a_Y
      rw [mj_u_ne _ _ _ _ (by decide), mj_u_ne _ _ _ _ (by decide), hF2 2 (by omega), hF2 51 (by omega)]
      exact hY1) (a_R_begin (s := (0, 0, fun _ => 0)) (pg := 0))
    have big : ∀ b, 51 ≤ b → c3 b = c b := fun b hb => by rw [hF3 b (by omega), mj_u_ne _ _ _ _ (by omega), hF2 b (by omega), hF1 b (by omega) (by omega)]
    have hX3 : a_X (mj_u c3 2 6 (nI 0)) f T := by
      unfold a_X
      rw [mj_u_ne _ _ _ _ (by decide), mj_u_ne _ _ _ _ (by decide), big 52 (by decide), big 56 (by decide)]
      exact hX
    have hM3 : s_M (mj_u c3 2 6 (nI 0)) g R h := s_M_own hM (fun b hb => by rw [mj_u_ne _ _ _ _ (by omega), big b (by omega)])
    obtain ⟨c4, e4, hF4⟩ := ref ps' _ hX3
    have hM4 : s_M c4 g R h := s_M_52 hM3 (hF4.1 53 (by decide) (by decide)) (hF4.2 3 (by decide)) (hF4.1 55 (by decide) (by decide))
    obtain ⟨c5, e5, hM5, hF5, -⟩ := m_rec (L := L) (ps := ps') hM4
    have hX5 : a_X (mj_u c5 52 7 (nI 0)) f T := by
      have z := a_X_F hX3 hF4
      unfold a_X
      rw [mj_u_self, s_upd_ne (by decide), hF5.2.2 5 (by decide), mj_u_ne _ _ _ _ (by decide), hF5.2.1]
      exact z
    obtain ⟨c6, e6, y1, y2, y3⟩ := k3 L ps' (mj_u c5 52 7 (nI 0)) (by rw [mj_u_ne _ _ _ _ (by decide)]; exact hM5.1) hX5 (by rw [mj_u_self, s_upd_eq])
    have low : ∀ b, b < 52 → c6 b = mj_u c3 2 6 (nI 0) b := fun b hb => by rw [y3.1 b (by omega), mj_u_ne _ _ _ _ (by omega), hF5.1 b hb, hF4.1 b (by omega) (by omega)]
    refine ⟨r2, ps', mj_u c3 2 6 (nI 0), c6, ?_, ?_, ⟨g', s_R R, s_hp h R g, ?_, ⟨y1, ?_, hM5.2.2.1, ?_⟩, 0, by omega, ?_, y2, fun i hi => by omega⟩, ?_⟩
    · rw [e84_0, e1, mj_then_i, e84_4, if_pos rfl, e2, mj_then_v, e84_23, e83_0, e74_0, mj_then_v, e83_9, e3, mj_then_i, e84_27]
    · show mj_EV 164 0 _ _ _ _ = _
      rw [e164_0, e4, mj_then_i, e164_4, if_pos rfl, e5, mj_then_v, e164_16]
      exact e6
    · refine s_I_g (c := c2) hI2 (s_S_congr hS3 (fun _ _ => rfl) (fun b h3 h8 => ?_)) (fun b hb => ?_)
      · rw [low b (by omega), mj_u_ne _ _ _ _ (by omega)]
      · rw [low b (by omega), mj_u_ne _ _ _ _ (by omega), hF3 b (by omega), mj_u_ne _ _ _ _ (by omega)]
    · rw [y3.2, mj_u_self, s_upd_ne (by decide)]
      exact hM5.2.1
    · rw [y3.1 55 (by omega), mj_u_ne _ _ _ _ (by decide)]
      exact hM5.2.2.2
    · rw [low 2 (by decide), mj_u_self, s_upd_eq]
    · rw [low 0 (by decide), mj_u_ne _ _ _ _ (by decide), hF3 0 (by omega), mj_u_ne _ _ _ _ (by decide), hF2 0 (by omega), hF1 0 (by decide) (by decide)]
      exact ⟨rfl, rfl⟩
  · have hX1 : a_X c1 f T := by
      unfold a_X
      rw [hF1 52 (by decide) (by decide), hF1 56 (by decide) (by decide)]
      exact hX
    obtain ⟨c2, e2, hF2⟩ := ref ps c1 hX1
    refine ⟨-5, ps, c1, c2, ?_, ?_, ⟨g, R, h, ?_, ?_, ?_⟩, ?_⟩
    · rw [e84_0, e1, mj_then_i, e84_4, if_neg q]
    · show mj_EV 164 0 _ _ _ _ = _
      rw [e164_0, e2, mj_then_i, e164_4, if_neg q]
    · exact s_I_congr hI (fun b hb => by rw [hF2.1 b (by omega) (by omega), hF1 b (by omega) (by omega)])
    · exact s_M_52 hM (by rw [hF2.1 53 (by decide) (by decide), hF1 53 (by decide) (by decide)]) (by rw [hF2.2 3 (by decide), hF1 52 (by decide) (by decide)]) (by rw [hF2.1 55 (by decide) (by decide), hF1 55 (by decide) (by decide)])
    · unfold s_T
      rw [hF2.1 2 (by decide) (by decide), hF1 2 (by decide) (by decide), hF2.2 5 (by decide), hF1 52 (by decide) (by decide), hF2.1 51 (by decide) (by decide), hF1 51 (by decide) (by decide), hF2.1 56 (by decide) (by decide), hF1 56 (by decide) (by decide)]
      exact hT
    · rw [hF2.1 0 (by decide) (by decide), hF1 0 (by decide) (by decide)]
      exact ⟨rfl, rfl⟩
end PR5
