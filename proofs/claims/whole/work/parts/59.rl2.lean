/-! READING LINES: both go through the entries alike -/
def a_G (cm cm' : mj_C) : Prop := (∀ b, b < 52 ∨ b = 55 ∨ b = 56 → cm' b = cm b) ∧ cm' 52 3 = cm 52 3
theorem a_G_t {c c' c'' : mj_C} (h : a_G c c') (h' : a_G c' c'') : a_G c c'' := ⟨fun b hb => (h'.1 b hb).trans (h.1 b hb), h'.2.trans h.2⟩
theorem a_G_F {c c' : mj_C} (h : a_F c c') : a_G c c' := ⟨fun b hb => h.1 b (by omega) (by omega), h.2 3 (by decide)⟩
section RM
variable {L : Nat} {ps : List (Option (Option Nat))} {f : Nat → Nat} {T : Nat}
theorem m_entry164 {i pg ln pl : Nat} {wf : Nat → Nat} {x : Int32} {c : mj_C} {g : Nat → Int32} (hX : a_X c f T) (hi : i < T) (h7 : c 52 7 = nI i) (hg : c 53 = g) (hV : a_V f T i (0, pg, ln, pl, wf)) : ∃ c' m s', a_E f T i m (0, pg, ln, pl, wf) s' ∧ s'.2.1 < 10 ∧ s'.2.2.1 < 8 ∧ (∀ w, w < 8 → s'.2.2.2.2 w < 65536) ∧ mj_EV 164 25 [some (.ref 52), some (.int x), some (.int (nI 1))] [] (w_al L ps) c = mj_EV 164 60 [some (.ref 52), some (.int x), some (.int (nI 1))] [.int (if g (6 + 2 * s'.2.1) = nI 1 then nI 1 else nI 0)] (w_al L ps) c' ∧ c' 53 = g ∧ c' 52 7 = nI (if i + m < T then i + m + 1 else i + m) ∧ c' 52 8 = nI s'.2.1 ∧ c' 52 9 = nI s'.2.2.1 ∧ (∀ w, w < 8 → c' 57 w = nI (s'.2.2.2.2 w)) ∧ a_X c' f T ∧ a_G c c' := by
  have h80 := hX.1
  obtain ⟨c1, m, s', e1, hE, e3, e4, e7, e8, e9⟩ := m_readE (L := L) (ps := ps) hX (by omega) h7 hV
  have X1 := a_X_F hX e4
  have h53 : c1 53 = g := by rw [e4.1 53 (by decide) (by decide)]; exact hg
  have e0 : mj_EV 164 25 [some (.ref 52), some (.int x), some (.int (nI 1))] [] (w_al L ps) c = mj_then 164 51 [some (.ref 52), some (.int x), some (.int (nI 1))] [] (mj_EV 158 0 [some (.ref 52), some (.int (nI 59)), none] [] (w_al L ps) c1) := by
    rw [e164_25, if_neg (by decide), hX.2.1, h7]
    simp (disch := omega) only [nI_leI]
    rw [if_neg (by omega), e1, mj_then_i, e164_44]
  by_cases q : i + m < T
  · have q59 := (hE.2.2.2.2.2 q).1
    have F2 : a_F c1 (mj_u c1 52 7 (nI (i + m + 1))) := a_F_u (by omega)
    refine ⟨mj_u c1 52 7 (nI (i + m + 1)), m, s', hE, e7.2, e8.2, fun w hw => (e9 w hw).2, ?_, ?_, ?_, ?_, ?_, fun w hw => ?_, a_X_F X1 F2, a_G_t (a_G_F e4) (a_G_F F2)⟩
    · rw [e0, m_isNext_y X1 e3 q q59, mj_then_i, e164_51, mj_u_self, s_upd_ne (by decide), e7.1, m_isPage e7.2, mj_then_i, mj_u_ne _ _ _ _ (by decide), h53]
    · rw [mj_u_ne _ _ _ _ (by decide)]; exact h53
    · rw [mj_u_self, s_upd_eq, if_pos q]
    · rw [mj_u_self, s_upd_ne (by decide)]; exact e7.1
    · rw [mj_u_self, s_upd_ne (by decide)]; exact e8.1
    · rw [mj_u_ne _ _ _ _ (by decide)]; exact (e9 w hw).1
  · refine ⟨c1, m, s', hE, e7.2, e8.2, fun w hw => (e9 w hw).2, ?_, h53, ?_, e7.1, e8.1, fun w hw => (e9 w hw).1, X1, a_G_F e4⟩
    · rw [e0, m_isNext_n X1 e3 hE.1 (by decide) (fun z => absurd z q), mj_then_i, e164_51, e7.1, m_isPage e7.2, mj_then_i, h53]
    · rw [if_neg q]; exact e3
/-- the loops over the entries -/
theorem rl_both : ∀ n i : Nat, T - i = n → ∀ (pg ln pl : Nat) (wf : Nat → Nat) (g : Nat → Int32) (x : Int32), i ≤ T → a_V f T i (0, pg, ln, pl, wf) → (∃ c0, a_X c0 f T) → (∃ c0, s_S c0 3 g) → ∃ r g', (∃ c1, s_S c1 3 g') ∧ (∀ (L : Nat) (ps : List (Option (Option Nat))) (rest : List mj_K) (ck : mj_C), s_S ck 3 g → ck 1 = w_fs → a_Y ck f T → a_R ck (0, pg, ln, pl, wf) → ∃ ck', mj_EV 83 11 [some (.ref 2), some (.int x), some (.int (nI i))] [] (w_sh L ps rest) ck = some (some (.int r), w_sh L ps rest, ck') ∧ s_S ck' 3 g' ∧ ∀ b, b < 3 ∨ (9 ≤ b ∧ b < 47) ∨ 51 ≤ b → ck' b = ck b) ∧ (∀ (L : Nat) (ps : List (Option (Option Nat))) (cm : mj_C), cm 53 = g → a_X cm f T → cm 52 7 = nI i → ∃ cm', mj_EV 164 25 [some (.ref 52), some (.int x), some (.int (nI 1))] [] (w_al L ps) cm = some (some (.int r), w_al L ps, cm') ∧ cm' 53 = g' ∧ cm' 52 5 = nI 0 ∧ a_G cm cm') := by
  intro n
  induction n using Nat.strongRecOn with
  | ind n ih =>
    intro i hn pg ln pl wf g x hi hV hX0 hS0
    obtain ⟨c0, hX0'⟩ := hX0
    have h80 := hX0'.1
    have hiT : i < T := by
      obtain ⟨m, s', h1, h2, h3⟩ := hV
      rcases Nat.eq_zero_or_pos m with q | q
      · subst q
        have h2 : some (0, pg, ln, pl, wf) = some s' := h2
        cases h2
        exact absurd h3 a_end_0
      · omega
    obtain ⟨-, m, s', hE, hp, hl, hw, -, -, -, -, -, -, -, -⟩ := m_entry164 (L := 0) (ps := []) (x := x) (c := mj_u (s_set c0 53 g) 52 7 (nI i)) (g := g) (by
      unfold a_X
      rw [mj_u_self, s_upd_ne (by decide), s_set_ne _ _ (by decide), mj_u_ne _ _ _ _ (by decide), s_set_ne _ _ (by decide)]
      exact hX0') hiT (by rw [mj_u_self, s_upd_eq]) (by rw [mj_u_ne _ _ _ _ (by decide), s_set_eq]) hV
    obtain ⟨st, P, l, k, wv⟩ := s'
    have hp : P < 10 := hp
    have hl : l < 8 := hl
    have hw : ∀ w, w < 8 → wv w < 65536 := hw
    have hm := hE.1
    have hm0 := hE.2.1
    have hend := hE.2.2.2.1
    have hf : ∀ w, w < 8 → ∃ v, v < 65536 ∧ (fun w => nI (wv w)) w = nI v := fun w hw8 => ⟨wv w, hw w hw8, rfl⟩
    -- the reference at this entry
    have ref : ∀ (L : Nat) (ps : List (Option (Option Nat))) (cm : mj_C), cm 53 = g → a_X cm f T → cm 52 7 = nI i → ∃ c', mj_EV 164 25 [some (.ref 52), some (.int x), some (.int (nI 1))] [] (w_al L ps) cm = mj_EV 164 60 [some (.ref 52), some (.int x), some (.int (nI 1))] [.int (if g (6 + 2 * P) = nI 1 then nI 1 else nI 0)] (w_al L ps) c' ∧ c' 53 = g ∧ c' 52 7 = nI (if i + m < T then i + m + 1 else i + m) ∧ c' 52 8 = nI P ∧ c' 52 9 = nI l ∧ (∀ w, w < 8 → c' 57 w = nI (wv w)) ∧ a_X c' f T ∧ a_G cm c' := by
      intro L ps cm h53 hX h7
      obtain ⟨c', m2, s2, hE2, -, -, -, g1, g2, g3, g4, g5, g6, g7, g8⟩ := m_entry164 (L := L) (ps := ps) (x := x) hX hiT h7 h53 hV
      obtain ⟨um, us⟩ := a_E_u hE hE2
      subst um
      subst us
      exact ⟨c', g1, g2, g3, g4, g5, g6, g7, g8⟩
    -- the class at this entry
    have own : ∀ (L : Nat) (ps : List (Option (Option Nat))) (rest : List mj_K) (ck : mj_C), s_S ck 3 g → ck 1 = w_fs → a_Y ck f T → a_R ck (0, pg, ln, pl, wf) → ∃ c', mj_EV 83 11 [some (.ref 2), some (.int x), some (.int (nI i))] [] (w_sh L ps rest) ck = mj_then 83 62 [some (.ref 2), some (.int x), some (.int (nI (i + m - 1)))] [] (mj_EV 34 0 [some (.ref 3), some (.int (nI P)), some (.int (nI l))] [] (w_sh L ps rest) c') ∧ s_S c' 3 g ∧ c' 1 = w_fs ∧ a_Y c' f T ∧ a_R c' (st, P, l, k, wv) ∧ c' 47 0 = nI P ∧ c' 47 1 = nI l ∧ (∀ w, w < 8 → c' 48 w = nI (wv w)) ∧ ∀ b, b ≠ 47 → b ≠ 48 → c' b = ck b := by
      intro L ps rest ck hS h1 hY hR
      obtain ⟨c', e1, hR1, hF1⟩ := k_entry (L := L) (ps := ps) (rest := rest) (x := x) hE hY hR
      obtain ⟨r0, r1, r2, r3, r4, r5⟩ := hR1
      have h5 : 5 ≤ st := by
        rcases hend with z | ⟨z, -⟩
        · have z : st = 6 := z
          omega
        · have z : st = 5 := z
          omega
      have p0 : c' 47 0 = nI P := (r2 (show 1 ≤ st by omega)).1
      have p1 : c' 47 1 = nI l := (r3 (show 3 ≤ st by omega)).1
      refine ⟨c', ?_, s_S_congr hS (fun _ _ => rfl) (fun b h3 h8 => hF1 b (by omega) (by omega)), by rw [hF1 1 (by decide) (by decide)]; exact h1, a_Y_F hY hF1, ⟨r0, r1, r2, r3, r4, r5⟩, p0, p1, fun w hw8 => ?_, hF1⟩
      · rw [e1, e83_38, if_neg (by decide), p0, p1]
      · refine (r5 w hw8 ?_).1
        rcases hend with z | ⟨z, z2⟩
        · exact Or.inr (Or.inr z)
        · have z2 : k = 7 := z2
          refine Or.inr (Or.inl ⟨z, ?_⟩)
          show w ≤ k
          omega
    by_cases hg : g (6 + 2 * P) = nI 1
    · by_cases q : s_may g (s_sum (s_putk g P l (fun w => nI (wv w))) 10) = nI 0
      · refine ⟨x, g, hS0, fun L ps rest ck hS h1 hY hR => ?_, fun L ps cm h53 hX h7 => ?_⟩
        · obtain ⟨c', e, hS', h1', hY', hR', p0, p1, pw, hF⟩ := own L ps rest ck hS h1 hY hR
          obtain ⟨c2, e2, hF2⟩ := k_sumWithLine (L := L) (ps := ps) (rest := rest) (a := 48) (f := fun w => nI (wv w)) w_48 (by decide) hS' h1' hp hl hg pw
          have hS2 : s_S c2 3 g := s_S_congr hS' (fun _ _ => rfl) (fun b h3 h8 => hF2 b (by omega))
          have h12 : c2 1 = w_fs := by rw [hF2 1 (by decide)]; exact h1'
          refine ⟨c2, ?_, hS2, fun b hb => by rw [hF2 b (by omega), hF b (by omega) (by omega)]⟩
          rw [e, k_hasLine_y hS' hp hl hg, mj_then_i, e83_62, if_neg (by decide), p0, p1, e2, mj_then_i, e83_91, k_exceeds hS2 h12, mj_then_i, e83_94, if_neg (fun z => (s_may_ex.mp z) q)]
        · obtain ⟨c', e, g1, g2, g3, g4, g5, g6, g7⟩ := ref L ps cm h53 hX h7
          subst g1
          obtain ⟨cS, hcS⟩ := hS0
          have ep := s_putk_congr (g := c' 53) (p := P) (l := l) (f := c' 57) (f' := fun w => nI (wv w)) g5
          refine ⟨mj_u (s_kp c') 52 5 (nI 0), ?_, ?_, by rw [mj_u_self, s_upd_eq], a_G_t g7 ⟨fun b hb => by rw [mj_u_ne _ _ _ _ (by omega), s_kp_ne _ (by omega)], by rw [mj_u_self, s_upd_ne (by decide), s_kp_ne _ (by decide)]⟩⟩
          · rw [e, if_pos hg, e164_60, if_neg (by decide), g3, g4, m_mayPut hp hl (s_S_ok hcS) (fun w hw8 => by rw [g5 w hw8]; exact hf w hw8), mj_then_i, e164_75, ep, if_pos q, if_pos rfl, e164_25, if_pos rfl]
          · rw [mj_u_ne _ _ _ _ (by decide), s_kp_ne _ (by decide)]
      · -- the line gets its words
        obtain ⟨cS, hcS⟩ := hS0
        have hok := s_S_ok hcS
        have put : ∀ (L : Nat) (ps : List (Option (Option Nat))) (rest : List mj_K) (ck : mj_C), s_S ck 3 g → ck 1 = w_fs → a_Y ck f T → a_R ck (0, pg, ln, pl, wf) → ∃ c', mj_EV 83 11 [some (.ref 2), some (.int x), some (.int (nI i))] [] (w_sh L ps rest) ck = mj_EV 83 11 [some (.ref 2), some (.int (x + nI 1)), some (.int (nI (i + m)))] [] (w_sh L ps rest) c' ∧ s_S c' 3 (s_putk g P l (fun w => nI (wv w))) ∧ c' 1 = w_fs ∧ a_Y c' f T ∧ a_R c' (st, P, l, k, wv) ∧ ∀ b, b < 3 ∨ (9 ≤ b ∧ b < 47) ∨ 51 ≤ b → c' b = ck b := by
          intro L ps rest ck hS h1 hY hR
          obtain ⟨c', e, hS', h1', hY', hR', p0, p1, pw, hF⟩ := own L ps rest ck hS h1 hY hR
          obtain ⟨c2, e2, hF2⟩ := k_sumWithLine (L := L) (ps := ps) (rest := rest) (a := 48) (f := fun w => nI (wv w)) w_48 (by decide) hS' h1' hp hl hg pw
          have hS2 : s_S c2 3 g := s_S_congr hS' (fun _ _ => rfl) (fun b h3 h8 => hF2 b (by omega))
          have h12 : c2 1 = w_fs := by rw [hF2 1 (by decide)]; exact h1'
          obtain ⟨c3, e3, hS3, hF3⟩ := k_putLine (L := L) (ps := ps) (rest := rest) (a := 48) (f := fun w => nI (wv w)) w_48 (by decide) hS2 h12 hp hl hg hf (fun w hw8 => by rw [hF2 48 (by decide)]; exact pw w hw8)
          have h47 : c3 47 = c' 47 := by rw [hF3 47 (by omega), hF2 47 (by decide)]
          have h48 : c3 48 = c' 48 := by rw [hF3 48 (by omega), hF2 48 (by decide)]
          have h2 : c3 2 = c' 2 := by rw [hF3 2 (by omega), hF2 2 (by decide)]
          have h51 : c3 51 = c' 51 := by rw [hF3 51 (by omega), hF2 51 (by decide)]
          refine ⟨c3, ?_, hS3, by rw [hF3 1 (by omega)]; exact h12, ?_, ?_, fun b hb => by rw [hF3 b (by omega), hF2 b (by omega), hF b (by omega) (by omega)]⟩
          · rw [e, k_hasLine_y hS' hp hl hg, mj_then_i, e83_62, if_neg (by decide), p0, p1, e2, mj_then_i, e83_91, k_exceeds hS2 h12, mj_then_i, e83_94, if_pos (s_may_ex.mpr q), hF2 47 (by decide), p0, p1, e3, mj_then_v, e83_124, nI_add, show i + m - 1 + 1 = i + m by omega]
          · unfold a_Y
            rw [h2, h51]
            exact hY'
          · unfold a_R
            rw [h47, h48]
            exact hR'
        have refp : ∀ (L : Nat) (ps : List (Option (Option Nat))) (cm : mj_C), cm 53 = g → a_X cm f T → cm 52 7 = nI i → ∃ c', mj_EV 164 25 [some (.ref 52), some (.int x), some (.int (nI 1))] [] (w_al L ps) cm = mj_EV 164 25 [some (.ref 52), some (.int (x + nI 1)), some (.int (nI 1))] [] (w_al L ps) c' ∧ c' 53 = s_putk g P l (fun w => nI (wv w)) ∧ c' 52 7 = nI (if i + m < T then i + m + 1 else i + m) ∧ a_X c' f T ∧ a_G cm c' := by
          intro L ps cm h53 hX h7
          obtain ⟨c', e, g1, g2, g3, g4, g5, g6, g7⟩ := ref L ps cm h53 hX h7
          subst g1
          have ep := s_putk_congr (g := c' 53) (p := P) (l := l) (f := c' 57) (f' := fun w => nI (wv w)) g5
          have k53 : s_kp c' 53 = c' 53 := s_kp_ne _ (by decide)
          have k57 : s_kp c' 57 = c' 57 := s_kp_ne _ (by decide)
          have k52 : s_kp c' 52 = c' 52 := s_kp_ne _ (by decide)
          have ez : s_may (c' 53) (s_sum (s_putk (c' 53) P l (fun w => nI (wv w))) 10) = nI 1 := by
            unfold s_may at q ⊢
            split
            · rfl
            · rename_i q1
              rw [if_neg q1] at q
              split
              · rfl
              · rename_i q2
                rw [if_neg q2] at q
                exact absurd rfl q
          have ep1 := m_puts (L := L) (ps := ps) (c := s_kp c') hp hl (by rw [k53]; exact hok) (fun w hw8 => by rw [k57, g5 w hw8]; exact hf w hw8)
          rw [k53, k57, ep] at ep1
          refine ⟨s_set (s_kp c') 53 (s_putk (c' 53) P l (fun w => nI (wv w))), ?_, by rw [s_set_eq], by rw [s_set_ne _ _ (by decide), k52]; exact g2, ?_, a_G_t g7 ⟨fun b hb => by rw [s_set_ne _ _ (by omega), s_kp_ne _ (by omega)], by rw [s_set_ne _ _ (by decide), k52]⟩⟩
          · rw [e, if_pos hg, e164_60, if_neg (by decide), g3, g4, m_mayPut hp hl hok (fun w hw8 => by rw [g5 w hw8]; exact hf w hw8), mj_then_i, e164_75, ep, ez, if_neg (by decide), if_neg (by decide), k52, g3, g4, ep1, mj_then_v, e164_100]
          · unfold a_X
            rw [s_set_ne _ _ (by decide), k52, s_set_ne _ _ (by decide), s_kp_ne _ (by decide)]
            exact g6
        have hS1 : ∃ c1, s_S c1 3 (s_putk g P l (fun w => nI (wv w))) := by
          have hS2 : s_S (s_set (s_set cS 1 w_fs) 48 (fun w => nI (wv w))) 3 g := s_S_congr hcS (fun _ _ => rfl) (fun b h3 h8 => by rw [s_set_ne _ _ (by omega), s_set_ne _ _ (by omega)])
          obtain ⟨c3, -, hS3, -⟩ := k_putLine (L := 0) (ps := []) (rest := []) (a := 48) (f := fun w => nI (wv w)) w_48 (by decide) hS2 (by rw [s_set_ne _ _ (by decide), s_set_eq]) hp hl hg hf (fun w hw8 => by rw [s_set_eq])
          exact ⟨c3, hS3⟩
        by_cases hT : i + m < T
        · obtain ⟨q59, hV2⟩ := hE.2.2.2.2.2 hT
          have hV2 : a_V f T (i + m + 1) (0, P, l, k, wv) := hV2
          obtain ⟨r, g', k1, k2, k3⟩ := ih (T - (i + m + 1)) (by omega) (i + m + 1) rfl P l k wv (s_putk g P l (fun w => nI (wv w))) (x + nI 1) (by omega) hV2 ⟨c0, hX0'⟩ hS1
          refine ⟨r, g', k1, fun L ps rest ck hS h1 hY hR => ?_, fun L ps cm h53 hX h7 => ?_⟩
          · obtain ⟨c', e, hS', h1', hY', hR', hF⟩ := put L ps rest ck hS h1 hY hR
            have hst : a_step (st, P, l, k, wv) (f (i + m)) = some (0, P, l, k, wv) := by
              rw [q59]
              exact a_end_semi hend
            obtain ⟨c2, e2, hR2, hF2⟩ := k_step83 (L := L) (ps := ps) (rest := rest) (x := x + nI 1) hY' hT hR' hst
            have hnl : i + m + 1 < T ∧ f (i + m + 1) ≠ 59 := by
              obtain ⟨m2, s2, z1, z2, z3⟩ := hV2
              rcases Nat.eq_zero_or_pos m2 with z | z
              · subst z
                have z2 : some (0, P, l, k, wv) = some s2 := z2
                cases z2
                exact absurd z3 a_end_0
              · obtain ⟨s3, y1, -⟩ := a_first z z2
                refine ⟨by omega, fun y => ?_⟩
                rw [y, a_s0, if_neg (by decide)] at y1
                cases y1
            rw [if_pos hnl, e83_38, if_pos rfl, nI_add] at e2
            obtain ⟨c3, e3, hS3, hF3⟩ := k2 L ps rest c2 (s_S_congr hS' (fun _ _ => rfl) (fun b h3 h8 => hF2 b (by omega) (by omega))) (by rw [hF2 1 (by decide) (by decide)]; exact h1') (a_Y_F hY' hF2) hR2
            exact ⟨c3, e.trans (e2.trans e3), hS3, fun b hb => by rw [hF3 b hb, hF2 b (by omega) (by omega), hF b hb]⟩
          · obtain ⟨c', e, g1, g2, g6, g7⟩ := refp L ps cm h53 hX h7
            rw [if_pos hT] at g2
            obtain ⟨c3, e3, y1, y2, y3⟩ := k3 L ps c' g1 g6 g2
            exact ⟨c3, e.trans e3, y1, y2, a_G_t g7 y3⟩
        · refine ⟨x + nI 1, s_putk g P l (fun w => nI (wv w)), hS1, fun L ps rest ck hS h1 hY hR => ?_, fun L ps cm h53 hX h7 => ?_⟩
          · obtain ⟨c', e, hS', h1', hY', hR', hF⟩ := put L ps rest ck hS h1 hY hR
            refine ⟨c', ?_, hS', hF⟩
            rw [e, e83_11, hY'.2.1, if_pos (by rw [show i + m = T by omega]; exact Int32.le_refl _)]
          · obtain ⟨c', e, g1, g2, g6, g7⟩ := refp L ps cm h53 hX h7
            rw [if_neg hT] at g2
            refine ⟨mj_u c' 52 5 (nI 0), ?_, by rw [mj_u_ne _ _ _ _ (by decide)]; exact g1, by rw [mj_u_self, s_upd_eq], a_G_t g7 ⟨fun b hb => mj_u_ne _ _ _ _ (by omega), by rw [mj_u_self, s_upd_ne (by decide)]⟩⟩
            rw [e, e164_25, if_neg (by decide), g6.2.1, g2, if_pos (by rw [show i + m = T by omega]; exact Int32.le_refl _)]
    · refine ⟨x, g, hS0, fun L ps rest ck hS h1 hY hR => ?_, fun L ps cm h53 hX h7 => ?_⟩
      · obtain ⟨c', e, hS', h1', hY', hR', p0, p1, pw, hF⟩ := own L ps rest ck hS h1 hY hR
        refine ⟨c', ?_, hS', fun b hb => hF b (by omega) (by omega)⟩
        rw [e, k_hasLine hS' hp hl, if_neg hg, mj_then_i, e83_62, if_pos rfl]
      · obtain ⟨c', e, g1, g2, g3, g4, g5, g6, g7⟩ := ref L ps cm h53 hX h7
        refine ⟨mj_u c' 52 5 (nI 0), ?_, ?_, by rw [mj_u_self, s_upd_eq], a_G_t g7 ⟨fun b hb => mj_u_ne _ _ _ _ (by omega), by rw [mj_u_self, s_upd_ne (by decide)]⟩⟩
        · rw [e, if_neg hg, e164_60, if_pos rfl, if_pos rfl, e164_25, if_pos rfl]
        · rw [mj_u_ne _ _ _ _ (by decide)]
          exact g1
end RM
