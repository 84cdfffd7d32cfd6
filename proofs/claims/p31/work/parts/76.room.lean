/-! A TURN: a new page, all pages laid anew, a room -/
section TW
variable {L n m t p l w : Nat} {ps : List (Option (Option Nat))} {c : mj_C} {g : Nat → Int32} {R : Nat} {h : Nat → Nat → Int32} {x8 x9 x10 x11 x12 x13 x15 x16 : Int32} {o17 o18 o19 o20 o21 o22 o23 o24 o25 o26 o27 : Option Value}
theorem s_np_ne {P j : Nat} (h6 : j ≠ 6 + 2 * P) (h7 : j ≠ 7 + 2 * P) : s_np g P j = g j := by
  unfold s_np
  rw [s_upd_ne h7, s_upd_ne h6]
theorem s_pos (hK : s_K c g) {k : Nat} (hk : k < 3) (hg : g (6 + 2 * k) = nI 1) : nI 0 ≤ c 52 (6 + k) := by
  obtain ⟨hq, s, hs, es⟩ := s_slY hK hk hg
  rw [hq, es]
  exact nI_le (by omega) (by omega)
theorem s_neg1 (hK : s_K c g) {k : Nat} (hk : k < 3) (hg : ¬ g (6 + 2 * k) = nI 1) : c 52 (6 + k) = (-1) := by
  rcases hK.2.2.2.1.1 k hk with z | z
  · exact absurd z.1 hg
  · exact z.2
theorem t_new {P : Nat} (hp : p < 3) (hP3 : P < 3) (hI : s_I ps c g R h) (hK : s_K c g) (hj : ∀ j, j < P → g (6 + 2 * j) = nI 1) (hg : ¬ g (6 + 2 * P) = nI 1) : s_Y L (n + 1) t (mj_EV 103 268 [some (.ref 0), some (.ref 2), some (.ref 52), some (.ref 53), some (.ref 54), some (.ref 55), some (.ref 56), some (.int (nI t)), some (.int x8), some (.int x9), some (.int (nI 0)), some (.int (nI p)), some (.int (nI l)), some (.int (nI w)), some (.ref (53 + p)), some (.int x15), some (.int (s_sum g 10)), o17, o18, o19, o20, o21, o22, o23, o24, o25, o26, o27] [.int (nI P)] (w_sh L ps (w_lo n)) c) := by
  obtain ⟨no, yes⟩ := k_newPage (L := L) (rest := w_lo n) (by omega : P < 10) hI hj hg
  have hq := s_neg1 hK hP3 hg
  obtain ⟨hS, hfs, hN, hP, hH⟩ := hK
  obtain ⟨b, hb, eb⟩ := hS.2.2.1
  obtain ⟨m, hm, em⟩ := s_sum_le hS 10 (by omega)
  have iff : (g 1 ≤ s_sum g 10) ↔ ¬ (s_sum g 10 + nI 1 ≤ g 1) := by
    rw [eb, em, nI_add, nI_leI (by omega) (by omega), nI_leI (by omega) (by omega)]
    omega
  rw [e103_268 (w_5p hp), if_neg (n_ne (by omega) (by omega) (by omega)), if_pos (z_i (by omega) (by omega)), y_1, hN.2.1]
  by_cases q : g 1 ≤ s_sum g 10
  · obtain ⟨c1, e, hI1, hF⟩ := no (iff.mp q)
    have e52 : c1 52 = c 52 := hF 52 (by omega)
    rw [if_pos q, e, mj_then_i, e103_298 (w_5p hp), if_pos rfl, if_pos rfl, if_pos rfl, nI_add, if_pos (z_i (by omega) (by omega)), nI_clamp (by omega)]
    have same : ∀ j, upd (c 52) (6 + P) (-1) j = c 52 j := by
      intro j
      by_cases j1 : j = 6 + P
      · rw [j1, s_upd_eq, hq]
      · exact s_upd_ne j1
    refine t_y hp (by omega) (s_J_of hI1 (s_u_lo (by omega)) ?_ ?_ ?_)
    · rw [mj_u_self, e52]
      exact s_LN_congr hN (fun j hj => same j) (fun j hj => rfl)
    · rw [mj_u_self, e52, s_W3_u, s_W3_Fo hF]
      exact s_LP_congr hP (fun j h1 h2 => same j) (fun j h1 h2 => rfl) (fun j h1 => rfl)
    · rw [mj_u_self, e52]
      exact s_LH_congr hH (fun j h1 h2 => same j) (fun j h1 h2 => rfl)
  · obtain ⟨ps', c1, e, hI1, hF⟩ := yes (fun z => q (iff.mpr z))
    have e52 : c1 52 = c 52 := hF 52 (by omega)
    rw [if_neg q, e, mj_then_i, e103_298 (w_5p hp), if_neg (by decide), if_pos rfl, if_neg (by decide), nI_add, if_pos (z_i (by omega) (by omega)), nI_clamp (by omega)]
    refine t_y hp (by omega) (s_J_of hI1 (s_u_lo (by omega)) ?_ ?_ ?_)
    · rw [mj_u_self, e52]
      exact s_LN_congr hN (fun j hj => s_upd_ne (by omega)) (fun j hj => s_np_ne (by omega) (by omega))
    · rw [mj_u_self, e52, s_W3_u, s_W3_Fo hF]
      refine ⟨fun k hk => ?_, fun k k3 hk => ?_, fun k hk j hj => ?_⟩
      · by_cases k1 : k = P
        · subst k1
          refine Or.inl ⟨?_, ?_, 0, by omega, ?_⟩
          · unfold s_np
            rw [s_upd_ne (by omega), s_upd_eq]
          · unfold s_np
            rw [s_upd_eq, s_upd_eq]
          · unfold s_np
            rw [s_upd_eq]
        · rw [s_upd_ne (by omega), s_np_ne (by omega) (by omega), s_np_ne (by omega) (by omega)]
          exact hP.1 k hk
      · rw [s_np_ne (by omega) (by omega)]
        exact hP.2.1 k k3 hk
      · rw [s_np_ne (by omega) (by omega)]
        exact hP.2.2 k hk j hj
    · rw [mj_u_self, e52]
      exact s_LH_congr hH (fun j h1 h2 => s_upd_ne (by omega)) (fun j h1 h2 => s_np_ne (by omega) (by omega))
theorem a_new (hp : p < 3) (hI : s_I ps c g R h) (hK : s_K c g) : s_Y L (n + 1) t (mj_EV 103 229 [some (.ref 0), some (.ref 2), some (.ref 52), some (.ref 53), some (.ref 54), some (.ref 55), some (.ref 56), some (.int (nI t)), some (.int x8), some (.int x9), some (.int (nI 0)), some (.int (nI p)), some (.int (nI l)), some (.int (nI w)), some (.ref (53 + p)), some (.int x15), some (.int (s_sum g 10)), o17, o18, o19, o20, o21, o22, o23, o24, o25, o26, o27] [] (w_sh L ps (w_lo n)) c) := by
  have i6 : mj_in (nI 6) 17 = true := by decide
  have i7 : mj_in (nI 7) 17 = true := by decide
  have i8 : mj_in (nI 8) 17 = true := by decide
  have p0 : g (6 + 2 * 0) = nI 1 → nI 0 ≤ c 52 6 := s_pos hK (by omega)
  have p1 : g (6 + 2 * 1) = nI 1 → nI 0 ≤ c 52 7 := s_pos hK (by omega)
  have p2 : g (6 + 2 * 2) = nI 1 → nI 0 ≤ c 52 8 := s_pos hK (by omega)
  rw [e103_229 (w_5p hp), if_pos rfl, y_6, y_7, y_8, if_pos i6]
  rcases s_first g 3 with ha | ⟨P, hP3, hg, hj⟩
  · rw [if_pos (p0 (ha 0 (by omega))), if_pos i7, if_pos (p1 (ha 1 (by omega))), if_pos i8, if_pos (p2 (ha 2 (by omega))), e103_268 (w_5p hp), if_pos rfl]
    exact t_z (w_5p hp) (by omega) ⟨g, R, h, hI, hK⟩
  · have hq := s_neg1 hK hP3 hg
    match P, hP3, hg, hj, hq with
    | 0, hP3, hg, hj, hq =>
      have hq : c 52 6 = (-1) := hq
      rw [hq, if_neg s_m1]
      exact t_new hp hP3 hI hK hj hg
    | 1, hP3, hg, hj, hq =>
      have hq : c 52 7 = (-1) := hq
      rw [if_pos (p0 (hj 0 (by omega))), if_pos i7, hq, if_neg s_m1]
      exact t_new hp hP3 hI hK hj hg
    | 2, hP3, hg, hj, hq =>
      have hq : c 52 8 = (-1) := hq
      rw [if_pos (p0 (hj 0 (by omega))), if_pos i7, if_pos (p1 (hj 1 (by omega))), if_pos i8, hq, if_neg s_m1]
      exact t_new hp hP3 hI hK hj hg
    | P + 3, hP3, _, _, _ => omega
theorem s_la_ne : ∀ k, k ≤ 10 → ∀ j, (j < 6 ∨ 26 ≤ j) → s_la g k j = g j := by
  intro k
  induction k with
  | zero => intro _ j _; rfl
  | succ k ih =>
    intro hk j hj
    rw [s_la]
    split
    · unfold s_lay
      rw [s_upd_ne (by omega)]
      exact ih (by omega) j hj
    · exact ih (by omega) j hj
theorem s_la_3 (hK : ∀ p, 3 ≤ p → p < 10 → g (6 + 2 * p) = nI 0) : s_la g 10 = s_la g 3 := by
  have st : ∀ k, 3 ≤ k → k < 10 → s_la g (k + 1) = s_la g k := fun k h3 hk => if_neg (by rw [(s_la_at (g := g) k (by omega)).2.1 k]; exact s_no3 hK h3 hk)
  exact (st 9 (by omega) (by omega)).trans ((st 8 (by omega) (by omega)).trans ((st 7 (by omega) (by omega)).trans ((st 6 (by omega) (by omega)).trans ((st 5 (by omega) (by omega)).trans ((st 4 (by omega) (by omega)).trans (st 3 (by omega) (by omega)))))))
theorem t_layQ {r : Nat} (hp : p < 3) (hr : r < 9) (er : g 0 = nI r) (hok : s_ok g) : ∀ (j k : Nat) (c : mj_C), k + j = 3 → c 52 0 = nI r → s_LP (c 52) (s_W3 c) (s_la g k) → ∃ c', mj_EV 103 1291 [some (.ref 0), some (.ref 2), some (.ref 52), some (.ref 53), some (.ref 54), some (.ref 55), some (.ref 56), some (.int (nI t)), some (.int x8), some (.int x9), some (.int (nI 17)), some (.int (nI p)), some (.int (nI l)), some (.int (nI w)), some (.ref (53 + p)), some (.int x15), some (.int (s_sum g 10)), some (.int (nI k)), o18, o19, o20, o21, o22, o23, o24, o25, o26, o27] [] (w_sh L ps (w_lo n)) c = mj_EV 103 1291 [some (.ref 0), some (.ref 2), some (.ref 52), some (.ref 53), some (.ref 54), some (.ref 55), some (.ref 56), some (.int (nI t)), some (.int x8), some (.int x9), some (.int (nI 17)), some (.int (nI p)), some (.int (nI l)), some (.int (nI w)), some (.ref (53 + p)), some (.int x15), some (.int (s_sum g 10)), some (.int (nI 3)), o18, o19, o20, o21, o22, o23, o24, o25, o26, o27] [] (w_sh L ps (w_lo n)) c' ∧ (∀ b, b ≠ 52 → c' b = c b) ∧ (∀ i, (i < 6 ∨ 9 ≤ i) → c' 52 i = c 52 i) ∧ s_LP (c' 52) (s_W3 c') (s_la g 3) := by
  intro j
  induction j with
  | zero =>
    intro k c hk h0 hP
    have hk : k = 3 := hk
    subst hk
    exact ⟨c, rfl, fun _ _ => rfl, fun _ _ => rfl, hP⟩
  | succ j ih =>
    intro k c hk h0 hP
    have k3 : k < 3 := by omega
    have ek : s_la g (k + 1) = if s_la g k (6 + 2 * k) = nI 1 then s_lay (s_la g k) k else s_la g k := rfl
    rcases hP.1 k k3 with ⟨hg, hq, s, hs, es⟩ | ⟨hg, hq⟩
    · have okw : s_okw (c (53 + k)) := s_LP_ok hP (s_ok_congr (fun j hj => s_la_hi k (by omega) j hj) hok) k3
      have ebs : ∀ y, s_bs (s_PF (c (53 + k))) y = s_bs (s_F (s_la g k) k) y := fun y => s_LP_bs hP k3
      have e0 : s_la g k 0 = nI r := (s_la_at (g := g) k (by omega)).1.trans er
      rw [if_pos hg, s_lay, e0] at ek
      obtain ⟨c', h1, h2, h3, h4⟩ := ih (k + 1) (mj_u c 52 (6 + k) (s_bs (s_F (s_la g k) k) (nI r))) (by omega) (by rw [mj_u_self, s_upd_ne (by omega)]; exact h0) (by
        rw [mj_u_self, s_W3_u, ek]
        exact s_LP_slot hP k3 hg (s_bs_le (s_fo_F _ _) (by omega)))
      refine ⟨c', ?_, fun b hb => (h2 b hb).trans (mj_u_ne _ _ _ _ hb), fun i hi => by rw [h3 i hi, mj_u_self, s_upd_ne (by omega)], h4⟩
      rw [e103_1291 (w_5p hp), if_neg (nI_ge (by omega) (by omega)), nI_add, if_pos (z_i (by omega) (by omega)), nI_clamp (by omega), hq, es, if_neg (nI_nlt (by omega) (by omega)), if_pos (z_i (by omega) (by omega)), y_0, h0, l_row k3, mj_then_r, e103_1326 (w_5p k3) (w_5p hp), l_best (w_5p k3) (by omega) okw (by omega), ebs, mj_then_i, e103_1329 (w_5p hp), if_pos (z_i (by omega) (by omega)), nI_clamp (by omega), nI_add]
      exact h1
    · have hne : ¬ s_la g k (6 + 2 * k) = nI 1 := by rw [hg]; exact s_n1
      rw [if_neg hne] at ek
      obtain ⟨c', h1, h2, h3, h4⟩ := ih (k + 1) c (by omega) h0 (by rw [ek]; exact hP)
      refine ⟨c', ?_, h2, h3, h4⟩
      rw [e103_1291 (w_5p hp), if_neg (nI_ge (by omega) (by omega)), nI_add, if_pos (z_i (by omega) (by omega)), nI_clamp (by omega), hq, if_pos s_m1', nI_add]
      exact h1
theorem a_layAll (hp : p < 3) (hI : s_I ps c g R h) (hK : s_K c g) : s_Y L (n + 1) t (mj_EV 103 1281 [some (.ref 0), some (.ref 2), some (.ref 52), some (.ref 53), some (.ref 54), some (.ref 55), some (.ref 56), some (.int (nI t)), some (.int x8), some (.int x9), some (.int (nI 17)), some (.int (nI p)), some (.int (nI l)), some (.int (nI w)), some (.ref (53 + p)), some (.int x15), some (.int (s_sum g 10)), o17, o18, o19, o20, o21, o22, o23, o24, o25, o26, o27] [] (w_sh L ps (w_lo n)) c) := by
  obtain ⟨hS, hfs, hN, hP, hH⟩ := hK
  obtain ⟨r, hr, er⟩ := hS.2.1
  obtain ⟨c', h1, h2, h3, h4⟩ := t_layQ (L := L) (n := n) (t := t) (p := p) (l := l) (w := w) (ps := ps) (g := g) (x8 := x8) (x9 := x9) (x15 := x15) (o18 := o18) (o19 := o19) (o20 := o20) (o21 := o21) (o22 := o22) (o23 := o23) (o24 := o24) (o25 := o25) (o26 := o26) (o27 := o27) hp hr er (s_S_ok hS) 3 0 c (by omega) (hN.1.trans er) hP
  have hI' : s_I ps c' g R h := s_I_congr hI (fun b hb => h2 b (by omega))
  obtain ⟨ps', c1, e, hI1, hF⟩ := k_layAll (L := L) (rest := w_lo n) hI'
  have e52 : c1 52 = c' 52 := hF 52 (by omega)
  have eW : s_W3 c1 = s_W3 c' := s_W3_Fo hF
  have e3 := s_la_3 hP.2.1
  have hP1 : s_LP (c1 52) (s_W3 c1) (s_la g 10) := by rw [e52, eW, e3]; exact h4
  have hok1 : ∀ k, k < 3 → s_okw (c1 (53 + k)) := fun k hk => s_LP_ok (W := s_W3 c1) hP1 (s_ok_congr (fun j hj => s_la_hi 10 (by omega) j hj) (s_S_ok hS)) hk
  rw [e103_1281 (w_5p hp), if_pos rfl, h1, e103_1291 (w_5p hp), if_pos (Int32.le_refl _), e, mj_then_i, e103_1340 (w_5p hp), l_sumQ hok1, mj_then_i, s_LP_sum hP1, e103_1351 (w_5p hp), if_pos rfl]
  refine t_y hp (by omega) (s_J_of hI1 (fun b hb => rfl) ?_ hP1 ?_)
  · rw [e52]
    exact s_LN_congr hN (fun j hj => h3 j (by omega)) (fun j hj => s_la_ne 10 (by omega) j (by omega))
  · rw [e52]
    exact s_LH_congr hH (fun j j1 j2 => h3 j (by omega)) (fun j j1 j2 => s_la_ne 10 (by omega) j (by omega))
theorem s_sr_ne : ∀ k, k ≤ 10 → ∀ j, (j < 5 ∨ 26 ≤ j) → s_sr g k j = g j := by
  intro k
  induction k with
  | zero => intro _ j _; rfl
  | succ k ih =>
    intro hk j hj
    rw [s_sr]
    split
    · rw [s_keep_ne (by omega) (by omega)]
      exact ih (by omega) j hj
    · exact ih (by omega) j hj
theorem s_sr_3 (hK : ∀ p, 3 ≤ p → p < 10 → g (6 + 2 * p) = nI 0) : s_sr g 10 = s_sr g 3 := by
  have st : ∀ k, 3 ≤ k → k < 10 → s_sr g (k + 1) = s_sr g k := fun k h3 hk => if_neg (by rw [(s_sr_at (g := g) k (by omega)).2.1 k]; exact s_no3 hK h3 hk)
  exact (st 9 (by omega) (by omega)).trans ((st 8 (by omega) (by omega)).trans ((st 7 (by omega) (by omega)).trans ((st 6 (by omega) (by omega)).trans ((st 5 (by omega) (by omega)).trans ((st 4 (by omega) (by omega)).trans (st 3 (by omega) (by omega)))))))
theorem t_room {r : Nat} {x18 x20 x21 x22 : Int32} (hp : p < 3) (hr : r < 9) (er : g 0 = nI r) (hok : s_ok g) : ∀ (j k : Nat) (c : mj_C) (x19 : Int32), k + j = 3 → s_LP (c 52) (s_W3 c) (s_sr g k) → s_sr g k 5 = g 5 + x19 → ∃ c' y19, mj_EV 103 1404 [some (.ref 0), some (.ref 2), some (.ref 52), some (.ref 53), some (.ref 54), some (.ref 55), some (.ref 56), some (.int (nI t)), some (.int x8), some (.int x9), some (.int (nI 18)), some (.int (nI p)), some (.int (nI l)), some (.int (nI w)), some (.ref (53 + p)), some (.int x15), some (.int x16), some (.int (nI r)), some (.int x18), some (.int x19), some (.int x20), some (.int x21), some (.int x22), some (.int (nI k)), o24, o25, o26, o27] [] (w_sh L ps (w_lo n)) c = mj_EV 103 1404 [some (.ref 0), some (.ref 2), some (.ref 52), some (.ref 53), some (.ref 54), some (.ref 55), some (.ref 56), some (.int (nI t)), some (.int x8), some (.int x9), some (.int (nI 18)), some (.int (nI p)), some (.int (nI l)), some (.int (nI w)), some (.ref (53 + p)), some (.int x15), some (.int x16), some (.int (nI r)), some (.int x18), some (.int y19), some (.int x20), some (.int x21), some (.int x22), some (.int (nI 3)), o24, o25, o26, o27] [] (w_sh L ps (w_lo n)) c' ∧ (∀ b, b ≠ 52 → c' b = c b) ∧ (∀ i, (i < 6 ∨ 9 ≤ i) → c' 52 i = c 52 i) ∧ s_LP (c' 52) (s_W3 c') (s_sr g 3) ∧ s_sr g 3 5 = g 5 + y19 := by
  intro j
  induction j with
  | zero =>
    intro k c x19 hk hP h5
    have hk : k = 3 := hk
    subst hk
    exact ⟨c, x19, rfl, fun _ _ => rfl, fun _ _ => rfl, hP, h5⟩
  | succ j ih =>
    intro k c x19 hk hP h5
    have k3 : k < 3 := by omega
    have ek : s_sr g (k + 1) = if s_sr g k (6 + 2 * k) = nI 1 then s_keep (s_sr g k) k else s_sr g k := rfl
    rcases hP.1 k k3 with ⟨hg, hq, s, hs, es⟩ | ⟨hg, hq⟩
    · have okw : s_okw (c (53 + k)) := s_LP_ok hP (s_ok_congr (fun j hj => s_sr_hi k (by omega) j hj) hok) k3
      have ebs : ∀ y, s_bs (s_PF (c (53 + k))) y = s_bs (s_F (s_sr g k) k) y := fun y => s_LP_bs hP k3
      have emk : ∀ y, s_mk (s_PF (c (53 + k))) y 8 = s_mk (s_F (s_sr g k) k) y 8 := fun y => s_LP_mk hP k3
      have e0 : s_sr g k 0 = nI r := (s_sr_at (g := g) k (by omega)).1.trans er
      have hA : mj_EV 103 1404 [some (.ref 0), some (.ref 2), some (.ref 52), some (.ref 53), some (.ref 54), some (.ref 55), some (.ref 56), some (.int (nI t)), some (.int x8), some (.int x9), some (.int (nI 18)), some (.int (nI p)), some (.int (nI l)), some (.int (nI w)), some (.ref (53 + p)), some (.int x15), some (.int x16), some (.int (nI r)), some (.int x18), some (.int x19), some (.int x20), some (.int x21), some (.int x22), some (.int (nI k)), o24, o25, o26, o27] [] (w_sh L ps (w_lo n)) c = mj_then 103 1443 [some (.ref 0), some (.ref 2), some (.ref 52), some (.ref 53), some (.ref 54), some (.ref 55), some (.ref 56), some (.int (nI t)), some (.int x8), some (.int x9), some (.int (nI 18)), some (.int (nI p)), some (.int (nI l)), some (.int (nI w)), some (.ref (53 + p)), some (.int x15), some (.int x16), some (.int (nI r)), some (.int x18), some (.int x19), some (.int x20), some (.int x21), some (.int x22), some (.int (nI k)), o24, o25, o26, o27] [] (mj_EV 98 0 [some (.int (s_mk (s_F (s_sr g k) k) (s_sr g k (7 + 2 * k)) 8)), none, none] [] (w_sh L ps (w_lo n)) c) := by
        rw [e103_1404 (w_5p hp), if_neg (nI_ge (by omega) (by omega)), nI_add, if_pos (z_i (by omega) (by omega)), nI_clamp (by omega), hq, es, if_neg (nI_nlt (by omega) (by omega)), if_pos (z_i (by omega) (by omega)), l_row k3, mj_then_r, e103_1437 (w_5p k3) (w_5p hp), l_beside (w_5p k3) (by omega) okw, emk, mj_then_i, e103_1440 (w_5p hp)]
      rw [if_pos hg, s_keep, e0] at ek
      rw [hA, l_ones, mj_then_i, e103_1443 (w_5p hp)]
      by_cases q : nI r < s_ct (s_F (s_sr g k) k) (s_sr g k (7 + 2 * k)) 8
      · rw [if_neg (Int32.not_le.mpr q), s_lay, e0] at ek
        have hP' : s_LP (upd (c 52) (6 + k) (s_bs (s_F (s_sr g k) k) (nI r))) (s_W3 c) (s_sr g (k + 1)) := by
          rw [ek]
          exact s_LP_congr (s_LP_slot hP k3 hg (s_bs_le (s_fo_F _ _) (by omega))) (fun j h1 h2 => rfl) (fun j h1 h2 => s_upd_ne (by omega)) (fun j h1 => s_upd_ne (by omega))
        obtain ⟨c', y19, h1, h2, h3, h4, h6⟩ := ih (k + 1) (mj_u c 52 (6 + k) (s_bs (s_F (s_sr g k) k) (nI r))) (x19 + nI 1) (by omega) (by rw [mj_u_self, s_W3_u]; exact hP') (by rw [ek, s_upd_eq, h5, Int32.add_assoc])
        refine ⟨c', y19, ?_, fun b hb => (h2 b hb).trans (mj_u_ne _ _ _ _ hb), fun i hi => by rw [h3 i hi, mj_u_self, s_upd_ne (by omega)], h4, h6⟩
        rw [if_pos q, l_row k3, mj_then_r, e103_1469 (w_5p k3) (w_5p hp), l_best (w_5p k3) (by omega) okw (by omega), ebs, mj_then_i, e103_1472 (w_5p hp), nI_add, if_pos (z_i (by omega) (by omega)), nI_clamp (by omega), nI_add]
        exact h1
      · rw [if_pos (Int32.not_lt.mp q)] at ek
        obtain ⟨c', y19, h1, h2, h3, h4, h6⟩ := ih (k + 1) c x19 (by omega) (by rw [ek]; exact hP) (by rw [ek]; exact h5)
        refine ⟨c', y19, ?_, h2, h3, h4, h6⟩
        rw [if_neg q, nI_add]
        exact h1
    · have hne : ¬ s_sr g k (6 + 2 * k) = nI 1 := by rw [hg]; exact s_n1
      rw [if_neg hne] at ek
      obtain ⟨c', y19, h1, h2, h3, h4, h6⟩ := ih (k + 1) c x19 (by omega) (by rw [ek]; exact hP) (by rw [ek]; exact h5)
      refine ⟨c', y19, ?_, h2, h3, h4, h6⟩
      rw [e103_1404 (w_5p hp), if_neg (nI_ge (by omega) (by omega)), nI_add, if_pos (z_i (by omega) (by omega)), nI_clamp (by omega), hq, if_pos s_m1', nI_add]
      exact h1
theorem s_may0 {y : Int32} : s_may g y = nI 0 ↔ ¬ y ≤ s_sum g 10 ∧ ¬ y ≤ g 1 := by
  unfold s_may
  by_cases q1 : y ≤ s_sum g 10
  · rw [if_pos q1]
    exact ⟨fun z => absurd z (by decide), fun z => absurd q1 z.1⟩
  · rw [if_neg q1]
    by_cases q2 : y ≤ g 1
    · rw [if_pos q2]
      exact ⟨fun z => absurd z (by decide), fun z => absurd q2 z.2⟩
    · rw [if_neg q2]
      exact ⟨fun _ => ⟨q1, q2⟩, fun _ => rfl⟩
theorem a_room (hp : p < 3) (hI : s_I ps c g R h) (hK : s_K c g) : s_Y L (n + 1) t (mj_EV 103 1357 [some (.ref 0), some (.ref 2), some (.ref 52), some (.ref 53), some (.ref 54), some (.ref 55), some (.ref 56), some (.int (nI t)), some (.int x8), some (.int x9), some (.int (nI 18)), some (.int (nI p)), some (.int (nI l)), some (.int (nI w)), some (.ref (53 + p)), some (.int x15), some (.int (s_sum g 10)), o17, o18, o19, o20, o21, o22, o23, o24, o25, o26, o27] [] (w_sh L ps (w_lo n)) c) := by
  obtain ⟨hS, hfs, hN, hP, hH⟩ := hK
  obtain ⟨r, hr, er⟩ : ∃ r, r < 9 ∧ p_low (x9 >>> (nI 4 &&& 31)) 9 = r := ⟨_, p_low_lt (by omega), rfl⟩
  have hG0 : upd g 0 (nI r) 0 = nI r := s_upd_eq
  have hG : ∀ j, j ≠ 0 → upd g 0 (nI r) j = g j := fun j hj => s_upd_ne hj
  have hPG : s_LP (c 52) (s_W3 c) (upd g 0 (nI r)) := s_LP_congr hP (fun j h1 h2 => rfl) (fun j h1 h2 => hG j (by omega)) (fun j h1 => hG j (by omega))
  have hokG : s_ok (upd g 0 (nI r)) := s_ok_congr (fun j hj => hG j (by omega)) (s_S_ok hS)
  obtain ⟨c', y19, h1, h2, h3, h4, h5⟩ := t_room (L := L) (n := n) (t := t) (p := p) (l := l) (w := w) (ps := ps) (g := upd g 0 (nI r)) (x16 := s_sum g 10) (x8 := x8) (x9 := x9) (x15 := x15) (o24 := o24) (o25 := o25) (o26 := o26) (o27 := o27) (x18 := c 52 0) (x20 := c 52 6) (x21 := c 52 7) (x22 := c 52 8) hp hr hG0 hokG 3 0 c (nI 0) (by omega) hPG (by rw [nI_addz]; rfl)
  have e3 := s_sr_3 (g := upd g 0 (nI r)) hPG.2.1
  rw [← e3] at h4 h5
  rw [hG 5 (by omega)] at h5
  have hI' : s_I ps c' g R h := s_I_congr hI (fun b hb => h2 b (by omega))
  have hok1 : ∀ k, k < 3 → s_okw (c' (53 + k)) := fun k hk => s_LP_ok (W := s_W3 c') h4 (s_ok_congr (fun j hj => s_sr_hi 10 (by omega) j hj) hokG) hk
  have esum : s_Ls (c' 52) (s_W3 c') 3 = s_sw g (nI r) 10 := (s_LP_sum h4).trans (s_sw_sum 10 (by omega))
  obtain ⟨no, yes⟩ := k_setRoom (L := L) (rest := w_lo n) hr hI'
  have e0 : c' 52 0 = g 0 := (h3 0 (by omega)).trans hN.1
  have e5 : c' 52 5 = g 5 := (h3 5 (by omega)).trans hN.2.2.2.2.2
  have esum0 : ∀ q, s_Ls q (s_W3 c) 3 = s_Ls q (s_W3 c) 3 := fun _ => rfl
  have hS10 : s_sum (upd g 0 (nI r)) 10 = s_sum (upd g 0 (nI r)) 10 := rfl
  have fin1 : (s_sw g (nI r) 10 ≤ s_sum g 10 ∨ s_sw g (nI r) 10 ≤ g 1) → s_Y L (n + 1) t (mj_then 103 1521 [some (.ref 0), some (.ref 2), some (.ref 52), some (.ref 53), some (.ref 54), some (.ref 55), some (.ref 56), some (.int (nI t)), some (.int x8), some (.int x9), some (.int (nI 18)), some (.int (nI p)), some (.int (nI l)), some (.int (nI w)), some (.ref (53 + p)), some (.int x15), some (.int (s_sum g 10)), some (.int (nI r)), some (.int (c 52 0)), some (.int y19), some (.int (c 52 6)), some (.int (c 52 7)), some (.int (c 52 8)), some (.int (s_sw g (nI r) 10)), some (.int (nI 1)), o25, o26, o27] [] (mj_EV 22 0 [some (.ref 2), some (.int (nI r)), none, none] [] (w_sh L ps (w_lo n)) c')) := by
    intro hcan
    obtain ⟨ps', c1, e, hI1, hF⟩ := yes (fun z => by
      have := s_may0.mp z
      rcases hcan with a | a
      · exact this.1 a
      · exact this.2 a)
    have e52 : c1 52 = c' 52 := hF 52 (by omega)
    rw [e, mj_then_i, e103_1521 (w_5p hp), if_neg (by decide), e103_1533 (w_5p hp), hN.1, if_pos rfl, if_neg (by decide), e103_1552 (w_5p hp), if_pos (z_i (by omega) (by omega)), y_0, if_pos (z_i (by omega) (by omega)), y_5, if_neg (by decide), e103_1568 (w_5p hp), if_pos (z_i (by omega) (by omega)), y_5, if_neg (by decide), if_pos (z_i (by omega) (by omega)), y_6, e103_1587 (w_5p hp), if_pos (z_i (by omega) (by omega)), if_neg (by decide), if_pos (z_i (by omega) (by omega)), if_pos (z_i (by omega) (by omega)), if_neg (by decide), if_pos (z_i (by omega) (by omega)), if_pos (z_i (by omega) (by omega)), y_6, y_7, y_8]
    have sameq : ∀ i, i ≠ 0 → i ≠ 5 → (mj_u (mj_u (mj_u (mj_u (mj_u c1 52 0 (nI r)) 52 5 ((mj_u c1 52 0 (nI r)) 52 5 + y19)) 52 6 ((mj_u (mj_u c1 52 0 (nI r)) 52 5 ((mj_u c1 52 0 (nI r)) 52 5 + y19)) 52 6)) 52 7 ((mj_u (mj_u (mj_u c1 52 0 (nI r)) 52 5 ((mj_u c1 52 0 (nI r)) 52 5 + y19)) 52 6 ((mj_u (mj_u c1 52 0 (nI r)) 52 5 ((mj_u c1 52 0 (nI r)) 52 5 + y19)) 52 6)) 52 7)) 52 8 ((mj_u (mj_u (mj_u (mj_u c1 52 0 (nI r)) 52 5 ((mj_u c1 52 0 (nI r)) 52 5 + y19)) 52 6 ((mj_u (mj_u c1 52 0 (nI r)) 52 5 ((mj_u c1 52 0 (nI r)) 52 5 + y19)) 52 6)) 52 7 ((mj_u (mj_u (mj_u c1 52 0 (nI r)) 52 5 ((mj_u c1 52 0 (nI r)) 52 5 + y19)) 52 6 ((mj_u (mj_u c1 52 0 (nI r)) 52 5 ((mj_u c1 52 0 (nI r)) 52 5 + y19)) 52 6)) 52 7)) 52 8)) 52 i = c' 52 i := by
      intro i i0 i5
      simp only [mj_u_self, e52]
      by_cases i8 : i = 8
      · subst i8; simp (disch := omega) only [s_upd_ne, s_upd_eq]
      by_cases i7 : i = 7
      · subst i7; simp (disch := omega) only [s_upd_ne, s_upd_eq]
      by_cases i6 : i = 6
      · subst i6; simp (disch := omega) only [s_upd_ne, s_upd_eq]
      simp (disch := omega) only [s_upd_ne]
    have q0 : (mj_u (mj_u (mj_u (mj_u (mj_u c1 52 0 (nI r)) 52 5 ((mj_u c1 52 0 (nI r)) 52 5 + y19)) 52 6 ((mj_u (mj_u c1 52 0 (nI r)) 52 5 ((mj_u c1 52 0 (nI r)) 52 5 + y19)) 52 6)) 52 7 ((mj_u (mj_u (mj_u c1 52 0 (nI r)) 52 5 ((mj_u c1 52 0 (nI r)) 52 5 + y19)) 52 6 ((mj_u (mj_u c1 52 0 (nI r)) 52 5 ((mj_u c1 52 0 (nI r)) 52 5 + y19)) 52 6)) 52 7)) 52 8 ((mj_u (mj_u (mj_u (mj_u c1 52 0 (nI r)) 52 5 ((mj_u c1 52 0 (nI r)) 52 5 + y19)) 52 6 ((mj_u (mj_u c1 52 0 (nI r)) 52 5 ((mj_u c1 52 0 (nI r)) 52 5 + y19)) 52 6)) 52 7 ((mj_u (mj_u (mj_u c1 52 0 (nI r)) 52 5 ((mj_u c1 52 0 (nI r)) 52 5 + y19)) 52 6 ((mj_u (mj_u c1 52 0 (nI r)) 52 5 ((mj_u c1 52 0 (nI r)) 52 5 + y19)) 52 6)) 52 7)) 52 8)) 52 0 = nI r := by
      simp only [mj_u_self, e52]
      simp (disch := omega) only [s_upd_ne, s_upd_eq]
    have q5 : (mj_u (mj_u (mj_u (mj_u (mj_u c1 52 0 (nI r)) 52 5 ((mj_u c1 52 0 (nI r)) 52 5 + y19)) 52 6 ((mj_u (mj_u c1 52 0 (nI r)) 52 5 ((mj_u c1 52 0 (nI r)) 52 5 + y19)) 52 6)) 52 7 ((mj_u (mj_u (mj_u c1 52 0 (nI r)) 52 5 ((mj_u c1 52 0 (nI r)) 52 5 + y19)) 52 6 ((mj_u (mj_u c1 52 0 (nI r)) 52 5 ((mj_u c1 52 0 (nI r)) 52 5 + y19)) 52 6)) 52 7)) 52 8 ((mj_u (mj_u (mj_u (mj_u c1 52 0 (nI r)) 52 5 ((mj_u c1 52 0 (nI r)) 52 5 + y19)) 52 6 ((mj_u (mj_u c1 52 0 (nI r)) 52 5 ((mj_u c1 52 0 (nI r)) 52 5 + y19)) 52 6)) 52 7 ((mj_u (mj_u (mj_u c1 52 0 (nI r)) 52 5 ((mj_u c1 52 0 (nI r)) 52 5 + y19)) 52 6 ((mj_u (mj_u c1 52 0 (nI r)) 52 5 ((mj_u c1 52 0 (nI r)) 52 5 + y19)) 52 6)) 52 7)) 52 8)) 52 5 = g 5 + y19 := by
      simp only [mj_u_self, e52]
      simp (disch := omega) only [s_upd_ne, s_upd_eq]
      rw [e5]
    have sr : ∀ j, j ≠ 0 → (j < 5 ∨ 26 ≤ j) → s_sr (upd g 0 (nI r)) 10 j = g j := fun j j0 hj => (s_sr_ne 10 (by omega) j hj).trans (hG j j0)
    refine t_y hp (by omega) (s_J_of hI1 (fun b hb => by rw [mj_u_ne _ _ _ _ (by omega), mj_u_ne _ _ _ _ (by omega), mj_u_ne _ _ _ _ (by omega), mj_u_ne _ _ _ _ (by omega), mj_u_ne _ _ _ _ (by omega)]) ?_ ?_ ?_)
    · refine ⟨?_, ?_, ?_, ?_, ?_, ?_⟩
      · exact q0.trans ((s_sr_ne (g := upd g 0 (nI r)) 10 (by omega) 0 (by omega)).trans hG0).symm
      · exact (sameq 1 (by omega) (by omega)).trans ((h3 1 (by omega)).trans (hN.2.1.trans (sr 1 (by omega) (by omega)).symm))
      · exact (sameq 2 (by omega) (by omega)).trans ((h3 2 (by omega)).trans (hN.2.2.1.trans (sr 2 (by omega) (by omega)).symm))
      · exact (sameq 3 (by omega) (by omega)).trans ((h3 3 (by omega)).trans (hN.2.2.2.1.trans (sr 3 (by omega) (by omega)).symm))
      · exact (sameq 4 (by omega) (by omega)).trans ((h3 4 (by omega)).trans (hN.2.2.2.2.1.trans (sr 4 (by omega) (by omega)).symm))
      · exact q5.trans h5.symm
    · rw [s_W3_u, s_W3_u, s_W3_u, s_W3_u, s_W3_u, s_W3_Fo hF]
      exact s_LP_congr h4 (fun j j1 j2 => sameq j (by omega) (by omega)) (fun j _ _ => rfl) (fun j _ => rfl)
    · exact s_LH_congr hH (fun j j1 j2 => (sameq j (by omega) (by omega)).trans (h3 j (by omega))) (fun j j1 j2 => sr j (by omega) (by omega))
  have fin0 : ¬ s_sw g (nI r) 10 ≤ s_sum g 10 → ¬ s_sw g (nI r) 10 ≤ g 1 → s_Y L (n + 1) t (mj_then 103 1521 [some (.ref 0), some (.ref 2), some (.ref 52), some (.ref 53), some (.ref 54), some (.ref 55), some (.ref 56), some (.int (nI t)), some (.int x8), some (.int x9), some (.int (nI 18)), some (.int (nI p)), some (.int (nI l)), some (.int (nI w)), some (.ref (53 + p)), some (.int x15), some (.int (s_sum g 10)), some (.int (nI r)), some (.int (c 52 0)), some (.int y19), some (.int (c 52 6)), some (.int (c 52 7)), some (.int (c 52 8)), some (.int (s_sw g (nI r) 10)), some (.int (nI 0)), o25, o26, o27] [] (mj_EV 22 0 [some (.ref 2), some (.int (nI r)), none, none] [] (w_sh L ps (w_lo n)) c')) := by
    intro n1 n2
    obtain ⟨c1, e, hI1, hF⟩ := no (s_may0.mpr ⟨n1, n2⟩)
    have e52 : c1 52 = c' 52 := hF 52 (by omega)
    rw [e, mj_then_i, e103_1521 (w_5p hp), if_pos rfl, e103_1533 (w_5p hp), if_pos rfl, if_pos rfl, e103_1552 (w_5p hp), if_pos (z_i (by omega) (by omega)), y_0, if_pos (z_i (by omega) (by omega)), y_5, if_pos rfl, e103_1568 (w_5p hp), if_pos (z_i (by omega) (by omega)), y_5, if_pos rfl, e103_1587 (w_5p hp), if_pos (z_i (by omega) (by omega)), if_pos rfl, if_pos (z_i (by omega) (by omega)), if_pos rfl, if_pos (z_i (by omega) (by omega)), y_6, y_7, y_8]
    have sameq : ∀ i, (mj_u (mj_u (mj_u (mj_u (mj_u c1 52 0 (c 52 0)) 52 5 ((mj_u c1 52 0 (c 52 0)) 52 5 + nI 0)) 52 6 (c 52 6)) 52 7 (c 52 7)) 52 8 (c 52 8)) 52 i = c 52 i := by
      intro i
      simp only [mj_u_self, e52]
      by_cases i8 : i = 8
      · subst i8; simp (disch := omega) only [s_upd_ne, s_upd_eq]
      by_cases i7 : i = 7
      · subst i7; simp (disch := omega) only [s_upd_ne, s_upd_eq]
      by_cases i6 : i = 6
      · subst i6; simp (disch := omega) only [s_upd_ne, s_upd_eq]
      by_cases i5 : i = 5
      · subst i5; simp (disch := omega) only [s_upd_ne, s_upd_eq, nI_addz]; exact h3 5 (by omega)
      by_cases i0 : i = 0
      · subst i0; simp (disch := omega) only [s_upd_ne, s_upd_eq]
      simp (disch := omega) only [s_upd_ne]
      exact h3 i (by omega)
    have eWc : s_W3 c' = s_W3 c := by
      funext k
      exact h2 (53 + k) (by omega)
    refine t_y hp (by omega) (s_J_of hI1 (fun b hb => by rw [mj_u_ne _ _ _ _ (by omega), mj_u_ne _ _ _ _ (by omega), mj_u_ne _ _ _ _ (by omega), mj_u_ne _ _ _ _ (by omega), mj_u_ne _ _ _ _ (by omega)]) ?_ ?_ ?_)
    · exact s_LN_congr hN (fun j _ => sameq j) (fun j _ => rfl)
    · rw [s_W3_u, s_W3_u, s_W3_u, s_W3_u, s_W3_u, s_W3_Fo hF, eWc]
      exact s_LP_congr hP (fun j _ _ => sameq j) (fun j _ _ => rfl) (fun j _ => rfl)
    · exact s_LH_congr hH (fun j _ _ => sameq j) (fun j _ _ => rfl)
  rw [e103_1357 (w_5p hp), if_pos rfl, l_low (by omega) (by omega), er, mj_then_i, e103_1373 (w_5p hp), y_0, y_6, y_7, y_8, if_pos (z_i (by omega) (by omega)), if_pos (z_i (by omega) (by omega)), if_pos (z_i (by omega) (by omega)), if_pos (z_i (by omega) (by omega)), h1, e103_1404 (w_5p hp), if_pos (Int32.le_refl _), l_sumQ hok1, mj_then_i, esum, e103_1491 (w_5p hp)]
  by_cases q1 : s_sw g (nI r) 10 ≤ s_sum g 10
  · rw [if_pos q1]
    exact fin1 (Or.inl q1)
  · rw [if_neg q1, if_pos (z_i (by omega) (by omega)), y_1, h3 1 (by omega), hN.2.1]
    by_cases q2 : g 1 < s_sw g (nI r) 10
    · rw [if_pos q2]
      exact fin0 q1 (Int32.not_le.mpr q2)
    · rw [if_neg q2]
      exact fin1 (Or.inr (Int32.not_lt.mp q2))
end TW
