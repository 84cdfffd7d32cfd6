/-! A TURN: words are changed, whole -/
section TZ
variable {L n m t p l w vv fr did : Nat} {nb x21 x22 : Int32} {ps : List (Option (Option Nat))} {c : mj_C} {g : Nat → Int32} {R : Nat} {h : Nat → Nat → Int32} {x8 x9 x10 x11 x12 x13 x15 x16 : Int32} {o17 o18 o19 o20 o21 o22 o23 o24 o25 o26 o27 : Option Value}
theorem t_mid (hp : p < 3) (hl : l < 8) (hg : g (6 + 2 * p) = nI 1) (hg0 : ∃ r, r < 9 ∧ g 0 = nI r) (hgs : ∃ s, s ≤ 8 ∧ g (7 + 2 * p) = nI s) (h0 : c 52 0 = g 0) (hq : c 52 (6 + p) = g (7 + 2 * p)) (hok : s_ok (s_put g p l (p_f g p l w vv fr nb did) 8)) (hP : s_LP (c 52) (s_W3 c) (s_put g p l (p_f g p l w vv fr nb did) 8)) : ∃ x22 c', mj_EV 103 734 [some (.ref 0), some (.ref 2), some (.ref 52), some (.ref 53), some (.ref 54), some (.ref 55), some (.ref 56), some (.int (nI t)), some (.int x8), some (.int x9), some (.int x10), some (.int (nI p)), some (.int (nI l)), some (.int (nI w)), some (.ref (53 + p)), some (.int (nI 1)), some (.int (s_sum g 10)), some (.int (nI vv)), some (.int nb), some (.int (nI fr)), some (.int (nI did)), some (.int (g (7 + 2 * p))), some (.int (nI 8)), o23, o24, o25, o26, o27] [] (w_sh L ps (w_lo n)) c = mj_then 103 796 [some (.ref 0), some (.ref 2), some (.ref 52), some (.ref 53), some (.ref 54), some (.ref 55), some (.ref 56), some (.int (nI t)), some (.int x8), some (.int x9), some (.int x10), some (.int (nI p)), some (.int (nI l)), some (.int (nI w)), some (.ref (53 + p)), some (.int (nI 1)), some (.int (s_sum g 10)), some (.int (nI vv)), some (.int nb), some (.int (nI fr)), some (.int (nI did)), some (.int (g (7 + 2 * p))), some (.int x22), o23, o24, o25, o26, o27] [] (mj_EV 101 0 [some (.ref 52), some (.ref 53), some (.ref 54), some (.ref 55), none, none] [] (w_sh L ps (w_lo n)) c') ∧ (∀ b, b ≠ 52 → c' b = c b) ∧ (∀ j, j ≠ 6 + p → c' 52 j = c 52 j) ∧ s_LP (c' 52) (s_W3 c') (s_putk g p l (p_f g p l w vv fr nb did)) ∧ (s_putk g p l (p_f g p l w vv fr nb did)) 5 = g 5 + x22 ∧ (x22 = nI 0 ∨ x22 = nI 1) := by
  obtain ⟨r, hr, er⟩ := hg0
  obtain ⟨s, hs, es⟩ := hgs
  have okw : s_okw (c (53 + p)) := s_LP_ok hP hok hp
  have emk : ∀ y, s_mk (s_PF (c (53 + p))) y 8 = s_mk (s_F (s_put g p l (p_f g p l w vv fr nb did) 8) p) y 8 := fun y => s_LP_mk hP hp
  have ebs : ∀ y, s_bs (s_PF (c (53 + p))) y = s_bs (s_F (s_put g p l (p_f g p l w vv fr nb did) 8) p) y := fun y => s_LP_bs hP hp
  have g0 : (s_put g p l (p_f g p l w vv fr nb did) 8) 0 = g 0 := s_put_lo (by omega)
  have g5 : (s_put g p l (p_f g p l w vv fr nb did) 8) 5 = g 5 := s_put_lo (by omega)
  have g7 : (s_put g p l (p_f g p l w vv fr nb did) 8) (7 + 2 * p) = g (7 + 2 * p) := s_put_lo (by omega)
  have g6 : (s_put g p l (p_f g p l w vv fr nb did) 8) (6 + 2 * p) = nI 1 := (s_put_lo (by omega)).trans hg
  have ek : (s_putk g p l (p_f g p l w vv fr nb did)) = if s_ct (s_F (s_put g p l (p_f g p l w vv fr nb did) 8) p) (g (7 + 2 * p)) 8 ≤ g 0 then (s_put g p l (p_f g p l w vv fr nb did) 8) else upd (s_lay (s_put g p l (p_f g p l w vv fr nb did) 8) p) 5 ((s_put g p l (p_f g p l w vv fr nb did) 8) 5 + nI 1) := by
    show s_keep (s_put g p l (p_f g p l w vv fr nb did) 8) p = _
    unfold s_keep
    rw [g7, g0]
  rw [e103_734 (w_5p hp), if_neg (by decide), l_beside (w_5p hp) (by omega) okw, emk, mj_then_i, e103_746 (w_5p hp), l_ones, mj_then_i, e103_749 (w_5p hp), if_pos (z_i (by omega) (by omega)), y_0, h0]
  by_cases q : s_ct (s_F (s_put g p l (p_f g p l w vv fr nb did) 8) p) (g (7 + 2 * p)) 8 ≤ g 0
  · rw [if_pos q] at ek
    have same : ∀ j, upd (c 52) (6 + p) (g (7 + 2 * p)) j = c 52 j := by
      intro j
      by_cases j1 : j = 6 + p
      · rw [j1, s_upd_eq, hq]
      · exact s_upd_ne j1
    refine ⟨nI 0, mj_u c 52 (6 + p) (g (7 + 2 * p)), ?_, fun b hb => mj_u_ne _ _ _ _ hb, fun j _ => by rw [mj_u_self]; exact same j, ?_, ?_, Or.inl rfl⟩
    · rw [if_pos q, e103_759 (w_5p hp), e103_760 (w_5p hp), if_pos rfl, nI_add, if_pos (z_i (by omega) (by omega)), nI_clamp (by omega)]
    · rw [mj_u_self, s_W3_u, ek]
      exact s_LP_congr hP (fun j _ _ => same j) (fun j _ _ => rfl) (fun j _ => rfl)
    · rw [ek, g5, nI_addz]
  · rw [if_neg q] at ek
    refine ⟨nI 1, mj_u c 52 (6 + p) (s_bs (s_F (s_put g p l (p_f g p l w vv fr nb did) 8) p) (g 0)), ?_, fun b hb => mj_u_ne _ _ _ _ hb, fun j hj => by rw [mj_u_self, s_upd_ne hj], ?_, ?_, Or.inr rfl⟩
    · rw [if_neg q, e103_760 (w_5p hp), if_neg (by decide), if_pos (z_i (by omega) (by omega)), y_0, h0, er, l_best (w_5p hp) (by omega) okw (by omega), ebs, mj_then_i, e103_781 (w_5p hp), nI_add, if_pos (z_i (by omega) (by omega)), nI_clamp (by omega)]
    · rw [mj_u_self, s_W3_u, ek]
      unfold s_lay
      rw [g0]
      refine s_LP_congr (s_LP_slot hP hp g6 ?_) (fun j _ _ => rfl) (fun j h1 h2 => s_upd_ne (by omega)) (fun j h1 => s_upd_ne (by omega))
      rw [er]
      exact s_bs_le (s_fo_F _ p) (by omega)
    · rw [ek, s_upd_eq, g5]
theorem t_fore {x22 x24 : Int32} (hp : p < 3) (hl : l < 8) (hw : w < 8) (hv : vv < 65536) (hd : did < 4) (hI : s_I ps c g R h) (hg : g (6 + 2 * p) = nI 1) : ∃ c' o, mj_EV 103 823 [some (.ref 0), some (.ref 2), some (.ref 52), some (.ref 53), some (.ref 54), some (.ref 55), some (.ref 56), some (.int (nI t)), some (.int x8), some (.int x9), some (.int x10), some (.int (nI p)), some (.int (nI l)), some (.int (nI w)), some (.ref (53 + p)), some (.int (nI 1)), some (.int (s_sum g 10)), some (.int (nI vv)), some (.int nb), some (.int (nI fr)), some (.int (nI did)), some (.int (g (7 + 2 * p))), some (.int x22), some (.int (s_sum (s_putk g p l (p_f g p l w vv fr nb did)) 10)), o24, o25, o26, o27] [.int x24] (w_sh L ps (w_lo n)) c = mj_EV 103 858 [some (.ref 0), some (.ref 2), some (.ref 52), some (.ref 53), some (.ref 54), some (.ref 55), some (.ref 56), some (.int (nI t)), some (.int x8), some (.int x9), some (.int x10), some (.int (nI p)), some (.int (nI l)), some (.int (nI w)), some (.ref (53 + p)), some (.int (nI 1)), some (.int (s_sum g 10)), some (.int (nI vv)), some (.int nb), some (.int (nI fr)), some (.int (nI did)), some (.int (g (7 + 2 * p))), some (.int x22), some (.int (s_sum (s_putk g p l (p_f g p l w vv fr nb did)) 10)), some (.int x24), o, o26, o27] [] (w_sh L ps (w_lo n)) c' ∧ s_I ps c' g R h ∧ s_Fo c c' := by
  match did, hd with
  | 0, _ =>
    obtain ⟨c', e, hI', hF⟩ := k_ifWritten (L := L) (rest := w_lo n) (by omega : p < 10) hl hw hv hI hg
    have e : mj_EV 68 0 [some (.ref 2), some (.int (nI p)), some (.int (nI l)), some (.int (nI w)), some (.int (nI vv))] [] (w_sh L ps (w_lo n)) c = some (some (.int (s_sum (s_putk g p l (p_f g p l w vv fr nb 0)) 10)), w_sh L ps (w_lo n), c') := e
    refine ⟨c', some (.int (s_sum (s_putk g p l (p_f g p l w vv fr nb 0)) 10)), ?_, hI', hF⟩
    rw [e103_823 (w_5p hp), if_pos rfl, if_neg (by decide), e, mj_then_i, e103_847 (w_5p hp), if_pos rfl]
  | 1, _ => exact ⟨c, o25, by rw [e103_823 (w_5p hp), if_neg (by decide)], hI, s_Fo_r c⟩
  | 2, _ => exact ⟨c, o25, by rw [e103_823 (w_5p hp), if_neg (by decide)], hI, s_Fo_r c⟩
  | 3, _ => exact ⟨c, o25, by rw [e103_823 (w_5p hp), if_neg (by decide)], hI, s_Fo_r c⟩
  | d + 4, hd => omega
theorem a_w1 (hp : p < 3) (hl : l < 8) (hw : w < 8) (hv : vv < 65536) (hfr : fr < 8) (hd : did < 4) (h1 : (-65535) ≤ nb) (h2 : nb ≤ nI 65535) (hI : s_I ps c g R h) (hK : s_K c g) (hg : g (6 + 2 * p) = nI 1) : s_Y L (n + 1) t (mj_EV 103 599 [some (.ref 0), some (.ref 2), some (.ref 52), some (.ref 53), some (.ref 54), some (.ref 55), some (.ref 56), some (.int (nI t)), some (.int x8), some (.int x9), some (.int x10), some (.int (nI p)), some (.int (nI l)), some (.int (nI w)), some (.ref (53 + p)), some (.int (nI 1)), some (.int (s_sum g 10)), some (.int (nI vv)), some (.int nb), some (.int (nI fr)), some (.int (nI did)), some (.int (g (7 + 2 * p))), some (.int (nI 0)), o23, o24, o25, o26, o27] [] (w_sh L ps (w_lo n)) c) := by
  obtain ⟨hq, hgs⟩ := s_slY hK hp hg
  obtain ⟨hS, hfs, hN, hP, hH⟩ := hK
  have hok := s_S_ok hS
  have hfo := p_f_ok (nb := nb) (w := w) hp hl hfr hv hok did
  obtain ⟨c1, k1, k2, k3⟩ := t_old (vv := vv) (fr := fr) (did := did) (nb := nb) (w := w) (L := L) (n := n) (t := t) (ps := ps) (g := g) (x8 := x8) (x9 := x9) (x10 := x10) (x15 := nI 1) (x21 := g (7 + 2 * p)) (o23 := o23) (o24 := o24) (o25 := o25) (o26 := o26) (o27 := o27) hp hl 8 0 c (by omega)
  have h56 : ∀ i, i < 8 → c1 56 i = s_wd g p l i := fun i hi => by
    rw [k3 i, if_pos (by omega)]
    exact s_LP_wd hP hp hl hi
  have hW1 : ∀ k, k < 3 → c1 (53 + k) = s_W3 c k := fun k hk => k2 (53 + k) (by omega)
  obtain ⟨c2, o2, w1, w2, w3⟩ := t_wl (L := L) (n := n) (t := t) (vv := vv) (ps := ps) (g := g) (x8 := x8) (x9 := x9) (x10 := x10) (x21 := g (7 + 2 * p)) (o24 := o24) (o25 := o25) (o26 := o26) (o27 := o27) hp hl hw hfr hd h1 h2 hok 8 0 c1 o23 (by omega) h56 (fun i _ hi => by rw [hW1 p hp]; exact s_LP_wd hP hp hfr hi)
  have e52 : c2 52 = c 52 := by rw [w2 52 (by omega), k2 52 (by omega)]
  have hP2 : s_LP (c2 52) (s_W3 c2) (s_put g p l (p_f g p l w vv fr nb did) 8) := by
    rw [e52]
    refine s_LP_put hP hp hl (fun k hk hne => ?_) (fun j hj => ?_)
    · show c2 (53 + k) = _
      rw [w2 _ (by omega)]
      exact hW1 k hk
    · show c2 (53 + p) j = _
      rw [w3 j, hW1 p hp]
      rfl
  have hok2 : s_ok (s_put g p l (p_f g p l w vv fr nb did) 8) := s_put_ok (by omega) hok hfo
  have okG : s_ok (s_putk g p l (p_f g p l w vv fr nb did)) := s_ok_congr (s_keep_hi (by omega)) hok2
  obtain ⟨x22, c4, m1, m2, m3, m4, m5, m6⟩ := t_mid (L := L) (n := n) (t := t) (p := p) (l := l) (w := w) (vv := vv) (fr := fr) (did := did) (nb := nb) (ps := ps) (x8 := x8) (x9 := x9) (x10 := x10) (o23 := o2) (o24 := o24) (o25 := o25) (o26 := o26) (o27 := o27) hp hl hg hS.2.1 hgs (by rw [e52]; exact hN.1) (by rw [e52]; exact hq) hok2 hP2
  have hI4 : s_I ps c4 g R h := s_I_congr hI (fun b hb => by rw [m2 b (by omega), w2 b (by omega), k2 b (by omega)])
  have hok4 : ∀ k, k < 3 → s_okw (c4 (53 + k)) := fun k hk => s_LP_ok (W := s_W3 c4) m4 okG hk
  have q4 : ∀ j, j ≠ 6 + p → c4 52 j = c 52 j := fun j hj => by rw [m3 j hj, e52]
  have gN : ∀ j, j ≠ 5 → j ≠ 7 + 2 * p → j < 34 → (s_putk g p l (p_f g p l w vv fr nb did)) j = g j := fun j j5 j7 hj => by
    show s_keep (s_put g p l (p_f g p l w vv fr nb did) 8) p j = _
    rw [s_keep_ne j5 j7, s_put_lo hj]
  have c56 : ∀ i, i < 8 → c4 56 i = s_wd g p l i := fun i hi => by
    rw [m2 56 (by omega), w2 56 (by omega)]
    exact h56 i hi
  rw [k1, e103_599 (w_5p hp), if_pos (Int32.le_refl _), w1, e103_631 (w_5p hp), if_pos (Int32.le_refl _), m1, l_sumQ hok4, mj_then_i, s_LP_sum m4, e103_796 (w_5p hp), if_neg (by decide)]
  have yes : (s_sum (s_putk g p l (p_f g p l w vv fr nb did)) 10 ≤ s_sum g 10 ∨ s_sum (s_putk g p l (p_f g p l w vv fr nb did)) 10 ≤ g 1) → s_Y L (n + 1) t (mj_EV 103 823 [some (.ref 0), some (.ref 2), some (.ref 52), some (.ref 53), some (.ref 54), some (.ref 55), some (.ref 56), some (.int (nI t)), some (.int x8), some (.int x9), some (.int x10), some (.int (nI p)), some (.int (nI l)), some (.int (nI w)), some (.ref (53 + p)), some (.int (nI 1)), some (.int (s_sum g 10)), some (.int (nI vv)), some (.int nb), some (.int (nI fr)), some (.int (nI did)), some (.int (g (7 + 2 * p))), some (.int x22), some (.int (s_sum (s_putk g p l (p_f g p l w vv fr nb did)) 10)), o24, o25, o26, o27] [.int (nI 1)] (w_sh L ps (w_lo n)) c4) := by
    intro hcan
    obtain ⟨c5, o25', f1, f2, f3⟩ := t_fore (L := L) (n := n) (t := t) (fr := fr) (nb := nb) (x8 := x8) (x9 := x9) (x10 := x10) (x22 := x22) (x24 := nI 1) (o24 := o24) (o25 := o25) (o26 := o26) (o27 := o27) hp hl hw hv hd hI4 hg
    have e5p : c5 (53 + p) = s_W3 c4 p := f3 (53 + p) (by omega)
    have ef : s_PF (c5 (53 + p)) l = s_F (s_putk g p l (p_f g p l w vv fr nb did)) p l := by rw [e5p]; exact s_LP_F m4 hp hl
    obtain ⟨A, hA, hcall⟩ := t_cls (L := L) (n := n) (t := t) (p := p) (l := l) (w := w) (vv := vv) (fr := fr) (did := did) (nb := nb) (x8 := x8) (x9 := x9) (x10 := x10) (x15 := nI 1) (x21 := g (7 + 2 * p)) (x22 := x22) (x23 := s_sum (s_putk g p l (p_f g p l w vv fr nb did)) 10) (x24 := nI 1) (due := s_F (s_putk g p l (p_f g p l w vv fr nb did)) p l) (o25 := o25') (o26 := o26) (o27 := o27) hp hl hw hv hfr hd h1 h2 f2 hg
    obtain ⟨ps', c6, e6, hI6, hF6⟩ := hA.2 (fun z => by
      have := s_may0.mp z
      rcases hcan with a | a
      · exact this.1 a
      · exact this.2 a)
    rw [f1, e103_858 (w_5p hp), if_neg (by decide), if_neg (by decide), l_form (w_5p hp) (by omega) (by rw [e5p]; exact s_LP_ok m4 okG hp) hl, ef, mj_then_i, e103_879 (w_5p hp), hcall _ _ _ e6, e103_956 (w_5p hp), if_pos rfl, if_neg (by decide), y_5, if_pos (z_i (by omega) (by omega)), if_pos (z_i (by omega) (by omega)), if_pos (z_i (by omega) (by omega))]
    have e652 : c6 52 = c4 52 := (hF6 52 (by omega)).trans (f3 52 (by omega))
    have eW6 : s_W3 c6 = s_W3 c4 := (s_W3_Fo hF6).trans (s_W3_Fo f3)
    have c45 : c4 52 5 = g 5 := (q4 5 (by omega)).trans hN.2.2.2.2.2
    have fin : s_J ps' (mj_u c6 52 5 (c6 52 5 + x22)) := by
      refine s_J_of hI6 (s_u_lo (by omega)) ?_ ?_ ?_
      · rw [mj_u_self, e652]
        refine ⟨?_, ?_, ?_, ?_, ?_, ?_⟩
        · rw [s_upd_ne (by omega), q4 0 (by omega), gN 0 (by omega) (by omega) (by omega)]; exact hN.1
        · rw [s_upd_ne (by omega), q4 1 (by omega), gN 1 (by omega) (by omega) (by omega)]; exact hN.2.1
        · rw [s_upd_ne (by omega), q4 2 (by omega), gN 2 (by omega) (by omega) (by omega)]; exact hN.2.2.1
        · rw [s_upd_ne (by omega), q4 3 (by omega), gN 3 (by omega) (by omega) (by omega)]; exact hN.2.2.2.1
        · rw [s_upd_ne (by omega), q4 4 (by omega), gN 4 (by omega) (by omega) (by omega)]; exact hN.2.2.2.2.1
        · rw [s_upd_eq, c45, m5]
      · rw [mj_u_self, s_W3_u, e652, eW6]
        exact s_LP_congr m4 (fun j j1 j2 => s_upd_ne (by omega)) (fun j _ _ => rfl) (fun j _ => rfl)
      · rw [mj_u_self, e652]
        exact s_LH_congr hH (fun j j1 j2 => by rw [s_upd_ne (by omega)]; exact q4 j (by omega)) (fun j j1 j2 => gN j (by omega) (by omega) (by omega))
    rcases m6 with z | z
    · subst z
      rw [if_pos rfl]
      exact t_y hp (by omega) fin
    · subst z
      rw [if_neg (by decide)]
      exact t_y hp (by omega) fin
  have nope : ¬ s_sum (s_putk g p l (p_f g p l w vv fr nb did)) 10 ≤ s_sum g 10 → ¬ s_sum (s_putk g p l (p_f g p l w vv fr nb did)) 10 ≤ g 1 → s_Y L (n + 1) t (mj_EV 103 823 [some (.ref 0), some (.ref 2), some (.ref 52), some (.ref 53), some (.ref 54), some (.ref 55), some (.ref 56), some (.int (nI t)), some (.int x8), some (.int x9), some (.int x10), some (.int (nI p)), some (.int (nI l)), some (.int (nI w)), some (.ref (53 + p)), some (.int (nI 1)), some (.int (s_sum g 10)), some (.int (nI vv)), some (.int nb), some (.int (nI fr)), some (.int (nI did)), some (.int (g (7 + 2 * p))), some (.int x22), some (.int (s_sum (s_putk g p l (p_f g p l w vv fr nb did)) 10)), o24, o25, o26, o27] [.int (nI 0)] (w_sh L ps (w_lo n)) c4) := by
    intro n1 n2
    obtain ⟨c5, o25', f1, f2, f3⟩ := t_fore (L := L) (n := n) (t := t) (fr := fr) (nb := nb) (x8 := x8) (x9 := x9) (x10 := x10) (x22 := x22) (x24 := nI 0) (o24 := o24) (o25 := o25) (o26 := o26) (o27 := o27) hp hl hw hv hd hI4 hg
    obtain ⟨A, hA, hcall⟩ := t_cls (L := L) (n := n) (t := t) (p := p) (l := l) (w := w) (vv := vv) (fr := fr) (did := did) (nb := nb) (x8 := x8) (x9 := x9) (x10 := x10) (x15 := nI 1) (x21 := g (7 + 2 * p)) (x22 := x22) (x23 := s_sum (s_putk g p l (p_f g p l w vv fr nb did)) 10) (x24 := nI 0) (due := -4) (o25 := o25') (o26 := o26) (o27 := o27) hp hl hw hv hfr hd h1 h2 f2 hg
    obtain ⟨c6, e6, hI6, hF6⟩ := hA.1 (s_may0.mpr ⟨n1, n2⟩)
    have e652 : c6 52 = c4 52 := (hF6 52 (by omega)).trans (f3 52 (by omega))
    have eW6 : s_W3 c6 = s_W3 c4 := (s_W3_Fo hF6).trans (s_W3_Fo f3)
    have e656 : c6 56 = c4 56 := (hF6 56 (by omega)).trans (f3 56 (by omega))
    obtain ⟨c7, r1, r2, r3⟩ := t_res (L := L) (n := n) (t := t) (w := w) (vv := vv) (fr := fr) (did := did) (nb := nb) (ps := ps) (g := g) (x8 := x8) (x9 := x9) (x10 := x10) (x15 := nI 1) (x21 := g (7 + 2 * p)) (x22 := x22) (x23 := s_sum (s_putk g p l (p_f g p l w vv fr nb did)) 10) (x24 := nI 0) (x25 := -4) (x26 := -4) hp hl 8 0 (mj_u c6 52 (6 + p) (g (7 + 2 * p))) (by omega)
    rw [f1, e103_858 (w_5p hp), if_neg (by decide), if_pos rfl, hcall _ _ _ e6, e103_956 (w_5p hp), if_pos rfl, if_pos rfl, nI_add, if_pos (z_i (by omega) (by omega)), nI_clamp (by omega), r1, e103_1003 (w_5p hp), if_pos (Int32.le_refl _)]
    have e752 : ∀ j, c7 52 j = c 52 j := fun j => by
      rw [r2 52 (by omega), mj_u_self, e652]
      by_cases j1 : j = 6 + p
      · rw [j1, s_upd_eq, hq]
      · rw [s_upd_ne j1]
        exact q4 j j1
    have e7W : ∀ k, k < 3 → ∀ j, j < 64 → c7 (53 + k) j = s_W3 c k j := fun k hk j hj => by
      by_cases k1' : k = p
      · subst k1'
        rw [r3 j, mj_u_ne _ _ _ _ (by omega), mj_u_ne _ _ _ _ (by omega), show c6 (53 + k) = c4 (53 + k) from congrFun eW6 k, e656]
        by_cases q : 8 * l + 0 ≤ j ∧ j < 8 * l + 8
        · rw [if_pos q, c56 _ (by omega), ← s_LP_wd hP hp hl (by omega : j - 8 * l < 8)]
          congr 1
          omega
        · rw [if_neg q, m2 _ (by omega), w3 j, if_neg q]
          exact congrFun (hW1 k hk) j
      · rw [r2 _ (by omega), mj_u_ne _ _ _ _ (by omega), show c6 (53 + k) = c4 (53 + k) from congrFun eW6 k, m2 _ (by omega), w2 _ (by omega)]
        exact congrFun (hW1 k hk) j
    refine t_y hp (by omega) (s_J_of hI6 (fun b hb => by rw [r2 b (by omega), mj_u_ne _ _ _ _ (by omega)]) ?_ ?_ ?_)
    · exact s_LN_congr hN (fun j _ => e752 j) (fun j _ => rfl)
    · have hP7 := s_LP_congr (q' := c7 52) hP (fun j _ _ => e752 j) (fun j _ _ => rfl) (fun j _ => rfl)
      exact ⟨hP7.1, hP7.2.1, fun k hk j hj => (e7W k hk j hj).trans (hP.2.2 k hk j hj)⟩
    · exact s_LH_congr hH (fun j _ _ => e752 j) (fun j _ _ => rfl)
  by_cases q1 : s_sum (s_putk g p l (p_f g p l w vv fr nb did)) 10 ≤ s_sum g 10
  · rw [if_pos q1, e103_818 (w_5p hp)]
    exact yes (Or.inl q1)
  · rw [if_neg q1, if_pos (z_i (by omega) (by omega)), y_1, q4 1 (by omega), hN.2.1]
    by_cases q2 : g 1 < s_sum (s_putk g p l (p_f g p l w vv fr nb did)) 10
    · rw [if_pos q2, e103_822 (w_5p hp)]
      exact nope q1 (Int32.not_le.mpr q2)
    · rw [if_neg q2, e103_818 (w_5p hp)]
      exact yes (Or.inr (Int32.not_lt.mp q2))
theorem s_LP_W {q : Nat → Int32} {W W' : Nat → Nat → Int32} (hP : s_LP q W g) (h : ∀ k, k < 3 → ∀ j, j < 64 → W' k j = W k j) : s_LP q W' g := ⟨hP.1, hP.2.1, fun k hk j hj => (h k hk j hj).trans (hP.2.2 k hk j hj)⟩
theorem a_w0 (hp : p < 3) (hl : l < 8) (hd : did < 4) (hI : s_I ps c g R h) (hK : s_K c g) (hg : g (6 + 2 * p) = nI 0) : s_Y L (n + 1) t (mj_EV 103 599 [some (.ref 0), some (.ref 2), some (.ref 52), some (.ref 53), some (.ref 54), some (.ref 55), some (.ref 56), some (.int (nI t)), some (.int x8), some (.int x9), some (.int x10), some (.int (nI p)), some (.int (nI l)), some (.int (nI w)), some (.ref (53 + p)), some (.int (nI 0)), some (.int (s_sum g 10)), some (.int (nI vv)), some (.int nb), some (.int (nI fr)), some (.int (nI did)), some (.int (-1)), some (.int (nI 0)), o23, o24, o25, o26, o27] [] (w_sh L ps (w_lo n)) c) := by
  have hq := s_slN hK hp hg
  obtain ⟨hS, hfs, hN, hP, hH⟩ := hK
  have hok := s_S_ok hS
  obtain ⟨c1, k1, k2, k3⟩ := t_old (vv := vv) (fr := fr) (did := did) (nb := nb) (w := w) (L := L) (n := n) (t := t) (ps := ps) (g := g) (x8 := x8) (x9 := x9) (x10 := x10) (x15 := nI 0) (x21 := -1) (o23 := o23) (o24 := o24) (o25 := o25) (o26 := o26) (o27 := o27) hp hl 8 0 c (by omega)
  have same : ∀ j, upd (c 52) (6 + p) (-1) j = c 52 j := by
    intro j
    by_cases j1 : j = 6 + p
    · rw [j1, s_upd_eq, hq]
    · exact s_upd_ne j1
  have e152 : c1 52 = c 52 := k2 52 (by omega)
  have hW1 : ∀ k, k < 3 → c1 (53 + k) = s_W3 c k := fun k hk => k2 (53 + k) (by omega)
  have hok2 : ∀ k, k < 3 → s_okw (mj_u c1 52 (6 + p) (-1) (53 + k)) := fun k hk => by
    rw [mj_u_ne _ _ _ _ (by omega), hW1 k hk]
    exact s_LP_ok hP hok hk
  have hI2 : s_I ps (mj_u c1 52 (6 + p) (-1)) g R h := s_I_congr hI (fun b hb => by rw [mj_u_ne _ _ _ _ (by omega), k2 b (by omega)])
  rw [k1, e103_599 (w_5p hp), if_pos (Int32.le_refl _), e103_631 (w_5p hp), if_neg (by decide), if_pos rfl, e103_734 (w_5p hp), if_pos rfl, e103_759 (w_5p hp), e103_760 (w_5p hp), if_pos rfl, nI_add, if_pos (z_i (by omega) (by omega)), nI_clamp (by omega), l_sumQ hok2, mj_then_i, e103_796 (w_5p hp), if_pos rfl, e103_822 (w_5p hp)]
  generalize s_Ls (mj_u c1 52 (6 + p) (-1) 52) (s_W3 (mj_u c1 52 (6 + p) (-1))) 3 = x23
  have e858 : mj_EV 103 823 [some (.ref 0), some (.ref 2), some (.ref 52), some (.ref 53), some (.ref 54), some (.ref 55), some (.ref 56), some (.int (nI t)), some (.int x8), some (.int x9), some (.int x10), some (.int (nI p)), some (.int (nI l)), some (.int (nI w)), some (.ref (53 + p)), some (.int (nI 0)), some (.int (s_sum g 10)), some (.int (nI vv)), some (.int nb), some (.int (nI fr)), some (.int (nI did)), some (.int (-1)), some (.int (nI 0)), some (.int x23), o24, o25, o26, o27] [.int (nI 0)] (w_sh L ps (w_lo n)) (mj_u c1 52 (6 + p) (-1)) = mj_EV 103 858 [some (.ref 0), some (.ref 2), some (.ref 52), some (.ref 53), some (.ref 54), some (.ref 55), some (.ref 56), some (.int (nI t)), some (.int x8), some (.int x9), some (.int x10), some (.int (nI p)), some (.int (nI l)), some (.int (nI w)), some (.ref (53 + p)), some (.int (nI 0)), some (.int (s_sum g 10)), some (.int (nI vv)), some (.int nb), some (.int (nI fr)), some (.int (nI did)), some (.int (-1)), some (.int (nI 0)), some (.int x23), some (.int (nI 0)), o25, o26, o27] [] (w_sh L ps (w_lo n)) (mj_u c1 52 (6 + p) (-1)) := by
    rw [e103_823 (w_5p hp)]
    by_cases q : did = 0
    · subst q
      rw [if_pos rfl, if_pos rfl]
    · rw [if_neg (n_ne q (by omega) (by omega))]
  obtain ⟨A, hA, hcall⟩ := t_cls0 (L := L) (n := n) (t := t) (p := p) (l := l) (w := w) (vv := vv) (fr := fr) (did := did) (nb := nb) (x8 := x8) (x9 := x9) (x10 := x10) (x15 := nI 0) (x21 := -1) (x22 := nI 0) (x23 := x23) (x24 := nI 0) (due := -1) (o25 := o25) (o26 := o26) (o27 := o27) hp hd hI2 hg
  obtain ⟨c7, r1, r2, r3⟩ := t_res (L := L) (n := n) (t := t) (w := w) (vv := vv) (fr := fr) (did := did) (nb := nb) (ps := ps) (g := g) (x8 := x8) (x9 := x9) (x10 := x10) (x15 := nI 0) (x21 := -1) (x22 := nI 0) (x23 := x23) (x24 := nI 0) (x25 := -1) (x26 := -1) hp hl 8 0 (mj_u (mj_u c1 52 (6 + p) (-1)) 52 (6 + p) (-1)) (by omega)
  rw [e858, e103_858 (w_5p hp), if_pos rfl, hcall _ _ _ hA, e103_956 (w_5p hp), if_pos rfl, if_pos rfl, nI_add, if_pos (z_i (by omega) (by omega)), nI_clamp (by omega), r1, e103_1003 (w_5p hp), if_pos (Int32.le_refl _)]
  have e752 : ∀ j, c7 52 j = c 52 j := fun j => by
    rw [r2 52 (by omega), mj_u_self, mj_u_self, e152]
    by_cases j1 : j = 6 + p
    · rw [j1, s_upd_eq, hq]
    · rw [s_upd_ne j1, same]
  have e7W : ∀ k, k < 3 → ∀ j, j < 64 → c7 (53 + k) j = s_W3 c k j := fun k hk j hj => by
    by_cases k1' : k = p
    · subst k1'
      rw [r3 j, mj_u_ne _ _ _ _ (by omega), mj_u_ne _ _ _ _ (by omega), mj_u_ne _ _ _ _ (by omega), mj_u_ne _ _ _ _ (by omega)]
      by_cases q : 8 * l + 0 ≤ j ∧ j < 8 * l + 8
      · rw [if_pos q, k3, if_pos (by omega)]
        show c (53 + k) _ = c (53 + k) _
        congr 1
        omega
      · rw [if_neg q]
        exact congrFun (hW1 k hk) j
    · rw [r2 _ (by omega), mj_u_ne _ _ _ _ (by omega), mj_u_ne _ _ _ _ (by omega)]
      exact congrFun (hW1 k hk) j
  refine t_y hp (by omega) (s_J_of hI (fun b hb => by rw [r2 b (by omega), mj_u_ne _ _ _ _ (by omega), mj_u_ne _ _ _ _ (by omega), k2 b (by omega)]) ?_ ?_ ?_)
  · exact s_LN_congr hN (fun j _ => e752 j) (fun j _ => rfl)
  · exact s_LP_W (s_LP_congr (q' := c7 52) hP (fun j _ _ => e752 j) (fun j _ _ => rfl) (fun j _ => rfl)) e7W
  · exact s_LH_congr hH (fun j _ _ => e752 j) (fun j _ _ => rfl)
end TZ
