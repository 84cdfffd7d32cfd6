/-! A TURN, whole; the loop -/
section TT
variable {L n m t p l w vv fr did : Nat} {nb x21 x22 : Int32} {ps : List (Option (Option Nat))} {c : mj_C} {g : Nat → Int32} {R : Nat} {h : Nat → Nat → Int32} {x8 x9 x10 x11 x12 x13 x15 x16 : Int32} {o17 o18 o19 o20 o21 o22 o23 o24 o25 o26 o27 : Option Value}
theorem a_599 (hp : p < 3) (hl : l < 8) (hw : w < 8) (hv : vv < 65536) (hfr : fr < 8) (hd : did < 4) (h1 : (-65535) ≤ nb) (h2 : nb ≤ nI 65535) (hI : s_I ps c g R h) (hK : s_K c g) (his : (x15 = nI 1 ∧ g (6 + 2 * p) = nI 1) ∨ (x15 = nI 0 ∧ g (6 + 2 * p) = nI 0)) : s_Y L (n + 1) t (mj_EV 103 599 [some (.ref 0), some (.ref 2), some (.ref 52), some (.ref 53), some (.ref 54), some (.ref 55), some (.ref 56), some (.int (nI t)), some (.int x8), some (.int x9), some (.int x10), some (.int (nI p)), some (.int (nI l)), some (.int (nI w)), some (.ref (53 + p)), some (.int x15), some (.int (s_sum g 10)), some (.int (nI vv)), some (.int nb), some (.int (nI fr)), some (.int (nI did)), some (.int (c 52 (6 + p))), some (.int (nI 0)), o23, o24, o25, o26, o27] [] (w_sh L ps (w_lo n)) c) := by
  rcases his with ⟨rfl, hg⟩ | ⟨rfl, hg⟩
  · rw [(s_slY hK hp hg).1]
    exact a_w1 hp hl hw hv hfr hd h1 h2 hI hK hg
  · rw [s_slN hK hp hg]
    exact a_w0 hp hl hd hI hK hg
theorem a_549 {k : Nat} (hp : p < 3) (hl : l < 8) (hw : w < 8) (hv : vv < 65536) (hfr : fr < 8) (hk : k < 12) (h1 : (-65535) ≤ nb) (h2 : nb ≤ nI 65535) (hI : s_I ps c g R h) (hK : s_K c g) (his : (x15 = nI 1 ∧ g (6 + 2 * p) = nI 1) ∨ (x15 = nI 0 ∧ g (6 + 2 * p) = nI 0)) : s_Y L (n + 1) t (mj_EV 103 549 [some (.ref 0), some (.ref 2), some (.ref 52), some (.ref 53), some (.ref 54), some (.ref 55), some (.ref 56), some (.int (nI t)), some (.int x8), some (.int x9), some (.int (nI k)), some (.int (nI p)), some (.int (nI l)), some (.int (nI w)), some (.ref (53 + p)), some (.int x15), some (.int (s_sum g 10)), some (.int (nI vv)), some (.int nb), o19, o20, o21, o22, o23, o24, o25, o26, o27] [.int (nI fr)] (w_sh L ps (w_lo n)) c) := by
  have i6 : mj_in (nI (6 + p)) 17 = true := z_i (by omega) (by omega)
  rw [e103_549 (w_5p hp), nI_add, if_pos i6, if_pos i6, if_pos i6, if_pos i6, nI_clamp (by omega)]
  by_cases q7 : 7 ≤ k
  · rw [if_pos (nI_le q7 (by omega))]
    by_cases q9 : 9 ≤ k
    · rw [if_pos (nI_le q9 (by omega))]
      by_cases q : k = 9
      · rw [q, if_pos rfl]
        exact a_599 (did := 2) hp hl hw hv hfr (by omega) h1 h2 hI hK his
      · rw [if_neg (n_ne q (by omega) (by omega))]
        exact a_599 (did := 3) hp hl hw hv hfr (by omega) h1 h2 hI hK his
    · rw [if_neg (nI_ge (by omega) (by omega))]
      exact a_599 (did := 1) hp hl hw hv hfr (by omega) h1 h2 hI hK his
  · rw [if_neg (nI_ge (by omega) (by omega))]
    exact a_599 (did := 0) hp hl hw hv hfr (by omega) h1 h2 hI hK his
theorem r_num (hv : vv < 65536) : ((-65535) ≤ nI vv ∧ nI vv ≤ nI 65535) ∧ ((-65535) ≤ -nI vv ∧ -nI vv ≤ nI 65535) := by
  have e1 : (-65535 : Int32).toInt = -65535 := by decide
  have e2 : (nI 65535).toInt = 65535 := by decide
  have e3 : (nI vv).toInt = vv := nI_toInt (by omega)
  have e4 : -nI vv = nI 0 - nI vv := by rw [nI_0, Int32.zero_sub]
  have e5 : (nI 0 - nI vv).toInt = ((0 : Nat) : Int) - vv := pk_sub_toInt (by omega) (by omega)
  rw [e4]
  refine ⟨⟨?_, ?_⟩, ?_, ?_⟩ <;> rw [Int32.le_iff_toInt_le] <;> omega
theorem a_520 {k : Nat} (hp : p < 3) (hl : l < 8) (hw : w < 8) (hv : vv < 65536) (hk : k < 12) (hI : s_I ps c g R h) (hK : s_K c g) (his : (x15 = nI 1 ∧ g (6 + 2 * p) = nI 1) ∨ (x15 = nI 0 ∧ g (6 + 2 * p) = nI 0)) : s_Y L (n + 1) t (mj_EV 103 520 [some (.ref 0), some (.ref 2), some (.ref 52), some (.ref 53), some (.ref 54), some (.ref 55), some (.ref 56), some (.int (nI t)), some (.int x8), some (.int x9), some (.int (nI k)), some (.int (nI p)), some (.int (nI l)), some (.int (nI w)), some (.ref (53 + p)), some (.int x15), some (.int (s_sum g 10)), o17, o18, o19, o20, o21, o22, o23, o24, o25, o26, o27] [.int (nI vv)] (w_sh L ps (w_lo n)) c) := by
  obtain ⟨⟨a1, a2⟩, b1, b2⟩ := r_num hv
  rw [e103_520 (w_5p hp), if_pos (by decide), l_low (by omega) (by omega), mj_then_i]
  by_cases q : nI k - nI k / nI 2 * nI 2 = nI 0
  · rw [if_pos q]
    exact a_549 hp hl hw hv (p_low_lt (by omega)) hk a1 a2 hI hK his
  · rw [if_neg q, mj_then_i]
    exact a_549 hp hl hw hv (p_low_lt (by omega)) hk b1 b2 hI hK his
theorem a_454 {k : Nat} (hp : p < 3) (hl : l < 8) (hw : w < 8) (hk : k < 12) (hI : s_I ps c g R h) (hK : s_K c g) (his : (x15 = nI 1 ∧ g (6 + 2 * p) = nI 1) ∨ (x15 = nI 0 ∧ g (6 + 2 * p) = nI 0)) : s_Y L (n + 1) t (mj_EV 103 454 [some (.ref 0), some (.ref 2), some (.ref 52), some (.ref 53), some (.ref 54), some (.ref 55), some (.ref 56), some (.int (nI t)), some (.int x8), some (.int x9), some (.int (nI k)), some (.int (nI p)), some (.int (nI l)), some (.int (nI w)), some (.ref (53 + p)), some (.int x15), some (.int (s_sum g 10)), o17, o18, o19, o20, o21, o22, o23, o24, o25, o26, o27] [] (w_sh L ps (w_lo n)) c) := by
  rw [e103_454 (w_5p hp), if_neg (nI_ge (by omega) (by omega)), l_low (by omega) (by omega), mj_then_i, e103_470 (w_5p hp)]
  by_cases q : nI (p_low (x8 >>> (nI 6 &&& 31)) 4) = nI 0
  · have := p_low_lt (x := x9 >>> (nI 3 &&& 31)) (n := 65536) (by omega)
    rw [if_pos q, l_low (by omega) (by omega), mj_then_i, e103_482 (w_5p hp)]
    exact a_520 hp hl hw (by omega) hk hI hK his
  · rw [if_neg q, l_low (by omega) (by omega), mj_then_i, e103_494 (w_5p hp)]
    by_cases q2 : nI (p_low (x8 >>> (nI 6 &&& 31)) 4) = nI 1
    · have := p_low_lt (x := x9 >>> (nI 3 &&& 31)) (n := 300) (by omega)
      rw [if_pos q2, l_low (by omega) (by omega), mj_then_i, e103_508 (w_5p hp)]
      exact a_520 hp hl hw (by omega) hk hI hK his
    · have := p_low_lt (x := x9 >>> (nI 3 &&& 31)) (n := 30) (by omega)
      rw [if_neg q2, l_low (by omega) (by omega), mj_then_i]
      exact a_520 hp hl hw (by omega) hk hI hK his
theorem a_229 {k : Nat} (hp : p < 3) (hl : l < 8) (hw : w < 8) (hk : k < 20) (hI : s_I ps c g R h) (hK : s_K c g) (his : (x15 = nI 1 ∧ g (6 + 2 * p) = nI 1) ∨ (x15 = nI 0 ∧ g (6 + 2 * p) = nI 0)) : s_Y L (n + 1) t (mj_EV 103 229 [some (.ref 0), some (.ref 2), some (.ref 52), some (.ref 53), some (.ref 54), some (.ref 55), some (.ref 56), some (.int (nI t)), some (.int x8), some (.int x9), some (.int (nI k)), some (.int (nI p)), some (.int (nI l)), some (.int (nI w)), some (.ref (53 + p)), some (.int x15), some (.int (s_sum g 10)), o17, o18, o19, o20, o21, o22, o23, o24, o25, o26, o27] [] (w_sh L ps (w_lo n)) c) := by
  by_cases k0 : k = 0
  · subst k0
    exact a_new hp hI hK
  rw [e103_229 (w_5p hp), if_neg (n_ne k0 (by omega) (by omega))]
  by_cases k1 : k = 1
  · subst k1
    rcases his with ⟨rfl, hg⟩ | ⟨rfl, hg⟩
    · exact a_free1 hp hI hK hg
    · exact a_free0 hp hI hK hg
  rw [e103_335 (w_5p hp), if_neg (n_ne k1 (by omega) (by omega))]
  by_cases k12 : k < 12
  · exact a_454 hp hl hw k12 hI hK his
  rw [e103_454 (w_5p hp), if_pos (nI_le (by omega) (by omega))]
  by_cases k16 : k < 16
  · rcases his with ⟨rfl, hg⟩ | ⟨rfl, hg⟩
    · exact a_look1 hp hl hw hI hK (nI_ge k16 (by omega)) hg
    · exact a_look0 hp hI hK (nI_ge k16 (by omega)) hg
  rw [e103_1035 (w_5p hp), if_pos (nI_le (by omega) (by omega))]
  by_cases e16 : k = 16
  · subst e16
    rcases his with ⟨rfl, hg⟩ | ⟨rfl, hg⟩
    · exact a_lay1 hp hI hK hg
    · exact a_lay0 hp hI hK hg
  rw [e103_1224 (w_5p hp), if_neg (n_ne e16 (by omega) (by omega))]
  by_cases e17 : k = 17
  · subst e17
    exact a_layAll hp hI hK
  rw [e103_1281 (w_5p hp), if_neg (n_ne e17 (by omega) (by omega))]
  by_cases e18 : k = 18
  · subst e18
    exact a_room hp hI hK
  rw [e103_1357 (w_5p hp), if_neg (n_ne e18 (by omega) (by omega))]
  exact a_bound hp hI hK
theorem a_96 {o8 o9 o10 o11 o12 o13 o14 o15 o16 : Option Value} (hL : L ≤ 260) (ht : t < 50) (hJ : s_J ps c) : s_Y L (n + 1) t (mj_EV 103 96 [some (.ref 0), some (.ref 2), some (.ref 52), some (.ref 53), some (.ref 54), some (.ref 55), some (.ref 56), some (.int (nI t)), o8, o9, o10, o11, o12, o13, o14, o15, o16, o17, o18, o19, o20, o21, o22, o23, o24, o25, o26, o27] [] (w_sh L ps (w_lo n)) c) := by
  obtain ⟨g, R, h, hI, hK⟩ := hJ
  obtain ⟨y8, e8⟩ := l_cell (L := L) (ps := ps) (rest := w_lo n) (c := c) (k := 2 * t) (by omega) (by omega)
  obtain ⟨y9, e9⟩ := l_cell (L := L) (ps := ps) (rest := w_lo n) (c := c) (k := 2 * t + 1) (by omega) (by omega)
  have hP := hK.2.2.2.1
  have hok := s_S_ok hK.1
  have hsum : ∀ k, k < 3 → s_okw (c (53 + k)) := fun k hk => s_LP_ok (W := s_W3 c) hP hok hk
  have key : ∀ k, k < 20 → s_Y L (n + 1) t (mj_EV 103 142 [some (.ref 0), some (.ref 2), some (.ref 52), some (.ref 53), some (.ref 54), some (.ref 55), some (.ref 56), some (.int (nI t)), some (.int y8), some (.int y9), o10, o11, o12, o13, o14, o15, o16, o17, o18, o19, o20, o21, o22, o23, o24, o25, o26, o27] [.int (nI k)] (w_sh L ps (w_lo n)) c) := by
    intro k hk
    obtain ⟨p, hp, ep⟩ : ∃ p, p < 3 ∧ p_low y9 3 = p := ⟨_, p_low_lt (by omega), rfl⟩
    have rest : ∀ l, l < 8 → s_Y L (n + 1) t (mj_EV 103 176 [some (.ref 0), some (.ref 2), some (.ref 52), some (.ref 53), some (.ref 54), some (.ref 55), some (.ref 56), some (.int (nI t)), some (.int y8), some (.int y9), some (.int (nI k)), some (.int (nI p)), o12, o13, o14, o15, o16, o17, o18, o19, o20, o21, o22, o23, o24, o25, o26, o27] [.int (nI l)] (w_sh L ps (w_lo n)) c) := by
      intro l hl
      obtain ⟨w, hw, ew⟩ : ∃ w, w < 8 ∧ p_low (y9 >>> (nI 5 &&& 31)) 8 = w := ⟨_, p_low_lt (by omega), rfl⟩
      rw [e103_176, l_low (by omega) (by omega), ew, mj_then_i, e103_187, l_row hp, mj_then_r, e103_199 (w_5p hp), nI_add, if_pos (z_i (by omega) (by omega)), nI_clamp (by omega), l_sumQ hsum, s_LP_sum hP, mj_then_i, mj_then_i, e103_227 (w_5p hp), e103_227 (w_5p hp)]
      rcases hP.1 p hp with ⟨hg, hq, s, hs, es⟩ | ⟨hg, hq⟩
      · rw [hq, es, if_neg (nI_nlt (by omega) (by omega))]
        exact a_229 hp hl hw hk hI hK (Or.inl ⟨rfl, hg⟩)
      · rw [hq, if_pos s_m1']
        exact a_229 hp hl hw hk hI hK (Or.inr ⟨rfl, hg⟩)
    rw [e103_142, l_low (by omega) (by omega), ep, mj_then_i, e103_150, l_low (by omega) (by omega), mj_then_i, e103_164]
    by_cases q : nI (p_low (y8 >>> (nI 5 &&& 31)) 3) = nI 0
    · rw [if_pos q, l_low (by omega) (by omega), mj_then_i]
      exact rest _ (p_low_lt (by omega))
    · have := p_low_lt (x := y9 >>> (nI 2 &&& 31)) (n := 5) (by omega)
      rw [if_neg q, l_low (by omega) (by omega), mj_then_i]
      exact rest _ (by omega)
  rw [e103_96, if_neg (nI_ge (by omega) (by omega)), pk_mul, e8, mj_then_i, e103_111, pk_mul, nI_add, e9, mj_then_i, e103_123]
  by_cases q : 2 ≤ t
  · rw [if_pos (nI_le q (by omega)), l_low (by omega) (by omega), mj_then_i]
    exact key _ (p_low_lt (by omega))
  · rw [if_neg (nI_ge (by omega) (by omega))]
    exact key 0 (by omega)
theorem t_loop (hL : L ≤ 260) : ∀ (j t n : Nat) (ps : List (Option (Option Nat))) (c : mj_C) (o8 o9 o10 o11 o12 o13 o14 o15 o16 o17 o18 o19 o20 o21 o22 o23 o24 o25 o26 o27 : Option Value), t + j = 50 → n ≤ t → s_J ps c → ∃ n' ps' c', mj_EV 103 96 [some (.ref 0), some (.ref 2), some (.ref 52), some (.ref 53), some (.ref 54), some (.ref 55), some (.ref 56), some (.int (nI t)), o8, o9, o10, o11, o12, o13, o14, o15, o16, o17, o18, o19, o20, o21, o22, o23, o24, o25, o26, o27] [] (w_sh L ps (w_lo n)) c = some (some (.int (nI 1)), w_sh L ps' (w_lo n'), c') ∧ n' ≤ 50 := by
  intro j
  induction j with
  | zero =>
    intro t n ps c o8 o9 o10 o11 o12 o13 o14 o15 o16 o17 o18 o19 o20 o21 o22 o23 o24 o25 o26 o27 ht hn hJ
    have ht : t = 50 := ht
    subst ht
    exact ⟨n, ps, c, by rw [e103_96, if_pos (Int32.le_refl _)], hn⟩
  | succ j ih =>
    intro t n ps c o8 o9 o10 o11 o12 o13 o14 o15 o16 o17 o18 o19 o20 o21 o22 o23 o24 o25 o26 o27 ht hn hJ
    obtain ⟨n1, ps1, c1, a8, a9, a10, a11, a12, a13, a14, a15, a16, a17, a18, a19, a20, a21, a22, a23, a24, a25, a26, a27, e, hn1, hJ1⟩ := a_96 (L := L) (n := n) (t := t) (o8 := o8) (o9 := o9) (o10 := o10) (o11 := o11) (o12 := o12) (o13 := o13) (o14 := o14) (o15 := o15) (o16 := o16) (o17 := o17) (o18 := o18) (o19 := o19) (o20 := o20) (o21 := o21) (o22 := o22) (o23 := o23) (o24 := o24) (o25 := o25) (o26 := o26) (o27 := o27) hL (by omega) hJ
    obtain ⟨n2, ps2, c2, e2, hn2⟩ := ih (t + 1) n1 ps1 c1 a8 a9 a10 a11 a12 a13 a14 a15 a16 a17 a18 a19 a20 a21 a22 a23 a24 a25 a26 a27 (by omega) (by omega) hJ1
    exact ⟨n2, ps2, c2, e.trans e2, hn2⟩
end TT
