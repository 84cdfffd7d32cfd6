/-! ONE TURN OF THE LAW -/
def s_J (ps : List (Option (Option Nat))) (c : mj_C) : Prop := ∃ g R h, s_I ps c g R h ∧ s_K c g
def s_Y (L m t : Nat) (A : Option mj_R) : Prop := ∃ (n : Nat) (ps : List (Option (Option Nat))) (c : mj_C) (o8 o9 o10 o11 o12 o13 o14 o15 o16 o17 o18 o19 o20 o21 o22 o23 o24 o25 o26 o27 : Option Value), A = mj_EV 103 96 [some (.ref 0), some (.ref 2), some (.ref 52), some (.ref 53), some (.ref 54), some (.ref 55), some (.ref 56), some (.int (nI (t + 1))), o8, o9, o10, o11, o12, o13, o14, o15, o16, o17, o18, o19, o20, o21, o22, o23, o24, o25, o26, o27] [] (w_sh L ps (w_lo n)) c ∧ n ≤ m ∧ s_J ps c
section TU
variable {L n m t p l w : Nat} {ps : List (Option (Option Nat))} {c : mj_C} {g : Nat → Int32} {R : Nat} {h : Nat → Nat → Int32} {x8 x9 x10 x11 x12 x13 x15 x16 : Int32} {o17 o18 o19 o20 o21 o22 o23 o24 o25 o26 o27 : Option Value}
theorem t_z {rr : Nat} (hr : (w_sh L ps (w_lo n))[rr]? = some (0, 64, [])) (hn : n ≤ m) (hJ : s_J ps c) : s_Y L m t (mj_EV 103 1695 [some (.ref 0), some (.ref 2), some (.ref 52), some (.ref 53), some (.ref 54), some (.ref 55), some (.ref 56), some (.int (nI t)), some (.int x8), some (.int x9), some (.int x10), some (.int x11), some (.int x12), some (.int x13), some (.ref rr), some (.int x15), some (.int x16), o17, o18, o19, o20, o21, o22, o23, o24, o25, o26, o27] [] (w_sh L ps (w_lo n)) c) := by
  rw [e103_1695 hr, nI_add]
  exact ⟨n, ps, c, _, _, _, _, _, _, _, _, _, _, _, _, _, _, _, _, _, _, _, _, rfl, hn, hJ⟩
theorem t_y (hp : p < 3) (hn : n + 1 ≤ m) (hJ : s_J ps c) : s_Y L m t (mj_EV 103 1676 [some (.ref 0), some (.ref 2), some (.ref 52), some (.ref 53), some (.ref 54), some (.ref 55), some (.ref 56), some (.int (nI t)), some (.int x8), some (.int x9), some (.int x10), some (.int x11), some (.int x12), some (.int x13), some (.ref (53 + p)), some (.int x15), some (.int x16), o17, o18, o19, o20, o21, o22, o23, o24, o25, o26, o27] [] (w_sh L ps (w_lo n)) c) := by
  obtain ⟨g, R, h, hI, hK⟩ := hJ
  obtain ⟨c', e, hb⟩ := t_same (L := L) (n := n) (ps := ps) (x1 := x9 >>> (nI 3 &&& 31)) hK
  rw [e103_1676 (w_5p hp), e, mj_then_i, e103_1690 (w_5p hp), if_neg (by decide)]
  exact t_z (w_5p hp) hn ⟨g, R, h, s_I_congr hI (fun b hb2 => hb b (by omega)), s_K_mono hK (fun b hb2 => hb b (by omega))⟩
theorem s_J_of {c' : mj_C} (hI : s_I ps c g R h) (hc : ∀ b, b < 52 → c' b = c b) (hN : s_LN (c' 52) g) (hP : s_LP (c' 52) (s_W3 c') g) (hH : s_LH (c' 52) g) : s_J ps c' := by
  have hI2 : s_I ps c' g R h := s_I_congr hI (fun b hb => hc b (by omega))
  exact ⟨g, R, h, hI2, hI2.2.1, hI2.1, hN, hP, hH⟩
theorem s_W3_u {k : Nat} {v : Int32} : s_W3 (mj_u c 52 k v) = s_W3 c := by
  funext q
  exact mj_u_ne _ _ _ _ (by omega)
theorem s_W3_Fo {c' : mj_C} (hF : s_Fo c c') : s_W3 c' = s_W3 c := by
  funext q
  exact hF (53 + q) (by omega)
theorem s_u_lo {k a : Nat} {v : Int32} (ha : 52 ≤ a) : ∀ b, b < 52 → mj_u c a k v b = c b := fun b hb => mj_u_ne _ _ _ _ (by omega)
section RE
variable {q q' g' : Nat → Int32} {W : Nat → Nat → Int32}
theorem s_LN_upd (hN : s_LN q g) {k : Nat} {v : Int32} : s_LN (upd q k v) (upd g k v) := by
  have e : ∀ j, q j = g j → upd q k v j = upd g k v j := by
    intro j hj
    by_cases h : j = k
    · rw [h, s_upd_eq, s_upd_eq]
    · rw [s_upd_ne h, s_upd_ne h]; exact hj
  exact ⟨e 0 hN.1, e 1 hN.2.1, e 2 hN.2.2.1, e 3 hN.2.2.2.1, e 4 hN.2.2.2.2.1, e 5 hN.2.2.2.2.2⟩
theorem s_LN_congr (hN : s_LN q g) (h1 : ∀ j, j < 6 → q' j = q j) (h2 : ∀ j, j < 6 → g' j = g j) : s_LN q' g' := by
  unfold s_LN
  rw [h1 0 (by omega), h1 1 (by omega), h1 2 (by omega), h1 3 (by omega), h1 4 (by omega), h1 5 (by omega), h2 0 (by omega), h2 1 (by omega), h2 2 (by omega), h2 3 (by omega), h2 4 (by omega), h2 5 (by omega)]
  exact hN
theorem s_LP_congr (hP : s_LP q W g) (h1 : ∀ j, 6 ≤ j → j < 9 → q' j = q j) (h2 : ∀ j, 6 ≤ j → j < 26 → g' j = g j) (h3 : ∀ j, 34 ≤ j → g' j = g j) : s_LP q' W g' := by
  refine ⟨fun p hp => ?_, fun p h3 hp => ?_, fun p hp j hj => ?_⟩
  · rw [h1 (6 + p) (by omega) (by omega), h2 (6 + 2 * p) (by omega) (by omega), h2 (7 + 2 * p) (by omega) (by omega)]
    exact hP.1 p hp
  · rw [h2 (6 + 2 * p) (by omega) (by omega)]
    exact hP.2.1 p h3 hp
  · rw [h3 _ (by omega)]
    exact hP.2.2 p hp j hj
theorem s_LH_congr (hH : s_LH q g) (h1 : ∀ j, 9 ≤ j → j < 17 → q' j = q j) (h2 : ∀ j, 26 ≤ j → j < 34 → g' j = g j) : s_LH q' g' := by
  refine ⟨fun k hk => ?_, ?_, ?_⟩
  · rw [h1 (9 + k) (by omega) (by omega), h1 (13 + k) (by omega) (by omega), h2 (26 + 2 * k) (by omega) (by omega), h2 (27 + 2 * k) (by omega) (by omega)]
    exact hH.1 k hk
  · rw [h1 12 (by omega) (by omega)]; exact hH.2.1
  · rw [h2 32 (by omega) (by omega)]; exact hH.2.2
theorem s_LP_slot (hP : s_LP q W g) (hp : p < 3) (hg : g (6 + 2 * p) = nI 1) {x : Int32} (hx : ∃ s, s ≤ 8 ∧ x = nI s) : s_LP (upd q (6 + p) x) W (upd g (7 + 2 * p) x) := by
  refine ⟨fun k hk => ?_, fun k h3 hk => ?_, fun k hk j hj => ?_⟩
  · by_cases e : k = p
    · subst e
      rw [s_upd_eq, s_upd_eq, s_upd_ne (by omega)]
      exact Or.inl ⟨hg, rfl, hx⟩
    · rw [s_upd_ne (by omega), s_upd_ne (by omega), s_upd_ne (by omega)]
      exact hP.1 k hk
  · rw [s_upd_ne (by omega)]
    exact hP.2.1 k h3 hk
  · rw [s_upd_ne (by omega)]
    exact hP.2.2 k hk j hj
end RE
theorem y_0 : (nI 0).toNatClampNeg = 0 := by decide
theorem y_1 : (nI 1).toNatClampNeg = 1 := by decide
theorem y_2 : (nI 2).toNatClampNeg = 2 := by decide
theorem y_3 : (nI 3).toNatClampNeg = 3 := by decide
theorem y_4 : (nI 4).toNatClampNeg = 4 := by decide
theorem y_5 : (nI 5).toNatClampNeg = 5 := by decide
theorem y_6 : (nI 6).toNatClampNeg = 6 := by decide
theorem y_7 : (nI 7).toNatClampNeg = 7 := by decide
theorem y_8 : (nI 8).toNatClampNeg = 8 := by decide
theorem z_i {k a : Nat} (h : k < a) (h2 : k < 100) : mj_in (nI k) a = true := by
  rw [mj_in_nI (by omega)]
  exact decide_eq_true h
theorem a_bound (hp : p < 3) (hI : s_I ps c g R h) (hK : s_K c g) : s_Y L (n + 1) t (mj_EV 103 1627 [some (.ref 0), some (.ref 2), some (.ref 52), some (.ref 53), some (.ref 54), some (.ref 55), some (.ref 56), some (.int (nI t)), some (.int x8), some (.int x9), some (.int x10), some (.int (nI p)), some (.int (nI l)), some (.int (nI w)), some (.ref (53 + p)), some (.int x15), some (.int (s_sum g 10)), o17, o18, o19, o20, o21, o22, o23, o24, o25, o26, o27] [] (w_sh L ps (w_lo n)) c) := by
  obtain ⟨hS, hfs, hN, hP, hH⟩ := hK
  have key : ∀ b, 20 ≤ b → b ≤ 999 → s_Y L (n + 1) t (mj_then 103 1663 [some (.ref 0), some (.ref 2), some (.ref 52), some (.ref 53), some (.ref 54), some (.ref 55), some (.ref 56), some (.int (nI t)), some (.int x8), some (.int x9), some (.int x10), some (.int (nI p)), some (.int (nI l)), some (.int (nI w)), some (.ref (53 + p)), some (.int x15), some (.int (s_sum g 10)), some (.int (nI b)), o18, o19, o20, o21, o22, o23, o24, o25, o26, o27] [] (mj_EV 23 0 [some (.ref 2), some (.int (nI b)), none] [] (w_sh L ps (w_lo n)) c)) := by
    intro b hb hb2
    obtain ⟨ps', c1, e, hI1, hF⟩ := k_setBound (L := L) (rest := w_lo n) hb hb2 hI
    have e52 : c1 52 = c 52 := hF 52 (by omega)
    rw [e, mj_then_i, e103_1663 (w_5p hp), y_1, if_pos (z_i (by omega) (by omega)), e52, hN.2.1, if_pos rfl, if_pos (z_i (by omega) (by omega))]
    refine t_y hp (by omega) (s_J_of hI1 (s_u_lo (by omega)) ?_ ?_ ?_)
    · rw [mj_u_self, e52]
      exact s_LN_upd hN
    · rw [mj_u_self, e52, s_W3_u, s_W3_Fo hF]
      exact s_LP_congr hP (fun j h1 h2 => s_upd_ne (by omega)) (fun j h1 h2 => s_upd_ne (by omega)) (fun j h1 => s_upd_ne (by omega))
    · rw [mj_u_self, e52]
      exact s_LH_congr hH (fun j h1 h2 => s_upd_ne (by omega)) (fun j h1 h2 => s_upd_ne (by omega))
  have k1 : p_low x9 80 < 80 := p_low_lt (by omega)
  have k2 : p_low x9 250 < 250 := p_low_lt (by omega)
  rw [e103_1627 (w_5p hp), l_low (by omega) (by omega), mj_then_i, e103_1640 (w_5p hp)]
  by_cases q : nI (p_low (x8 >>> (nI 6 &&& 31)) 2) = nI 0
  · rw [if_pos q, l_low (by omega) (by omega), mj_then_i, e103_1654 (w_5p hp), nI_add]
    exact key _ (by omega) (by omega)
  · rw [if_neg q, l_low (by omega) (by omega), mj_then_i, e103_1654 (w_5p hp), nI_add]
    exact key _ (by omega) (by omega)
theorem s_npg (hp : p < 3) (hg : g (6 + 2 * p) = nI 0) : ¬ s_pg g (nI p) := fun ⟨P, hP2, e1, e2⟩ => by
  rw [nI_eq (by omega) (by omega)] at e1
  subst e1
  rw [hg] at e2
  exact s_n1 e2
theorem s_nli {y : Int32} (hp : p < 3) (hg : g (6 + 2 * p) = nI 0) : ¬ s_li g (nI p) y := fun ⟨P, l, hP2, _, e1, _, e2⟩ => s_npg hp hg ⟨P, hP2, e1, e2⟩
theorem s_slY (hK : s_K c g) (hp : p < 3) (hg : g (6 + 2 * p) = nI 1) : c 52 (6 + p) = g (7 + 2 * p) ∧ ∃ s, s ≤ 8 ∧ g (7 + 2 * p) = nI s := by
  rcases hK.2.2.2.1.1 p hp with h | h
  · exact h.2
  · exact absurd (h.1.symm.trans hg) s_n1
theorem s_slN (hK : s_K c g) (hp : p < 3) (hg : g (6 + 2 * p) = nI 0) : c 52 (6 + p) = (-1) := by
  rcases hK.2.2.2.1.1 p hp with h | h
  · exact absurd (hg.symm.trans h.1) s_n1
  · exact h.2
theorem a_lay0 (hp : p < 3) (hI : s_I ps c g R h) (hK : s_K c g) (hg : g (6 + 2 * p) = nI 0) : s_Y L (n + 1) t (mj_EV 103 1224 [some (.ref 0), some (.ref 2), some (.ref 52), some (.ref 53), some (.ref 54), some (.ref 55), some (.ref 56), some (.int (nI t)), some (.int x8), some (.int x9), some (.int (nI 16)), some (.int (nI p)), some (.int (nI l)), some (.int (nI w)), some (.ref (53 + p)), some (.int (nI 0)), some (.int (s_sum g 10)), o17, o18, o19, o20, o21, o22, o23, o24, o25, o26, o27] [] (w_sh L ps (w_lo n)) c) := by
  have e : mj_EV 32 0 [some (.ref 2), some (.int (nI p)), none] [] (w_sh L ps (w_lo n)) c = some (some (.int (-1)), w_sh L ps (w_lo n), c) := by
    rw [e32_0, k_hasPage_n hI.2.1 (s_npg hp hg), mj_then_i, e32_8, if_pos rfl]
  rw [e103_1224 (w_5p hp), if_pos rfl, e, mj_then_i, e103_1237 (w_5p hp), if_pos rfl, if_pos rfl, if_pos rfl]
  exact t_y hp (by omega) ⟨g, R, h, hI, hK⟩
theorem a_lay1 (hp : p < 3) (hI : s_I ps c g R h) (hK : s_K c g) (hg : g (6 + 2 * p) = nI 1) : s_Y L (n + 1) t (mj_EV 103 1224 [some (.ref 0), some (.ref 2), some (.ref 52), some (.ref 53), some (.ref 54), some (.ref 55), some (.ref 56), some (.int (nI t)), some (.int x8), some (.int x9), some (.int (nI 16)), some (.int (nI p)), some (.int (nI l)), some (.int (nI w)), some (.ref (53 + p)), some (.int (nI 1)), some (.int (s_sum g 10)), o17, o18, o19, o20, o21, o22, o23, o24, o25, o26, o27] [] (w_sh L ps (w_lo n)) c) := by
  obtain ⟨ps', c1, e, hI1, hF⟩ := k_layAnew (L := L) (rest := w_lo n) (by omega : p < 10) hI hg
  have e52 : c1 52 = c 52 := hF 52 (by omega)
  obtain ⟨hq, s, hs, es⟩ := s_slY hK hp hg
  obtain ⟨hS, hfs, hN, hP, hH⟩ := hK
  obtain ⟨r, hr, er⟩ := hS.2.1
  have hw : s_okw (c1 (53 + p)) := by
    rw [show c1 (53 + p) = s_W3 c p from hF (53 + p) (by omega)]
    exact s_LP_ok hP (s_S_ok hS) hp
  have ebs : ∀ y, s_bs (s_PF (c1 (53 + p))) y = s_bs (s_F g p) y := fun y => by
    rw [show c1 (53 + p) = s_W3 c p from hF (53 + p) (by omega)]
    exact s_LP_bs hP hp
  rw [e103_1224 (w_5p hp), if_pos rfl, e, mj_then_i, e103_1237 (w_5p hp), if_neg (by decide), nI_add, if_pos (z_i (by omega) (by omega)), nI_clamp (by omega), e52, hq, if_pos rfl, if_neg (by decide), if_pos (z_i (by omega) (by omega)), y_0, hN.1, er, l_best (w_5p hp) (by omega) hw (by omega), ebs, mj_then_i, e103_1277 (w_5p hp), if_pos (z_i (by omega) (by omega)), nI_clamp (by omega), ← er]
  refine t_y hp (by omega) (s_J_of hI1 (s_u_lo (by omega)) ?_ ?_ ?_)
  · rw [mj_u_self, e52]
    exact s_LN_congr hN (fun j hj => s_upd_ne (by omega)) (fun j hj => s_upd_ne (by omega))
  · rw [mj_u_self, e52, s_W3_u, s_W3_Fo hF]
    refine s_LP_slot hP hp hg ?_
    rw [er]
    exact s_bs_le (s_fo_F g p) (by omega)
  · rw [mj_u_self, e52]
    exact s_LH_congr hH (fun j h1 h2 => s_upd_ne (by omega)) (fun j h1 h2 => s_upd_ne (by omega))
/-! one bit of a set -/
theorem b_two : ∀ l, l < 8 → (nI 1 <<< (nI l &&& 31)).toBitVec = BitVec.twoPow 32 l ∧ (nI (2 ^ l)).toBitVec = BitVec.twoPow 32 l ∧ ((nI l &&& 31).toBitVec.smod 32).toNat = l := by decide
theorem b_and (x : Int32) (hl : l < 8) : x &&& (nI 1 <<< (nI l &&& 31)) = if x.toBitVec.getLsbD l = true then nI (2 ^ l) else nI 0 := by
  obtain ⟨h1, h2, -⟩ := b_two l hl
  apply Int32.toBitVec_inj.mp
  rw [Int32.toBitVec_and, h1, BitVec.and_twoPow]
  cases x.toBitVec.getLsbD l
  · rfl
  · exact h2.symm
theorem b_shr (x : Int32) (hl : l < 8) : (x >>> (nI l &&& 31)) &&& nI 1 = if x.toBitVec.getLsbD l = true then nI 1 else nI 0 := by
  obtain ⟨-, -, h3⟩ := b_two l hl
  apply Int32.toBitVec_inj.mp
  rw [Int32.toBitVec_and, Int32.toBitVec_shiftRight, BitVec.sshiftRight', h3, show (nI 1).toBitVec = BitVec.twoPow 32 0 from by decide, BitVec.and_twoPow, BitVec.getLsbD_sshiftRight, if_pos (by omega : l + 0 < 32), Nat.add_zero]
  cases x.toBitVec.getLsbD l <;> rfl
theorem b_eq (x y : Int32) (hl : l < 8) : (x &&& (nI 1 <<< (nI l &&& 31)) = y &&& (nI 1 <<< (nI l &&& 31))) ↔ ((x >>> (nI l &&& 31)) &&& nI 1 = (y >>> (nI l &&& 31)) &&& nI 1) := by
  have hb : 2 ^ l ≤ 128 := Nat.pow_le_pow_right (n := 2) (by omega) (by omega : l ≤ 7)
  have h0 : 0 < 2 ^ l := Nat.two_pow_pos l
  have n1 : ¬ nI (2 ^ l) = nI 0 := n_ne (by omega) (by omega) (by omega)
  have n2 : ¬ nI 1 = nI 0 := by decide
  rw [b_and x hl, b_and y hl, b_shr x hl, b_shr y hl]
  cases x.toBitVec.getLsbD l <;> cases y.toBitVec.getLsbD l
  · exact ⟨fun _ => rfl, fun _ => rfl⟩
  · exact ⟨fun z => absurd z.symm n1, fun z => absurd z.symm n2⟩
  · exact ⟨fun z => absurd z n1, fun z => absurd z n2⟩
  · exact ⟨fun _ => rfl, fun _ => rfl⟩
end TU
