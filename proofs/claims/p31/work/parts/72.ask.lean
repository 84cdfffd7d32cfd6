/-! WHAT same ASKS THE CLASS -/
section AS
variable {L : Nat} {ps : List (Option (Option Nat))} {rest : List mj_K} {c : mj_C} {g : Nat → Int32}
theorem k_peek {P l k : Nat} (hP : P < 10) (hl : l < 8) (hk : k < 8) (hS : s_S c 3 g) (hg : g (6 + 2 * P) = nI 1) : mj_EV 61 0 [some (.ref 2), some (.int (nI P)), some (.int (nI l)), some (.int (nI k))] [] (w_sh L ps rest) c = some (some (.int (s_wd g P l k)), w_sh L ps rest, c) := by
  rw [e61_0, k_hasLine_y hS hP hl hg, mj_then_i, e61_9, if_neg (by decide), k_isWord_y hk, mj_then_i, e61_16, if_neg (by decide), k_wordOf hS hP hl hk hg, mj_then_i, e61_31]
theorem k_page_n {x y : Int32} (hS : s_S c 3 g) (q : ¬ s_pg g x) : mj_EV 62 0 [some (.ref 2), some (.int x), some (.int y)] [] (w_sh L ps rest) c = some (some (.int (-1)), w_sh L ps rest, c) := by
  rw [e62_0, k_hasPage_n hS q, mj_then_i, e62_8, if_pos rfl]
theorem k_line {P l k : Nat} (hP : P < 10) (hl : l < 8) (hk : k < 5) (hS : s_S c 3 g) (h1 : c 1 = w_fs) (hg : g (6 + 2 * P) = nI 1) : mj_EV 63 0 [some (.ref 2), some (.int (nI P)), some (.int (nI l)), some (.int (nI k))] [] (w_sh L ps rest) c = some (some (.int (s_lv g P l k)), w_sh L ps rest, c) := by
  obtain ⟨f, hf, ef⟩ := s_fm_cases (s_wd g P l)
  have ef : s_F g P l = nI f := ef
  obtain ⟨-, h6, -, h4⟩ := s_S_pg hS hP hg
  have hw : ∀ w, w < 8 → c 4 ((P * 8 + l) * 8 + w) = s_wd g P l w := by
    intro w hw
    rw [show (P * 8 + l) * 8 + w = 64 * P + (8 * l + w) by omega]
    refine (h4 (8 * l + w) (by omega)).trans ?_
    show g _ = g _
    congr 1
    omega
  rw [e63_0, k_hasLine_y hS hP hl hg, mj_then_i, e63_9, if_neg (by decide)]
  match k, hk with
  | 0, _ => rw [if_pos rfl, k_formOf hS hP hl hg, mj_then_i, e63_57]; rfl
  | 1, _ =>
    rw [if_neg (by decide), if_pos rfl, k_formOf hS hP hl hg, mj_then_i, e63_70, ef, mj_in_nI (by omega), nI_clamp (by omega), if_pos (by simp; omega), h1]
    rw [show s_lv g P l 1 = s_sz (s_F g P l) from rfl, ef, s_sz_nI hf]
  | 2, _ =>
    rw [if_neg (by decide), if_neg (by decide), if_pos rfl, k_isBeside hS h1 hP hl hg, mj_then_i, e63_78]
    rw [show s_lv g P l 2 = if g (7 + 2 * P) < s_sz (s_F g P l) then nI 1 else nI 0 from rfl]
    by_cases q : g (7 + 2 * P) < s_sz (s_F g P l)
    · rw [if_pos q, if_neg (by decide)]
    · rw [if_neg q, if_pos rfl]
  | 3, _ => rw [if_neg (by decide), if_neg (by decide), if_neg (by decide), if_pos rfl, e25_0, mj_then_i, e63_99, pk_mul, nI_add, pk_mul, k_least w_4 (by omega) (by omega) hw, mj_then_i, e63_102]; rfl
  | 4, _ => rw [if_neg (by decide), if_neg (by decide), if_neg (by decide), if_neg (by decide), if_pos rfl, e25_0, mj_then_i, e63_115, pk_mul, nI_add, pk_mul, k_greatest w_4 (by omega) (by omega) hw, mj_then_i, e63_118]; rfl
  | k + 5, hk => omega
theorem k_ifRoom {r : Nat} (hr : r < 9) (hS : s_S c 3 g) (h1 : c 1 = w_fs) : mj_EV 69 0 [some (.ref 2), some (.int (nI r)), none, none] [] (w_sh L ps rest) c = some (some (.int (s_sa g (nI r) 10)), w_sh L ps rest, c) := by
  have e : mj_EV 5 0 [some (.int (nI r))] [] (w_sh L ps rest) c = some (some (.int (nI 1)), w_sh L ps rest, c) := by
    rw [e5_0]
    simp (disch := omega) only [nI_ltI]
    rw [if_neg (by omega), if_neg (by omega)]
  rw [e69_0, e, mj_then_i, e69_4, if_neg (by decide), k_ifRoomLoop hS h1 (by omega)]
end AS
/-! THE LOOP OVER A LINE'S WORDS -/
def p_fe (f : Nat → Int32) : Nat → Int32
  | 0 => nI 65535
  | k + 1 => if p_fe f k ≤ f k then p_fe f k else f k
def p_ma (f : Nat → Int32) : Nat → Int32
  | 0 => nI 0
  | k + 1 => if f k ≤ p_ma f k then p_ma f k else f k
theorem p_fe_mn {f : Nat → Int32} (h : ∀ w, w < 8 → ∃ v, v < 65536 ∧ f w = nI v) : ∀ k, k < 8 → p_fe f (k + 1) = s_mn f k := by
  intro k
  induction k with
  | zero =>
    intro _
    obtain ⟨v, hv, e⟩ := h 0 (by omega)
    show (if nI 65535 ≤ f 0 then nI 65535 else f 0) = f 0
    rw [e]
    by_cases q : 65535 ≤ v
    · rw [if_pos (nI_le q (by omega)), show v = 65535 by omega]
    · rw [if_neg (nI_ge (by omega) (by omega))]
  | succ k ih =>
    intro hk
    show (if p_fe f (k + 1) ≤ f (k + 1) then p_fe f (k + 1) else f (k + 1)) = if f (k + 1) < s_mn f k then f (k + 1) else s_mn f k
    rw [ih (by omega)]
    by_cases q : s_mn f k ≤ f (k + 1)
    · rw [if_pos q, if_neg (Int32.not_lt.mpr q)]
    · rw [if_neg q, if_pos (Int32.not_le.mp q)]
theorem p_ma_mx {f : Nat → Int32} (h : ∀ w, w < 8 → ∃ v, v < 65536 ∧ f w = nI v) : ∀ k, k < 8 → p_ma f (k + 1) = s_mx f k := by
  intro k
  induction k with
  | zero =>
    intro _
    obtain ⟨v, hv, e⟩ := h 0 (by omega)
    show (if f 0 ≤ nI 0 then nI 0 else f 0) = f 0
    rw [e]
    by_cases q : v ≤ 0
    · rw [if_pos (nI_le q (by omega)), show v = 0 by omega]
    · rw [if_neg (nI_ge (by omega) (by omega))]
  | succ k ih =>
    intro hk
    show (if f (k + 1) ≤ p_ma f (k + 1) then p_ma f (k + 1) else f (k + 1)) = if s_mx f k < f (k + 1) then f (k + 1) else s_mx f k
    rw [ih (by omega)]
    by_cases q : f (k + 1) ≤ s_mx f k
    · rw [if_pos q, if_neg (Int32.not_lt.mpr q)]
    · rw [if_neg q, if_pos (Int32.not_le.mp q)]
section SA
variable {L n : Nat} {ps : List (Option (Option Nat))} {c : mj_C} {g : Nat → Int32} {x1 x6 x7 x8 x9 x13 x14 x15 : Int32} {o12 o13 o14 o15 o16 o17 o18 o19 o20 o21 : Option Value}
theorem t_words {p l : Nat} {x17 : Int32} (hp : p < 3) (hl : l < 8) (hK : s_K c g) (hg : g (6 + 2 * p) = nI 1) : ∀ (j k : Nat) (o21 : Option Value), k + j = 8 → ∃ o, mj_EV 102 241 [some (.ref 2), some (.int x1), some (.ref 52), some (.ref 53), some (.ref 54), some (.ref 55), some (.int x6), some (.int x7), some (.int x8), some (.int x9), some (.ref (57 + n)), some (.int (nI p)), some (.ref (53 + p)), some (.int x13), some (.int x14), some (.int x15), some (.int (nI l)), some (.int x17), some (.int (p_fe (s_wd g p l) k)), some (.int (p_ma (s_wd g p l) k)), some (.int (nI k)), o21] [] (w_sh L ps (w_lo (n + 1))) c = mj_EV 102 241 [some (.ref 2), some (.int x1), some (.ref 52), some (.ref 53), some (.ref 54), some (.ref 55), some (.int x6), some (.int x7), some (.int x8), some (.int x9), some (.ref (57 + n)), some (.int (nI p)), some (.ref (53 + p)), some (.int x13), some (.int x14), some (.int x15), some (.int (nI l)), some (.int x17), some (.int (p_fe (s_wd g p l) 8)), some (.int (p_ma (s_wd g p l) 8)), some (.int (nI 8)), o] [] (w_sh L ps (w_lo (n + 1))) c := by
  intro j
  induction j with
  | zero =>
    intro k o21 hk
    have hk : k = 8 := hk
    subst hk
    exact ⟨o21, rfl⟩
  | succ j ih =>
    intro k o21 hk
    obtain ⟨o, h2⟩ := ih (k + 1) (some (.int (s_wd g p l k))) (by omega)
    rw [show p_fe (s_wd g p l) (k + 1) = if p_fe (s_wd g p l) k ≤ s_wd g p l k then p_fe (s_wd g p l) k else s_wd g p l k from rfl, show p_ma (s_wd g p l) (k + 1) = if s_wd g p l k ≤ p_ma (s_wd g p l) k then p_ma (s_wd g p l) k else s_wd g p l k from rfl] at h2
    refine ⟨o, ?_⟩
    have hw : c (53 + p) (8 * l + k) = s_wd g p l k := s_LP_wd hK.2.2.2.1 hp hl (by omega)
    rw [e102_241 (w_5p hp), if_neg (nI_ge (by omega) (by omega)), pk_mul, nI_add, mj_in_nI (by omega), if_pos (decide_eq_true (by omega)), nI_clamp (by omega), hw]
    by_cases q1 : p_fe (s_wd g p l) k ≤ s_wd g p l k
    · rw [if_pos q1] at h2
      rw [if_pos q1]
      by_cases q2 : s_wd g p l k ≤ p_ma (s_wd g p l) k
      · rw [if_pos q2] at h2
        rw [if_pos q2, k_peek (by omega) hl (by omega) hK.1 hg, mj_then_i, e102_303 (w_5p hp), if_pos rfl, nI_add]
        exact h2
      · rw [if_neg q2] at h2
        rw [if_neg q2, k_peek (by omega) hl (by omega) hK.1 hg, mj_then_i, e102_303 (w_5p hp), if_pos rfl, nI_add]
        exact h2
    · rw [if_neg q1] at h2
      rw [if_neg q1]
      by_cases q2 : s_wd g p l k ≤ p_ma (s_wd g p l) k
      · rw [if_pos q2] at h2
        rw [if_pos q2, k_peek (by omega) hl (by omega) hK.1 hg, mj_then_i, e102_303 (w_5p hp), if_pos rfl, nI_add]
        exact h2
      · rw [if_neg q2] at h2
        rw [if_neg q2, k_peek (by omega) hl (by omega) hK.1 hg, mj_then_i, e102_303 (w_5p hp), if_pos rfl, nI_add]
        exact h2
/-- one line: its words, its form, its numbers -/
theorem t_line {p l : Nat} (hp : p < 3) (hl : l < 8) (hK : s_K c g) (hg : g (6 + 2 * p) = nI 1) (h13 : x13 = g (7 + 2 * p)) : ∃ c' a b d e f, mj_EV 102 206 [some (.ref 2), some (.int x1), some (.ref 52), some (.ref 53), some (.ref 54), some (.ref 55), some (.int x6), some (.int x7), some (.int x8), some (.int x9), some (.ref (57 + n)), some (.int (nI p)), some (.ref (53 + p)), some (.int x13), some (.int x14), some (.int x15), some (.int (nI l)), o17, o18, o19, o20, o21] [] (w_sh L ps (w_lo (n + 1))) c = mj_EV 102 206 [some (.ref 2), some (.int x1), some (.ref 52), some (.ref 53), some (.ref 54), some (.ref 55), some (.int x6), some (.int x7), some (.int x8), some (.int x9), some (.ref (57 + n)), some (.int (nI p)), some (.ref (53 + p)), some (.int x13), some (.int x14), some (.int x15), some (.int (nI (l + 1))), a, b, d, e, f] [] (w_sh L ps (w_lo (n + 1))) c' ∧ (∀ b, b ≠ 57 + n → c' b = c b) ∧ ∀ x, x < 5 → c' (57 + n) x = if s_F g p l = nI x then c (57 + n) x + nI 1 else c (57 + n) x := by
  obtain ⟨f, hf, ef⟩ := s_fm_cases (s_wd g p l)
  have ef : s_F g p l = nI f := ef
  have hok := s_S_ok hK.1
  have hP := hK.2.2.2.1
  have ek := hK.2.1
  have hwd := s_ok_wd (P := p) (l := l) (by omega) hl hok
  have hw : s_okw (c (53 + p)) := s_LP_ok hP hok hp
  have efm : s_PF (c (53 + p)) l = nI f := (s_LP_F hP hp hl).trans ef
  have hb : ∀ b, b ≠ 57 + n → mj_u c (57 + n) f (c (57 + n) f + nI 1) b = c b := fun b h => mj_u_ne _ _ _ _ h
  have hK2 : s_K (mj_u c (57 + n) f (c (57 + n) f + nI 1)) g := s_K_mono hK (fun b h => hb b (by omega))
  have hS := hK2.1
  have h1 := hK2.2.1
  obtain ⟨o, ew⟩ := t_words (L := L) (n := n) (ps := ps) (x1 := x1) (x6 := x6) (x7 := x7) (x8 := x8) (x9 := x9) (x13 := x13) (x14 := x14) (x15 := x15) (x17 := nI f) hp hl hK2 hg 8 0 o21 (by omega)
  have e8 : p_fe (s_wd g p l) 8 = s_mn (s_wd g p l) 7 := p_fe_mn hwd 7 (by omega)
  have e9 : p_ma (s_wd g p l) 8 = s_mx (s_wd g p l) 7 := p_ma_mx hwd 7 (by omega)
  rw [e8, e9] at ew
  refine ⟨mj_u c (57 + n) f (c (57 + n) f + nI 1), some (.int (nI f)), some (.int (s_mn (s_wd g p l) 7)), some (.int (s_mx (s_wd g p l) 7)), some (.int (nI 8)), o, ?_, hb, fun x hx => ?_⟩
  · rw [e102_206 (w_5p hp), if_neg (nI_ge (by omega) (by omega)), l_form (w_5p hp) (by omega) hw hl, efm, mj_then_i, e102_220 (w_5p hp), mj_in_nI (by omega), if_pos (decide_eq_true (by omega)), if_pos (decide_eq_true (by omega)), nI_clamp (by omega)]
    refine ew.trans ?_
    rw [e102_241 (w_5p hp), if_pos (Int32.le_refl _), k_line (k := 0) (by omega) hl (by omega) hS h1 hg, mj_then_i, show s_lv g p l 0 = s_F g p l from rfl, ef, e102_325 (w_5p hp), if_pos rfl, k_line (k := 1) (by omega) hl (by omega) hS h1 hg, mj_then_i, show s_lv g p l 1 = s_sz (s_F g p l) from rfl, ef, s_sz_nI hf, e102_339 (w_5p hp), l_size hf, mj_then_i, e102_344 (w_5p hp), if_pos rfl, k_line (k := 2) (by omega) hl (by omega) hS h1 hg, mj_then_i, show s_lv g p l 2 = if g (7 + 2 * p) < s_sz (s_F g p l) then nI 1 else nI 0 from rfl, ef, s_sz_nI hf, e102_356 (w_5p hp), l_size hf, mj_then_i, e102_361 (w_5p hp), h13]
    have tail : mj_then 102 383 [some (.ref 2), some (.int x1), some (.ref 52), some (.ref 53), some (.ref 54), some (.ref 55), some (.int x6), some (.int x7), some (.int x8), some (.int x9), some (.ref (57 + n)), some (.int (nI p)), some (.ref (53 + p)), some (.int (g (7 + 2 * p))), some (.int x14), some (.int x15), some (.int (nI l)), some (.int (nI f)), some (.int (s_mn (s_wd g p l) 7)), some (.int (s_mx (s_wd g p l) 7)), some (.int (nI 8)), o] [] (mj_EV 63 0 [some (.ref 2), some (.int (nI p)), some (.int (nI l)), some (.int (nI 3))] [] (w_sh L ps (w_lo (n + 1))) (mj_u c (57 + n) f (c (57 + n) f + nI 1))) = mj_EV 102 206 [some (.ref 2), some (.int x1), some (.ref 52), some (.ref 53), some (.ref 54), some (.ref 55), some (.int x6), some (.int x7), some (.int x8), some (.int x9), some (.ref (57 + n)), some (.int (nI p)), some (.ref (53 + p)), some (.int (g (7 + 2 * p))), some (.int x14), some (.int x15), some (.int (nI (l + 1))), some (.int (nI f)), some (.int (s_mn (s_wd g p l) 7)), some (.int (s_mx (s_wd g p l) 7)), some (.int (nI 8)), o] [] (w_sh L ps (w_lo (n + 1))) (mj_u c (57 + n) f (c (57 + n) f + nI 1)) := by
      rw [k_line (k := 3) (by omega) hl (by omega) hS h1 hg, mj_then_i, show s_lv g p l 3 = s_mn (s_wd g p l) 7 from rfl, e102_383 (w_5p hp), if_pos rfl, k_line (k := 4) (by omega) hl (by omega) hS h1 hg, mj_then_i, show s_lv g p l 4 = s_mx (s_wd g p l) 7 from rfl, e102_397 (w_5p hp), if_pos rfl, nI_add]
    by_cases q : w_fs f ≤ g (7 + 2 * p)
    · rw [if_pos q, if_neg (Int32.not_lt.mpr q), if_pos rfl]
      exact tail
    · rw [if_neg q, if_pos (Int32.not_le.mp q), if_pos rfl]
      exact tail
  · rw [mj_u_self, ef]
    by_cases q : f = x
    · subst q
      rw [if_pos rfl, s_upd_eq]
    · rw [if_neg (n_ne q (by omega) (by omega)), s_upd_ne (fun z => q z.symm)]
theorem t_lines {p : Nat} (hp : p < 3) (hg : g (6 + 2 * p) = nI 1) (h13 : x13 = g (7 + 2 * p)) : ∀ (j l : Nat) (c : mj_C) (o17 o18 o19 o20 o21 : Option Value), l + j = 8 → s_K c g → (∀ x, x < 5 → c (57 + n) x = s_l1 (s_F g p) (nI x) (s_ln g (nI x) p) l) → ∃ c' a b d e f, mj_EV 102 206 [some (.ref 2), some (.int x1), some (.ref 52), some (.ref 53), some (.ref 54), some (.ref 55), some (.int x6), some (.int x7), some (.int x8), some (.int x9), some (.ref (57 + n)), some (.int (nI p)), some (.ref (53 + p)), some (.int x13), some (.int x14), some (.int x15), some (.int (nI l)), o17, o18, o19, o20, o21] [] (w_sh L ps (w_lo (n + 1))) c = mj_EV 102 21 [some (.ref 2), some (.int x1), some (.ref 52), some (.ref 53), some (.ref 54), some (.ref 55), some (.int x6), some (.int x7), some (.int x8), some (.int x9), some (.ref (57 + n)), some (.int (nI (p + 1))), some (.ref (53 + p)), some (.int x13), some (.int x14), some (.int x15), some (.int (nI 8)), a, b, d, e, f] [] (w_sh L ps (w_lo (n + 1))) c' ∧ (∀ b, b ≠ 57 + n → c' b = c b) ∧ ∀ x, x < 5 → c' (57 + n) x = s_ln g (nI x) (p + 1) := by
  intro j
  induction j with
  | zero =>
    intro l c o17 o18 o19 o20 o21 hl hK hF
    have hl : l = 8 := hl
    subst hl
    refine ⟨c, o17, o18, o19, o20, o21, ?_, fun _ _ => rfl, fun x hx => ?_⟩
    · rw [e102_206 (w_5p hp), if_pos (Int32.le_refl _), nI_add]
    · rw [hF x hx]
      exact (if_pos hg).symm
  | succ j ih =>
    intro l c o17 o18 o19 o20 o21 hl hK hF
    obtain ⟨c', a, b, d, e, f, h1, h2, h3⟩ := t_line (L := L) (n := n) (ps := ps) (x1 := x1) (x6 := x6) (x7 := x7) (x8 := x8) (x9 := x9) (x13 := x13) (x14 := x14) (x15 := x15) (o17 := o17) (o18 := o18) (o19 := o19) (o20 := o20) (o21 := o21) hp (by omega : l < 8) hK hg h13
    obtain ⟨c2, a2, b2, d2, e2, f2, h4, h5, h6⟩ := ih (l + 1) c' a b d e f (by omega) (s_K_mono hK (fun b h => h2 b (by omega))) (fun x hx => by
      rw [h3 x hx, hF x hx]
      rfl)
    exact ⟨c2, a2, b2, d2, e2, f2, h1.trans h4, fun b h => (h5 b h).trans (h2 b h), h6⟩
theorem t_page {p : Nat} (hp : p < 3) (hK : s_K c g) (hF : ∀ x, x < 5 → c (57 + n) x = s_ln g (nI x) p) : ∃ c' a0 a1 a2 a3 a4 a5 a6 a7 a8 a9, mj_EV 102 21 [some (.ref 2), some (.int x1), some (.ref 52), some (.ref 53), some (.ref 54), some (.ref 55), some (.int (s_pm g p)), some (.int (s_bx g p)), some (.int (s_lo g p)), some (.int (s_lg g p)), some (.ref (57 + n)), some (.int (nI p)), o12, o13, o14, o15, o16, o17, o18, o19, o20, o21] [] (w_sh L ps (w_lo (n + 1))) c = mj_EV 102 21 [some (.ref 2), some (.int x1), some (.ref 52), some (.ref 53), some (.ref 54), some (.ref 55), some (.int (s_pm g (p + 1))), some (.int (s_bx g (p + 1))), some (.int (s_lo g (p + 1))), some (.int (s_lg g (p + 1))), some (.ref (57 + n)), some (.int (nI (p + 1))), a0, a1, a2, a3, a4, a5, a6, a7, a8, a9] [] (w_sh L ps (w_lo (n + 1))) c' ∧ (∀ b, b ≠ 57 + n → c' b = c b) ∧ ∀ x, x < 5 → c' (57 + n) x = s_ln g (nI x) (p + 1) := by
  have hok := s_S_ok hK.1
  have hS := hK.1
  have hfs := hK.2.1
  have hP := hK.2.2.2.1
  have hN := hK.2.2.1
  have hw : s_okw (c (53 + p)) := s_LP_ok hP hok hp
  have z0 : mj_in (nI 0) 17 = true := by decide
  have z1 : (nI 0).toNatClampNeg = 0 := by decide
  obtain ⟨r, hr, er⟩ := hS.2.1
  rcases hP.1 p hp with ⟨hg, hs, s, hs8, es⟩ | ⟨hg, hs⟩
  · have hpv0 : s_pv g p 0 = g (7 + 2 * p) := rfl
    have hpv1 : s_pv g p 1 = s_pz (s_F g p) (g (7 + 2 * p)) := rfl
    have hpv2 : s_pv g p 2 = s_mk (s_F g p) (g (7 + 2 * p)) 8 := rfl
    have hpv3 : s_pv g p 3 = s_bs (s_F g p) (g 0) := rfl
    have hpv4 : s_pv g p 4 = s_pz (s_F g p) (s_bs (s_F g p) (g 0)) := rfl
    have hns : nI 0 ≤ g (7 + 2 * p) := by rw [es]; exact nI_le (by omega) (by omega)
    have hW : c (53 + p) = s_W3 c p := rfl
    have ebs : ∀ y, s_bs (s_PF (c (53 + p))) y = s_bs (s_F g p) y := fun y => s_LP_bs hP hp
    have epz : ∀ y, s_pz (s_PF (c (53 + p))) y = s_pz (s_F g p) y := fun y => s_LP_pz hP hp
    have emk : ∀ y, s_mk (s_PF (c (53 + p))) y 8 = s_mk (s_F g p) y 8 := fun y => s_LP_mk hP hp
    have e1 : mj_EV 102 21 [some (.ref 2), some (.int x1), some (.ref 52), some (.ref 53), some (.ref 54), some (.ref 55), some (.int (s_pm g p)), some (.int (s_bx g p)), some (.int (s_lo g p)), some (.int (s_lg g p)), some (.ref (57 + n)), some (.int (nI p)), o12, o13, o14, o15, o16, o17, o18, o19, o20, o21] [] (w_sh L ps (w_lo (n + 1))) c = mj_EV 102 108 [some (.ref 2), some (.int x1), some (.ref 52), some (.ref 53), some (.ref 54), some (.ref 55), some (.int (s_pm g p + nI 1)), some (.int (s_bx g p)), some (.int (s_lo g p)), some (.int (s_lg g p)), some (.ref (57 + n)), some (.int (nI p)), some (.ref (53 + p)), some (.int (g (7 + 2 * p))), some (.int (s_bs (s_F g p) (g 0))), some (.int (s_gp g p)), o16, o17, o18, o19, o20, o21] [.int (s_ct (s_F g p) (g (7 + 2 * p)) 8), .int (s_bx g p)] (w_sh L ps (w_lo (n + 1))) c := by
      rw [e102_21, if_neg (nI_ge (by omega) (by omega)), l_row hp, mj_then_r, e102_37 (w_5p hp), nI_add, mj_in_nI (by omega), if_pos (decide_eq_true (by omega)), nI_clamp (by omega), hs, if_pos hns, z1, if_pos z0, hN.1, er, l_best (w_5p hp) (by omega) hw (by omega), ebs, mj_then_i, e102_74 (w_5p hp), l_units (w_5p hp) (by omega) hw, epz, mj_then_i, e102_83 (w_5p hp), l_units (w_5p hp) (by omega) hw, epz, mj_then_i, e102_90 (w_5p hp), l_beside (w_5p hp) (by omega) hw, emk, mj_then_i, e102_105 (w_5p hp), l_ones, mj_then_i, ← er]
      rfl
    have e2 : ∀ x6 x7 x8 x9 : Int32, mj_then 102 133 [some (.ref 2), some (.int x1), some (.ref 52), some (.ref 53), some (.ref 54), some (.ref 55), some (.int x6), some (.int x7), some (.int x8), some (.int x9), some (.ref (57 + n)), some (.int (nI p)), some (.ref (53 + p)), some (.int (g (7 + 2 * p))), some (.int (s_bs (s_F g p) (g 0))), some (.int (s_gp g p)), o16, o17, o18, o19, o20, o21] [] (mj_EV 62 0 [some (.ref 2), some (.int (nI p)), some (.int (nI 0))] [] (w_sh L ps (w_lo (n + 1))) c) = mj_EV 102 206 [some (.ref 2), some (.int x1), some (.ref 52), some (.ref 53), some (.ref 54), some (.ref 55), some (.int x6), some (.int x7), some (.int x8), some (.int x9), some (.ref (57 + n)), some (.int (nI p)), some (.ref (53 + p)), some (.int (g (7 + 2 * p))), some (.int (s_bs (s_F g p) (g 0))), some (.int (s_gp g p)), some (.int (nI 0)), o17, o18, o19, o20, o21] [] (w_sh L ps (w_lo (n + 1))) c := by
      intro x6 x7 x8 x9
      rw [k_page (k := 0) (by omega) (by omega) hS hfs hg, mj_then_i, hpv0, e102_133 (w_5p hp), if_pos rfl, k_page (k := 1) (by omega) (by omega) hS hfs hg, mj_then_i, hpv1, e102_145 (w_5p hp), l_units (w_5p hp) (by omega) hw, epz, mj_then_i, e102_152 (w_5p hp), if_pos rfl, k_page (k := 2) (by omega) (by omega) hS hfs hg, mj_then_i, hpv2, e102_162 (w_5p hp), l_beside (w_5p hp) (by omega) hw, emk, mj_then_i, e102_169 (w_5p hp), if_pos rfl, k_page (k := 3) (by omega) (by omega) hS hfs hg, mj_then_i, hpv3, e102_179 (w_5p hp), if_pos rfl, k_page (k := 4) (by omega) (by omega) hS hfs hg, mj_then_i, hpv4, e102_191 (w_5p hp), l_units (w_5p hp) (by omega) hw, epz, mj_then_i, e102_198 (w_5p hp), if_pos rfl]
    have h7 : s_bx g p + s_ct (s_F g p) (g (7 + 2 * p)) 8 = s_bx g (p + 1) := (if_pos hg).symm
    have h6 : s_pm g p + nI 1 = s_pm g (p + 1) := (if_pos hg).symm
    have h8 : s_lo g (p + 1) = if s_gp g p ≤ s_lg g p then s_lo g p else nI p := if_pos hg
    have h9 : s_lg g (p + 1) = if s_gp g p ≤ s_lg g p then s_lg g p else s_gp g p := if_pos hg
    have fin : ∀ x6 x7 x8 x9 : Int32, ∃ c' a0 a1 a2 a3 a4 a5 a6 a7 a8 a9, mj_then 102 133 [some (.ref 2), some (.int x1), some (.ref 52), some (.ref 53), some (.ref 54), some (.ref 55), some (.int x6), some (.int x7), some (.int x8), some (.int x9), some (.ref (57 + n)), some (.int (nI p)), some (.ref (53 + p)), some (.int (g (7 + 2 * p))), some (.int (s_bs (s_F g p) (g 0))), some (.int (s_gp g p)), o16, o17, o18, o19, o20, o21] [] (mj_EV 62 0 [some (.ref 2), some (.int (nI p)), some (.int (nI 0))] [] (w_sh L ps (w_lo (n + 1))) c) = mj_EV 102 21 [some (.ref 2), some (.int x1), some (.ref 52), some (.ref 53), some (.ref 54), some (.ref 55), some (.int x6), some (.int x7), some (.int x8), some (.int x9), some (.ref (57 + n)), some (.int (nI (p + 1))), a0, a1, a2, a3, a4, a5, a6, a7, a8, a9] [] (w_sh L ps (w_lo (n + 1))) c' ∧ (∀ b, b ≠ 57 + n → c' b = c b) ∧ ∀ x, x < 5 → c' (57 + n) x = s_ln g (nI x) (p + 1) := by
      intro x6 x7 x8 x9
      obtain ⟨c', a, b, d, e, f, k1, k2, k3⟩ := t_lines (L := L) (n := n) (ps := ps) (g := g) (x1 := x1) (x6 := x6) (x7 := x7) (x8 := x8) (x9 := x9) (x13 := g (7 + 2 * p)) (x14 := s_bs (s_F g p) (g 0)) (x15 := s_gp g p) hp hg rfl 8 0 c o17 o18 o19 o20 o21 (by omega) hK (fun x hx => hF x hx)
      exact ⟨c', _, _, _, _, _, _, _, _, _, _, (e2 x6 x7 x8 x9).trans k1, k2, k3⟩
    rw [e1, e102_108 (w_5p hp), h6, h7, h8, h9]
    by_cases q : s_gp g p ≤ s_lg g p
    · rw [if_pos q, if_pos q, if_pos q]
      exact fin _ _ _ _
    · rw [if_neg q, if_neg q, if_neg q]
      exact fin _ _ _ _
  · have hn : ¬ s_pg g (nI p) := fun ⟨P, hP2, e1, e2⟩ => by
      rw [nI_eq (by omega) (by omega)] at e1
      subst e1
      rw [hg] at e2
      exact s_n1 e2
    have hne : ¬ g (6 + 2 * p) = nI 1 := by rw [hg]; exact s_n1
    have e6 : s_pm g (p + 1) = s_pm g p := if_neg hne
    have e7 : s_bx g (p + 1) = s_bx g p := if_neg hne
    have e8 : s_lo g (p + 1) = s_lo g p := if_neg hne
    have e9 : s_lg g (p + 1) = s_lg g p := if_neg hne
    have e10 : ∀ x, s_ln g (nI x) (p + 1) = s_ln g (nI x) p := fun x => if_neg hne
    refine ⟨c, some (.ref (53 + p)), some (.int (-1)), o14, o15, o16, o17, o18, o19, o20, o21, ?_, fun _ _ => rfl, fun x hx => by rw [e10]; exact hF x hx⟩
    rw [e6, e7, e8, e9, e102_21, if_neg (nI_ge (by omega) (by omega)), l_row hp, mj_then_r, e102_37 (w_5p hp), nI_add, mj_in_nI (by omega), if_pos (decide_eq_true (by omega)), nI_clamp (by omega), hs, if_neg s_m1, k_page_n hS hn, mj_then_i, e102_60 (w_5p hp), if_pos rfl, nI_add]
end SA
