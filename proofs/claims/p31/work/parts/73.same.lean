/-! THE LAW'S same: it finds everything as it is due -/
section SB
variable {L n : Nat} {ps : List (Option (Option Nat))} {c : mj_C} {g : Nat → Int32} {x1 x6 x7 x8 x9 x11 : Int32} {o12 o13 o14 o15 o16 o17 o18 o19 o20 o21 : Option Value}
theorem t_pages : ∀ (j p : Nat) (c : mj_C) (o12 o13 o14 o15 o16 o17 o18 o19 o20 o21 : Option Value), p + j = 3 → s_K c g → (∀ x, x < 5 → c (57 + n) x = s_ln g (nI x) p) → ∃ c' a0 a1 a2 a3 a4 a5 a6 a7 a8 a9, mj_EV 102 21 [some (.ref 2), some (.int x1), some (.ref 52), some (.ref 53), some (.ref 54), some (.ref 55), some (.int (s_pm g p)), some (.int (s_bx g p)), some (.int (s_lo g p)), some (.int (s_lg g p)), some (.ref (57 + n)), some (.int (nI p)), o12, o13, o14, o15, o16, o17, o18, o19, o20, o21] [] (w_sh L ps (w_lo (n + 1))) c = mj_EV 102 419 [some (.ref 2), some (.int x1), some (.ref 52), some (.ref 53), some (.ref 54), some (.ref 55), some (.int (s_pm g 3)), some (.int (s_bx g 3)), some (.int (s_lo g 3)), some (.int (s_lg g 3)), some (.ref (57 + n)), some (.int (nI 0)), a0, a1, a2, a3, a4, a5, a6, a7, a8, a9] [] (w_sh L ps (w_lo (n + 1))) c' ∧ (∀ b, b ≠ 57 + n → c' b = c b) ∧ ∀ x, x < 5 → c' (57 + n) x = s_ln g (nI x) 3 := by
  intro j
  induction j with
  | zero =>
    intro p c o12 o13 o14 o15 o16 o17 o18 o19 o20 o21 hp hK hF
    have hp : p = 3 := hp
    subst hp
    refine ⟨c, o12, o13, o14, o15, o16, o17, o18, o19, o20, o21, ?_, fun _ _ => rfl, hF⟩
    rw [e102_21, if_pos (Int32.le_refl _)]
  | succ j ih =>
    intro p c o12 o13 o14 o15 o16 o17 o18 o19 o20 o21 hp hK hF
    obtain ⟨c', a0, a1, a2, a3, a4, a5, a6, a7, a8, a9, h1, h2, h3⟩ := t_page (L := L) (n := n) (ps := ps) (x1 := x1) (o12 := o12) (o13 := o13) (o14 := o14) (o15 := o15) (o16 := o16) (o17 := o17) (o18 := o18) (o19 := o19) (o20 := o20) (o21 := o21) (by omega : p < 3) hK hF
    obtain ⟨c2, b0, b1, b2, b3, b4, b5, b6, b7, b8, b9, h4, h5, h6⟩ := ih (p + 1) c' a0 a1 a2 a3 a4 a5 a6 a7 a8 a9 (by omega) (s_K_mono hK (fun b h => h2 b (by omega))) h3
    exact ⟨c2, b0, b1, b2, b3, b4, b5, b6, b7, b8, b9, h1.trans h4, fun b h => (h5 b h).trans (h2 b h), h6⟩
theorem t_no {p : Nat} (hK : s_K c g) (h3 : 3 ≤ p) (hp : p < 10) : ¬ g (6 + 2 * p) = nI 1 := s_no3 hK.2.2.2.1.2.1 h3 hp
theorem t_ln (hK : s_K c g) (x : Int32) : s_ln g x 10 = s_ln g x 3 := s_ten (f := s_ln g x) (fun _ h3 hp => if_neg (t_no hK h3 hp))
theorem t_pm (hK : s_K c g) : s_pm g 10 = s_pm g 3 := s_ten (f := s_pm g) (fun _ h3 hp => if_neg (t_no hK h3 hp))
theorem t_bx (hK : s_K c g) : s_bx g 10 = s_bx g 3 := s_ten (f := s_bx g) (fun _ h3 hp => if_neg (t_no hK h3 hp))
theorem t_lo (hK : s_K c g) : s_lo g 10 = s_lo g 3 := s_ten (f := s_lo g) (fun _ h3 hp => if_neg (t_no hK h3 hp))
theorem t_sa (hK : s_K c g) (r : Int32) : s_sa g r 10 = s_sa g r 3 := s_ten (f := s_sa g r) (fun _ h3 hp => if_neg (t_no hK h3 hp))
theorem t_forms (hK : s_K c g) (hF : ∀ x, x < 5 → c (57 + n) x = s_ln g (nI x) 3) : ∀ j k, k + j = 5 → mj_EV 102 419 [some (.ref 2), some (.int x1), some (.ref 52), some (.ref 53), some (.ref 54), some (.ref 55), some (.int x6), some (.int x7), some (.int x8), some (.int x9), some (.ref (57 + n)), some (.int (nI k)), o12, o13, o14, o15, o16, o17, o18, o19, o20, o21] [] (w_sh L ps (w_lo (n + 1))) c = mj_EV 102 450 [some (.ref 2), some (.int x1), some (.ref 52), some (.ref 53), some (.ref 54), some (.ref 55), some (.int x6), some (.int x7), some (.int x8), some (.int x9), some (.ref (57 + n)), some (.int (nI 0)), o12, o13, o14, o15, o16, o17, o18, o19, o20, o21] [] (w_sh L ps (w_lo (n + 1))) c := by
  intro j
  induction j with
  | zero =>
    intro k hk
    have hk : k = 5 := hk
    subst hk
    rw [e102_419, if_pos (Int32.le_refl _)]
  | succ j ih =>
    intro k hk
    have h2 := ih (k + 1) (by omega)
    rw [e102_419, if_neg (nI_ge (by omega) (by omega)), k_lines (by omega) hK.1, mj_then_i, e102_431, mj_in_nI (by omega), if_pos (decide_eq_true (by omega)), nI_clamp (by omega), hF k (by omega), if_pos (t_ln hK _), nI_add]
    exact h2
theorem t_hq (hK : s_K c g) {k : Nat} (hk : k < 4) : c 52 (9 + k) = g (26 + 2 * k) ∧ (g (26 + 2 * k) = (-6) ∨ (g (26 + 2 * k) = nI k ∧ c 52 (13 + k) = g (27 + 2 * k))) := by
  obtain ⟨h1, h2, h3⟩ := hK.2.2.2.2
  by_cases q : k < 3
  · exact h1 k q
  · have : k = 3 := by omega
    subst this
    exact ⟨h2.trans h3.symm, Or.inl h3⟩
theorem t_n6 {k : Nat} (hk : k < 4) : ¬ (nI k = (-6)) := by
  match k, hk with
  | 0, _ => decide
  | 1, _ => decide
  | 2, _ => decide
  | 3, _ => decide
  | k + 4, h => omega
theorem t_hints (hK : s_K c g) : ∀ j k, k + j = 4 → mj_EV 102 450 [some (.ref 2), some (.int x1), some (.ref 52), some (.ref 53), some (.ref 54), some (.ref 55), some (.int x6), some (.int x7), some (.int x8), some (.int x9), some (.ref (57 + n)), some (.int (nI k)), o12, o13, o14, o15, o16, o17, o18, o19, o20, o21] [] (w_sh L ps (w_lo (n + 1))) c = mj_then 102 522 [some (.ref 2), some (.int x1), some (.ref 52), some (.ref 53), some (.ref 54), some (.ref 55), some (.int x6), some (.int x7), some (.int x8), some (.int x9), some (.ref (57 + n)), some (.int (nI 4)), o12, o13, o14, o15, o16, o17, o18, o19, o20, o21] [] (mj_EV 101 0 [some (.ref 52), some (.ref 53), some (.ref 54), some (.ref 55), none, none] [] (w_sh L ps (w_lo (n + 1))) c) := by
  intro j
  induction j with
  | zero =>
    intro k hk
    have hk : k = 4 := hk
    subst hk
    rw [e102_450, if_pos (Int32.le_refl _)]
  | succ j ih =>
    intro k hk
    have h2 := ih (k + 1) (by omega)
    obtain ⟨hq, hv⟩ := t_hq hK (by omega : k < 4)
    rw [e102_450, if_neg (nI_ge (by omega) (by omega)), k_hint (k := 0) (by omega) (by omega) hK.1, mj_then_i, e102_463, nI_add, mj_in_nI (by omega), if_pos (decide_eq_true (by omega)), nI_clamp (by omega), hq]
    rcases hv with h6 | ⟨hk6, hs⟩
    · have v0 : s_hv g k 0 = (-6) := if_pos h6
      have v1 : s_hv g k 1 = (-6) := if_pos h6
      rw [v0, h6, if_pos rfl, k_hint (k := 1) (by omega) (by omega) hK.1, mj_then_i, v1, e102_480, nI_add, mj_in_nI (by omega), if_pos (decide_eq_true (by omega)), nI_clamp (by omega), hq, h6, if_neg (by decide), if_pos rfl, nI_add]
      exact h2
    · have n6 : ¬ g (26 + 2 * k) = (-6) := by rw [hk6]; exact t_n6 (by omega)
      have v0 : s_hv g k 0 = nI k := (if_neg n6).trans hk6
      have v1 : s_hv g k 1 = c 52 (13 + k) := by
        refine (if_neg n6).trans ?_
        rw [hs]
        congr 1
        omega
      rw [v0, hk6, if_pos rfl, k_hint (k := 1) (by omega) (by omega) hK.1, mj_then_i, v1, e102_480, nI_add, nI_add, mj_in_nI (by omega), if_pos (decide_eq_true (by omega)), nI_clamp (by omega), hq, hk6, if_pos (nI_le (by omega) (by omega)), mj_in_nI (by omega), if_pos (decide_eq_true (by omega)), nI_clamp (by omega), if_pos rfl, nI_add]
      exact h2
theorem t_then {r : Nat} (hr : r < 9) (hK : s_K c g) : ∀ j p, p + j = 3 → mj_EV 102 538 [some (.ref 2), some (.int x1), some (.ref 52), some (.ref 53), some (.ref 54), some (.ref 55), some (.int x6), some (.int x7), some (.int x8), some (.int x9), some (.ref (57 + n)), some (.int x11), some (.int (nI r)), some (.int (s_sa g (nI r) p)), some (.int (nI p)), o15, o16, o17, o18, o19, o20, o21] [] (w_sh L ps (w_lo (n + 1))) c = mj_then 102 602 [some (.ref 2), some (.int x1), some (.ref 52), some (.ref 53), some (.ref 54), some (.ref 55), some (.int x6), some (.int x7), some (.int x8), some (.int x9), some (.ref (57 + n)), some (.int x11), some (.int (nI r)), some (.int (s_sa g (nI r) 3)), some (.int (nI 3)), o15, o16, o17, o18, o19, o20, o21] [] (mj_EV 60 0 [some (.ref 2), some (.int (nI 0))] [] (w_sh L ps (w_lo (n + 1))) c) := by
  intro j
  induction j with
  | zero =>
    intro p hp
    have hp : p = 3 := hp
    subst hp
    rw [e102_538, if_pos (Int32.le_refl _)]
  | succ j ih =>
    intro p hp
    have h2 := ih (p + 1) (by omega)
    have hP := hK.2.2.2.1
    have hp3 : p < 3 := by omega
    have hw : s_okw (c (53 + p)) := s_LP_ok hP (s_S_ok hK.1) hp3
    have ebs : ∀ y, s_bs (s_PF (c (53 + p))) y = s_bs (s_F g p) y := fun y => s_LP_bs hP hp3
    have epz : ∀ y, s_pz (s_PF (c (53 + p))) y = s_pz (s_F g p) y := fun y => s_LP_pz hP hp3
    rw [e102_538, if_neg (nI_ge (by omega) (by omega)), nI_add, mj_in_nI (by omega), if_pos (decide_eq_true (by omega)), nI_clamp (by omega)]
    rcases hP.1 p hp3 with ⟨hg, hs, s, hs8, es⟩ | ⟨hg, hs⟩
    · have e : s_sa g (nI r) (p + 1) = s_sa g (nI r) p + s_pz (s_F g p) (s_bs (s_F g p) (nI r)) := if_pos hg
      rw [e] at h2
      rw [hs, es, if_pos (nI_le (by omega) (by omega)), l_row hp3, mj_then_r, e102_572 (w_5p hp3), l_best (w_5p hp3) (by omega) hw (by omega), ebs, mj_then_i, e102_575, l_row hp3, mj_then_r, e102_585 (w_5p hp3), l_units (w_5p hp3) (by omega) hw, epz, mj_then_i, e102_588, nI_add]
      exact h2
    · have hne : ¬ g (6 + 2 * p) = nI 1 := by rw [hg]; exact s_n1
      have e : s_sa g (nI r) (p + 1) = s_sa g (nI r) p := if_neg hne
      rw [e] at h2
      rw [hs, if_neg s_m1, e102_588, nI_add, nI_addz]
      exact h2
theorem t_rw (hK : s_K c g) : (g 1 ≤ s_sum g 10 → s_rw g = nI 0) ∧ (¬ g 1 ≤ s_sum g 10 → s_rw g = (g 1 - s_sum g 10) / nI 65) := by
  obtain ⟨b, hb, eb⟩ := hK.1.2.2.1
  obtain ⟨m, hm, em⟩ := s_sum_le hK.1 10 (by omega)
  unfold s_rw
  rw [eb, em]
  have key : (nI b - nI m ≤ nI 0) ↔ b ≤ m := by
    rw [Int32.le_iff_toInt_le, pk_sub_toInt (by omega) (by omega), show (nI 0).toInt = 0 from rfl]
    omega
  constructor
  · intro h
    rw [if_pos (key.mpr ((nI_leI (by omega) (by omega)).mp h))]
  · intro h
    rw [if_neg (fun z => h (nI_le (key.mp z) (by omega)))]
theorem t_last {r : Nat} (hr : r < 9) (hK : s_K c g) : mj_then 102 602 [some (.ref 2), some (.int x1), some (.ref 52), some (.ref 53), some (.ref 54), some (.ref 55), some (.int (s_pm g 3)), some (.int (s_bx g 3)), some (.int (s_lo g 3)), some (.int x9), some (.ref (57 + n)), some (.int (s_sum g 10)), some (.int (nI r)), some (.int (s_sa g (nI r) 3)), some (.int (nI 3)), o15, o16, o17, o18, o19, o20, o21] [] (mj_EV 60 0 [some (.ref 2), some (.int (nI 0))] [] (w_sh L ps (w_lo (n + 1))) c) = some (some (.int (nI 1)), w_sh L ps (w_lo (n + 1)), c) := by
  have hS := hK.1
  have hfs := hK.2.1
  obtain ⟨q0, q1, q2, q3, q4, q5⟩ := hK.2.2.1
  have z0 : mj_in (nI 0) 17 = true := by decide
  have z1 : mj_in (nI 1) 17 = true := by decide
  have z2 : mj_in (nI 2) 17 = true := by decide
  have z3 : mj_in (nI 3) 17 = true := by decide
  have z4 : mj_in (nI 4) 17 = true := by decide
  have z5 : mj_in (nI 5) 17 = true := by decide
  have y0 : (nI 0).toNatClampNeg = 0 := by decide
  have y1 : (nI 1).toNatClampNeg = 1 := by decide
  have y2 : (nI 2).toNatClampNeg = 2 := by decide
  have y3 : (nI 3).toNatClampNeg = 3 := by decide
  have y4 : (nI 4).toNatClampNeg = 4 := by decide
  have y5 : (nI 5).toNatClampNeg = 5 := by decide
  have c0 : s_cv g 0 = s_pm g 3 := t_pm hK
  have c4 : s_cv g 4 = s_bx g 3 := t_bx hK
  rw [k_count (k := 0) (by omega) hS hfs, mj_then_i, c0, e102_602, if_pos rfl, k_count (k := 1) (by omega) hS hfs, mj_then_i, show s_cv g 1 = s_sum g 10 from rfl, e102_612, if_pos rfl, k_count (k := 2) (by omega) hS hfs, mj_then_i, show s_cv g 2 = g 1 from rfl, e102_622, y1, if_pos z1, q1, if_pos rfl, k_count (k := 3) (by omega) hS hfs, mj_then_i, show s_cv g 3 = g 0 from rfl, e102_633, y0, if_pos z0, q0, if_pos rfl, k_count (k := 4) (by omega) hS hfs, mj_then_i, c4, e102_644, if_pos rfl]
  rw [k_count (k := 5) (by omega) hS hfs, mj_then_i, show s_cv g 5 = g 2 from rfl, e102_654, y2, if_pos z2, q2, if_pos rfl, k_count (k := 6) (by omega) hS hfs, mj_then_i, show s_cv g 6 = g 3 from rfl, e102_666, y3, if_pos z3, q3, if_pos rfl, k_count (k := 7) (by omega) hS hfs, mj_then_i, show s_cv g 7 = g 4 from rfl, e102_678, y4, if_pos z4, q4, if_pos rfl, k_count (k := 8) (by omega) hS hfs, mj_then_i, show s_cv g 8 = g 5 from rfl, e102_690, y5, if_pos z5, q5, if_pos rfl]
  rw [k_loosest hS hfs, mj_then_i, t_lo hK, e102_700, if_pos rfl, k_rawLeft hS hfs, mj_then_i, e102_709, y1, if_pos z1, q1]
  by_cases q : g 1 ≤ s_sum g 10
  · rw [if_pos q, if_pos ((t_rw hK).1 q), k_ifRoom hr hS hfs, mj_then_i, t_sa hK, e102_739, if_pos rfl]
  · rw [if_neg q, if_pos z1, if_pos (by decide), if_pos ((t_rw hK).2 q), k_ifRoom hr hS hfs, mj_then_i, t_sa hK, e102_739, if_pos rfl]
theorem t_same (hK : s_K c g) : ∃ c', mj_EV 102 0 [some (.ref 2), some (.int x1), some (.ref 52), some (.ref 53), some (.ref 54), some (.ref 55), none, none, none, none, none, none, none, none, none, none, none, none, none, none, none, none] [] (w_sh L ps (w_lo n)) c = some (some (.int (nI 1)), w_sh L ps (w_lo (n + 1)), c') ∧ ∀ b, b ≠ 57 + n → c' b = c b := by
  have hb0 : ∀ b, b ≠ 57 + n → mj_z c (57 + n) b = c b := fun b h => c_z h
  have hK0 : s_K (mj_z c (57 + n)) g := s_K_mono hK (fun b h => hb0 b (by omega))
  obtain ⟨c', a0, a1, a2, a3, a4, a5, a6, a7, a8, a9, h1, h2, h3⟩ := t_pages (L := L) (n := n) (ps := ps) (g := g) (x1 := x1) 3 0 (mj_z c (57 + n)) none none none none none none none none none none (by omega) hK0 (fun x _ => c_z0)
  have hK1 : s_K c' g := s_K_mono hK0 (fun b h => h2 b (by omega))
  have hok := s_S_ok hK1.1
  have hsum : ∀ p, p < 3 → s_okw (c' (53 + p)) := fun p hp => s_LP_ok (W := s_W3 c') hK1.2.2.2.1 hok hp
  refine ⟨c', ?_, fun b h => (h2 b h).trans (hb0 b h)⟩
  rw [e102_0]
  refine h1.trans ?_
  rw [t_forms hK1 h3 5 0 (by omega), t_hints hK1 4 0 (by omega), l_sumQ hsum, mj_then_i, s_LP_sum hK1.2.2.2.1, e102_522, l_low (by omega) (by omega), mj_then_i, e102_530]
  have h4 := t_then (L := L) (n := n) (ps := ps) (x1 := x1) (x6 := s_pm g 3) (x7 := s_bx g 3) (x8 := s_lo g 3) (x9 := s_lg g 3) (x11 := s_sum g 10) (o15 := a3) (o16 := a4) (o17 := a5) (o18 := a6) (o19 := a7) (o20 := a8) (o21 := a9) (p_low_lt (x := x1) (by omega : 0 < 9)) hK1 3 0 (by omega)
  exact h4.trans (t_last (p_low_lt (by omega)) hK1)
end SB
