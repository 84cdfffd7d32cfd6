/-! SUMS OF SIZES -/
theorem s_mn_congr {f f' : Nat → Int32} : ∀ n, (∀ w, w ≤ n → f w = f' w) → s_mn f n = s_mn f' n := by
  intro n
  induction n with
  | zero => intro h; exact h 0 (by omega)
  | succ n ih =>
    intro h
    show (if f (n + 1) < s_mn f n then f (n + 1) else s_mn f n) = (if f' (n + 1) < s_mn f' n then f' (n + 1) else s_mn f' n)
    rw [h (n + 1) (by omega), ih (fun w hw => h w (by omega))]
theorem s_mx_congr {f f' : Nat → Int32} : ∀ n, (∀ w, w ≤ n → f w = f' w) → s_mx f n = s_mx f' n := by
  intro n
  induction n with
  | zero => intro h; exact h 0 (by omega)
  | succ n ih =>
    intro h
    show (if s_mx f n < f (n + 1) then f (n + 1) else s_mx f n) = (if s_mx f' n < f' (n + 1) then f' (n + 1) else s_mx f' n)
    rw [h (n + 1) (by omega), ih (fun w hw => h w (by omega))]
theorem s_fm_congr {f f' : Nat → Int32} (h : ∀ w, w < 8 → f w = f' w) : s_fm f = s_fm f' := by
  unfold s_fm
  rw [s_mn_congr 7 (fun w hw => h w (by omega)), s_mx_congr 7 (fun w hw => h w (by omega))]
theorem s_ct_congr {F F' : Nat → Int32} {s : Int32} : ∀ n, (∀ l, l < n → F l = F' l) → s_ct F s n = s_ct F' s n := by
  intro n
  induction n with
  | zero => intro _; rfl
  | succ n ih =>
    intro h
    show (if s < s_sz (F n) then s_ct F s n + nI 1 else s_ct F s n) = (if s < s_sz (F' n) then s_ct F' s n + nI 1 else s_ct F' s n)
    rw [h n (by omega), ih (fun l hl => h l (by omega))]
theorem s_mk_congr {F F' : Nat → Int32} {s : Int32} : ∀ n, (∀ l, l < n → F l = F' l) → s_mk F s n = s_mk F' s n := by
  intro n
  induction n with
  | zero => intro _; rfl
  | succ n ih =>
    intro h
    show (if s < s_sz (F n) then s_mk F s n ||| (nI 1 <<< (nI n &&& 31)) else s_mk F s n) = (if s < s_sz (F' n) then s_mk F' s n ||| (nI 1 <<< (nI n &&& 31)) else s_mk F' s n)
    rw [h n (by omega), ih (fun l hl => h l (by omega))]
theorem s_pz_congr {F F' : Nat → Int32} {s : Int32} (h : ∀ l, l < 8 → F l = F' l) : s_pz F s = s_pz F' s := by
  unfold s_pz
  rw [s_ct_congr 8 h]
theorem s_bm_congr {F F' : Nat → Int32} {r : Int32} (h : ∀ l, l < 8 → F l = F' l) : ∀ k, s_bm F r k = s_bm F' r k := by
  intro k
  induction k with
  | zero => rfl
  | succ k ih =>
    show (if r < s_ct F (w_fs k) 8 then s_bm F r k else if s_bm F r k = (-6) then w_fs k else if s_pz F (s_bm F r k) ≤ s_pz F (w_fs k) then s_bm F r k else w_fs k) = (if r < s_ct F' (w_fs k) 8 then s_bm F' r k else if s_bm F' r k = (-6) then w_fs k else if s_pz F' (s_bm F' r k) ≤ s_pz F' (w_fs k) then s_bm F' r k else w_fs k)
    rw [s_ct_congr 8 h, ih, s_pz_congr h, s_pz_congr h]
theorem s_bs_congr {F F' : Nat → Int32} {r : Int32} (h : ∀ l, l < 8 → F l = F' l) : s_bs F r = s_bs F' r := s_bm_congr h 5
def s_pp (g : Nat → Int32) (p : Nat) : Int32 := s_pz (s_F g p) (g (7 + 2 * p))
theorem s_sum_pp (g : Nat → Int32) (k : Nat) : s_sum g (k + 1) = if g (6 + 2 * k) = nI 1 then s_sum g k + s_pp g k else s_sum g k := rfl
theorem s_ar (x a b t : Int32) : (x - a) + b + t = ((x + t) - a) + b := by
  rw [Int32.sub_eq_add_neg, Int32.sub_eq_add_neg, Int32.add_assoc (x + -a) b t, Int32.add_comm b t, ← Int32.add_assoc (x + -a) t b, Int32.add_assoc x (-a) t, Int32.add_comm (-a) t, ← Int32.add_assoc x t (-a)]
theorem s_sum_one {g g' : Nat → Int32} {P : Nat} (hg : g (6 + 2 * P) = nI 1) (h6 : ∀ p, p < 10 → g' (6 + 2 * p) = g (6 + 2 * p)) (h7 : ∀ p, p < 10 → p ≠ P → s_pp g' p = s_pp g p) : ∀ n, n ≤ 10 → s_sum g' n = if P < n then (s_sum g n - s_pp g P) + s_pp g' P else s_sum g n := by
  intro n
  induction n with
  | zero => intro _; rfl
  | succ n ih =>
    intro hn
    have i1 := ih (by omega)
    rw [s_sum_pp, s_sum_pp, h6 n (by omega), i1]
    by_cases q : n = P
    · subst q
      rw [if_pos hg, if_pos hg, if_neg (by omega : ¬ n < n), if_pos (by omega : n < n + 1), Int32.add_sub_cancel]
    · rw [h7 n (by omega) q]
      by_cases q2 : P < n
      · rw [if_pos q2, if_pos (by omega : P < n + 1)]
        split
        · exact s_ar _ _ _ _
        · rfl
      · rw [if_neg q2, if_neg (by omega : ¬ P < n + 1)]
theorem s_F_put {g f : Nat → Int32} {P l p k : Nat} (hP : P < 10) (hl : l < 8) (hp : p < 10) (hk : k < 8) : s_F (s_put g P l f 8) p k = if p = P ∧ k = l then s_fm f else s_F g p k := by
  by_cases q : p = P ∧ k = l
  · rw [if_pos q]
    obtain ⟨rfl, rfl⟩ := q
    refine s_fm_congr fun w hw => ?_
    unfold s_wd s_put
    rw [if_pos (by omega)]
    congr 1
    omega
  · rw [if_neg q]
    refine s_fm_congr fun w hw => ?_
    unfold s_wd s_put
    rw [if_neg (by omega)]
def s_F1 (g f : Nat → Int32) (P l : Nat) : Nat → Int32 := upd (s_F g P) l (s_fm f)
theorem s_fo_F1 (g f : Nat → Int32) (P l : Nat) : s_fo (s_F1 g f P l) := by
  intro k hk
  unfold s_F1
  by_cases q : k = l
  · rw [q, s_upd_eq]
    exact s_fm_cases f
  · rw [s_upd_ne q]
    exact s_fm_cases _
theorem s_F1_put {g f : Nat → Int32} {P l k : Nat} (hP : P < 10) (hl : l < 8) (hk : k < 8) : s_F (s_put g P l f 8) P k = s_F1 g f P l k := by
  rw [s_F_put hP hl hP hk]
  unfold s_F1
  by_cases q : k = l
  · rw [if_pos ⟨rfl, q⟩, q, s_upd_eq]
  · rw [if_neg (fun z => q z.2), s_upd_ne q]
/-- the slot of a page when a line gets words -/
def s_sl (g f : Nat → Int32) (P l : Nat) : Int32 := if s_ct (s_F1 g f P l) (g (7 + 2 * P)) 8 ≤ g 0 then g (7 + 2 * P) else s_bs (s_F1 g f P l) (g 0)
theorem s_put_lo {g f : Nat → Int32} {P l n j : Nat} (hj : j < 34) : s_put g P l f n j = g j := by
  unfold s_put
  rw [if_neg (by omega)]
theorem s_putk_slot {g f : Nat → Int32} {P l : Nat} (hP : P < 10) (hl : l < 8) : s_putk g P l f (7 + 2 * P) = s_sl g f P l := by
  unfold s_putk s_keep s_lay s_sl
  rw [s_put_lo (by omega : 7 + 2 * P < 34), s_put_lo (by omega : 0 < 34), s_ct_congr 8 (fun k hk => s_F1_put hP hl hk)]
  split
  · rw [s_put_lo (by omega)]
  · rw [s_upd_ne (by omega), s_upd_eq, s_bs_congr (fun k hk => s_F1_put hP hl hk)]
theorem s_putk_F {g f : Nat → Int32} {P l p : Nat} (hP : P < 10) : s_F (s_putk g P l f) p = s_F (s_put g P l f 8) p := s_F_congrF (s_keep_hi hP)
theorem s_keep_ne {g : Nat → Int32} {p j : Nat} (h5 : j ≠ 5) (h7 : j ≠ 7 + 2 * p) : s_keep g p j = g j := by
  unfold s_keep s_lay
  split
  · rfl
  · rw [s_upd_ne h5, s_upd_ne h7]
theorem s_putk_pp {g f : Nat → Int32} {P l : Nat} (hP : P < 10) (hl : l < 8) : s_pp (s_putk g P l f) P = s_pz (s_F1 g f P l) (s_sl g f P l) := by
  unfold s_pp
  rw [s_putk_F hP, s_putk_slot hP hl, s_pz_congr (fun k hk => s_F1_put hP hl hk)]
theorem s_putk_sum {g f : Nat → Int32} {P l : Nat} (hP : P < 10) (hl : l < 8) (hg : g (6 + 2 * P) = nI 1) : s_sum (s_putk g P l f) 10 = (s_sum g 10 - s_pp g P) + s_pz (s_F1 g f P l) (s_sl g f P l) := by
  rw [s_sum_one hg (fun p hp => ?_) (fun p hp hpP => ?_) 10 (by omega), if_pos hP, s_putk_pp hP hl]
  · unfold s_putk
    rw [s_keep_ne (by omega) (by omega), s_put_lo (by omega)]
  · unfold s_pp
    rw [s_putk_F hP, s_pz_congr (F' := s_F g p) (fun k hk => by rw [s_F_put hP hl hp hk, if_neg (fun z => hpP z.1)])]
    unfold s_putk
    rw [s_keep_ne (by omega) (by omega), s_put_lo (by omega)]
theorem s_putk_form {g f : Nat → Int32} {P l : Nat} (hP : P < 10) (hl : l < 8) : s_F (s_putk g P l f) P l = s_fm f := by
  rw [s_putk_F hP, s_F_put hP hl hP hl, if_pos ⟨rfl, rfl⟩]
/-- the words of a line change -/
theorem s_S_words {c c' : mj_C} {P l : Nat} {g f : Nat → Int32} (hS : s_S c 3 g) (hP : P < 10) (hl : l < 8) (hg : g (6 + 2 * P) = nI 1) (hf : ∀ w, w < 8 → ∃ v, v < 65536 ∧ f w = nI v) (h3 : ∀ b, b = 3 ∨ b = 6 ∨ b = 7 ∨ b = 8 → c' b = c b) (h4 : ∀ j, c' 4 j = if 64 * P + 8 * l ≤ j ∧ j < 64 * P + 8 * l + 8 then f (j - (64 * P + 8 * l)) else c 4 j) (h5 : ∀ j, c' 5 j = if j = 8 * P + l then s_fm f else c 5 j) : s_S c' 3 (s_put g P l f 8) := by
  obtain ⟨e0, hr, hb, hok, hp, hq⟩ := hS
  refine ⟨?_, ?_, ?_, s_put_ok (by omega) hok hf, fun p hpp => ?_, fun q hqq => ?_⟩
  · rw [h3 3 (Or.inl rfl), s_put_lo (by omega), s_put_lo (by omega), s_put_lo (by omega), s_put_lo (by omega), s_put_lo (by omega), s_put_lo (by omega)]
    exact e0
  · rw [s_put_lo (by omega)]; exact hr
  · rw [s_put_lo (by omega)]; exact hb
  · rw [h3 6 (by decide), s_put_lo (by omega : 6 + 2 * p < 34), s_put_lo (by omega : 7 + 2 * p < 34)]
    rcases hp p hpp with ⟨q1, q2, q3, q4, q5⟩ | ⟨q1, q2, q3⟩
    · refine Or.inl ⟨q1, q2, q3, fun k hk => ?_, fun j hj => ?_⟩
      · rw [s_F_put hP hl hpp hk]
        show c' 5 _ = _
        rw [h5]
        by_cases q : p = P ∧ k = l
        · rw [if_pos q, if_pos (by omega)]
        · rw [if_neg q, if_neg (by omega)]
          exact q4 k hk
      · show c' 4 _ = _
        rw [h4]
        unfold s_put
        by_cases q : 64 * P + 8 * l ≤ 64 * p + j ∧ 64 * p + j < 64 * P + 8 * l + 8
        · rw [if_pos q, if_pos (by omega)]
          congr 1
          omega
        · rw [if_neg q, if_neg (by omega)]
          exact q5 j hj
    · refine Or.inr ⟨q1, q2, fun j hj => ?_⟩
      have hne : p ≠ P := by
        intro z
        rw [z, hg] at q1
        exact absurd q1 (by decide)
      unfold s_put
      rw [if_neg (by omega)]
      exact q3 j hj
  · rw [h3 7 (by decide), h3 8 (by decide), s_put_lo (by omega : 26 + 2 * q < 34), s_put_lo (by omega : 27 + 2 * q < 34)]
    exact hq q hqq
/-! THE CLASS changes a line -/
section KL4
variable {L : Nat} {ps : List (Option (Option Nat))} {rest : List mj_K} {c : mj_C} {g : Nat → Int32}
theorem k_least {a na o : Nat} {f : Nat → Int32} (ha : (w_sh L ps rest)[a]? = some (0, na, [])) (ho : o + 8 ≤ na) (hn : na < 100000) (hc : ∀ w, w < 8 → c a (o + w) = f w) : mj_EV 39 0 [some (.ref a), some (.int (nI o)), none, none] [] (w_sh L ps rest) c = some (some (.int (s_mn f 7)), w_sh L ps rest, c) := by
  have key : ∀ n k : Nat, k + n = 7 → mj_EV 39 8 [some (.ref a), some (.int (nI o)), some (.int (s_mn f k)), some (.int (nI (o + k + 1)))] [] (w_sh L ps rest) c = some (some (.int (s_mn f 7)), w_sh L ps rest, c) := by
    intro n
    induction n with
    | zero =>
      intro k hk
      rw [e39_8 ha, nI_add]
      simp (disch := omega) only [nI_leI]
      rw [if_pos (by omega), show k = 7 by omega]
    | succ n ih =>
      intro k hk
      rw [e39_8 ha, nI_add]
      simp (disch := omega) only [nI_leI, mj_in_nI, nI_clamp]
      rw [if_neg (by omega), if_pos (by simp; omega), show o + k + 1 = o + (k + 1) by omega, hc (k + 1) (by omega), e38_0]
      have h2 := ih (k + 1) (by omega)
      rw [show s_mn f (k + 1) = if f (k + 1) < s_mn f k then f (k + 1) else s_mn f k from rfl] at h2
      by_cases q : f (k + 1) < s_mn f k
      · rw [if_pos q] at h2 ⊢
        rw [mj_then_i, e39_23 ha, nI_add (o + (k + 1)) 1]
        exact h2
      · rw [if_neg q] at h2 ⊢
        rw [mj_then_i, e39_23 ha, nI_add (o + (k + 1)) 1]
        exact h2
  rw [e39_0 ha, mj_in_nI (by omega), nI_clamp (by omega), if_pos (by simp; omega), nI_add, show c a o = f 0 from hc 0 (by omega)]
  exact key 7 0 (by omega)
theorem k_greatest {a na o : Nat} {f : Nat → Int32} (ha : (w_sh L ps rest)[a]? = some (0, na, [])) (ho : o + 8 ≤ na) (hn : na < 100000) (hc : ∀ w, w < 8 → c a (o + w) = f w) : mj_EV 41 0 [some (.ref a), some (.int (nI o)), none, none] [] (w_sh L ps rest) c = some (some (.int (s_mx f 7)), w_sh L ps rest, c) := by
  have key : ∀ n k : Nat, k + n = 7 → mj_EV 41 8 [some (.ref a), some (.int (nI o)), some (.int (s_mx f k)), some (.int (nI (o + k + 1)))] [] (w_sh L ps rest) c = some (some (.int (s_mx f 7)), w_sh L ps rest, c) := by
    intro n
    induction n with
    | zero =>
      intro k hk
      rw [e41_8 ha, nI_add]
      simp (disch := omega) only [nI_leI]
      rw [if_pos (by omega), show k = 7 by omega]
    | succ n ih =>
      intro k hk
      rw [e41_8 ha, nI_add]
      simp (disch := omega) only [nI_leI, mj_in_nI, nI_clamp]
      rw [if_neg (by omega), if_pos (by simp; omega), show o + k + 1 = o + (k + 1) by omega, hc (k + 1) (by omega), e40_0]
      have h2 := ih (k + 1) (by omega)
      rw [show s_mx f (k + 1) = if s_mx f k < f (k + 1) then f (k + 1) else s_mx f k from rfl] at h2
      by_cases q : s_mx f k < f (k + 1)
      · rw [if_pos q] at h2 ⊢
        rw [mj_then_i, e41_23 ha, nI_add (o + (k + 1)) 1]
        exact h2
      · rw [if_neg q] at h2 ⊢
        rw [mj_then_i, e41_23 ha, nI_add (o + (k + 1)) 1]
        exact h2
  rw [e41_0 ha, mj_in_nI (by omega), nI_clamp (by omega), if_pos (by simp; omega), nI_add, show c a o = f 0 from hc 0 (by omega)]
  exact key 7 0 (by omega)
theorem k_form {a na o : Nat} {f : Nat → Int32} (ha : (w_sh L ps rest)[a]? = some (0, na, [])) (ho : o + 8 ≤ na) (hn : na < 100000) (hc : ∀ w, w < 8 → c a (o + w) = f w) : mj_EV 42 0 [some (.ref a), some (.int (nI o)), none, none] [] (w_sh L ps rest) c = some (some (.int (s_fm f)), w_sh L ps rest, c) := by
  rw [e42_0 ha, k_least ha ho hn hc, mj_then_i, e42_5 ha, k_greatest ha ho hn hc, mj_then_i, e42_11 ha]
  unfold s_fm
  by_cases q : s_mx f 7 = nI 0
  · rw [if_pos q, if_pos q]
  · rw [if_neg q, if_neg q]
    by_cases q2 : s_mx f 7 = s_mn f 7
    · rw [if_pos q2, if_pos (q2.symm : s_mn f 7 = s_mx f 7)]
    · rw [if_neg q2, if_neg (fun z => q2 z.symm : ¬ s_mn f 7 = s_mx f 7)]
      split
      · split <;> rfl
      · rfl
theorem k_takeNewWords {P l : Nat} (hS : s_S c 3 g) (hP : P < 10) (hl : l < 8) (hg : g (6 + 2 * P) = nI 1) : ∃ c', mj_EV 37 0 [some (.ref 2), some (.int (nI P)), some (.int (nI l))] [] (w_sh L ps rest) c = some (none, w_sh L ps rest, c') ∧ (∀ w, w < 8 → c' 49 w = s_wd g P l w) ∧ ∀ b, b ≠ 49 → c' b = c b := by
  obtain ⟨-, -, -, h4⟩ := s_S_pg hS hP hg
  refine ⟨mj_cp c 4 49 ((P * 8 + l) * 8) 0 8, ?_, fun w hw => ?_, fun b hb => mj_cp_ne _ _ _ _ _ _ hb⟩
  · rw [e37_0, e25_0, mj_then_i, e37_12, pk_mul, nI_add, pk_mul]
    simp (disch := omega) only [nI_ltI, nI_clamp]
    rw [if_pos (by simp; omega)]
  · rw [s_cp_in (by omega) (by omega), show (P * 8 + l) * 8 + (w - 0) = 64 * P + (8 * l + w) by omega]
    refine (h4 (8 * l + w) (by omega)).trans ?_
    show g _ = g _
    congr 1
    omega
theorem k_sumWithLine {P l a : Nat} {f : Nat → Int32} (ha : (w_sh L ps rest)[a]? = some (0, 8, [])) (ha5 : a ≠ 50) (hS : s_S c 3 g) (h1 : c 1 = w_fs) (hP : P < 10) (hl : l < 8) (hg : g (6 + 2 * P) = nI 1) (hc : ∀ w, w < 8 → c a w = f w) : ∃ c', mj_EV 43 0 [some (.ref 2), some (.int (nI P)), some (.int (nI l)), some (.ref a), none] [] (w_sh L ps rest) c = some (some (.int (s_sum (s_putk g P l f) 10)), w_sh L ps rest, c') ∧ ∀ b, b ≠ 50 → c' b = c b := by
  obtain ⟨⟨s, hs, es⟩, h2, h3, h4⟩ := s_S_pg hS hP hg
  obtain ⟨r, hr, er⟩ := hS.2.1
  have hf1 : ∀ b, b ≠ 50 → mj_u (mj_cp c 5 50 (P * 8) 0 8) 50 l (s_fm f) b = c b := fun b hb => by rw [mj_u_ne _ _ _ _ hb, mj_cp_ne _ _ _ _ _ _ hb]
  have hF : ∀ k, k < 8 → mj_u (mj_cp c 5 50 (P * 8) 0 8) 50 l (s_fm f) 50 (0 + k) = s_F1 g f P l k := by
    intro k hk
    rw [Nat.zero_add, mj_u_self]
    unfold s_F1
    by_cases q : k = l
    · rw [q, s_upd_eq, s_upd_eq]
    · rw [s_upd_ne q, s_upd_ne q, s_cp_in (by omega) (by omega), show P * 8 + (k - 0) = 8 * P + k by omega]
      exact h3 k hk
  have hS1 : s_S (mj_u (mj_cp c 5 50 (P * 8) 0 8) 50 l (s_fm f)) 3 g := s_S_congr hS (fun _ _ => rfl) (fun b h3 h8 => hf1 b (by omega))
  have h11 : mj_u (mj_cp c 5 50 (P * 8) 0 8) 50 l (s_fm f) 1 = w_fs := by rw [hf1 1 (by decide)]; exact h1
  have e6 : mj_u (mj_cp c 5 50 (P * 8) 0 8) 50 l (s_fm f) 6 P = g (7 + 2 * P) := by rw [hf1 6 (by decide)]; exact h2
  refine ⟨mj_u (mj_cp c 5 50 (P * 8) 0 8) 50 l (s_fm f), ?_, hf1⟩
  have ee : mj_EV 43 0 [some (.ref 2), some (.int (nI P)), some (.int (nI l)), some (.ref a), none] [] (w_sh L ps rest) c = mj_EV 43 53 [some (.ref 2), some (.int (nI P)), some (.int (nI l)), some (.ref a), some (.int (g (7 + 2 * P)))] [.int (s_ct (s_F1 g f P l) (g (7 + 2 * P)) 8)] (w_sh L ps rest) (mj_u (mj_cp c 5 50 (P * 8) 0 8) 50 l (s_fm f)) := by
    rw [e43_0 ha, e7_0, mj_then_i, e43_11 ha, pk_mul]
    simp (disch := omega) only [nI_ltI, nI_clamp]
    rw [if_pos (by simp; omega), k_form (f := f) ha (by omega) (by omega) (fun w hw => by rw [Nat.zero_add, mj_cp_ne _ _ _ _ _ _ ha5]; exact hc w hw), mj_then_i, e43_31 ha]
    simp (disch := omega) only [mj_in_nI, nI_clamp]
    rw [if_pos (by simp; omega), if_pos (by simp; omega), k_besideCount (F := s_F1 g f P l) w_50 h11 (by omega) (by omega) (s_fo_F1 g f P l) hF, mj_then_i, e6]
  have e84 : ∀ x : Int32, mj_EV 43 84 [some (.ref 2), some (.int (nI P)), some (.int (nI l)), some (.ref a), some (.int x)] [.int (s_sum g 10)] (w_sh L ps rest) (mj_u (mj_cp c 5 50 (P * 8) 0 8) 50 l (s_fm f)) = some (some (.int ((s_sum g 10 - s_pp g P) + s_pz (s_F1 g f P l) x)), w_sh L ps rest, mj_u (mj_cp c 5 50 (P * 8) 0 8) 50 l (s_fm f)) := by
    intro x
    rw [e43_84 ha, k_sizeOfPage hS1 h11 hP hg, mj_then_i, e43_89 ha, k_besideCount (F := s_F1 g f P l) w_50 h11 (by omega) (by omega) (s_fo_F1 g f P l) hF, mj_then_i, e43_102 ha, k_pageSize, mj_then_i, e43_105 ha]
    rfl
  rw [ee, e43_53 ha, s_putk_sum hP hl hg]
  unfold s_sl
  rw [show mj_u (mj_cp c 5 50 (P * 8) 0 8) 50 l (s_fm f) 3 0 = g 0 from hS1.1.1]
  by_cases q : s_ct (s_F1 g f P l) (g (7 + 2 * P)) 8 ≤ g 0
  · rw [if_pos q, if_pos q, k_sum hS1 h11, mj_then_i, e84]
  · rw [if_neg q, if_neg q, er, k_bestSlot (F := s_F1 g f P l) w_50 h11 (by omega) (by omega) (s_fo_F1 g f P l) hF (by omega), mj_then_i, e43_78 ha, k_sum hS1 h11, mj_then_i, e84]
theorem k_putLine {P l a : Nat} {f : Nat → Int32} (ha : (w_sh L ps rest)[a]? = some (0, 8, [])) (ha4 : 8 < a) (hS : s_S c 3 g) (h1 : c 1 = w_fs) (hP : P < 10) (hl : l < 8) (hg : g (6 + 2 * P) = nI 1) (hf : ∀ w, w < 8 → ∃ v, v < 65536 ∧ f w = nI v) (hc : ∀ w, w < 8 → c a w = f w) : ∃ c', mj_EV 45 0 [some (.ref 2), some (.int (nI P)), some (.int (nI l)), some (.ref a)] [] (w_sh L ps rest) c = some (none, w_sh L ps rest, c') ∧ s_S c' 3 (s_putk g P l f) ∧ ∀ b, b < 3 ∨ 6 < b → c' b = c b := by
  have hf0 : ∀ b, b ≠ 4 → b ≠ 5 → mj_u (mj_cp c a 4 0 ((P * 8 + l) * 8) 8) 5 (P * 8 + l) (s_fm f) b = c b := fun b h4 h5 => by rw [mj_u_ne _ _ _ _ h5, mj_cp_ne _ _ _ _ _ _ h4]
  have hS1 : s_S (mj_u (mj_cp c a 4 0 ((P * 8 + l) * 8) 8) 5 (P * 8 + l) (s_fm f)) 3 (s_put g P l f 8) := by
    refine s_S_words hS hP hl hg hf (fun b hb => hf0 b (by omega) (by omega)) (fun j => ?_) (fun j => ?_)
    · rw [mj_u_ne _ _ _ _ (by decide)]
      by_cases q : 64 * P + 8 * l ≤ j ∧ j < 64 * P + 8 * l + 8
      · rw [if_pos q, s_cp_in (by omega) (by omega), hc _ (by omega)]
        congr 1
        omega
      · rw [if_neg q, s_cp_out (by omega)]
    · rw [mj_u_self]
      by_cases q : j = 8 * P + l
      · rw [if_pos q, show P * 8 + l = j by omega, s_upd_eq]
      · rw [if_neg q, s_upd_ne (by omega), mj_cp_ne _ _ _ _ _ _ (by decide)]
  obtain ⟨c1, e1, hS2, hf1⟩ := k_tooFull (L := L) (ps := ps) (rest := rest) hS1 (by rw [hf0 1 (by decide) (by decide)]; exact h1) hP (by rw [s_put_lo (by omega)]; exact hg)
  refine ⟨c1, ?_, hS2, fun b hb => ?_⟩
  · rw [e45_0 ha, e44_0 ha, e25_0, mj_then_i, e44_11 ha, pk_mul, nI_add, pk_mul]
    simp (disch := omega) only [nI_ltI, nI_clamp]
    rw [if_pos (by simp; omega), e7_0, mj_then_i, e44_24 ha, pk_mul, nI_add, k_form (f := f) ha (by omega) (by omega) (fun w hw => by rw [Nat.zero_add, mj_cp_ne _ _ _ _ _ _ (by omega)]; exact hc w hw), mj_then_i, e44_31 ha, mj_in_nI (by omega), nI_clamp (by omega), if_pos (by simp; omega), mj_then_v, e45_10 ha, e1, mj_then_v, e45_15 ha]
  · rw [hf1 b (by omega) (by omega), hf0 b (by omega) (by omega)]
/-- either nothing changes and the answer is -4, or the row becomes g' and the old one is kept -/
def s_Fo (c c' : mj_C) : Prop := ∀ b, b = 0 ∨ b = 2 ∨ b = 47 ∨ b = 48 ∨ 51 ≤ b → c' b = c b
def s_cc (L : Nat) (rest : List mj_K) (ps : List (Option (Option Nat))) (c : mj_C) (A : Option (Option Value × List mj_K × mj_C)) (g : Nat → Int32) (R : Nat) (h : Nat → Nat → Int32) (no : Prop) (x : Int32) (g' : Nat → Int32) : Prop := (no → ∃ c', A = some (some (.int (-4)), w_sh L ps rest, c') ∧ s_I ps c' g R h ∧ s_Fo c c') ∧ (¬ no → ∃ ps' c', A = some (some (.int x), w_sh L ps' rest, c') ∧ s_I ps' c' g' (s_R R) (s_hp h R g) ∧ s_Fo c c')
/-- what s_I speaks of -/
theorem s_I_congr {c' : mj_C} {R : Nat} {h : Nat → Nat → Int32} (hI : s_I ps c g R h) (hc : ∀ b, b = 1 ∨ (3 ≤ b ∧ b < 47) → c' b = c b) : s_I ps c' g R h := by
  obtain ⟨h1, h2, h3, h4, t, hp, hh⟩ := hI
  refine ⟨?_, s_S_congr h2 (fun _ _ => rfl) (fun b h3 h8 => hc b (by omega)), ?_, h4, t, hp, fun i hi => s_S_congr (hh i hi) (fun _ _ => rfl) (fun b h3 h8 => hc b ?_)⟩
  · rw [hc 1 (Or.inl rfl)]; exact h1
  · rw [hc 9 (by omega)]; exact h3
  · have := (hp.2.1 i (by omega)).2
    omega
theorem s_I_g {c' : mj_C} {g' : Nat → Int32} {R : Nat} {h : Nat → Nat → Int32} (hI : s_I ps c g R h) (hS : s_S c' 3 g') (hc : ∀ b, b = 1 ∨ (9 ≤ b ∧ b < 47) → c' b = c b) : s_I ps c' g' R h := by
  obtain ⟨h1, h2, h3, h4, t, hp, hh⟩ := hI
  refine ⟨?_, hS, ?_, h4, t, hp, fun i hi => s_S_congr (hh i hi) (fun _ _ => rfl) (fun b h3 h8 => hc b ?_)⟩
  · rw [hc 1 (Or.inl rfl)]; exact h1
  · rw [hc 9 (by omega)]; exact h3
  · have := (hp.2.1 i (by omega)).2
    omega
theorem s_may_ex {x y z : Int32} : (if x ≤ y then nI 0 else if x ≤ z then nI 0 else nI 1) = nI 0 ↔ ¬ ((if x ≤ z then nI 1 else if x ≤ y then nI 1 else nI 0) = nI 0) := by
  by_cases q1 : x ≤ y <;> by_cases q2 : x ≤ z <;> simp [q1, q2] <;> decide
theorem k_changeLine {P l R : Nat} {f : Nat → Int32} {h : Nat → Nat → Int32} (hI : s_I ps c g R h) (hP : P < 10) (hl : l < 8) (hg : g (6 + 2 * P) = nI 1) (hf : ∀ w, w < 8 → ∃ v, v < 65536 ∧ f w = nI v) (hc : ∀ w, w < 8 → c 49 w = f w) : s_cc L rest ps c (mj_EV 47 0 [some (.ref 2), some (.int (nI P)), some (.int (nI l))] [] (w_sh L ps rest) c) g R h (s_may g (s_sum (s_putk g P l f) 10) = nI 0) (s_F (s_putk g P l f) P l) (s_putk g P l f) := by
  have hS := hI.2.1
  have h1 := hI.1
  obtain ⟨c1, e1, hf1⟩ := k_sumWithLine (L := L) (ps := ps) (rest := rest) w_49 (by decide) hS h1 hP hl hg hc
  have hI1 : s_I ps c1 g R h := s_I_congr hI (fun b hb => hf1 b (by omega))
  rw [e47_0, e1, mj_then_i, e47_11, k_exceeds hI1.2.1 hI1.1, mj_then_i, e47_14]
  constructor
  · intro q
    refine ⟨c1, ?_, hI1, fun b hb => hf1 b (by omega)⟩
    rw [if_neg (fun z => (s_may_ex.mp z) q)]
  · intro q
    obtain ⟨ps', c2, e2, hI2, hf2⟩ := k_keep (L := L) (rest := rest) hI1
    obtain ⟨c3, e3, hS3, hf3⟩ := k_putLine (L := L) (ps := ps') (rest := rest) w_49 (by decide) hI2.2.1 hI2.1 hP hl hg hf (fun w hw => by rw [hf2 49 (by decide), hf1 49 (by decide)]; exact hc w hw)
    refine ⟨ps', c3, ?_, s_I_g hI2 hS3 (fun b hb => hf3 b (by omega)), fun b hb => by rw [hf3 b (by omega), hf2 b (by omega), hf1 b (by omega)]⟩
    have hg3 : s_putk g P l f (6 + 2 * P) = nI 1 := by
      unfold s_putk
      rw [s_keep_ne (by omega) (by omega), s_put_lo (by omega)]
      exact hg
    obtain ⟨-, -, h5, -⟩ := s_S_pg hS3 hP hg3
    rw [if_pos (s_may_ex.mpr q), e2, mj_then_v, e47_31, e3, mj_then_v, e47_41, e46_0, e7_0, mj_then_i, e46_8, pk_mul, nI_add, mj_in_nI (by omega), nI_clamp (by omega), if_pos (by simp; omega), mj_then_i, e47_50, show P * 8 + l = 8 * P + l by omega, show c3 5 (8 * P + l) = s_F (s_putk g P l f) P l from h5 l hl]
end KL4
