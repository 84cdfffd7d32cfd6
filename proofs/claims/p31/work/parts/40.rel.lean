/-! THE CLASS's rows: how a State stands for a row of numbers -/
def s_S (c : mj_C) (a : Nat) (g : Nat → Int32) : Prop := (c a 0 = g 0 ∧ c a 1 = g 1 ∧ c a 2 = g 2 ∧ c a 3 = g 3 ∧ g 4 = g 2 + nI 2 * g 3 ∧ c a 4 = g 5) ∧ (∃ r, r < 9 ∧ g 0 = nI r) ∧ (∃ b, b < 1000 ∧ g 1 = nI b) ∧ s_ok g ∧ (∀ p, p < 10 → (g (6 + 2 * p) = nI 1 ∧ (∃ s, s ≤ 8 ∧ g (7 + 2 * p) = nI s) ∧ c (a + 3) p = g (7 + 2 * p) ∧ (∀ l, l < 8 → c (a + 2) (8 * p + l) = s_F g p l) ∧ (∀ j, j < 64 → c (a + 1) (64 * p + j) = g (34 + 64 * p + j))) ∨ (g (6 + 2 * p) = nI 0 ∧ c (a + 3) p = (-1) ∧ ∀ j, j < 64 → g (34 + 64 * p + j) = nI 0)) ∧ (∀ q, q < 4 → (g (26 + 2 * q) = (-6) ∧ c (a + 4) q = (-1)) ∨ (∃ P, P < 10 ∧ g (26 + 2 * q) = nI P ∧ c (a + 4) q = nI P ∧ c (a + 5) q = g (27 + 2 * q)))
theorem s_F_g {g g' : Nat → Int32} {p l : Nat} (hp : p < 10) (hl : l < 8) (h : ∀ k, k < 674 → g' k = g k) : s_F g' p l = s_F g p l := by
  have e : ∀ w, w < 8 → s_wd g' p l w = s_wd g p l w := fun w hw => h _ (by omega)
  have e1 : ∀ n, n < 8 → s_mn (s_wd g' p l) n = s_mn (s_wd g p l) n := by
    intro n
    induction n with
    | zero => intro _; exact e 0 (by omega)
    | succ n ih =>
      intro hn
      show (if s_wd g' p l (n + 1) < s_mn (s_wd g' p l) n then s_wd g' p l (n + 1) else s_mn (s_wd g' p l) n) = (if s_wd g p l (n + 1) < s_mn (s_wd g p l) n then s_wd g p l (n + 1) else s_mn (s_wd g p l) n)
      rw [e _ hn, ih (by omega)]
  have e2 : ∀ n, n < 8 → s_mx (s_wd g' p l) n = s_mx (s_wd g p l) n := by
    intro n
    induction n with
    | zero => intro _; exact e 0 (by omega)
    | succ n ih =>
      intro hn
      show (if s_mx (s_wd g' p l) n < s_wd g' p l (n + 1) then s_wd g' p l (n + 1) else s_mx (s_wd g' p l) n) = (if s_mx (s_wd g p l) n < s_wd g p l (n + 1) then s_wd g p l (n + 1) else s_mx (s_wd g p l) n)
      rw [e _ hn, ih (by omega)]
  unfold s_F s_fm
  rw [e1 7 (by omega), e2 7 (by omega)]
theorem s_S_congr {c c' : mj_C} {a : Nat} {g g' : Nat → Int32} (hS : s_S c a g) (hg : ∀ k, k < 674 → g' k = g k) (hc : ∀ b, a ≤ b → b ≤ a + 5 → c' b = c b) : s_S c' a g' := by
  obtain ⟨⟨h0, h1, h2, h3, h4, h5⟩, hr, hb, hok, hp, hq⟩ := hS
  have eq : ∀ k, k < 674 → g' k = g k := hg
  refine ⟨?_, ?_, ?_, ?_, ?_, ?_⟩
  · rw [hc a (by omega) (by omega), eq 0 (by omega), eq 1 (by omega), eq 2 (by omega), eq 3 (by omega), eq 4 (by omega), eq 5 (by omega)]
    exact ⟨h0, h1, h2, h3, h4, h5⟩
  · rw [eq 0 (by omega)]; exact hr
  · rw [eq 1 (by omega)]; exact hb
  · intro j hj
    rw [eq _ (by omega)]
    exact hok j hj
  · intro p hpp
    rw [hc (a + 3) (by omega) (by omega), hc (a + 2) (by omega) (by omega), hc (a + 1) (by omega) (by omega), eq _ (by omega : 6 + 2 * p < 674), eq _ (by omega : 7 + 2 * p < 674)]
    rcases hp p hpp with ⟨q1, q2, q3, q4, q5⟩ | ⟨q1, q2, q3⟩
    · refine Or.inl ⟨q1, q2, q3, fun l hl => ?_, fun j hj => ?_⟩
      · rw [q4 l hl, s_F_g hpp hl eq]
      · rw [q5 j hj, eq _ (by omega)]
    · refine Or.inr ⟨q1, q2, fun j hj => ?_⟩
      rw [eq _ (by omega)]
      exact q3 j hj
  · intro q hqq
    rw [hc (a + 4) (by omega) (by omega), hc (a + 5) (by omega) (by omega), eq _ (by omega : 26 + 2 * q < 674), eq _ (by omega : 27 + 2 * q < 674)]
    exact hq q hqq
/-- sizes of forms and slots in natural numbers -/
def s_W : Nat → Nat
  | 0 => 0
  | 1 => 1
  | 2 => 3
  | 3 => 4
  | _ => 8
theorem s_W_fs {k : Nat} (hk : k < 5) : w_fs k = nI (s_W k) := by
  match k, hk with
  | 0, _ => rfl
  | 1, _ => rfl
  | 2, _ => rfl
  | 3, _ => rfl
  | 4, _ => rfl
  | k + 5, h => omega
theorem s_W_le (k : Nat) : s_W k ≤ 8 := by
  match k with
  | 0 => decide
  | 1 => decide
  | 2 => decide
  | 3 => decide
  | k + 4 => exact Nat.le_refl 8
theorem s_W_4 {k : Nat} (h : 4 ≤ k) : s_W k = 8 := by
  match k, h with
  | k + 4, _ => rfl
/-- forms -/
def s_fo (F : Nat → Int32) : Prop := ∀ l, l < 8 → ∃ k, k < 5 ∧ F l = nI k
theorem s_fo_F (g : Nat → Int32) (p : Nat) : s_fo (s_F g p) := fun l _ => s_fm_cases _
def s_cn (F : Nat → Int32) (s : Int32) : Nat := s_b8c (fun k => decide (s < s_sz (F k))) 8
theorem s_ct_cn (F : Nat → Int32) (s : Int32) : s_ct F s 8 = nI (s_cn F s) := (s_mk_b F s 8).2
theorem s_cn_le (F : Nat → Int32) (s : Int32) : s_cn F s ≤ 8 := s_b8c_le _ 8
theorem s_b8c_0 {b : Nat → Bool} : ∀ n, (∀ k, k < n → b k = false) → s_b8c b n = 0 := by
  intro n
  induction n with
  | zero => intro _; rfl
  | succ n ih =>
    intro h
    simp only [s_b8c]
    rw [h n (by omega), ih (fun k hk => h k (by omega))]
    rfl
theorem s_cn_4 {F : Nat → Int32} (hF : s_fo F) : s_cn F (w_fs 4) = 0 := by
  refine s_b8c_0 8 fun l hl => ?_
  obtain ⟨k, hk, e⟩ := hF l hl
  rw [e, s_sz_nI hk, s_W_fs hk, s_W_fs (by decide), decide_eq_false_iff_not, nI_ltI (by have := s_W_le 4; omega) (by have := s_W_le k; omega)]
  have := s_W_le k
  have : s_W 4 = 8 := rfl
  omega
def s_co (F : Nat → Int32) (k : Nat) : Nat := 1 + 8 * s_W k + 8 * s_cn F (w_fs k)
theorem s_co_lt (F : Nat → Int32) (k : Nat) : s_co F k < 1000 := by
  have := s_W_le k
  have := s_cn_le F (w_fs k)
  unfold s_co
  omega
theorem s_pz_co {F : Nat → Int32} {k : Nat} (hk : k < 5) : s_pz F (w_fs k) = nI (s_co F k) := by
  unfold s_pz s_co
  rw [s_ct_cn, s_W_fs hk, pk_mul, pk_mul, nI_add, nI_add]
theorem s_ct_fe {F : Nat → Int32} {k r : Nat} (hr : r ≤ 8) : (nI r < s_ct F (w_fs k) 8) ↔ r < s_cn F (w_fs k) := by
  have := s_cn_le F (w_fs k)
  rw [s_ct_cn, nI_ltI (by omega) (by omega)]
/-- m is the best of a set of places -/
def s_be (F : Nat → Int32) (r : Nat) (B : Nat → Prop) (m : Nat) : Prop := s_cn F (w_fs m) ≤ r ∧ ∀ j, B j → s_cn F (w_fs j) ≤ r → s_co F m < s_co F j ∨ (s_co F m = s_co F j ∧ m ≤ j)
theorem s_W_6 (k : Nat) : ¬ (nI (s_W k) = (-6)) := by
  match k with
  | 0 => decide
  | 1 => decide
  | 2 => decide
  | 3 => decide
  | k + 4 => show ¬ (nI 8 = (-6)); decide
theorem s_bm_spec (F : Nat → Int32) {r : Nat} (hr : r ≤ 8) : ∀ k, k ≤ 5 → (s_bm F (nI r) k = (-6) ∧ ∀ j, j < k → ¬ s_cn F (w_fs j) ≤ r) ∨ (∃ m, m < k ∧ s_bm F (nI r) k = w_fs m ∧ s_be F r (fun j => j < k) m) := by
  intro k
  induction k with
  | zero =>
    intro _
    exact Or.inl ⟨rfl, fun j hj => by omega⟩
  | succ k ih =>
    intro hk
    rw [show s_bm F (nI r) (k + 1) = if nI r < s_ct F (w_fs k) 8 then s_bm F (nI r) k else if s_bm F (nI r) k = (-6) then w_fs k else if s_pz F (s_bm F (nI r) k) ≤ s_pz F (w_fs k) then s_bm F (nI r) k else w_fs k from rfl]
    by_cases q : nI r < s_ct F (w_fs k) 8
    · rw [if_pos q]
      rw [s_ct_fe hr] at q
      rcases ih (by omega) with ⟨h1, h2⟩ | ⟨m, h1, h2, h3, h4⟩
      · refine Or.inl ⟨h1, fun j hj => ?_⟩
        by_cases hj2 : j = k
        · subst hj2; omega
        · exact h2 j (by omega)
      · refine Or.inr ⟨m, by omega, h2, h3, fun j hj hf => ?_⟩
        by_cases hj2 : j = k
        · subst hj2; omega
        · exact h4 j (by omega) hf
    · rw [if_neg q]
      rw [s_ct_fe hr] at q
      rcases ih (by omega) with ⟨h1, h2⟩ | ⟨m, h1, h2, h3, h4⟩
      · rw [if_pos h1]
        refine Or.inr ⟨k, by omega, rfl, by omega, fun j hj hf => ?_⟩
        by_cases hj2 : j = k
        · subst hj2; omega
        · exact absurd hf (h2 j (by omega))
      · have := s_co_lt F m
        have := s_co_lt F k
        rw [if_neg (by rw [h2, s_W_fs (by omega)]; exact s_W_6 m), h2, s_pz_co (by omega), s_pz_co (by omega)]
        simp (disch := omega) only [nI_leI]
        by_cases q2 : s_co F m ≤ s_co F k
        · rw [if_pos q2]
          refine Or.inr ⟨m, by omega, rfl, h3, fun j hj hf => ?_⟩
          by_cases hj2 : j = k
          · subst hj2; omega
          · exact h4 j (by omega) hf
        · rw [if_neg q2]
          refine Or.inr ⟨k, by omega, rfl, by omega, fun j hj hf => ?_⟩
          by_cases hj2 : j = k
          · subst hj2; omega
          · have := h4 j (by omega) hf
            omega
theorem s_bs_spec {F : Nat → Int32} (hF : s_fo F) {r : Nat} (hr : r ≤ 8) : ∃ m, m < 5 ∧ s_bs F (nI r) = w_fs m ∧ s_be F r (fun j => j < 5) m := by
  rcases s_bm_spec F hr 5 (by omega) with ⟨h1, h2⟩ | h
  · have h3 := h2 4 (by omega)
    rw [s_cn_4 hF] at h3
    omega
  · exact h
theorem s_bs_le {F : Nat → Int32} (hF : s_fo F) {r : Nat} (hr : r ≤ 8) : ∃ s, s ≤ 8 ∧ s_bs F (nI r) = nI s := by
  obtain ⟨m, hm, e, -⟩ := s_bs_spec hF hr
  exact ⟨s_W m, s_W_le m, by rw [e, s_W_fs hm]⟩
theorem s_be_u {F : Nat → Int32} {r m m' : Nat} (hm : m < 5) (hm' : m' < 5) (h : s_be F r (fun j => j < 5) m) (h' : s_be F r (fun j => j < 5) m') : m = m' := by
  have h1 := h.2 m' hm' h'.1
  have h2 := h'.2 m hm h.1
  omega
/-! THE CLASS's leaves -/
section KL1
variable {L : Nat} {ps : List (Option (Option Nat))} {rest : List mj_K} {c : mj_C} {g : Nat → Int32}
theorem k_besideCount {a na o : Nat} {s : Int32} {F : Nat → Int32} (ha : (w_sh L ps rest)[a]? = some (0, na, [])) (h1 : c 1 = w_fs) (ho : o + 8 ≤ na) (hn : na < 100000) (hF : s_fo F) (hc : ∀ l, l < 8 → c a (o + l) = F l) : mj_EV 8 0 [some (.ref a), some (.int (nI o)), some (.int s), none, none] [] (w_sh L ps rest) c = some (some (.int (s_ct F s 8)), w_sh L ps rest, c) := by
  have key : ∀ n k : Nat, k + n = 8 → mj_EV 8 5 [some (.ref a), some (.int (nI o)), some (.int s), some (.int (s_ct F s k)), some (.int (nI k))] [] (w_sh L ps rest) c = some (some (.int (s_ct F s 8)), w_sh L ps rest, c) := by
    intro n
    induction n with
    | zero =>
      intro k hk
      rw [e8_5 ha]
      simp (disch := omega) only [nI_leI]
      rw [if_pos (by omega), show k = 8 by omega]
    | succ n ih =>
      intro k hk
      obtain ⟨f, hf, ef⟩ := hF k (by omega)
      rw [e8_5 ha]
      simp (disch := omega) only [nI_leI, nI_add, mj_in_nI, nI_clamp]
      rw [if_neg (by omega), if_pos (by simp; omega), hc k (by omega), ef, mj_in_nI (by omega), if_pos (by simp; omega), nI_clamp (by omega), h1]
      have h2 := ih (k + 1) (by omega)
      rw [show s_ct F s (k + 1) = if s < s_sz (F k) then s_ct F s k + nI 1 else s_ct F s k from rfl, ef, s_sz_nI hf] at h2
      by_cases q : w_fs f ≤ s
      · rw [if_neg (Int32.not_lt.mpr q)] at h2
        rw [if_pos q]
        exact h2
      · rw [if_pos (Int32.not_le.mp q)] at h2
        rw [if_neg q]
        exact h2
  rw [e8_0 ha]
  exact key 8 0 (by omega)
theorem k_pageSize {x y : Int32} : mj_EV 10 0 [some (.int x), some (.int y)] [] (w_sh L ps rest) c = some (some (.int ((nI 1 + nI 8 * x) + nI 8 * y)), w_sh L ps rest, c) := e10_0
theorem k_bestSlot {a na o r : Nat} {F : Nat → Int32} (ha : (w_sh L ps rest)[a]? = some (0, na, [])) (h1 : c 1 = w_fs) (ho : o + 8 ≤ na) (hn : na < 100000) (hF : s_fo F) (hc : ∀ l, l < 8 → c a (o + l) = F l) (hr : r ≤ 8) : mj_EV 11 0 [some (.ref a), some (.int (nI o)), some (.int (nI r)), none, none, none, none, none] [] (w_sh L ps rest) c = some (some (.int (s_bs F (nI r))), w_sh L ps rest, c) := by
  have key : ∀ k : Nat, k < 5 → ∀ m o6 o7, m < 5 → s_be F r (fun j => k < j ∧ j < 5) m → mj_EV 11 14 [some (.ref a), some (.int (nI o)), some (.int (nI r)), some (.int (w_fs m)), some (.int (nI (s_co F m))), some (.int (nI k)), o6, o7] [] (w_sh L ps rest) c = some (some (.int (s_bs F (nI r))), w_sh L ps rest, c) := by
    have step : ∀ k : Nat, k < 5 → ∀ m o6 o7, m < 5 → s_be F r (fun j => k < j ∧ j < 5) m → ∃ m' p6 p7, m' < 5 ∧ s_be F r (fun j => k ≤ j ∧ j < 5) m' ∧ mj_EV 11 14 [some (.ref a), some (.int (nI o)), some (.int (nI r)), some (.int (w_fs m)), some (.int (nI (s_co F m))), some (.int (nI k)), o6, o7] [] (w_sh L ps rest) c = mj_EV 11 14 [some (.ref a), some (.int (nI o)), some (.int (nI r)), some (.int (w_fs m')), some (.int (nI (s_co F m'))), some (.int (nI k + (-1))), p6, p7] [] (w_sh L ps rest) c := by
      intro k hk m o6 o7 hm hb
      have c1 := s_co_lt F m
      have c2 := s_co_lt F k
      have e : mj_EV 11 14 [some (.ref a), some (.int (nI o)), some (.int (nI r)), some (.int (w_fs m)), some (.int (nI (s_co F m))), some (.int (nI k)), o6, o7] [] (w_sh L ps rest) c = mj_EV 11 34 [some (.ref a), some (.int (nI o)), some (.int (nI r)), some (.int (w_fs m)), some (.int (nI (s_co F m))), some (.int (nI k)), some (.int (w_fs k)), o7] [.int (s_ct F (w_fs k) 8)] (w_sh L ps rest) c := by
        rw [e11_14 ha]
        simp (disch := omega) only [nI_ltI]
        rw [if_neg (by omega), mj_in_nI (by omega), if_pos (by simp; omega), nI_clamp (by omega), h1, k_besideCount ha h1 ho hn hF hc, mj_then_i]
      have ez : (nI 1 + nI 8 * w_fs k) + nI 8 * s_ct F (w_fs k) 8 = nI (s_co F k) := s_pz_co hk
      by_cases q : nI r < s_ct F (w_fs k) 8
      · have q' := (s_ct_fe hr).mp q
        refine ⟨m, some (.int (w_fs k)), some (.int (s_ct F (w_fs k) 8)), hm, ⟨hb.1, fun j hj hf => ?_⟩, ?_⟩
        · by_cases hj2 : j = k
          · subst hj2; omega
          · exact hb.2 j ⟨by omega, hj.2⟩ hf
        · rw [e, e11_34 ha, if_pos q]
      · have q' : ¬ r < s_cn F (w_fs k) := fun z => q ((s_ct_fe hr).mpr z)
        by_cases q2 : s_co F m < s_co F k
        · refine ⟨m, some (.int (w_fs k)), some (.int (s_ct F (w_fs k) 8)), hm, ⟨hb.1, fun j hj hf => ?_⟩, ?_⟩
          · by_cases hj2 : j = k
            · subst hj2; omega
            · exact hb.2 j ⟨by omega, hj.2⟩ hf
          · rw [e, e11_34 ha, if_neg q, k_pageSize, mj_then_i, e11_49 ha, ez]
            simp (disch := omega) only [nI_ltI]
            rw [if_pos q2]
        · refine ⟨k, some (.int (w_fs k)), some (.int (s_ct F (w_fs k) 8)), hk, ⟨by omega, fun j hj hf => ?_⟩, ?_⟩
          · by_cases hj2 : j = k
            · subst hj2; omega
            · have h3 := hb.2 j ⟨by omega, hj.2⟩ hf
              omega
          · rw [e, e11_34 ha, if_neg q, k_pageSize, mj_then_i, e11_49 ha, ez]
            simp (disch := omega) only [nI_ltI]
            rw [if_neg q2, k_pageSize, mj_then_i, e11_64 ha, ez]
    intro k
    induction k with
    | zero =>
      intro hk m o6 o7 hm hb
      obtain ⟨m', p6, p7, hm', hb', e⟩ := step 0 hk m o6 o7 hm hb
      obtain ⟨m2, hm2, e2, hb2⟩ := s_bs_spec hF hr
      have : m' = m2 := s_be_u hm' hm2 ⟨hb'.1, fun j hj hf => hb'.2 j ⟨by omega, hj⟩ hf⟩ hb2
      rw [e, e11_14 ha, if_pos (by decide), e2, this]
    | succ k ih =>
      intro hk m o6 o7 hm hb
      obtain ⟨m', p6, p7, hm', hb', e⟩ := step (k + 1) hk m o6 o7 hm hb
      rw [e, pk_m1]
      exact ih (by omega) m' p6 p7 hm' ⟨hb'.1, fun j hj hf => hb'.2 j ⟨by omega, hj.2⟩ hf⟩
  have e4 := s_cn_4 hF
  have e5 : (nI 1 + nI 8 * nI 8) + nI 8 * nI 0 = nI (s_co F 4) := by
    unfold s_co
    rw [e4]
    rfl
  rw [e11_0 ha, k_pageSize, mj_then_i, e11_9 ha, e5]
  exact key 4 (by omega) 4 none none (by omega) ⟨by omega, fun j hj hf => by omega⟩
end KL1
