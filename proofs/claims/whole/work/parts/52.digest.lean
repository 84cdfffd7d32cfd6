/-! DIGESTS -/
def s_m (x : Int64) (v : Int32) : Int64 := 31 * x + v.toInt64
def s_d1 (g : Nat → Int32) (x : Int64) : Nat → Int64
  | 0 => x
  | k + 1 => s_m (s_d1 g x k) (s_cv g k)
def s_d2 (g : Nat → Int32) (p : Nat) (x : Int64) : Nat → Int64
  | 0 => x
  | k + 1 => s_m (s_d2 g p x k) (s_pv g p k)
def s_d3 (f : Nat → Int32) (x : Int64) : Nat → Int64
  | 0 => x
  | k + 1 => s_m (s_d3 f x k) (f k)
def s_d4 (g : Nat → Int32) (p : Nat) (x : Int64) : Nat → Int64
  | 0 => x
  | k + 1 => s_d3 (s_wd g p k) (s_m (s_d4 g p x k) (s_F g p k)) 8
def s_d5 (g : Nat → Int32) (x : Int64) : Nat → Int64
  | 0 => x
  | k + 1 => if g (6 + 2 * k) = nI 1 then s_d4 g k (s_d2 g k (s_m (s_d5 g x k) (nI k)) 5) 8 else s_d5 g x k
def s_d6 (g : Nat → Int32) (x : Int64) : Nat → Int64
  | 0 => x
  | k + 1 => s_m (s_d6 g x k) (s_ln g (nI k) 10)
def s_d7 (g : Nat → Int32) (x : Int64) : Nat → Int64
  | 0 => x
  | k + 1 => s_m (s_m (s_d7 g x k) (s_hv g k 0)) (s_hv g k 1)
def s_dg (g : Nat → Int32) : Int64 := s_m (s_m (s_d7 g (s_d6 g (s_d5 g (s_d1 g 432 9) 10) 5) 4) (s_lo g 10)) (s_rw g)
section DG
variable {L : Nat} {ps : List (Option (Option Nat))} {rest : List mj_K} {c : mj_C} {g : Nat → Int32} {R : Nat} {h : Nat → Nat → Int32}
theorem k_mixed {x y : Int64} : mj_EV 89 0 [some (.long x), none, some (.long y), none] [] (w_sh L ps rest) c = some (some (.long (31 * x + y)), w_sh L ps rest, c) := e89_0
theorem k_mixedPage {p : Nat} {x : Int64} (hp : p < 10) (hS : s_S c 3 g) (h1 : c 1 = w_fs) (hg : g (6 + 2 * p) = nI 1) : mj_EV 90 0 [some (.ref 2), some (.long x), none, some (.int (nI p)), none, none, none, none] [] (w_sh L ps rest) c = some (some (.long (s_d4 g p (s_d2 g p (s_m x (nI p)) 5) 8)), w_sh L ps rest, c) := by
  have k2 : ∀ n k : Nat, k + n = 5 → ∀ y, mj_EV 90 11 [some (.ref 2), some (.long x), none, some (.int (nI p)), some (.long (s_d2 g p y k)), none, some (.int (nI k)), none] [] (w_sh L ps rest) c = mj_EV 90 41 [some (.ref 2), some (.long x), none, some (.int (nI p)), some (.long (s_d2 g p y 5)), none, some (.int (nI 0)), none] [] (w_sh L ps rest) c := by
    intro n
    induction n with
    | zero =>
      intro k hk y
      rw [e90_11]
      simp (disch := omega) only [nI_leI]
      rw [if_pos (by omega), show k = 5 by omega]
    | succ n ih =>
      intro k hk y
      rw [e90_11]
      simp (disch := omega) only [nI_leI]
      rw [if_neg (by omega), k_page hp (by omega) hS h1 hg, mj_then_i, e90_26, k_mixed, mj_then_l, e90_30, nI_add k 1]
      exact ih (k + 1) (by omega) y
  have k3 : ∀ l, l < 8 → ∀ n k : Nat, k + n = 8 → ∀ y, ∃ o7, mj_EV 90 69 [some (.ref 2), some (.long x), none, some (.int (nI p)), some (.long (s_d3 (s_wd g p l) y k)), none, some (.int (nI l)), some (.int (nI k))] [] (w_sh L ps rest) c = mj_EV 90 41 [some (.ref 2), some (.long x), none, some (.int (nI p)), some (.long (s_d3 (s_wd g p l) y 8)), none, some (.int (nI (l + 1))), o7] [] (w_sh L ps rest) c := by
    intro l hl n
    induction n with
    | zero =>
      intro k hk y
      refine ⟨some (.int (nI k)), ?_⟩
      rw [e90_69]
      simp (disch := omega) only [nI_leI]
      rw [if_pos (by omega), show k = 8 by omega, nI_add l 1]
    | succ n ih =>
      intro k hk y
      obtain ⟨o7, e⟩ := ih (k + 1) (by omega) y
      refine ⟨o7, ?_⟩
      rw [e90_69]
      simp (disch := omega) only [nI_leI]
      rw [if_neg (by omega), k_wordOf hS hp hl (by omega) hg, mj_then_i, e90_90, k_mixed, mj_then_l, e90_94, nI_add k 1]
      exact e
  have k4 : ∀ n k : Nat, k + n = 8 → ∀ y o7, mj_EV 90 41 [some (.ref 2), some (.long x), none, some (.int (nI p)), some (.long (s_d4 g p y k)), none, some (.int (nI k)), o7] [] (w_sh L ps rest) c = some (some (.long (s_d4 g p y 8)), w_sh L ps rest, c) := by
    intro n
    induction n with
    | zero =>
      intro k hk y o7
      rw [e90_41]
      simp (disch := omega) only [nI_leI]
      rw [if_pos (by omega), show k = 8 by omega]
    | succ n ih =>
      intro k hk y o7
      obtain ⟨o8, e⟩ := k3 k (by omega) 8 0 (by omega) (s_m (s_d4 g p y k) (s_F g p k))
      rw [e90_41]
      simp (disch := omega) only [nI_leI]
      rw [if_neg (by omega), k_formOf hS hp (by omega) hg, mj_then_i, e90_60, k_mixed, mj_then_l, e90_64]
      exact e.trans (ih (k + 1) (by omega) y _)
  rw [e90_0, k_mixed, mj_then_l, e90_6]
  exact (k2 5 0 (by omega) (s_m x (nI p))).trans (k4 8 0 (by omega) _ _)
theorem k_digest (hS : s_S c 3 g) (h1 : c 1 = w_fs) : mj_EV 91 0 [some (.ref 2), none, none, none] [] (w_sh L ps rest) c = some (some (.long (s_dg g)), w_sh L ps rest, c) := by
  have k1 : ∀ n k : Nat, k + n = 9 → ∀ y, mj_EV 91 6 [some (.ref 2), some (.long (s_d1 g y k)), none, some (.int (nI k))] [] (w_sh L ps rest) c = mj_EV 91 31 [some (.ref 2), some (.long (s_d1 g y 9)), none, some (.int (nI 0))] [] (w_sh L ps rest) c := by
    intro n
    induction n with
    | zero =>
      intro k hk y
      rw [e91_6]
      simp (disch := omega) only [nI_leI]
      rw [if_pos (by omega), show k = 9 by omega]
    | succ n ih =>
      intro k hk y
      rw [e91_6]
      simp (disch := omega) only [nI_leI]
      rw [if_neg (by omega), k_count (by omega) hS h1, mj_then_i, e91_18, k_mixed, mj_then_l, e91_22, nI_add k 1]
      exact ih (k + 1) (by omega) y
  have k5 : ∀ n k : Nat, k + n = 10 → ∀ y, mj_EV 91 31 [some (.ref 2), some (.long (s_d5 g y k)), none, some (.int (nI k))] [] (w_sh L ps rest) c = mj_EV 91 63 [some (.ref 2), some (.long (s_d5 g y 10)), none, some (.int (nI 0))] [] (w_sh L ps rest) c := by
    intro n
    induction n with
    | zero =>
      intro k hk y
      rw [e91_31]
      simp (disch := omega) only [nI_leI]
      rw [if_pos (by omega), show k = 10 by omega]
    | succ n ih =>
      intro k hk y
      have e := ih (k + 1) (by omega) y
      rw [show s_d5 g y (k + 1) = if g (6 + 2 * k) = nI 1 then s_d4 g k (s_d2 g k (s_m (s_d5 g y k) (nI k)) 5) 8 else s_d5 g y k from rfl] at e
      rw [e91_31]
      simp (disch := omega) only [nI_leI]
      rw [if_neg (by omega), k_hasPage hS (by omega), mj_then_i, e91_45]
      by_cases q : g (6 + 2 * k) = nI 1
      · rw [if_pos q] at e ⊢
        rw [if_neg (by decide), k_mixedPage (by omega) hS h1 q, mj_then_l, e91_54, nI_add k 1]
        exact e
      · rw [if_neg q] at e ⊢
        rw [if_pos rfl, nI_add k 1]
        exact e
  have k6 : ∀ n k : Nat, k + n = 5 → ∀ y, mj_EV 91 63 [some (.ref 2), some (.long (s_d6 g y k)), none, some (.int (nI k))] [] (w_sh L ps rest) c = mj_EV 91 87 [some (.ref 2), some (.long (s_d6 g y 5)), none, some (.int (nI 0))] [] (w_sh L ps rest) c := by
    intro n
    induction n with
    | zero =>
      intro k hk y
      rw [e91_63]
      simp (disch := omega) only [nI_leI]
      rw [if_pos (by omega), show k = 5 by omega]
    | succ n ih =>
      intro k hk y
      rw [e91_63]
      simp (disch := omega) only [nI_leI]
      rw [if_neg (by omega), k_lines (by omega) hS, mj_then_i, e91_74, k_mixed, mj_then_l, e91_78, nI_add k 1]
      exact ih (k + 1) (by omega) y
  have k7 : ∀ n k : Nat, k + n = 4 → ∀ y, mj_EV 91 87 [some (.ref 2), some (.long (s_d7 g y k)), none, some (.int (nI k))] [] (w_sh L ps rest) c = some (some (.long (s_m (s_m (s_d7 g y 4) (s_lo g 10)) (s_rw g))), w_sh L ps rest, c) := by
    intro n
    induction n with
    | zero =>
      intro k hk y
      rw [e91_87]
      simp (disch := omega) only [nI_leI]
      rw [if_pos (by omega), k_loosest hS h1, mj_then_i, e91_125, k_mixed, mj_then_l, e91_129, k_rawLeft hS h1, mj_then_i, e91_133, k_mixed, mj_then_l, e91_137, show k = 4 by omega]
      rfl
    | succ n ih =>
      intro k hk y
      rw [e91_87]
      simp (disch := omega) only [nI_leI]
      rw [if_neg (by omega), k_hint (by omega) (by omega) hS, mj_then_i, e91_99, k_mixed, mj_then_l, e91_103, k_hint (by omega) (by omega) hS, mj_then_i, e91_109, k_mixed, mj_then_l, e91_113, nI_add k 1]
      exact ih (k + 1) (by omega) y
  rw [e91_0]
  exact (k1 9 0 (by omega) _).trans ((k5 10 0 (by omega) _).trans ((k6 5 0 (by omega) _).trans (k7 4 0 (by omega) _)))
theorem m_digest (hok : s_ok (c 53)) : mj_EV 166 0 [some (.ref 52), none, none, none, none, none] [] (w_al L ps) c = some (some (.long (s_dg (c 53))), w_al L ps, c) := by
  have k1 : ∀ n k : Nat, k + n = 9 → ∀ y, mj_EV 166 6 [some (.ref 52), some (.long (s_d1 (c 53) y k)), none, some (.int (nI k)), none, none] [] (w_al L ps) c = mj_EV 166 33 [some (.ref 52), some (.long (s_d1 (c 53) y 9)), none, some (.int (nI 0)), none, none] [] (w_al L ps) c := by
    intro n
    induction n with
    | zero =>
      intro k hk y
      rw [e166_6]
      simp (disch := omega) only [nI_ltI]
      rw [if_pos (by omega), show k = 9 by omega]
    | succ n ih =>
      intro k hk y
      rw [e166_6]
      simp (disch := omega) only [nI_ltI]
      rw [if_neg (by omega), m_countOf (by omega) hok, mj_then_i, e166_22, nI_add k 1]
      exact ih (k + 1) (by omega) y
  have k2 : ∀ p, p < 10 → ∀ n k : Nat, k + n = 5 → ∀ y o5, mj_EV 166 59 [some (.ref 52), some (.long (s_d2 (c 53) p y k)), none, some (.int (nI p)), some (.int (nI k)), o5] [] (w_al L ps) c = mj_EV 166 89 [some (.ref 52), some (.long (s_d2 (c 53) p y 5)), none, some (.int (nI p)), some (.int (nI 0)), o5] [] (w_al L ps) c := by
    intro p hp n
    induction n with
    | zero =>
      intro k hk y o5
      rw [e166_59]
      simp (disch := omega) only [nI_ltI]
      rw [if_pos (by omega), show k = 5 by omega]
    | succ n ih =>
      intro k hk y o5
      rw [e166_59]
      simp (disch := omega) only [nI_ltI]
      rw [if_neg (by omega), m_ofPage hp (by omega) hok, mj_then_i, e166_77, nI_add k 1]
      exact ih (k + 1) (by omega) y o5
  have k3 : ∀ p l, p < 10 → l < 8 → ∀ n k : Nat, k + n = 8 → ∀ y, ∃ o5, mj_EV 166 114 [some (.ref 52), some (.long (s_d3 (s_wd (c 53) p l) y k)), none, some (.int (nI p)), some (.int (nI l)), some (.int (nI k))] [] (w_al L ps) c = mj_EV 166 89 [some (.ref 52), some (.long (s_d3 (s_wd (c 53) p l) y 8)), none, some (.int (nI p)), some (.int (nI (l + 1))), o5] [] (w_al L ps) c := by
    intro p l hp hl n
    induction n with
    | zero =>
      intro k hk y
      refine ⟨some (.int (nI k)), ?_⟩
      rw [e166_114]
      simp (disch := omega) only [nI_leI]
      rw [if_pos (by omega), show k = 8 by omega, nI_add l 1]
    | succ n ih =>
      intro k hk y
      obtain ⟨o5, e⟩ := ih (k + 1) (by omega) y
      refine ⟨o5, ?_⟩
      rw [e166_114]
      simp (disch := omega) only [nI_leI]
      rw [if_neg (by omega), m_word hp hl (by omega), mj_then_i, e166_135, nI_add k 1]
      exact e
  have k4 : ∀ p, p < 10 → ∀ n k : Nat, k + n = 8 → ∀ y o5, ∃ o4 o6, mj_EV 166 89 [some (.ref 52), some (.long (s_d4 (c 53) p y k)), none, some (.int (nI p)), some (.int (nI k)), o5] [] (w_al L ps) c = mj_EV 166 33 [some (.ref 52), some (.long (s_d4 (c 53) p y 8)), none, some (.int (nI (p + 1))), o4, o6] [] (w_al L ps) c := by
    intro p hp n
    induction n with
    | zero =>
      intro k hk y o5
      refine ⟨some (.int (nI k)), o5, ?_⟩
      rw [e166_89]
      simp (disch := omega) only [nI_leI]
      rw [if_pos (by omega), show k = 8 by omega, nI_add p 1]
    | succ n ih =>
      intro k hk y o5
      obtain ⟨o8, e⟩ := k3 p k hp (by omega) 8 0 (by omega) (s_m (s_d4 (c 53) p y k) (s_F (c 53) p k))
      obtain ⟨o4, o6, e2⟩ := ih (k + 1) (by omega) y o8
      refine ⟨o4, o6, ?_⟩
      rw [e166_89]
      simp (disch := omega) only [nI_leI]
      rw [if_neg (by omega), m_formOf hp (by omega) hok, mj_then_i, e166_108]
      exact e.trans e2
  have k5 : ∀ n k : Nat, k + n = 10 → ∀ y o4 o5, ∃ o6 o7, mj_EV 166 33 [some (.ref 52), some (.long (s_d5 (c 53) y k)), none, some (.int (nI k)), o4, o5] [] (w_al L ps) c = mj_EV 166 158 [some (.ref 52), some (.long (s_d5 (c 53) y 10)), none, some (.int (nI 0)), o6, o7] [] (w_al L ps) c := by
    intro n
    induction n with
    | zero =>
      intro k hk y o4 o5
      refine ⟨o4, o5, ?_⟩
      rw [e166_33]
      simp (disch := omega) only [nI_leI]
      rw [if_pos (by omega), show k = 10 by omega]
    | succ n ih =>
      intro k hk y o4 o5
      by_cases q : c 53 (6 + 2 * k) = nI 1
      · have e5 : s_d5 (c 53) y (k + 1) = s_d4 (c 53) k (s_d2 (c 53) k (s_m (s_d5 (c 53) y k) (nI k)) 5) 8 := if_pos q
        obtain ⟨o6, o7, e1⟩ := k4 k (by omega) 8 0 (by omega) (s_d2 (c 53) k (s_m (s_d5 (c 53) y k) (nI k)) 5) o5
        obtain ⟨a, b, e2⟩ := ih (k + 1) (by omega) y o6 o7
        rw [e5] at e2
        refine ⟨a, b, ?_⟩
        rw [e166_33]
        simp (disch := omega) only [nI_leI]
        rw [if_neg (by omega), m_isPage (by omega), if_pos q, mj_then_i, e166_44, if_neg (by decide)]
        exact (k2 k (by omega) 5 0 (by omega) (s_m (s_d5 (c 53) y k) (nI k)) o5).trans (e1.trans e2)
      · have e5 : s_d5 (c 53) y (k + 1) = s_d5 (c 53) y k := if_neg q
        obtain ⟨a, b, e2⟩ := ih (k + 1) (by omega) y o4 o5
        rw [e5] at e2
        refine ⟨a, b, ?_⟩
        rw [e166_33]
        simp (disch := omega) only [nI_leI]
        rw [if_neg (by omega), m_isPage (by omega), if_neg q, mj_then_i, e166_44, if_pos rfl, nI_add k 1]
        exact e2
  have k6 : ∀ n k : Nat, k + n = 5 → ∀ y o4 o5, mj_EV 166 158 [some (.ref 52), some (.long (s_d6 (c 53) y k)), none, some (.int (nI k)), o4, o5] [] (w_al L ps) c = mj_EV 166 184 [some (.ref 52), some (.long (s_d6 (c 53) y 5)), none, some (.int (nI 0)), o4, o5] [] (w_al L ps) c := by
    intro n
    induction n with
    | zero =>
      intro k hk y o4 o5
      rw [e166_158]
      simp (disch := omega) only [nI_ltI]
      rw [if_pos (by omega), show k = 5 by omega]
    | succ n ih =>
      intro k hk y o4 o5
      rw [e166_158]
      simp (disch := omega) only [nI_ltI]
      rw [if_neg (by omega), m_linesOf hok, mj_then_i, e166_173, nI_add k 1]
      exact ih (k + 1) (by omega) y o4 o5
  have k7 : ∀ n k : Nat, k + n = 4 → ∀ y o4 o5, mj_EV 166 184 [some (.ref 52), some (.long (s_d7 (c 53) y k)), none, some (.int (nI k)), o4, o5] [] (w_al L ps) c = some (some (.long (s_m (s_m (s_d7 (c 53) y 4) (s_lo (c 53) 10)) (s_rw (c 53)))), w_al L ps, c) := by
    intro n
    induction n with
    | zero =>
      intro k hk y o4 o5
      rw [e166_184]
      simp (disch := omega) only [nI_leI]
      rw [if_pos (by omega), m_findLoosest hok, mj_then_i, e166_232, m_rawLeft hok, mj_then_i, e166_244, show k = 4 by omega]
      rfl
    | succ n ih =>
      intro k hk y o4 o5
      rw [e166_184]
      simp (disch := omega) only [nI_leI]
      rw [if_neg (by omega), m_ofHint (by omega) (by omega), mj_then_i, e166_200, m_ofHint (by omega) (by omega), mj_then_i, e166_214, nI_add k 1]
      exact ih (k + 1) (by omega) y o4 o5
  obtain ⟨o4, o5, e5⟩ := k5 10 0 (by omega) (s_d1 (c 53) 432 9) none none
  rw [e166_0]
  exact (k1 9 0 (by omega) _).trans (e5.trans ((k6 5 0 (by omega) _ _ _).trans (k7 4 0 (by omega) _ _ _)))
end DG
