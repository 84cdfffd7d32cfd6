/-! PAIRS: the class and the reference answer alike -/
def s_T (c : mj_C) : Prop := ∃ T, T ≤ 80 ∧ c 2 6 = nI T ∧ c 52 5 = nI T ∧ ∀ i, i < T → ∃ v, 33 ≤ v ∧ v ≤ 126 ∧ c 51 i = nI v ∧ c 56 i = nI v
def s_V (ps : List (Option (Option Nat))) (c : mj_C) : Prop := ∃ g R h, s_I ps c g R h ∧ s_M c g R h ∧ s_T c
def s_P (L : Nat) (c : mj_C) (A : Option (Option Value × List mj_K × mj_C)) (B : List (Option (Option Nat)) → mj_C → Option (Option Value × List mj_K × mj_C)) : Prop := ∃ x ps' c1 c2, A = some (some (.int x), w_sh L ps' w_mo, c1) ∧ B ps' c1 = some (some (.int x), w_al L ps', c2) ∧ s_V ps' c2 ∧ c2 0 = c 0 ∧ c1 0 = c 0
theorem s_T_Fo {c c1 : mj_C} (hT : s_T c) (hF : s_Fo c c1) : s_T c1 := by
  unfold s_T
  rw [hF 2 (by omega), hF 52 (by omega), hF 51 (by omega), hF 56 (by omega)]
  exact hT
theorem s_T_Fr {c c1 : mj_C} (hT : s_T c) (hF : s_Fr c c1) : s_T c1 := by
  unfold s_T
  rw [hF.1 2 (by omega), hF.2.2 5 (by omega), hF.1 51 (by omega), hF.2.1]
  exact hT
section PR1
variable {L : Nat} {ps : List (Option (Option Nat))} {c : mj_C} {g : Nat → Int32} {R : Nat} {h : Nat → Nat → Int32} {A : Option (Option Value × List mj_K × mj_C)} {B : List (Option (Option Nat)) → mj_C → Option (Option Value × List mj_K × mj_C)} {x : Int32}
theorem p_do {g' : Nat → Int32} {R' : Nat} {h' : Nat → Nat → Int32} (hM : s_M c g R h) (hT : s_T c) (hA : ∃ ps' c', A = some (some (.int x), w_sh L ps' w_mo, c') ∧ s_I ps' c' g' R' h' ∧ s_Fo c c') (hB : ∀ ps' c1, s_M c1 g R h → ∃ c2, B ps' c1 = some (some (.int x), w_al L ps', c2) ∧ s_M c2 g' R' h' ∧ s_Fr c1 c2) : s_P L c A B := by
  obtain ⟨ps', c1, eA, hI1, hF1⟩ := hA
  obtain ⟨c2, eB, hM2, hF2⟩ := hB ps' c1 (s_M_own hM (fun b hb => hF1 b (by omega)))
  exact ⟨x, ps', c1, c2, eA, eB, ⟨g', R', h', s_I_congr hI1 (fun b hb => hF2.1 b (by omega)), hM2, s_T_Fr (s_T_Fo hT hF1) hF2⟩, by rw [hF2.1 0 (by omega), hF1 0 (by omega)], hF1 0 (by omega)⟩
theorem p_ch {g' : Nat → Int32} {no : Prop} (hM : s_M c g R h) (hT : s_T c) (hA : s_cc L w_mo ps c A g R h no x g') (hB : ∀ ps' c1, s_M c1 g R h → s_ch L ps' c1 (B ps' c1) g R h no x g') : s_P L c A B := by
  by_cases q : no
  · obtain ⟨c', e, h1, h2⟩ := hA.1 q
    exact p_do hM hT ⟨ps, c', e, h1, h2⟩ (fun ps' c1 h1 => (hB ps' c1 h1).1 q)
  · exact p_do hM hT (hA.2 q) (fun ps' c1 h1 => (hB ps' c1 h1).2 q)
theorem p_rd (hI : s_I ps c g R h) (hM : s_M c g R h) (hT : s_T c) (hA : A = some (some (.int x), w_sh L ps w_mo, c)) (hB : ∀ ps' c1, c1 53 = g → B ps' c1 = some (some (.int x), w_al L ps', c1)) : s_P L c A B :=
  p_do hM hT ⟨ps, c, hA, hI, s_Fo_r c⟩ (fun ps' c1 h1 => ⟨c1, hB ps' c1 h1.1, h1, s_Fr_r c1⟩)
theorem s_gt_of {x : Int32} {n : Nat} (hn : n + 1 < 2 ^ 31) (h1 : ¬ x < nI 0) (h : x < nI 0 ∨ nI (n + 1) ≤ x) : nI n < x := (s_lt_le hn).mp (h.resolve_left h1)
theorem p_setRoom {x : Int32} (hI : s_I ps c g R h) (hM : s_M c g R h) (hT : s_T c) : s_P L c (mj_EV 22 0 [some (.ref 2), some (.int x), none, none] [] (w_sh L ps w_mo) c) (fun ps' c1 => mj_EV 123 0 [some (.ref 52), some (.int x), none, none, none] [] (w_al L ps') c1) := by
  rcases s_rg x (n := 9) (by decide) with ⟨r, hr, rfl⟩ | q
  · have hA := k_setRoom (L := L) (rest := w_mo) hr hI
    rw [← s_sw_sum 10 (by omega)] at hA
    exact p_ch hM hT hA (fun ps' c1 h1 => m_setRoom hr h1 (s_S_ok hI.2.1))
  · refine p_rd (x := -2) hI hM hT ?_ (fun ps' c1 h1 => ?_)
    · have e : mj_EV 5 0 [some (.int x)] [] (w_sh L ps w_mo) c = some (some (.int (nI 0)), w_sh L ps w_mo, c) := by
        rw [e5_0]
        by_cases q1 : x < nI 0
        · rw [if_pos q1]
        · rw [if_neg q1, if_pos (s_gt_of (by decide) q1 q)]
      rw [e22_0, e, mj_then_i, e22_4, if_pos rfl]
    · rw [e123_0, m_withinN (n := 9) rfl (by decide) q (by decide), mj_then_i, e123_7, if_pos rfl]
theorem p_setBound {x : Int32} (hI : s_I ps c g R h) (hM : s_M c g R h) (hT : s_T c) : s_P L c (mj_EV 23 0 [some (.ref 2), some (.int x), none] [] (w_sh L ps w_mo) c) (fun ps' c1 => mj_EV 124 0 [some (.ref 52), some (.int x), none] [] (w_al L ps') c1) := by
  rcases s_rg x (n := 1000) (by decide) with ⟨b, hb, rfl⟩ | q
  · by_cases q : 20 ≤ b
    · exact p_do hM hT (k_setBound q (by omega) hI) (fun ps' c1 h1 => m_setBound q (by omega) h1)
    · refine p_rd (x := -2) hI hM hT ?_ (fun ps' c1 h1 => ?_)
      · rw [e23_0]
        simp (disch := omega) only [nI_ltI]
        rw [if_pos (by omega)]
      · rw [e124_0, m_within (by omega) (by omega) (by omega), if_neg (by omega), mj_then_i, e124_9, if_pos rfl]
  · refine p_rd (x := -2) hI hM hT ?_ (fun ps' c1 h1 => ?_)
    · rw [e23_0]
      by_cases q1 : x < nI 20
      · rw [if_pos q1]
      · have q0 : ¬ x < nI 0 := by
          intro z
          apply q1
          rw [Int32.lt_iff_toInt_lt, nI_toInt (by decide)] at z ⊢
          omega
        rw [if_neg q1, if_neg (Int32.not_le.mpr (s_gt_of (by decide) q0 q))]
    · rw [e124_0, m_withinN (n := 1000) rfl (by decide) q (by decide), mj_then_i, e124_9, if_pos rfl]
theorem s_first (g : Nat → Int32) : ∀ n, (∀ j, j < n → g (6 + 2 * j) = nI 1) ∨ ∃ P, P < n ∧ ¬ g (6 + 2 * P) = nI 1 ∧ ∀ j, j < P → g (6 + 2 * j) = nI 1 := by
  intro n
  induction n with
  | zero => exact Or.inl fun j hj => by omega
  | succ n ih =>
    rcases ih with h1 | ⟨P, h1, h2, h3⟩
    · by_cases q : g (6 + 2 * n) = nI 1
      · refine Or.inl fun j hj => ?_
        by_cases q2 : j = n
        · rw [q2]; exact q
        · exact h1 j (by omega)
      · exact Or.inr ⟨n, by omega, q, h1⟩
    · exact Or.inr ⟨P, by omega, h2, h3⟩
theorem p_newPage (hI : s_I ps c g R h) (hM : s_M c g R h) (hT : s_T c) : s_P L c (mj_EV 29 0 [some (.ref 2), none] [] (w_sh L ps w_mo) c) (fun ps' c1 => mj_EV 125 0 [some (.ref 52), none] [] (w_al L ps') c1) := by
  rcases s_first g 10 with h1 | ⟨P, hP, h2, h3⟩
  · exact p_do hM hT ⟨ps, c, k_newPage_full hI h1, hI, s_Fo_r c⟩ (fun ps' c1 hM1 => ⟨c1, m_newPage_full hM1 h1, hM1, s_Fr_r c1⟩)
  · exact p_ch hM hT (k_newPage hP hI h3 h2) (fun ps' c1 hM1 => m_newPage hP hM1 (s_S_ok hI.2.1) h3 h2)
theorem p_free {x : Int32} (hI : s_I ps c g R h) (hM : s_M c g R h) (hT : s_T c) : s_P L c (mj_EV 31 0 [some (.ref 2), some (.int x), none] [] (w_sh L ps w_mo) c) (fun ps' c1 => mj_EV 126 0 [some (.ref 52), some (.int x), none, none] [] (w_al L ps') c1) := by
  by_cases q : s_pg g x
  · obtain ⟨P, hP, rfl, hg⟩ := q
    exact p_do hM hT (k_free hP hI hg) (fun ps' c1 h1 => m_free hP h1 (s_S_ok hI.2.1) hg)
  · refine p_rd (x := -1) hI hM hT ?_ (fun ps' c1 h1 => ?_)
    · rw [e31_0, k_hasPage_n hI.2.1 q, mj_then_i, e31_8, if_pos rfl]
    · subst h1
      rw [e126_0, m_isPage_n q, mj_then_i, e126_5, if_pos rfl]
theorem p_layAnew {x : Int32} (hI : s_I ps c g R h) (hM : s_M c g R h) (hT : s_T c) : s_P L c (mj_EV 32 0 [some (.ref 2), some (.int x), none] [] (w_sh L ps w_mo) c) (fun ps' c1 => mj_EV 127 0 [some (.ref 52), some (.int x), none] [] (w_al L ps') c1) := by
  by_cases q : s_pg g x
  · obtain ⟨P, hP, rfl, hg⟩ := q
    exact p_do hM hT (k_layAnew hP hI hg) (fun ps' c1 h1 => m_layAnew hP h1 (s_S_ok hI.2.1) hg)
  · refine p_rd (x := -1) hI hM hT ?_ (fun ps' c1 h1 => ?_)
    · rw [e32_0, k_hasPage_n hI.2.1 q, mj_then_i, e32_8, if_pos rfl]
    · subst h1
      rw [e127_0, m_isPage_n q, mj_then_i, e127_5, if_pos rfl]
theorem p_layAll (hI : s_I ps c g R h) (hM : s_M c g R h) (hT : s_T c) : s_P L c (mj_EV 33 0 [some (.ref 2), none, none] [] (w_sh L ps w_mo) c) (fun ps' c1 => mj_EV 129 0 [some (.ref 52), none] [] (w_al L ps') c1) :=
  p_do hM hT (k_layAll hI) (fun ps' c1 h1 => m_layAllAnew h1 (s_S_ok hI.2.1))
theorem p_write {x y z w : Int32} (hI : s_I ps c g R h) (hM : s_M c g R h) (hT : s_T c) : s_P L c (mj_EV 48 0 [some (.ref 2), some (.int x), some (.int y), some (.int z), some (.int w)] [] (w_sh L ps w_mo) c) (fun ps' c1 => mj_EV 131 0 [some (.ref 52), some (.int x), some (.int y), some (.int z), some (.int w)] [] (w_al L ps') c1) := by
  by_cases q : s_li g x y
  · obtain ⟨P, l, hP, hl, rfl, rfl, hg⟩ := q
    rcases s_rg z (n := 8) (by decide) with ⟨k, hk, rfl⟩ | q2
    · rcases s_rg w (n := 65536) (by decide) with ⟨v, hv, rfl⟩ | q3
      · exact p_ch hM hT (k_write hP hl hk hv hI hg) (fun ps' c1 h1 => m_write hP hl hk hv h1 (s_S_ok hI.2.1) hg)
      · refine p_rd (x := -2) hI hM hT ?_ (fun ps' c1 h1 => ?_)
        · rw [e48_0, k_hasLine_y hI.2.1 hP hl hg, mj_then_i, e48_9, if_neg (by decide), k_isWord_y hk, mj_then_i, e48_16, if_neg (by decide), k_isValue_n q3, mj_then_i, e48_26, if_pos rfl]
        · subst h1
          rw [e131_0, m_isLine_y hP hl hg, mj_then_i, e131_6, if_neg (by decide), m_isOne_y hk, mj_then_i, e131_13, if_neg (by decide), m_withinN (n := 65536) rfl (by decide) q3 (by decide), mj_then_i, e131_26, if_pos rfl]
    · refine p_rd (x := -1) hI hM hT ?_ (fun ps' c1 h1 => ?_)
      · rw [e48_0, k_hasLine_y hI.2.1 hP hl hg, mj_then_i, e48_9, if_neg (by decide), k_isWord_n q2, mj_then_i, e48_16, if_pos rfl]
      · subst h1
        rw [e131_0, m_isLine_y hP hl hg, mj_then_i, e131_6, if_neg (by decide), m_isOne_n q2, mj_then_i, e131_13, if_pos rfl]
  · refine p_rd (x := -1) hI hM hT ?_ (fun ps' c1 h1 => ?_)
    · rw [e48_0, k_hasLine_n hI.2.1 q, mj_then_i, e48_9, if_pos rfl]
    · subst h1
      rw [e131_0, m_isLine_n q, mj_then_i, e131_6, if_pos rfl]
theorem p_fill {x y w : Int32} (hI : s_I ps c g R h) (hM : s_M c g R h) (hT : s_T c) : s_P L c (mj_EV 49 0 [some (.ref 2), some (.int x), some (.int y), some (.int w)] [] (w_sh L ps w_mo) c) (fun ps' c1 => mj_EV 132 0 [some (.ref 52), some (.int x), some (.int y), some (.int w), none] [] (w_al L ps') c1) := by
  by_cases q : s_li g x y
  · obtain ⟨P, l, hP, hl, rfl, rfl, hg⟩ := q
    rcases s_rg w (n := 65536) (by decide) with ⟨v, hv, rfl⟩ | q3
    · exact p_ch hM hT (k_fill hP hl hv hI hg) (fun ps' c1 h1 => m_fill hP hl hv h1 (s_S_ok hI.2.1) hg)
    · refine p_rd (x := -2) hI hM hT ?_ (fun ps' c1 h1 => ?_)
      · rw [e49_0, k_hasLine_y hI.2.1 hP hl hg, mj_then_i, e49_9, if_neg (by decide), k_isValue_n q3, mj_then_i, e49_18, if_pos rfl]
      · subst h1
        rw [e132_0, m_isLine_y hP hl hg, mj_then_i, e132_6, if_neg (by decide), m_withinN (n := 65536) rfl (by decide) q3 (by decide), mj_then_i, e132_18, if_pos rfl]
  · refine p_rd (x := -1) hI hM hT ?_ (fun ps' c1 h1 => ?_)
    · rw [e49_0, k_hasLine_n hI.2.1 q, mj_then_i, e49_9, if_pos rfl]
    · subst h1
      rw [e132_0, m_isLine_n q, mj_then_i, e132_6, if_pos rfl]
theorem p_add {x y w : Int32} (hI : s_I ps c g R h) (hM : s_M c g R h) (hT : s_T c) : s_P L c (mj_EV 51 0 [some (.ref 2), some (.int x), some (.int y), some (.int w), none] [] (w_sh L ps w_mo) c) (fun ps' c1 => mj_EV 133 0 [some (.ref 52), some (.int x), some (.int y), some (.int w), none] [] (w_al L ps') c1) := by
  by_cases q : s_li g x y
  · obtain ⟨P, l, hP, hl, rfl, rfl, hg⟩ := q
    by_cases q1 : w < (-65535)
    · refine p_rd (x := -2) hI hM hT ?_ (fun ps' c1 h1 => ?_)
      · rw [e51_0, k_hasLine_y hI.2.1 hP hl hg, mj_then_i, e51_9, if_neg (by decide), if_pos q1]
      · subst h1
        rw [e133_0, m_isLine_y hP hl hg, mj_then_i, e133_6, if_neg (by decide), e93_0, if_pos q1, mj_then_i, e133_19, if_pos rfl]
    · by_cases q2 : w ≤ nI 65535
      · exact p_ch hM hT (k_add hP hl (Int32.not_lt.mp q1) q2 hI hg) (fun ps' c1 h1 => m_add hP hl (Int32.not_lt.mp q1) q2 h1 (s_S_ok hI.2.1) hg)
      · refine p_rd (x := -2) hI hM hT ?_ (fun ps' c1 h1 => ?_)
        · rw [e51_0, k_hasLine_y hI.2.1 hP hl hg, mj_then_i, e51_9, if_neg (by decide), if_neg q1, if_neg q2]
        · subst h1
          rw [e133_0, m_isLine_y hP hl hg, mj_then_i, e133_6, if_neg (by decide), e93_0, if_neg q1, if_pos (Int32.not_le.mp q2), mj_then_i, e133_19, if_pos rfl]
  · refine p_rd (x := -1) hI hM hT ?_ (fun ps' c1 h1 => ?_)
    · rw [e51_0, k_hasLine_n hI.2.1 q, mj_then_i, e51_9, if_pos rfl]
    · subst h1
      rw [e133_0, m_isLine_n q, mj_then_i, e133_6, if_pos rfl]
theorem p_copy {x y z w : Int32} (hI : s_I ps c g R h) (hM : s_M c g R h) (hT : s_T c) : s_P L c (mj_EV 52 0 [some (.ref 2), some (.int x), some (.int y), some (.int z), some (.int w)] [] (w_sh L ps w_mo) c) (fun ps' c1 => mj_EV 134 0 [some (.ref 52), some (.int x), some (.int y), some (.int z), some (.int w)] [] (w_al L ps') c1) := by
  by_cases q : s_li g x y
  · obtain ⟨P, l, hP, hl, rfl, rfl, hg⟩ := q
    by_cases q1 : s_li g z w
    · obtain ⟨P', l', hP', hl', rfl, rfl, hg'⟩ := q1
      exact p_ch hM hT (k_copy hP hl hg hP' hl' hg' hI) (fun ps' c1 h1 => m_copy hP hl hg hP' hl' hg' h1 (s_S_ok hI.2.1))
    · refine p_rd (x := -1) hI hM hT ?_ (fun ps' c1 h1 => ?_)
      · rw [e52_0, k_hasLine_y hI.2.1 hP hl hg, mj_then_i, e52_9, if_neg (by decide), k_hasLine_n hI.2.1 q1, mj_then_i, e52_22, if_pos rfl]
      · subst h1
        rw [e134_0, m_isLine_y hP hl hg, mj_then_i, e134_6, if_neg (by decide), m_isLine_n q1, mj_then_i, e134_16, if_pos rfl]
  · refine p_rd (x := -1) hI hM hT ?_ (fun ps' c1 h1 => ?_)
    · rw [e52_0, k_hasLine_n hI.2.1 q, mj_then_i, e52_9, if_pos rfl]
    · subst h1
      rw [e134_0, m_isLine_n q, mj_then_i, e134_6, if_pos rfl]
theorem p_look {x y z : Int32} (hI : s_I ps c g R h) (hM : s_M c g R h) (hT : s_T c) : s_P L c (mj_EV 57 0 [some (.ref 2), some (.int x), some (.int y), some (.int z)] [] (w_sh L ps w_mo) c) (fun ps' c1 => mj_EV 135 0 [some (.ref 52), some (.int x), some (.int y), some (.int z), none, none, none] [] (w_al L ps') c1) := by
  by_cases q : s_li g x y
  · obtain ⟨P, l, hP, hl, rfl, rfl, hg⟩ := q
    rcases s_rg z (n := 8) (by decide) with ⟨k, hk, rfl⟩ | q2
    · by_cases q3 : s_hit g P l
      · exact p_do hM hT ((k_look hP hl hk hI hg).1 q3) (fun ps' c1 h1 => (m_look hP hl hk h1 (s_S_ok hI.2.1) hg).1 q3)
      · exact p_do hM hT ((k_look hP hl hk hI hg).2 q3) (fun ps' c1 h1 => (m_look hP hl hk h1 (s_S_ok hI.2.1) hg).2 q3)
    · refine p_rd (x := -1) hI hM hT ?_ (fun ps' c1 h1 => ?_)
      · rw [e57_0, k_hasLine_y hI.2.1 hP hl hg, mj_then_i, e57_9, if_neg (by decide), k_isWord_n q2, mj_then_i, e57_16, if_pos rfl]
      · subst h1
        rw [e135_0, m_isLine_y hP hl hg, mj_then_i, e135_6, if_neg (by decide), m_isOne_n q2, mj_then_i, e135_13, if_pos rfl]
  · refine p_rd (x := -1) hI hM hT ?_ (fun ps' c1 h1 => ?_)
    · rw [e57_0, k_hasLine_n hI.2.1 q, mj_then_i, e57_9, if_pos rfl]
    · subst h1
      rw [e135_0, m_isLine_n q, mj_then_i, e135_6, if_pos rfl]
theorem p_peek {x y z : Int32} (hI : s_I ps c g R h) (hM : s_M c g R h) (hT : s_T c) : s_P L c (mj_EV 61 0 [some (.ref 2), some (.int x), some (.int y), some (.int z)] [] (w_sh L ps w_mo) c) (fun ps' c1 => mj_EV 139 0 [some (.ref 52), some (.int x), some (.int y), some (.int z)] [] (w_al L ps') c1) := by
  by_cases q : s_li g x y
  · obtain ⟨P, l, hP, hl, rfl, rfl, hg⟩ := q
    rcases s_rg z (n := 8) (by decide) with ⟨k, hk, rfl⟩ | q2
    · refine p_rd (x := s_wd g P l k) hI hM hT ?_ (fun ps' c1 h1 => ?_)
      · rw [e61_0, k_hasLine_y hI.2.1 hP hl hg, mj_then_i, e61_9, if_neg (by decide), k_isWord_y hk, mj_then_i, e61_16, if_neg (by decide), k_wordOf hI.2.1 hP hl hk hg, mj_then_i, e61_31]
      · subst h1
        rw [e139_0, m_isLine_y hP hl hg, mj_then_i, e139_6, if_neg (by decide), m_isOne_y hk, mj_then_i, e139_13, if_neg (by decide), m_word hP hl hk, mj_then_i, e139_23]
    · refine p_rd (x := -1) hI hM hT ?_ (fun ps' c1 h1 => ?_)
      · rw [e61_0, k_hasLine_y hI.2.1 hP hl hg, mj_then_i, e61_9, if_neg (by decide), k_isWord_n q2, mj_then_i, e61_16, if_pos rfl]
      · subst h1
        rw [e139_0, m_isLine_y hP hl hg, mj_then_i, e139_6, if_neg (by decide), m_isOne_n q2, mj_then_i, e139_13, if_pos rfl]
  · refine p_rd (x := -1) hI hM hT ?_ (fun ps' c1 h1 => ?_)
    · rw [e61_0, k_hasLine_n hI.2.1 q, mj_then_i, e61_9, if_pos rfl]
    · subst h1
      rw [e139_0, m_isLine_n q, mj_then_i, e139_6, if_pos rfl]
theorem p_lines {x : Int32} (hI : s_I ps c g R h) (hM : s_M c g R h) (hT : s_T c) : s_P L c (mj_EV 64 0 [some (.ref 2), some (.int x), none, none, none] [] (w_sh L ps w_mo) c) (fun ps' c1 => mj_EV 145 0 [some (.ref 52), some (.int x)] [] (w_al L ps') c1) := by
  rcases s_rg x (n := 5) (by decide) with ⟨k, hk, rfl⟩ | q
  · refine p_rd hI hM hT (k_lines hk hI.2.1) (fun ps' c1 h1 => ?_)
    subst h1
    rw [e145_0, m_withinY (by omega) (by omega) (by omega), mj_then_i, e145_6, if_neg (by decide), m_linesOf (s_S_ok hI.2.1), mj_then_i, e145_14]
  · refine p_rd (x := -2) hI hM hT ?_ (fun ps' c1 h1 => ?_)
    · rw [e64_0]
      by_cases q1 : x < nI 0
      · rw [if_pos q1]
      · rw [if_neg q1, if_neg (Int32.not_lt.mpr (q.resolve_left q1))]
    · rw [e145_0, m_withinN (n := 5) rfl (by decide) q (by decide), mj_then_i, e145_6, if_pos rfl]
theorem p_equal {x y : Int32} (hI : s_I ps c g R h) (hM : s_M c g R h) (hT : s_T c) : s_P L c (mj_EV 67 0 [some (.ref 2), some (.int x), some (.int y), none, none, none] [] (w_sh L ps w_mo) c) (fun ps' c1 => mj_EV 148 0 [some (.ref 52), some (.int x), some (.int y), none, none, none, none, none] [] (w_al L ps') c1) := by
  by_cases q : s_li g x y
  · obtain ⟨P, l, hP, hl, rfl, rfl, hg⟩ := q
    refine p_rd hI hM hT (k_equal hI.2.1 hP hl hg) (fun ps' c1 h1 => ?_)
    subst h1
    exact m_equal hP hl hg
  · refine p_rd (x := -1) hI hM hT ?_ (fun ps' c1 h1 => ?_)
    · rw [e67_0, k_hasLine_n hI.2.1 q, mj_then_i, e67_9, if_pos rfl]
    · subst h1
      rw [e148_0, m_isLine_n q, mj_then_i, e148_6, if_pos rfl]
theorem p_ifWritten {x y z w : Int32} (hI : s_I ps c g R h) (hM : s_M c g R h) (hT : s_T c) : s_P L c (mj_EV 68 0 [some (.ref 2), some (.int x), some (.int y), some (.int z), some (.int w)] [] (w_sh L ps w_mo) c) (fun ps' c1 => mj_EV 149 0 [some (.ref 52), some (.int x), some (.int y), some (.int z), some (.int w)] [] (w_al L ps') c1) := by
  by_cases q : s_li g x y
  · obtain ⟨P, l, hP, hl, rfl, rfl, hg⟩ := q
    rcases s_rg z (n := 8) (by decide) with ⟨k, hk, rfl⟩ | q2
    · rcases s_rg w (n := 65536) (by decide) with ⟨v, hv, rfl⟩ | q3
      · obtain ⟨c', e, h1, h2⟩ := k_ifWritten (L := L) (rest := w_mo) hP hl hk hv hI hg
        exact p_do hM hT ⟨ps, c', e, h1, h2⟩ (fun ps' c1 h1 => m_ifWritten hP hl hk hv h1 (s_S_ok hI.2.1) hg)
      · refine p_rd (x := -2) hI hM hT ?_ (fun ps' c1 h1 => ?_)
        · rw [e68_0, k_hasLine_y hI.2.1 hP hl hg, mj_then_i, e68_9, if_neg (by decide), k_isWord_y hk, mj_then_i, e68_16, if_neg (by decide), k_isValue_n q3, mj_then_i, e68_26, if_pos rfl]
        · subst h1
          rw [e149_0, m_isLine_y hP hl hg, mj_then_i, e149_6, if_neg (by decide), m_isOne_y hk, mj_then_i, e149_13, if_neg (by decide), m_withinN (n := 65536) rfl (by decide) q3 (by decide), mj_then_i, e149_26, if_pos rfl]
    · refine p_rd (x := -1) hI hM hT ?_ (fun ps' c1 h1 => ?_)
      · rw [e68_0, k_hasLine_y hI.2.1 hP hl hg, mj_then_i, e68_9, if_neg (by decide), k_isWord_n q2, mj_then_i, e68_16, if_pos rfl]
      · subst h1
        rw [e149_0, m_isLine_y hP hl hg, mj_then_i, e149_6, if_neg (by decide), m_isOne_n q2, mj_then_i, e149_13, if_pos rfl]
  · refine p_rd (x := -1) hI hM hT ?_ (fun ps' c1 h1 => ?_)
    · rw [e68_0, k_hasLine_n hI.2.1 q, mj_then_i, e68_9, if_pos rfl]
    · subst h1
      rw [e149_0, m_isLine_n q, mj_then_i, e149_6, if_pos rfl]
theorem p_ifRoom {x : Int32} (hI : s_I ps c g R h) (hM : s_M c g R h) (hT : s_T c) : s_P L c (mj_EV 69 0 [some (.ref 2), some (.int x), none, none] [] (w_sh L ps w_mo) c) (fun ps' c1 => mj_EV 150 0 [some (.ref 52), some (.int x), none] [] (w_al L ps') c1) := by
  rcases s_rg x (n := 9) (by decide) with ⟨r, hr, rfl⟩ | q
  · refine p_do hM hT ⟨ps, c, ?_, hI, s_Fo_r c⟩ (fun ps' c1 h1 => m_ifRoom hr h1 (s_S_ok hI.2.1))
    have e : mj_EV 5 0 [some (.int (nI r))] [] (w_sh L ps w_mo) c = some (some (.int (nI 1)), w_sh L ps w_mo, c) := by
      rw [e5_0]
      simp (disch := omega) only [nI_ltI]
      rw [if_neg (by omega), if_neg (by omega)]
    rw [e69_0, e, mj_then_i, e69_4, if_neg (by decide), k_ifRoomLoop hI.2.1 hI.1 (by omega), s_sa_sum 10 (by omega)]
  · refine p_rd (x := -2) hI hM hT ?_ (fun ps' c1 h1 => ?_)
    · have e : mj_EV 5 0 [some (.int x)] [] (w_sh L ps w_mo) c = some (some (.int (nI 0)), w_sh L ps w_mo, c) := by
        rw [e5_0]
        by_cases q1 : x < nI 0
        · rw [if_pos q1]
        · rw [if_neg q1, if_pos (s_gt_of (by decide) q1 q)]
      rw [e69_0, e, mj_then_i, e69_4, if_pos rfl]
    · rw [e150_0, m_withinN (n := 9) rfl (by decide) q (by decide), mj_then_i, e150_7, if_pos rfl]
theorem p_loosest (hI : s_I ps c g R h) (hM : s_M c g R h) (hT : s_T c) : s_P L c (mj_EV 70 0 [some (.ref 2), none, none, none, none] [] (w_sh L ps w_mo) c) (fun ps' c1 => mj_EV 152 0 [some (.ref 52)] [] (w_al L ps') c1) := by
  refine p_rd hI hM hT (k_loosest hI.2.1 hI.1) (fun ps' c1 h1 => ?_)
  subst h1
  rw [e152_0, m_findLoosest (s_S_ok hI.2.1), mj_then_i, e152_4]
theorem p_rawLeft (hI : s_I ps c g R h) (hM : s_M c g R h) (hT : s_T c) : s_P L c (mj_EV 71 0 [some (.ref 2)] [] (w_sh L ps w_mo) c) (fun ps' c1 => mj_EV 154 0 [some (.ref 52)] [] (w_al L ps') c1) := by
  refine p_rd hI hM hT (k_rawLeft hI.2.1 hI.1) (fun ps' c1 h1 => ?_)
  subst h1
  rw [e154_0, m_rawLeft (s_S_ok hI.2.1), mj_then_i, e154_4]
theorem p_undo (hI : s_I ps c g R h) (hM : s_M c g R h) (hT : s_T c) : s_P L c (mj_EV 88 0 [some (.ref 2)] [] (w_sh L ps w_mo) c) (fun ps' c1 => mj_EV 165 0 [some (.ref 52)] [] (w_al L ps') c1) := by
  have h9 := hI.2.2.1
  match R, hI, hM, h9 with
  | 0, hI, hM, h9 =>
    refine p_do hM hT ⟨ps, c, ?_, hI, s_Fo_r c⟩ (fun ps' c1 h1 => ⟨c1, m_undo0 h1, h1, s_Fr_r c1⟩)
    rw [e88_0, e85_0, if_pos h9, mj_then_i, e88_7, if_neg (by decide)]
  | R + 1, hI, hM, h9 =>
    obtain ⟨c1, e1, hI1, hf1⟩ := k_giveBack (L := L) (rest := w_mo) hI
    have hR6 := hI.2.2.2.1
    refine p_do hM hT ⟨ps, c1, ?_, hI1, fun b hb => hf1 b (by omega)⟩ (fun ps' c1 h1 => m_undo h1)
    rw [e88_0, e85_0, h9, if_neg (by simp (disch := omega) only [nI_eq]; omega), mj_then_i, e88_7, if_pos rfl, e1, mj_then_v, e88_24, e87_0, mj_then_i, e88_31, hI1.2.2.1]
end PR1
