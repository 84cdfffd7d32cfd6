/-! MORE PAIRS -/
def s_cv (g : Nat → Int32) : Nat → Int32
  | 0 => s_pm g 10
  | 1 => s_sum g 10
  | 2 => g 1
  | 3 => g 0
  | 4 => s_bx g 10
  | 5 => g 2
  | 6 => g 3
  | 7 => g 4
  | _ => g 5
def s_pv (g : Nat → Int32) (P : Nat) : Nat → Int32
  | 0 => g (7 + 2 * P)
  | 1 => s_pz (s_F g P) (g (7 + 2 * P))
  | 2 => s_mk (s_F g P) (g (7 + 2 * P)) 8
  | 3 => s_bs (s_F g P) (g 0)
  | _ => s_pz (s_F g P) (s_bs (s_F g P) (g 0))
def s_lv (g : Nat → Int32) (P l : Nat) : Nat → Int32
  | 0 => s_F g P l
  | 1 => s_sz (s_F g P l)
  | 2 => if g (7 + 2 * P) < s_sz (s_F g P l) then nI 1 else nI 0
  | 3 => s_mn (s_wd g P l) 7
  | _ => s_mx (s_wd g P l) 7
def s_hv (g : Nat → Int32) (q k : Nat) : Int32 := if g (26 + 2 * q) = (-6) then (-6) else g (26 + 2 * q + k)
section PR2
variable {L : Nat} {ps : List (Option (Option Nat))} {rest : List mj_K} {c : mj_C} {g : Nat → Int32} {R : Nat} {h : Nat → Nat → Int32}
theorem m_countOf {k : Nat} (hk : k < 9) (hok : s_ok (c 53)) : mj_EV 137 0 [some (.ref 52), some (.int (nI k))] [] (w_al L ps) c = some (some (.int (s_cv (c 53) k)), w_al L ps, c) := by
  rw [e137_0]
  match k, hk with
  | 0, _ => rw [if_pos rfl, m_pagesMany, mj_then_i, e137_40]; rfl
  | 1, _ => rw [if_neg (by decide), if_pos rfl, m_sum hok, mj_then_i, e137_45]; rfl
  | 2, _ => rw [if_neg (by decide), if_neg (by decide), if_pos rfl, if_pos (by decide)]; rfl
  | 3, _ => rw [if_neg (by decide), if_neg (by decide), if_neg (by decide), if_pos rfl, if_pos (by decide)]; rfl
  | 4, _ => rw [if_neg (by decide), if_neg (by decide), if_neg (by decide), if_neg (by decide), if_pos rfl, m_besideMany hok, mj_then_i, e137_64]; rfl
  | 5, _ => rw [if_neg (by decide), if_neg (by decide), if_neg (by decide), if_neg (by decide), if_neg (by decide), if_pos (by decide)]; rfl
  | 6, _ => rw [if_neg (by decide), if_neg (by decide), if_neg (by decide), if_neg (by decide), if_neg (by decide), if_pos (by decide)]; rfl
  | 7, _ => rw [if_neg (by decide), if_neg (by decide), if_neg (by decide), if_neg (by decide), if_neg (by decide), if_pos (by decide)]; rfl
  | 8, _ => rw [if_neg (by decide), if_neg (by decide), if_neg (by decide), if_neg (by decide), if_neg (by decide), if_pos (by decide)]; rfl
  | k + 9, hk => omega
theorem k_count {k : Nat} (hk : k < 9) (hS : s_S c 3 g) (h1 : c 1 = w_fs) : mj_EV 60 0 [some (.ref 2), some (.int (nI k))] [] (w_sh L ps rest) c = some (some (.int (s_cv g k)), w_sh L ps rest, c) := by
  obtain ⟨a0, a1, a2, a3, a4, a5⟩ := hS.1
  rw [e60_0]
  match k, hk with
  | 0, _ => rw [if_pos rfl, k_numberOfPages hS, mj_then_i, e60_59]; rfl
  | 1, _ => rw [if_neg (by decide), if_pos rfl, k_sum hS h1, mj_then_i, e60_64]; rfl
  | 2, _ => rw [if_neg (by decide), if_neg (by decide), if_pos rfl, a1]; rfl
  | 3, _ => rw [if_neg (by decide), if_neg (by decide), if_neg (by decide), if_pos rfl, a0]; rfl
  | 4, _ => rw [if_neg (by decide), if_neg (by decide), if_neg (by decide), if_neg (by decide), if_pos rfl, k_linesBeside hS h1, mj_then_i, e60_85]; rfl
  | 5, _ => rw [if_neg (by decide), if_neg (by decide), if_neg (by decide), if_neg (by decide), if_neg (by decide), if_pos rfl, a2]; rfl
  | 6, _ => rw [if_neg (by decide), if_neg (by decide), if_neg (by decide), if_neg (by decide), if_neg (by decide), if_neg (by decide), if_pos rfl, a3]; rfl
  | 7, _ =>
    rw [if_neg (by decide), if_neg (by decide), if_neg (by decide), if_neg (by decide), if_neg (by decide), if_neg (by decide), if_neg (by decide), if_pos rfl, a2, a3, ← a4]; rfl
  | 8, _ => rw [if_neg (by decide), if_neg (by decide), if_neg (by decide), if_neg (by decide), if_neg (by decide), if_neg (by decide), if_neg (by decide), if_neg (by decide), if_pos rfl, a5]; rfl
  | k + 9, hk => omega
theorem m_ofPage {P k : Nat} (hP : P < 10) (hk : k < 5) (hok : s_ok (c 53)) : mj_EV 140 0 [some (.ref 52), some (.int (nI P)), some (.int (nI k))] [] (w_al L ps) c = some (some (.int (s_pv (c 53) P k)), w_al L ps, c) := by
  rw [e140_0]
  match k, hk with
  | 0, _ => rw [if_pos rfl, m_slot hP, mj_then_i, e140_37]; rfl
  | 1, _ => rw [if_neg (by decide), if_pos rfl, m_pageSize hP hok, mj_then_i, e140_43]; rfl
  | 2, _ => rw [if_neg (by decide), if_neg (by decide), if_pos rfl, m_beside hP hok, mj_then_i, e140_49]; rfl
  | 3, _ => rw [if_neg (by decide), if_neg (by decide), if_neg (by decide), if_pos rfl, m_best hP hok, mj_then_i, e140_55]; rfl
  | 4, _ => rw [if_neg (by decide), if_neg (by decide), if_neg (by decide), if_neg (by decide), m_best hP hok, mj_then_i, e140_63, m_sizeWith hP hok, mj_then_i, e140_66]; rfl
  | k + 5, hk => omega
theorem k_page {P k : Nat} (hP : P < 10) (hk : k < 5) (hS : s_S c 3 g) (h1 : c 1 = w_fs) (hg : g (6 + 2 * P) = nI 1) : mj_EV 62 0 [some (.ref 2), some (.int (nI P)), some (.int (nI k))] [] (w_sh L ps rest) c = some (some (.int (s_pv g P k)), w_sh L ps rest, c) := by
  obtain ⟨r, hr, er⟩ := hS.2.1
  obtain ⟨-, h6, -⟩ := s_S_pg hS hP hg
  rw [e62_0, k_hasPage_y hS hP hg, mj_then_i, e62_8, if_neg (by decide), show c 3 0 = g 0 from hS.1.1]
  match k, hk with
  | 0, _ => rw [if_pos rfl, mj_in_nI (by omega), nI_clamp (by omega), if_pos (by simp; omega), show c 6 P = g (7 + 2 * P) from h6]; rfl
  | 1, _ => rw [if_neg (by decide), if_pos rfl, k_sizeOfPage hS h1 hP hg, mj_then_i, e62_63]; rfl
  | 2, _ => rw [if_neg (by decide), if_neg (by decide), if_pos rfl, k_besideSet hS h1 hP hg, mj_then_i, e62_69]; rfl
  | 3, _ => rw [if_neg (by decide), if_neg (by decide), if_neg (by decide), if_pos rfl, er, k_bestSlotOf hS h1 hP hg (by omega), mj_then_i, e62_82, ← er]; rfl
  | 4, _ => rw [if_neg (by decide), if_neg (by decide), if_neg (by decide), if_neg (by decide), if_pos rfl, er, k_bestSizeOf hS h1 hP hg (by omega), mj_then_i, e62_95, ← er]; rfl
  | k + 5, hk => omega
theorem s_ne_of {x : Int32} {n j : Nat} (hn : n < 2 ^ 31) (q : x < nI 0 ∨ nI n ≤ x) (hj : j < n) : ¬ x = nI j := s_rn hn q hj
theorem p_count {x : Int32} (hI : s_I ps c g R h) (hM : s_M c g R h) (hT : s_T c) : s_P L c (mj_EV 60 0 [some (.ref 2), some (.int x)] [] (w_sh L ps w_mo) c) (fun ps' c1 => mj_EV 138 0 [some (.ref 52), some (.int x)] [] (w_al L ps') c1) := by
  rcases s_rg x (n := 9) (by decide) with ⟨k, hk, rfl⟩ | q
  · refine p_rd hI hM hT (k_count hk hI.2.1 hI.1) (fun ps' c1 h1 => ?_)
    subst h1
    rw [e138_0, m_withinY (by omega) (by omega) (by omega), mj_then_i, e138_7, if_neg (by decide), m_countOf hk (s_S_ok hI.2.1), mj_then_i, e138_15]
  · refine p_rd (x := -2) hI hM hT ?_ (fun ps' c1 h1 => ?_)
    · rw [e60_0, if_neg (s_ne_of (by decide) q (by decide)), if_neg (s_ne_of (by decide) q (by decide)), if_neg (s_ne_of (by decide) q (by decide)), if_neg (s_ne_of (by decide) q (by decide)), if_neg (s_ne_of (by decide) q (by decide)), if_neg (s_ne_of (by decide) q (by decide)), if_neg (s_ne_of (by decide) q (by decide)), if_neg (s_ne_of (by decide) q (by decide)), if_neg (s_ne_of (by decide) q (by decide))]
    · rw [e138_0, m_withinN (n := 9) rfl (by decide) q (by decide), mj_then_i, e138_7, if_pos rfl]
theorem p_page {x y : Int32} (hI : s_I ps c g R h) (hM : s_M c g R h) (hT : s_T c) : s_P L c (mj_EV 62 0 [some (.ref 2), some (.int x), some (.int y)] [] (w_sh L ps w_mo) c) (fun ps' c1 => mj_EV 141 0 [some (.ref 52), some (.int x), some (.int y)] [] (w_al L ps') c1) := by
  by_cases q : s_pg g x
  · obtain ⟨P, hP, rfl, hg⟩ := q
    rcases s_rg y (n := 5) (by decide) with ⟨k, hk, rfl⟩ | q2
    · refine p_rd hI hM hT (k_page hP hk hI.2.1 hI.1 hg) (fun ps' c1 h1 => ?_)
      subst h1
      rw [e141_0, m_isPage_y hP hg, mj_then_i, e141_5, if_neg (by decide), m_withinY (by omega) (by omega) (by omega), mj_then_i, e141_16, if_neg (by decide), m_ofPage hP hk (s_S_ok hI.2.1), mj_then_i, e141_25]
    · refine p_rd (x := -2) hI hM hT ?_ (fun ps' c1 h1 => ?_)
      · rw [e62_0, k_hasPage_y hI.2.1 hP hg, mj_then_i, e62_8, if_neg (by decide), if_neg (s_ne_of (by decide) q2 (by decide)), if_neg (s_ne_of (by decide) q2 (by decide)), if_neg (s_ne_of (by decide) q2 (by decide)), if_neg (s_ne_of (by decide) q2 (by decide)), if_neg (s_ne_of (by decide) q2 (by decide))]
      · subst h1
        rw [e141_0, m_isPage_y hP hg, mj_then_i, e141_5, if_neg (by decide), m_withinN (n := 5) rfl (by decide) q2 (by decide), mj_then_i, e141_16, if_pos rfl]
  · refine p_rd (x := -1) hI hM hT ?_ (fun ps' c1 h1 => ?_)
    · rw [e62_0, k_hasPage_n hI.2.1 q, mj_then_i, e62_8, if_pos rfl]
    · subst h1
      rw [e141_0, m_isPage_n q, mj_then_i, e141_5, if_pos rfl]
theorem p_line {x y z : Int32} (hI : s_I ps c g R h) (hM : s_M c g R h) (hT : s_T c) : s_P L c (mj_EV 63 0 [some (.ref 2), some (.int x), some (.int y), some (.int z)] [] (w_sh L ps w_mo) c) (fun ps' c1 => mj_EV 143 0 [some (.ref 52), some (.int x), some (.int y), some (.int z)] [] (w_al L ps') c1) := by
  have hS := hI.2.1
  have h1 := hI.1
  by_cases q : s_li g x y
  · obtain ⟨P, l, hP, hl, rfl, rfl, hg⟩ := q
    rcases s_rg z (n := 5) (by decide) with ⟨k, hk, rfl⟩ | q2
    · refine p_rd (x := s_lv g P l k) hI hM hT ?_ (fun ps' c1 h1 => ?_)
      · obtain ⟨f, hf, ef⟩ := s_fm_cases (s_wd g P l)
        have ef : s_F g P l = nI f := ef
        obtain ⟨-, h6, -, h4⟩ := s_S_pg hS hP hg
        have hw : ∀ w, w < 8 → c 4 ((P * 8 + l) * 8 + w) = s_wd g P l w := by
          intro w hw
          rw [show (P * 8 + l) * 8 + w = 64 * P + (8 * l + w) by omega]
          refine (h4 (8 * l + w) (by omega)).trans ?_
          show g _ = g _
          congr 1
          omega
        rw [e63_0, k_hasLine_y hS hP hl hg, mj_then_i, e63_9, if_neg (by decide)]
        match k, hk with
        | 0, _ => rw [if_pos rfl, k_formOf hS hP hl hg, mj_then_i, e63_57]; rfl
        | 1, _ =>
          rw [if_neg (by decide), if_pos rfl, k_formOf hS hP hl hg, mj_then_i, e63_70, ef, mj_in_nI (by omega), nI_clamp (by omega), if_pos (by simp; omega), h1]
          rw [show s_lv g P l 1 = s_sz (s_F g P l) from rfl, ef, s_sz_nI hf]
        | 2, _ =>
          rw [if_neg (by decide), if_neg (by decide), if_pos rfl, k_isBeside hS h1 hP hl hg, mj_then_i, e63_78]
          rw [show s_lv g P l 2 = if g (7 + 2 * P) < s_sz (s_F g P l) then nI 1 else nI 0 from rfl]
          by_cases q : g (7 + 2 * P) < s_sz (s_F g P l)
          · rw [if_pos q, if_neg (by decide)]
          · rw [if_neg q, if_pos rfl]
        | 3, _ => rw [if_neg (by decide), if_neg (by decide), if_neg (by decide), if_pos rfl, e25_0, mj_then_i, e63_99, pk_mul, nI_add, pk_mul, k_least w_4 (by omega) (by omega) hw, mj_then_i, e63_102]; rfl
        | 4, _ => rw [if_neg (by decide), if_neg (by decide), if_neg (by decide), if_neg (by decide), if_pos rfl, e25_0, mj_then_i, e63_115, pk_mul, nI_add, pk_mul, k_greatest w_4 (by omega) (by omega) hw, mj_then_i, e63_118]; rfl
        | k + 5, hk => omega
      · subst h1
        have hok := s_S_ok hS
        rw [e143_0, m_isLine_y hP hl hg, mj_then_i, e143_6, if_neg (by decide), m_withinY (by omega) (by omega) (by omega), mj_then_i, e143_17, if_neg (by decide), e142_0]
        match k, hk with
        | 0, _ => rw [if_pos rfl, m_formOf hP hl hok, mj_then_i, e142_38, mj_then_i, e143_27]; rfl
        | 1, _ => rw [if_neg (by decide), if_pos rfl, m_lineSize hP hl hok, mj_then_i, e142_45, mj_then_i, e143_27]; rfl
        | 2, _ => rw [if_neg (by decide), if_neg (by decide), if_pos rfl, m_beside hP hok, mj_then_i, e142_51, mj_then_i, e143_27, s_bit _ _ hl]; rfl
        | 3, _ => rw [if_neg (by decide), if_neg (by decide), if_neg (by decide), if_pos rfl, m_least hP hl hok, mj_then_i, e142_62, mj_then_i, e143_27]; rfl
        | 4, _ => rw [if_neg (by decide), if_neg (by decide), if_neg (by decide), if_neg (by decide), m_greatest hP hl hok, mj_then_i, e142_69, mj_then_i, e143_27]; rfl
        | k + 5, hk => omega
    · refine p_rd (x := -2) hI hM hT ?_ (fun ps' c1 h1 => ?_)
      · rw [e63_0, k_hasLine_y hS hP hl hg, mj_then_i, e63_9, if_neg (by decide), if_neg (s_ne_of (by decide) q2 (by decide)), if_neg (s_ne_of (by decide) q2 (by decide)), if_neg (s_ne_of (by decide) q2 (by decide)), if_neg (s_ne_of (by decide) q2 (by decide)), if_neg (s_ne_of (by decide) q2 (by decide))]
      · subst h1
        rw [e143_0, m_isLine_y hP hl hg, mj_then_i, e143_6, if_neg (by decide), m_withinN (n := 5) rfl (by decide) q2 (by decide), mj_then_i, e143_17, if_pos rfl]
  · refine p_rd (x := -1) hI hM hT ?_ (fun ps' c1 h1 => ?_)
    · rw [e63_0, k_hasLine_n hS q, mj_then_i, e63_9, if_pos rfl]
    · subst h1
      rw [e143_0, m_isLine_n q, mj_then_i, e143_6, if_pos rfl]
theorem m_ofHint {q k : Nat} (hq : q < 4) (hk : k < 2) : mj_EV 146 0 [some (.ref 52), some (.int (nI q)), some (.int (nI k))] [] (w_al L ps) c = some (some (.int (s_hv (c 53) q k)), w_al L ps, c) := by
  rw [e146_0]
  simp (disch := omega) only [nI_add, pk_mul, mj_in_nI, nI_clamp]
  rw [if_pos (by simp; omega)]
  unfold s_hv
  split
  · rfl
  · rw [if_pos (by simp; omega)]
theorem k_hint {q k : Nat} (hq : q < 4) (hk : k < 2) (hS : s_S c 3 g) : mj_EV 65 0 [some (.ref 2), some (.int (nI q)), some (.int (nI k))] [] (w_sh L ps rest) c = some (some (.int (s_hv g q k)), w_sh L ps rest, c) := by
  rw [e65_0]
  simp (disch := omega) only [nI_ltI, nI_leI, nI_eq, mj_in_nI, nI_clamp]
  rw [if_neg (by omega), if_pos (by omega), if_neg (by omega), if_pos (by omega), if_pos (by simp; omega)]
  unfold s_hv
  rcases hS.2.2.2.2.2 q hq with ⟨z1, z2⟩ | ⟨P, z0, z1, z2, z3⟩
  · rw [if_pos (show c 7 q = (-1) from z2), if_pos z1]
  · rw [if_neg (by rw [show c 7 q = nI P from z2]; exact s_nm1 (by omega) : ¬ c 7 q = (-1)), if_neg (by rw [z1]; exact fun z => s_ne6 P (by omega) z.symm : ¬ g (26 + 2 * q) = (-6))]
    match k, hk with
    | 0, _ => rw [if_pos rfl, if_pos (by simp; omega), show c 7 q = nI P from z2, Nat.add_zero, z1]
    | 1, _ => rw [if_neg (by decide), if_pos (by simp; omega), show c 8 q = g (27 + 2 * q) from z3, show 26 + 2 * q + 1 = 27 + 2 * q by omega]
    | k + 2, hk => omega
theorem p_hint {x y : Int32} (hI : s_I ps c g R h) (hM : s_M c g R h) (hT : s_T c) : s_P L c (mj_EV 65 0 [some (.ref 2), some (.int x), some (.int y)] [] (w_sh L ps w_mo) c) (fun ps' c1 => mj_EV 147 0 [some (.ref 52), some (.int x), some (.int y)] [] (w_al L ps') c1) := by
  rcases s_rg x (n := 4) (by decide) with ⟨q, hq, rfl⟩ | q1
  · rcases s_rg y (n := 2) (by decide) with ⟨k, hk, rfl⟩ | q2
    · refine p_rd hI hM hT (k_hint hq hk hI.2.1) (fun ps' c1 h1 => ?_)
      subst h1
      rw [e147_0, m_withinY (by omega) (by omega) (by omega), mj_then_i, e147_6, if_neg (by decide), m_withinY (by omega) (by omega) (by omega), mj_then_i, e147_17, if_neg (by decide), m_ofHint hq hk, mj_then_i, e147_26]
    · refine p_rd (x := -2) hI hM hT ?_ (fun ps' c1 h1 => ?_)
      · rw [e65_0]
        simp (disch := omega) only [nI_ltI]
        rw [if_neg (by omega), if_pos (by omega)]
        by_cases q0 : y < nI 0
        · rw [if_pos q0]
        · rw [if_neg q0, if_neg (Int32.not_le.mpr (s_gt_of (n := 1) (by decide) q0 q2))]
      · rw [e147_0, m_withinY (by omega) (by omega) (by omega), mj_then_i, e147_6, if_neg (by decide), m_withinN (n := 2) rfl (by decide) q2 (by decide), mj_then_i, e147_17, if_pos rfl]
  · refine p_rd (x := -1) hI hM hT ?_ (fun ps' c1 h1 => ?_)
    · rw [e65_0]
      by_cases q0 : x < nI 0
      · rw [if_pos q0]
      · rw [if_neg q0, if_neg (Int32.not_lt.mpr (q1.resolve_left q0))]
    · rw [e147_0, m_withinN (n := 4) rfl (by decide) q1 (by decide), mj_then_i, e147_6, if_pos rfl]
/-! the text -/
theorem s_nar {v : Nat} (hv : v < 65536) : vp_nar .char (UInt32.toInt32 (Int32.toUInt32 (nI v) % 65536)) = nI v := by
  rw [pk_vc, pk_char, show (nI v).toBitVec.toNat = v from ?_, Nat.mod_eq_of_lt hv]
  show (BitVec.ofNat 32 v).toNat = v
  rw [BitVec.toNat_ofNat, Nat.mod_eq_of_lt (by omega)]
theorem s_M_52 {c c' : mj_C} {g : Nat → Int32} {R : Nat} {h : Nat → Nat → Int32} (hM : s_M c g R h) (h1 : c' 53 = c 53) (h2 : c' 52 3 = c 52 3) (h3 : c' 55 = c 55) : s_M c' g R h := by
  unfold s_M
  rw [h1, h2, h3]
  exact hM
theorem p_type {x : Int32} (hI : s_I ps c g R h) (hM : s_M c g R h) (hT : s_T c) : s_P L c (mj_EV 72 0 [some (.ref 2), some (.int x)] [] (w_sh L ps w_mo) c) (fun ps' c1 => mj_EV 155 0 [some (.ref 52), some (.int x)] [] (w_al L ps') c1) := by
  rcases s_rg x (n := 127) (by decide) with ⟨v, hv, rfl⟩ | q
  · by_cases q33 : 33 ≤ v
    · obtain ⟨T, hT80, t1, t2, t3⟩ := hT
      by_cases qT : T = 80
      · subst qT
        refine ⟨-4, ps, c, c, ?_, ?_, ⟨g, R, h, hI, hM, 80, hT80, t1, t2, t3⟩, rfl, rfl⟩
        · rw [e72_0, t1]
          simp (disch := omega) only [nI_ltI, nI_leI]
          rw [if_neg (by omega), if_pos (by omega), if_neg (by omega)]
        · show mj_EV 155 0 _ _ _ _ = _
          rw [e155_0, m_withinY (by omega) (by omega) (by omega), mj_then_i, e155_8, if_neg (by decide), t2, if_pos rfl]
      · refine ⟨nI (T + 1), ps, mj_u (mj_u c 51 T (nI v)) 2 6 (nI (T + 1)), mj_u (mj_u (mj_u (mj_u c 51 T (nI v)) 2 6 (nI (T + 1))) 56 T (nI v)) 52 5 (nI (T + 1)), ?_, ?_, ⟨g, R, h, s_I_congr hI (fun b hb => ?_), s_M_52 hM ?_ ?_ ?_, T + 1, by omega, ?_, ?_, fun i hi => ?_⟩, ?_⟩
        · rw [e72_0, t1]
          simp (disch := omega) only [nI_ltI, nI_leI, mj_in_nI, nI_clamp]
          rw [if_neg (by omega), if_pos (by omega), if_pos (by omega), if_pos (by simp; omega), s_nar (by omega), mj_u_ne _ _ _ _ (by decide : 2 ≠ 51), t1, nI_add, mj_u_self, s_upd_eq]
        · show mj_EV 155 0 _ _ _ _ = _
          have e5 : mj_u (mj_u c 51 T (nI v)) 2 6 (nI (T + 1)) 52 5 = nI T := by
            rw [mj_u_ne _ _ _ _ (by decide), mj_u_ne _ _ _ _ (by decide)]
            exact t2
          rw [e155_0, m_withinY (by omega) (by omega) (by omega), mj_then_i, e155_8, if_neg (by decide), e5]
          simp (disch := omega) only [nI_eq, mj_in_nI, nI_clamp]
          rw [if_neg qT, if_pos (by simp; omega), mj_u_ne _ 56 _ _ (by decide : 52 ≠ 56), e5, nI_add, mj_u_self, s_upd_eq]
        · rw [mj_u_ne _ _ _ _ (by omega), mj_u_ne _ _ _ _ (by omega), mj_u_ne _ _ _ _ (by omega), mj_u_ne _ _ _ _ (by omega)]
        · rw [mj_u_ne _ _ _ _ (by omega), mj_u_ne _ _ _ _ (by omega), mj_u_ne _ _ _ _ (by omega), mj_u_ne _ _ _ _ (by omega)]
        · rw [mj_u_self, s_upd_ne (by omega), mj_u_ne _ _ _ _ (by omega), mj_u_ne _ _ _ _ (by omega), mj_u_ne _ _ _ _ (by omega)]
        · rw [mj_u_ne _ _ _ _ (by omega), mj_u_ne _ _ _ _ (by omega), mj_u_ne _ _ _ _ (by omega), mj_u_ne _ _ _ _ (by omega)]
        · rw [mj_u_ne _ _ _ _ (by omega), mj_u_ne _ _ _ _ (by omega), mj_u_self, s_upd_eq]
        · rw [mj_u_self, s_upd_eq]
        · rw [mj_u_ne _ 52 _ _ (by decide : 51 ≠ 52), mj_u_ne _ 56 _ _ (by decide : 51 ≠ 56), mj_u_ne _ 2 _ _ (by decide : 51 ≠ 2), mj_u_self, mj_u_ne _ 52 _ _ (by decide : 56 ≠ 52), mj_u_self, mj_u_ne _ 2 _ _ (by decide : 56 ≠ 2), mj_u_ne _ 51 _ _ (by decide : 56 ≠ 51)]
          by_cases qi : i = T
          · exact ⟨v, q33, by omega, by rw [qi, s_upd_eq], by rw [qi, s_upd_eq]⟩
          · rw [s_upd_ne qi, s_upd_ne qi]
            exact t3 i (by omega)
        · rw [mj_u_ne _ _ _ _ (by omega), mj_u_ne _ _ _ _ (by omega), mj_u_ne _ _ _ _ (by omega), mj_u_ne _ _ _ _ (by omega)]
          exact ⟨rfl, rfl⟩
    · refine p_rd (x := -2) hI hM hT ?_ (fun ps' c1 h1 => ?_)
      · rw [e72_0]
        simp (disch := omega) only [nI_ltI]
        rw [if_pos (by omega)]
      · rw [e155_0, m_within (by omega) (by omega) (by omega), if_neg (by omega), mj_then_i, e155_8, if_pos rfl]
  · refine p_rd (x := -2) hI hM hT ?_ (fun ps' c1 h1 => ?_)
    · rw [e72_0]
      by_cases q1 : x < nI 33
      · rw [if_pos q1]
      · have q0 : ¬ x < nI 0 := by
          intro z
          apply q1
          rw [Int32.lt_iff_toInt_lt, nI_toInt (by decide)] at z ⊢
          omega
        rw [if_neg q1, if_neg (Int32.not_le.mpr (s_gt_of (by decide) q0 q))]
    · rw [e155_0, m_withinN (n := 127) rfl (by decide) q (by decide), mj_then_i, e155_8, if_pos rfl]
theorem p_clear (hI : s_I ps c g R h) (hM : s_M c g R h) (hT : s_T c) : s_P L c (mj_EV 73 0 [some (.ref 2), none] [] (w_sh L ps w_mo) c) (fun ps' c1 => mj_EV 156 0 [some (.ref 52), none] [] (w_al L ps') c1) := by
  obtain ⟨T, hT80, t1, t2, t3⟩ := hT
  refine ⟨nI T, ps, mj_u c 2 6 (nI 0), mj_u (mj_u c 2 6 (nI 0)) 52 5 (nI 0), ?_, ?_, ⟨g, R, h, s_I_congr hI (fun b hb => ?_), s_M_52 hM ?_ ?_ ?_, 0, by omega, ?_, ?_, fun i hi => by omega⟩, ?_⟩
  · rw [e73_0, t1]
  · show mj_EV 156 0 _ _ _ _ = _
    rw [e156_0, mj_u_ne _ _ _ _ (by decide : 52 ≠ 2), t2]
  · rw [mj_u_ne _ _ _ _ (by omega), mj_u_ne _ _ _ _ (by omega)]
  · rw [mj_u_ne _ _ _ _ (by omega), mj_u_ne _ _ _ _ (by omega)]
  · rw [mj_u_self, s_upd_ne (by omega), mj_u_ne _ _ _ _ (by omega)]
  · rw [mj_u_ne _ _ _ _ (by omega), mj_u_ne _ _ _ _ (by omega)]
  · rw [mj_u_ne _ _ _ _ (by omega), mj_u_self, s_upd_eq]
  · rw [mj_u_self, s_upd_eq]
  · rw [mj_u_ne _ _ _ _ (by omega), mj_u_ne _ _ _ _ (by omega)]
    exact ⟨rfl, rfl⟩
end PR2
