/-! THE CLASS's other methods -/
theorem s_ne6 : ∀ n, n < 11 → ¬ ((-6 : Int32) = nI n) := by decide
section KL6
variable {L : Nat} {ps : List (Option (Option Nat))} {rest : List mj_K} {c : mj_C} {g : Nat → Int32} {R : Nat} {h : Nat → Nat → Int32}
theorem k_formOf {P l : Nat} (hS : s_S c 3 g) (hP : P < 10) (hl : l < 8) (hg : g (6 + 2 * P) = nI 1) : mj_EV 46 0 [some (.ref 3), some (.int (nI P)), some (.int (nI l))] [] (w_sh L ps rest) c = some (some (.int (s_F g P l)), w_sh L ps rest, c) := by
  obtain ⟨-, -, h5, -⟩ := s_S_pg hS hP hg
  rw [e46_0, e7_0, mj_then_i, e46_8, pk_mul, nI_add, mj_in_nI (by omega), nI_clamp (by omega), if_pos (by simp; omega), show P * 8 + l = 8 * P + l by omega, show c 5 (8 * P + l) = s_F g P l from h5 l hl]
theorem k_wordOf {P l w : Nat} (hS : s_S c 3 g) (hP : P < 10) (hl : l < 8) (hw : w < 8) (hg : g (6 + 2 * P) = nI 1) : mj_EV 56 0 [some (.ref 3), some (.int (nI P)), some (.int (nI l)), some (.int (nI w))] [] (w_sh L ps rest) c = some (some (.int (s_wd g P l w)), w_sh L ps rest, c) := by
  obtain ⟨-, -, -, h5⟩ := s_S_pg hS hP hg
  have e : c 4 (64 * P + (8 * l + w)) = s_wd g P l w := by
    refine (h5 (8 * l + w) (by omega)).trans ?_
    show g _ = g _
    congr 1
    omega
  rw [e56_0, e25_0, mj_then_i, e56_9, pk_mul, nI_add, pk_mul, nI_add, mj_in_nI (by omega), nI_clamp (by omega), if_pos (by simp; omega), show (P * 8 + l) * 8 + w = 64 * P + (8 * l + w) by omega, e]
theorem k_isBeside {P l : Nat} (hS : s_S c 3 g) (h1 : c 1 = w_fs) (hP : P < 10) (hl : l < 8) (hg : g (6 + 2 * P) = nI 1) : mj_EV 53 0 [some (.ref 2), some (.int (nI P)), some (.int (nI l))] [] (w_sh L ps rest) c = some (some (.int (if g (7 + 2 * P) < s_sz (s_F g P l) then nI 1 else nI 0)), w_sh L ps rest, c) := by
  obtain ⟨f, hf, ef⟩ := s_fm_cases (s_wd g P l)
  have ef : s_F g P l = nI f := ef
  obtain ⟨-, h2, -, -⟩ := s_S_pg hS hP hg
  rw [e53_0, k_formOf hS hP hl hg, mj_then_i, e53_12, ef, mj_in_nI (by omega), mj_in_nI (by omega), nI_clamp (by omega), nI_clamp (by omega), if_pos (by simp; omega), if_pos (by simp; omega), h1, show c 6 P = g (7 + 2 * P) from h2, s_sz_nI hf]
  by_cases q : w_fs f ≤ g (7 + 2 * P)
  · rw [if_pos q, if_neg (Int32.not_lt.mpr q)]
  · rw [if_neg q, if_pos (Int32.not_le.mp q)]
theorem k_besideSet {P : Nat} (hS : s_S c 3 g) (h1 : c 1 = w_fs) (hP : P < 10) (hg : g (6 + 2 * P) = nI 1) : mj_EV 54 0 [some (.ref 2), some (.int (nI P)), none, none] [] (w_sh L ps rest) c = some (some (.int (s_mk (s_F g P) (g (7 + 2 * P)) 8)), w_sh L ps rest, c) := by
  have key : ∀ n k : Nat, k + n = 8 → mj_EV 54 4 [some (.ref 2), some (.int (nI P)), some (.int (s_mk (s_F g P) (g (7 + 2 * P)) k)), some (.int (nI k))] [] (w_sh L ps rest) c = some (some (.int (s_mk (s_F g P) (g (7 + 2 * P)) 8)), w_sh L ps rest, c) := by
    intro n
    induction n with
    | zero =>
      intro k hk
      rw [e54_4]
      simp (disch := omega) only [nI_leI]
      rw [if_pos (by omega), show k = 8 by omega]
    | succ n ih =>
      intro k hk
      have h2 := ih (k + 1) (by omega)
      rw [show s_mk (s_F g P) (g (7 + 2 * P)) (k + 1) = if g (7 + 2 * P) < s_sz (s_F g P k) then s_mk (s_F g P) (g (7 + 2 * P)) k ||| (nI 1 <<< (nI k &&& 31)) else s_mk (s_F g P) (g (7 + 2 * P)) k from rfl] at h2
      rw [e54_4]
      simp (disch := omega) only [nI_leI]
      rw [if_neg (by omega), k_isBeside hS h1 hP (by omega) hg, mj_then_i, e54_16]
      by_cases q : g (7 + 2 * P) < s_sz (s_F g P k)
      · rw [if_pos q] at h2 ⊢
        rw [if_neg (by decide), nI_add k 1]
        exact h2
      · rw [if_neg q] at h2 ⊢
        rw [if_pos rfl, nI_add k 1]
        exact h2
  rw [e54_0]
  exact key 8 0 (by omega)
theorem k_setRoom {r : Nat} (hr : r < 9) (hI : s_I ps c g R h) : s_cc L rest ps c (mj_EV 22 0 [some (.ref 2), some (.int (nI r)), none, none] [] (w_sh L ps rest) c) g R h (s_may g (s_sw g (nI r) 10) = nI 0) (g 0) (s_sr (upd g 0 (nI r)) 10) := by
  have hS := hI.2.1
  have h1 := hI.1
  have er : mj_EV 5 0 [some (.int (nI r))] [] (w_sh L ps rest) c = some (some (.int (nI 1)), w_sh L ps rest, c) := by
    rw [e5_0]
    simp (disch := omega) only [nI_ltI]
    rw [if_neg (by omega), if_neg (by omega)]
  rw [e22_0, er, mj_then_i, e22_4, if_neg (by decide), k_sumWithRoom hS h1 (by omega), mj_then_i, e22_16, k_exceeds hS h1, mj_then_i, e22_19]
  constructor
  · intro q
    exact ⟨c, by rw [if_neg (fun z => (s_may_ex.mp z) q)], hI, s_Fo_r c⟩
  · intro q
    obtain ⟨ps', c2, e2, hI2, hf2⟩ := k_keep (L := L) (rest := rest) hI
    have hS2 := hI2.2.1
    have hS3 : s_S (mj_u c2 3 0 (nI r)) 3 (upd g 0 (nI r)) := by
      obtain ⟨⟨a0, a1, a2, a3, a4, a5⟩, ar, ab, -⟩ := hI2.2.1
      refine s_S_num hS2 (fun k hk => s_upd_ne (by omega)) (fun b h3 h4 => mj_u_ne _ _ _ _ (by omega)) ?_ ⟨r, hr, s_upd_eq⟩ (by rw [s_upd_ne (by omega)]; exact ab)
      rw [mj_u_self]
      refine ⟨?_, ?_, ?_, ?_, ?_, ?_⟩
      · rw [s_upd_eq, s_upd_eq]
      · rw [s_upd_ne (by omega), s_upd_ne (by omega)]; exact a1
      · rw [s_upd_ne (by omega), s_upd_ne (by omega)]; exact a2
      · rw [s_upd_ne (by omega), s_upd_ne (by omega)]; exact a3
      · rw [s_upd_ne (by omega : 4 ≠ 0), s_upd_ne (by omega : 2 ≠ 0), s_upd_ne (by omega : 3 ≠ 0)]; exact a4
      · rw [s_upd_ne (by omega), s_upd_ne (by omega)]; exact a5
    have key : ∀ n k : Nat, k + n = 10 → ∀ x, ∀ c3 : mj_C, c3 1 = w_fs → s_S c3 3 (s_sr (upd g 0 (nI r)) k) → ∃ c4, mj_EV 22 54 [some (.ref 2), some (.int (nI r)), some (.int x), some (.int (nI k))] [] (w_sh L ps' rest) c3 = some (some (.int x), w_sh L ps' rest, c4) ∧ s_S c4 3 (s_sr (upd g 0 (nI r)) 10) ∧ ∀ b, b ≠ 3 → b ≠ 6 → c4 b = c3 b := by
      intro n
      induction n with
      | zero =>
        intro k hk x c3 h13 hS3
        refine ⟨c3, ?_, ?_, fun _ _ _ => rfl⟩
        · rw [e22_54]
          simp (disch := omega) only [nI_leI]
          rw [if_pos (by omega)]
        · rw [show k = 10 by omega] at hS3
          exact hS3
      | succ n ih =>
        intro k hk x c3 h13 hS3
        rw [e22_54]
        simp (disch := omega) only [nI_leI]
        rw [if_neg (by omega), k_hasPage hS3 (by omega), mj_then_i, e22_68]
        have ek : s_sr (upd g 0 (nI r)) (k + 1) = if s_sr (upd g 0 (nI r)) k (6 + 2 * k) = nI 1 then s_keep (s_sr (upd g 0 (nI r)) k) k else s_sr (upd g 0 (nI r)) k := rfl
        by_cases q : s_sr (upd g 0 (nI r)) k (6 + 2 * k) = nI 1
        · rw [if_pos q] at ek
          obtain ⟨c5, e5, hS5, hf5⟩ := k_tooFull (L := L) (ps := ps') (rest := rest) hS3 h13 (by omega) q
          rw [← ek] at hS5
          obtain ⟨c4, e4, hS4, hf4⟩ := ih (k + 1) (by omega) x c5 (by rw [hf5 1 (by decide) (by decide)]; exact h13) hS5
          refine ⟨c4, ?_, hS4, fun b hb3 hb6 => by rw [hf4 b hb3 hb6, hf5 b hb3 hb6]⟩
          rw [if_pos q, if_neg (by decide), e5, mj_then_v, e22_76, nI_add k 1]
          exact e4
        · rw [if_neg q] at ek
          rw [← ek] at hS3
          obtain ⟨c4, e4, hS4, hf4⟩ := ih (k + 1) (by omega) x c3 h13 hS3
          refine ⟨c4, ?_, hS4, hf4⟩
          rw [if_neg q, if_pos rfl, e22_76, nI_add k 1]
          exact e4
    obtain ⟨c4, e4, hS4, hf4⟩ := key 10 0 (by omega) (g 0) (mj_u c2 3 0 (nI r)) (by rw [mj_u_ne _ _ _ _ (by decide)]; exact hI2.1) hS3
    have hfb : ∀ b, b = 1 ∨ 9 ≤ b ∨ b = 0 ∨ b = 2 → c4 b = c2 b := fun b hb => by rw [hf4 b (by omega) (by omega), mj_u_ne _ _ _ _ (by omega)]
    refine ⟨ps', c4, ?_, s_I_g hI2 hS4 (fun b hb => hfb b (by omega)), fun b hb => by rw [hfb b (by omega), hf2 b (by omega)]⟩
    rw [if_pos (s_may_ex.mpr q), e2, mj_then_v, e22_36, show c2 3 0 = g 0 from hS2.1.1]
    exact e4
theorem k_setBound {b : Nat} (hb : 20 ≤ b) (hb2 : b ≤ 999) (hI : s_I ps c g R h) : ∃ ps' c', mj_EV 23 0 [some (.ref 2), some (.int (nI b)), none] [] (w_sh L ps rest) c = some (some (.int (g 1)), w_sh L ps' rest, c') ∧ s_I ps' c' (upd g 1 (nI b)) (s_R R) (s_hp h R g) ∧ s_Fo c c' := by
  obtain ⟨ps', c2, e2, hI2, hf2⟩ := k_keep (L := L) (rest := rest) hI
  have hS2 := hI2.2.1
  have hS3 : s_S (mj_u c2 3 1 (nI b)) 3 (upd g 1 (nI b)) := by
    obtain ⟨⟨a0, a1, a2, a3, a4, a5⟩, ar, ab, -⟩ := hI2.2.1
    refine s_S_num hS2 (fun k hk => s_upd_ne (by omega)) (fun b h3 h4 => mj_u_ne _ _ _ _ (by omega)) ?_ (by rw [s_upd_ne (by omega)]; exact ar) ⟨b, by omega, s_upd_eq⟩
    rw [mj_u_self]
    refine ⟨?_, ?_, ?_, ?_, ?_, ?_⟩
    · rw [s_upd_ne (by omega), s_upd_ne (by omega)]; exact a0
    · rw [s_upd_eq, s_upd_eq]
    · rw [s_upd_ne (by omega), s_upd_ne (by omega)]; exact a2
    · rw [s_upd_ne (by omega), s_upd_ne (by omega)]; exact a3
    · rw [s_upd_ne (by omega : 4 ≠ 1), s_upd_ne (by omega : 2 ≠ 1), s_upd_ne (by omega : 3 ≠ 1)]; exact a4
    · rw [s_upd_ne (by omega), s_upd_ne (by omega)]; exact a5
  refine ⟨ps', _, ?_, s_I_g hI2 hS3 (fun b hb => mj_u_ne _ _ _ _ (by omega)), fun b hb => by rw [mj_u_ne _ _ _ _ (by omega), hf2 b (by omega)]⟩
  rw [e23_0]
  simp (disch := omega) only [nI_ltI, nI_leI]
  rw [if_neg (by omega), if_pos (by omega), e2, mj_then_v, e23_27, show c2 3 1 = g 1 from hS2.1.2.1]
theorem k_lowest {n : Nat} (hS : s_S c 3 g) : ∀ k : Nat, k + n ≤ 10 → (∀ j, j < k + n → g (6 + 2 * j) = nI 1) → mj_EV 24 2 [some (.ref 3), some (.int (nI k))] [] (w_sh L ps rest) c = mj_EV 24 2 [some (.ref 3), some (.int (nI (k + n)))] [] (w_sh L ps rest) c := by
  induction n with
  | zero => intro k _ _; rfl
  | succ n ih =>
    intro k hk hj
    obtain ⟨⟨s, hs, es⟩, h2, -⟩ := s_S_pg hS (P := k) (by omega) (hj k (by omega))
    rw [e24_2]
    simp (disch := omega) only [nI_leI, mj_in_nI, nI_clamp]
    rw [if_neg (by omega), if_pos (by simp; omega), show c 6 k = g (7 + 2 * k) from h2, es, if_neg (s_nm1 (by omega)), nI_add k 1, ih (k + 1) (by omega) (fun j q => hj j (by omega)), show k + 1 + n = k + (n + 1) by omega]
theorem k_newPage_full (hI : s_I ps c g R h) (hj : ∀ j, j < 10 → g (6 + 2 * j) = nI 1) : mj_EV 29 0 [some (.ref 2), none] [] (w_sh L ps rest) c = some (some (.int (-4)), w_sh L ps rest, c) := by
  rw [e29_0, e24_0, k_lowest hI.2.1 (n := 10) 0 (by omega) (fun j q => hj j (by omega)), e24_2, if_pos (by decide), mj_then_i, e29_7, if_pos rfl]
theorem s_pz_le {F : Nat → Int32} {s : Nat} (hs : s ≤ 8) : ∃ n, n ≤ 200 ∧ s_pz F (nI s) = nI n := by
  have := s_cn_le F (nI s)
  refine ⟨1 + 8 * s + 8 * s_cn F (nI s), by omega, ?_⟩
  unfold s_pz
  rw [s_ct_cn, pk_mul, pk_mul, nI_add, nI_add]
theorem s_sum_le {a : Nat} (hS : s_S c a g) : ∀ k, k ≤ 10 → ∃ n, n ≤ 200 * k ∧ s_sum g k = nI n := by
  intro k
  induction k with
  | zero => intro _; exact ⟨0, by omega, rfl⟩
  | succ k ih =>
    intro hk
    obtain ⟨n, hn, e⟩ := ih (by omega)
    rw [show s_sum g (k + 1) = if g (6 + 2 * k) = nI 1 then s_sum g k + s_pz (s_F g k) (g (7 + 2 * k)) else s_sum g k from rfl]
    by_cases q : g (6 + 2 * k) = nI 1
    · obtain ⟨⟨s, hs, es⟩, -⟩ := s_S_pg hS (P := k) (by omega) q
      obtain ⟨m, hm, em⟩ := s_pz_le (F := s_F g k) hs
      rw [if_pos q, es, em, e, nI_add]
      exact ⟨n + m, by omega, rfl⟩
    · rw [if_neg q]
      exact ⟨n, by omega, e⟩
theorem k_newPage {P : Nat} (hP : P < 10) (hI : s_I ps c g R h) (hj : ∀ j, j < P → g (6 + 2 * j) = nI 1) (hg : ¬ g (6 + 2 * P) = nI 1) : s_cc L rest ps c (mj_EV 29 0 [some (.ref 2), none] [] (w_sh L ps rest) c) g R h (¬ s_sum g 10 + nI 1 ≤ g 1) (nI P) (s_np g P) := by
  have hS := hI.2.1
  have h1 := hI.1
  obtain ⟨n, hn, en⟩ := s_sum_le hS 10 (by omega)
  have e24 : mj_EV 24 0 [some (.ref 3), none] [] (w_sh L ps rest) c = some (some (.int (nI P)), w_sh L ps rest, c) := by
    rw [e24_0, k_lowest hS (n := P) 0 (by omega) (fun j q => hj j (by omega)), Nat.zero_add, e24_2]
    simp (disch := omega) only [nI_leI, mj_in_nI, nI_clamp]
    rw [if_neg (by omega), if_pos (by simp; omega), if_pos (show c 6 P = (-1) from (s_S_no hS hP hg).2.1)]
  rw [e29_0, e24, mj_then_i, e29_7, if_neg (s_nm1 (by omega)), k_sum hS h1, mj_then_i, e29_18, k_exceeds hS h1, mj_then_i, e29_23]
  have hns : ¬ s_sum g 10 + nI 1 ≤ s_sum g 10 := by
    rw [en, nI_add]
    simp (disch := omega) only [nI_leI]
    omega
  constructor
  · intro q
    exact ⟨c, by rw [if_neg q, if_neg hns, if_neg (by decide)], hI, s_Fo_r c⟩
  · intro q
    obtain ⟨ps', c2, e2, hI2, hf2⟩ := k_keep (L := L) (rest := rest) hI
    have hS2 := hI2.2.1
    have e3 : mj_EV 28 0 [some (.ref 3), some (.int (nI P))] [] (w_sh L ps' rest) c2 = some (none, w_sh L ps' rest, mj_u (s_set (s_set c2 4 (fun j => if 64 * P ≤ j ∧ j < 64 * P + 64 then nI 0 else c2 4 j)) 5 (fun j => if 8 * P ≤ j ∧ j < 8 * P + 8 then nI 0 else s_set c2 4 (fun j => if 64 * P ≤ j ∧ j < 64 * P + 64 then nI 0 else c2 4 j) 5 j)) 6 P (nI 0)) := by
      rw [e28_0, e25_0, mj_then_i, e28_9, e25_0, mj_then_i, e28_16, pk_mul, nI_add, pk_mul, nI_add, pk_mul, nI_add, pk_mul, show (P * 8 + 0) * 8 = 64 * P by omega, show ((P + 1) * 8 + 0) * 8 = 64 * P + 64 by omega, j_fillR w_4 (by omega) (by omega) (by omega), mj_then_v, e28_20, e7_0, mj_then_i, e28_28, e7_0, mj_then_i, e28_34, pk_mul, nI_add, pk_mul, show P * 8 = 8 * P by omega, show (P + 1) * 8 = 8 * P + 8 by omega, j_fillR w_5 (by omega) (by omega) (by omega), mj_then_v, e28_38, mj_in_nI (by omega), nI_clamp (by omega), if_pos (by simp; omega)]
    refine ⟨ps', _, (by rw [if_pos (Classical.not_not.mp q), if_pos rfl, e2, mj_then_v, e29_40, e3, mj_then_v, e29_48]), s_I_g hI2 (s_S_new hS2 hP hg (fun b hb => ?_) (fun j => ?_) (fun j => ?_) ?_) (fun b hb => ?_), fun b hb => ?_⟩
    · rw [mj_u_ne _ _ _ _ (by omega), s_set_ne _ _ (by omega), s_set_ne _ _ (by omega)]
    · rw [mj_u_ne _ _ _ _ (by omega), s_set_ne _ _ (by omega), s_set_eq]
    · rw [mj_u_ne _ _ _ _ (by omega), s_set_eq, s_set_ne _ _ (by decide)]
    · rw [mj_u_self, s_set_ne _ _ (by decide), s_set_ne _ _ (by decide)]
    · rw [mj_u_ne _ _ _ _ (by omega), s_set_ne _ _ (by omega), s_set_ne _ _ (by omega)]
    · rw [mj_u_ne _ _ _ _ (by omega), s_set_ne _ _ (by omega), s_set_ne _ _ (by omega), hf2 b (by omega)]
theorem k_free {P : Nat} (hP : P < 10) (hI : s_I ps c g R h) (hg : g (6 + 2 * P) = nI 1) : ∃ ps' c', mj_EV 31 0 [some (.ref 2), some (.int (nI P)), none] [] (w_sh L ps rest) c = some (some (.int (s_pz (s_F g P) (g (7 + 2 * P)))), w_sh L ps' rest, c') ∧ s_I ps' c' (s_fp g P) (s_R R) (s_hp h R g) ∧ s_Fo c c' := by
  obtain ⟨ps', c2, e2, hI2, hf2⟩ := k_keep (L := L) (rest := rest) hI
  have hS2 := hI2.2.1
  have hm : P % 4 < 4 := Nat.mod_lt _ (by decide)
  have hP4 : nI P - nI P / nI 4 * nI 4 = nI (P % 4) := pk_rem (by omega) (by decide) (by decide)
  have e0 : ∀ A, mj_EV 30 0 [some (.ref 3), some (.int (nI P))] [] (w_sh L ps' rest) c2 = A → mj_EV 31 0 [some (.ref 2), some (.int (nI P)), none] [] (w_sh L ps rest) c = mj_then 31 38 [some (.ref 2), some (.int (nI P)), some (.int (s_pz (s_F g P) (g (7 + 2 * P))))] [] A := by
    intro A hA
    rw [e31_0, k_hasPage_y hI.2.1 hP hg, mj_then_i, e31_8, if_neg (by decide), e2, mj_then_v, e31_24, k_sizeOfPage hS2 hI2.1 hP hg, mj_then_i, e31_29, hA]
  have e30 := e30_0 (c := c2) (L := L) (ps := ps') (rest := rest) (x1 := nI P)
  rw [hP4, mj_in_nI (by omega), nI_clamp (by omega), mj_in_nI (by omega), nI_clamp (by omega), if_pos (by simp; omega), if_pos (by decide), if_pos (by simp; omega), mj_u_ne _ _ _ _ (by decide : 7 ≠ 6)] at e30
  by_cases q : c2 7 (P % 4) = nI P
  · rw [if_pos q, if_pos (by decide), if_pos (by simp; omega)] at e30
    refine ⟨ps', _, (by rw [e0 _ e30, mj_then_v, e31_38]), s_I_g hI2 (s_S_free hS2 hP (fun b hb => ?_) ?_ ?_) (fun b hb => ?_), fun b hb => ?_⟩
    · rw [mj_u_ne _ _ _ _ (by omega), mj_u_ne _ _ _ _ (by omega)]
    · rw [mj_u_ne _ _ _ _ (by decide), mj_u_self]
    · rw [if_pos q, mj_u_self, mj_u_ne _ _ _ _ (by decide)]
    · rw [mj_u_ne _ _ _ _ (by omega), mj_u_ne _ _ _ _ (by omega)]
    · rw [mj_u_ne _ _ _ _ (by omega), mj_u_ne _ _ _ _ (by omega), hf2 b (by omega)]
  · rw [if_neg q] at e30
    refine ⟨ps', _, (by rw [e0 _ e30, mj_then_v, e31_38]), s_I_g hI2 (s_S_free hS2 hP (fun b hb => ?_) ?_ ?_) (fun b hb => ?_), fun b hb => ?_⟩
    · rw [mj_u_ne _ _ _ _ (by omega)]
    · rw [mj_u_self]
    · rw [if_neg q, mj_u_ne _ _ _ _ (by decide)]
    · rw [mj_u_ne _ _ _ _ (by omega)]
    · rw [mj_u_ne _ _ _ _ (by omega), hf2 b (by omega)]
theorem s_S_lay {P : Nat} (hS : s_S c 3 g) (hP : P < 10) (hg : g (6 + 2 * P) = nI 1) : s_S (mj_u c 6 P (s_bs (s_F g P) (g 0))) 3 (s_lay g P) := by
  obtain ⟨r, hr, er⟩ := hS.2.1
  obtain ⟨s, hs, es⟩ := s_bs_le (s_fo_F g P) (r := r) (by omega)
  unfold s_lay
  rw [er, es]
  exact s_S_slot hS hP hg hs
theorem k_layAnew {P : Nat} (hP : P < 10) (hI : s_I ps c g R h) (hg : g (6 + 2 * P) = nI 1) : ∃ ps' c', mj_EV 32 0 [some (.ref 2), some (.int (nI P)), none] [] (w_sh L ps rest) c = some (some (.int (g (7 + 2 * P))), w_sh L ps' rest, c') ∧ s_I ps' c' (s_lay g P) (s_R R) (s_hp h R g) ∧ s_Fo c c' := by
  obtain ⟨ps', c2, e2, hI2, hf2⟩ := k_keep (L := L) (rest := rest) hI
  have hS2 := hI2.2.1
  obtain ⟨r, hr, er⟩ := hS2.2.1
  refine ⟨ps', _, ?_, s_I_g hI2 (s_S_lay hS2 hP hg) (fun b hb => mj_u_ne _ _ _ _ (by omega)), fun b hb => by rw [mj_u_ne _ _ _ _ (by omega), hf2 b (by omega)]⟩
  rw [e32_0, k_hasPage_y hI.2.1 hP hg, mj_then_i, e32_8, if_neg (by decide), e2, mj_then_v, e32_24, mj_in_nI (by omega), nI_clamp (by omega), if_pos (by simp; omega), show c2 3 0 = g 0 from hS2.1.1, er, k_bestSlotOf hS2 hI2.1 hP hg (by omega), mj_then_i, e32_54, mj_in_nI (by omega), nI_clamp (by omega), if_pos (by simp; omega), show c2 6 P = g (7 + 2 * P) from (s_S_pg hS2 hP hg).2.1]
theorem k_layAll (hI : s_I ps c g R h) : ∃ ps' c', mj_EV 33 0 [some (.ref 2), none, none] [] (w_sh L ps rest) c = some (some (.int (s_sum g 10 - s_sum (s_la g 10) 10)), w_sh L ps' rest, c') ∧ s_I ps' c' (s_la g 10) (s_R R) (s_hp h R g) ∧ s_Fo c c' := by
  obtain ⟨ps', c2, e2, hI2, hf2⟩ := k_keep (L := L) (rest := rest) hI
  have key : ∀ n k : Nat, k + n = 10 → ∀ x, ∀ c3 : mj_C, c3 1 = w_fs → s_S c3 3 (s_la g k) → ∃ c4, mj_EV 33 18 [some (.ref 2), some (.int x), some (.int (nI k))] [] (w_sh L ps' rest) c3 = some (some (.int (x - s_sum (s_la g 10) 10)), w_sh L ps' rest, c4) ∧ s_S c4 3 (s_la g 10) ∧ ∀ b, b ≠ 6 → c4 b = c3 b := by
    intro n
    induction n with
    | zero =>
      intro k hk x c3 h13 hS3
      rw [show k = 10 by omega] at hS3
      refine ⟨c3, ?_, hS3, fun _ _ => rfl⟩
      rw [e33_18]
      simp (disch := omega) only [nI_leI]
      rw [if_pos (by omega), k_sum hS3 h13, mj_then_i, e33_67]
    | succ n ih =>
      intro k hk x c3 h13 hS3
      rw [e33_18]
      simp (disch := omega) only [nI_leI]
      rw [if_neg (by omega), k_hasPage hS3 (by omega), mj_then_i, e33_32]
      have ek : s_la g (k + 1) = if s_la g k (6 + 2 * k) = nI 1 then s_lay (s_la g k) k else s_la g k := rfl
      by_cases q : s_la g k (6 + 2 * k) = nI 1
      · rw [if_pos q] at ek
        have hS5 := s_S_lay hS3 (by omega) q
        obtain ⟨r, hr, er⟩ := hS3.2.1
        rw [← ek] at hS5
        obtain ⟨c4, e4, hS4, hf4⟩ := ih (k + 1) (by omega) x _ (by rw [mj_u_ne _ _ _ _ (by decide)]; exact h13) hS5
        refine ⟨c4, ?_, hS4, fun b hb => by rw [hf4 b hb, mj_u_ne _ _ _ _ hb]⟩
        rw [if_pos q, if_neg (by decide), show c3 3 0 = s_la g k 0 from hS3.1.1, er, k_bestSlotOf hS3 h13 (by omega) q (by omega), mj_then_i, e33_55, mj_in_nI (by omega), nI_clamp (by omega), if_pos (by simp; omega), nI_add k 1, ← er]
        exact e4
      · rw [if_neg q] at ek
        rw [← ek] at hS3
        obtain ⟨c4, e4, hS4, hf4⟩ := ih (k + 1) (by omega) x c3 h13 hS3
        refine ⟨c4, ?_, hS4, hf4⟩
        rw [if_neg q, if_pos rfl, nI_add k 1]
        exact e4
  obtain ⟨c4, e4, hS4, hf4⟩ := key 10 0 (by omega) (s_sum g 10) c2 hI2.1 hI2.2.1
  refine ⟨ps', c4, ?_, s_I_g hI2 hS4 (fun b hb => hf4 b (by omega)), fun b hb => by rw [hf4 b (by omega), hf2 b (by omega)]⟩
  rw [e33_0, e2, mj_then_v, e33_11, k_sum hI2.2.1 hI2.1, mj_then_i, e33_15]
  exact e4
theorem k_look {P l w : Nat} (hP : P < 10) (hl : l < 8) (hw : w < 8) (hI : s_I ps c g R h) (hg : g (6 + 2 * P) = nI 1) : (s_hit g P l → ∃ ps' c', mj_EV 57 0 [some (.ref 2), some (.int (nI P)), some (.int (nI l)), some (.int (nI w))] [] (w_sh L ps rest) c = some (some (.int (s_wd g P l w)), w_sh L ps' rest, c') ∧ s_I ps' c' (s_lk1 g) (s_R R) (s_hp h R g) ∧ s_Fo c c') ∧ (¬ s_hit g P l → ∃ ps' c', mj_EV 57 0 [some (.ref 2), some (.int (nI P)), some (.int (nI l)), some (.int (nI w))] [] (w_sh L ps rest) c = some (some (.int (s_wd g P l w)), w_sh L ps' rest, c') ∧ s_I ps' c' (s_lk2 g P) (s_R R) (s_hp h R g) ∧ s_Fo c c') := by
  obtain ⟨ps', c2, e2, hI2, hf2⟩ := k_keep (L := L) (rest := rest) hI
  have hS2 := hI2.2.1
  have hm : P % 4 < 4 := Nat.mod_lt _ (by decide)
  have hP4 : nI P - nI P / nI 4 * nI 4 = nI (P % 4) := pk_rem (by omega) (by decide) (by decide)
  have e0 : ∀ c3, mj_EV 55 0 [some (.ref 2), some (.int (nI P)), some (.int (nI l)), none, none, none] [] (w_sh L ps' rest) c2 = some (none, w_sh L ps' rest, c3) → (∀ g', s_S c3 3 g' → g' (6 + 2 * P) = nI 1 → s_wd g' P l w = s_wd g P l w → mj_EV 57 0 [some (.ref 2), some (.int (nI P)), some (.int (nI l)), some (.int (nI w))] [] (w_sh L ps rest) c = some (some (.int (s_wd g P l w)), w_sh L ps' rest, c3)) := by
    intro c3 h3 g' hS3 hg3 hw3
    rw [e57_0, k_hasLine_y hI.2.1 hP hl hg, mj_then_i, e57_9, if_neg (by decide), k_isWord_y hw, mj_then_i, e57_16, if_neg (by decide), e2, mj_then_v, e57_32, h3, mj_then_v, e57_38, k_wordOf hS3 hP hl hw hg3, mj_then_i, e57_48, hw3]
  have hit : s_hit g P l ↔ c2 7 (P % 4) = nI P ∧ ((c2 8 (P % 4) ^^^ s_mk (s_F g P) (g (7 + 2 * P)) 8) >>> (nI l &&& 31)) &&& nI 1 = nI 0 := by
    rw [s_xb]
    unfold s_hit
    rcases hS2.2.2.2.2.2 (P % 4) hm with ⟨z1, z2⟩ | ⟨P', z0, z1, z2, z3⟩
    · have z2 : c2 7 (P % 4) = (-1) := z2
      rw [z1, z2]
      constructor
      · intro z
        exact absurd z.1 (s_ne6 P (by omega))
      · intro z
        exact absurd z.1.symm (s_nm1 (by omega))
    · have z2 : c2 7 (P % 4) = nI P' := z2
      have z3 : c2 8 (P % 4) = g (27 + 2 * (P % 4)) := z3
      rw [z1, z2, z3]
  have e55 := e55_0 (c := c2) (L := L) (ps := ps') (rest := rest) (x1 := nI P) (x2 := nI l)
  rw [if_pos (by decide), hP4, k_besideSet hS2 hI2.1 hP hg, mj_then_i, e55_9, mj_in_nI (by omega), nI_clamp (by omega), if_pos (by simp; omega), if_pos (by simp; omega)] at e55
  obtain ⟨⟨a0, a1, a2, a3, a4, a5⟩, ar, ab, -⟩ := hI2.2.1
  constructor
  · intro q
    have q' := hit.mp q
    rw [if_pos q'.1, if_pos q'.2] at e55
    have hS3 : s_S (mj_u c2 3 2 (c2 3 2 + nI 1)) 3 (s_lk1 g) := by
      unfold s_lk1
      refine s_S_num hS2 (fun k hk => by rw [s_upd_ne (by omega), s_upd_ne (by omega)]) (fun b h3 h4 => mj_u_ne _ _ _ _ (by omega)) ?_ (by rw [s_upd_ne (by omega), s_upd_ne (by omega)]; exact ar) (by rw [s_upd_ne (by omega), s_upd_ne (by omega)]; exact ab)
      rw [mj_u_self]
      refine ⟨?_, ?_, ?_, ?_, ?_, ?_⟩
      · rw [s_upd_ne (by omega), s_upd_ne (by omega), s_upd_ne (by omega)]; exact a0
      · rw [s_upd_ne (by omega), s_upd_ne (by omega), s_upd_ne (by omega)]; exact a1
      · rw [s_upd_eq, s_upd_ne (by omega), s_upd_eq, a2]
      · rw [s_upd_ne (by omega), s_upd_ne (by omega), s_upd_ne (by omega)]; exact a3
      · rw [s_upd_eq, s_upd_ne (by omega : 2 ≠ 4), s_upd_eq, s_upd_ne (by omega : 3 ≠ 4), s_upd_ne (by omega : 3 ≠ 2), a4, Int32.add_assoc, Int32.add_comm _ (nI 1), ← Int32.add_assoc]
      · rw [s_upd_ne (by omega), s_upd_ne (by omega), s_upd_ne (by omega)]; exact a5
    refine ⟨ps', _, e0 _ e55 _ hS3 ?_ ?_, s_I_g hI2 hS3 (fun b hb => mj_u_ne _ _ _ _ (by omega)), fun b hb => by rw [mj_u_ne _ _ _ _ (by omega), hf2 b (by omega)]⟩
    · unfold s_lk1
      rw [s_upd_ne (by omega), s_upd_ne (by omega)]
      exact hg
    · unfold s_wd s_lk1
      rw [s_upd_ne (by omega), s_upd_ne (by omega)]
  · intro q
    have e63 : mj_EV 55 0 [some (.ref 2), some (.int (nI P)), some (.int (nI l)), none, none, none] [] (w_sh L ps' rest) c2 = some (none, w_sh L ps' rest, mj_u (mj_u (mj_u c2 3 3 (c2 3 3 + nI 1)) 7 (P % 4) (nI P)) 8 (P % 4) (s_mk (s_F g P) (g (7 + 2 * P)) 8)) := by
      rw [e55]
      have e := e55_63 (c := c2) (L := L) (ps := ps') (rest := rest) (x1 := nI P) (x2 := nI l) (x3 := nI (P % 4)) (x4 := s_mk (s_F g P) (g (7 + 2 * P)) 8) (x5 := c2 8 (P % 4) ^^^ s_mk (s_F g P) (g (7 + 2 * P)) 8)
      rw [mj_in_nI (by omega), nI_clamp (by omega), if_pos (by simp; omega), if_pos (by simp; omega)] at e
      by_cases q1 : c2 7 (P % 4) = nI P
      · rw [if_pos q1, if_neg (fun q2 => q (hit.mpr ⟨q1, q2⟩))]
        exact e
      · rw [if_neg q1]
        exact e
    have hS3 : s_S (mj_u c2 3 3 (c2 3 3 + nI 1)) 3 (upd (upd g 3 (g 3 + nI 1)) 4 (g 4 + nI 2)) := by
      refine s_S_num hS2 (fun k hk => by rw [s_upd_ne (by omega), s_upd_ne (by omega)]) (fun b h3 h4 => mj_u_ne _ _ _ _ (by omega)) ?_ (by rw [s_upd_ne (by omega), s_upd_ne (by omega)]; exact ar) (by rw [s_upd_ne (by omega), s_upd_ne (by omega)]; exact ab)
      rw [mj_u_self]
      refine ⟨?_, ?_, ?_, ?_, ?_, ?_⟩
      · rw [s_upd_ne (by omega), s_upd_ne (by omega), s_upd_ne (by omega)]; exact a0
      · rw [s_upd_ne (by omega), s_upd_ne (by omega), s_upd_ne (by omega)]; exact a1
      · rw [s_upd_ne (by omega), s_upd_ne (by omega), s_upd_ne (by omega)]; exact a2
      · rw [s_upd_eq, s_upd_ne (by omega), s_upd_eq, a3]
      · rw [s_upd_eq, s_upd_ne (by omega : 3 ≠ 4), s_upd_eq, s_upd_ne (by omega : 2 ≠ 4), s_upd_ne (by omega : 2 ≠ 3), a4, Int32.mul_add, Int32.add_assoc]
        rfl
      · rw [s_upd_ne (by omega), s_upd_ne (by omega), s_upd_ne (by omega)]; exact a5
    have hS4 : s_S (mj_u (mj_u (mj_u c2 3 3 (c2 3 3 + nI 1)) 7 (P % 4) (nI P)) 8 (P % 4) (s_mk (s_F g P) (g (7 + 2 * P)) 8)) 3 (s_lk2 g P) := by
      refine s_S_hint (q0 := P % 4) hS3 hP hm (fun b hb => by rw [mj_u_ne _ _ _ _ (by omega), mj_u_ne _ _ _ _ (by omega)]) ?_ ?_ rfl
      · rw [mj_u_ne _ _ _ _ (by decide), mj_u_self]
      · rw [mj_u_self, mj_u_ne _ _ _ _ (by decide)]
    refine ⟨ps', _, e0 _ e63 _ hS4 ?_ ?_, s_I_g hI2 hS4 (fun b hb => by rw [mj_u_ne _ _ _ _ (by omega), mj_u_ne _ _ _ _ (by omega), mj_u_ne _ _ _ _ (by omega)]), fun b hb => by rw [mj_u_ne _ _ _ _ (by omega), mj_u_ne _ _ _ _ (by omega), mj_u_ne _ _ _ _ (by omega), hf2 b (by omega)]⟩
    · unfold s_lk2
      rw [s_upd_ne (by omega), s_upd_ne (by omega), s_upd_ne (by omega), s_upd_ne (by omega)]
      exact hg
    · unfold s_wd s_lk2
      rw [s_upd_ne (by omega), s_upd_ne (by omega), s_upd_ne (by omega), s_upd_ne (by omega)]
end KL6
