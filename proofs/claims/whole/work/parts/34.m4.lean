/-! THE REFERENCE's other methods -/
/-- either nothing changes and the answer is -4, or the row becomes g' and the old one is kept -/
def s_ch (L : Nat) (ps : List (Option (Option Nat))) (c : mj_C) (A : Option (Option Value × List mj_K × mj_C)) (g : Nat → Int32) (R : Nat) (h : Nat → Nat → Int32) (no : Prop) (x : Int32) (g' : Nat → Int32) : Prop := (no → ∃ c', A = some (some (.int (-4)), w_al L ps, c') ∧ s_M c' g R h ∧ s_Fr c c') ∧ (¬ no → ∃ c', A = some (some (.int x), w_al L ps, c') ∧ s_M c' g' (s_R R) (s_hp h R g) ∧ s_Fr c c')
def s_pm (g : Nat → Int32) : Nat → Int32
  | 0 => nI 0
  | k + 1 => if g (6 + 2 * k) = nI 1 then s_pm g k + nI 1 else s_pm g k
def s_bx (g : Nat → Int32) : Nat → Int32
  | 0 => nI 0
  | k + 1 => if g (6 + 2 * k) = nI 1 then s_bx g k + s_ct (s_F g k) (g (7 + 2 * k)) 8 else s_bx g k
def s_l1 (F : Nat → Int32) (x a : Int32) : Nat → Int32
  | 0 => a
  | k + 1 => if F k = x then s_l1 F x a k + nI 1 else s_l1 F x a k
def s_ln (g : Nat → Int32) (x : Int32) : Nat → Int32
  | 0 => nI 0
  | k + 1 => if g (6 + 2 * k) = nI 1 then s_l1 (s_F g k) x (s_ln g x k) 8 else s_ln g x k
def s_sm (f f' : Nat → Int32) : Nat → Bool
  | 0 => true
  | k + 1 => s_sm f f' k && decide (f k = f' k)
def s_q1 (g : Nat → Int32) (f : Nat → Int32) (p : Nat) (a : Int32) : Nat → Int32
  | 0 => a
  | k + 1 => if s_sm (s_wd g p k) f 8 = true then s_q1 g f p a k + nI 1 else s_q1 g f p a k
def s_qn (g : Nat → Int32) (f : Nat → Int32) : Nat → Int32
  | 0 => nI 0
  | k + 1 => if g (6 + 2 * k) = nI 1 then s_q1 g f k (s_qn g f k) 8 else s_qn g f k
/-- how much smaller a page would be -/
def s_gp (g : Nat → Int32) (p : Nat) : Int32 := s_pz (s_F g p) (g (7 + 2 * p)) - s_pz (s_F g p) (s_bs (s_F g p) (g 0))
def s_lg (g : Nat → Int32) : Nat → Int32
  | 0 => nI 0
  | k + 1 => if g (6 + 2 * k) = nI 1 then (if s_gp g k ≤ s_lg g k then s_lg g k else s_gp g k) else s_lg g k
def s_lo (g : Nat → Int32) : Nat → Int32
  | 0 => (-6)
  | k + 1 => if g (6 + 2 * k) = nI 1 then (if s_gp g k ≤ s_lg g k then s_lo g k else nI k) else s_lo g k
def s_rw (g : Nat → Int32) : Int32 := if g 1 - s_sum g 10 ≤ nI 0 then nI 0 else (g 1 - s_sum g 10) / nI 65
/-- a new page; a page is freed; a look -/
def s_np (g : Nat → Int32) (P : Nat) : Nat → Int32 := upd (upd g (6 + 2 * P) (nI 1)) (7 + 2 * P) (nI 0)
def s_zw (g : Nat → Int32) (P n : Nat) : Nat → Int32 := fun j => if 34 + 64 * P ≤ j ∧ j < 34 + 64 * P + n then nI 0 else upd (upd g (6 + 2 * P) (nI 0)) (7 + 2 * P) (nI 0) j
def s_fp (g : Nat → Int32) (P : Nat) : Nat → Int32 := if s_zw g P 64 (26 + 2 * (P % 4)) = nI P then upd (upd (s_zw g P 64) (26 + 2 * (P % 4)) (-6)) (27 + 2 * (P % 4)) (nI 0) else s_zw g P 64
def s_hit (g : Nat → Int32) (P l : Nat) : Prop := g (26 + 2 * (P % 4)) = nI P ∧ (g (27 + 2 * (P % 4)) >>> (nI l &&& 31)) &&& nI 1 = (s_mk (s_F g P) (g (7 + 2 * P)) 8 >>> (nI l &&& 31)) &&& nI 1
def s_lk1 (g : Nat → Int32) : Nat → Int32 := upd (upd g 2 (g 2 + nI 1)) 4 (g 4 + nI 1)
def s_lk2 (g : Nat → Int32) (P : Nat) : Nat → Int32 := upd (upd (upd (upd g 3 (g 3 + nI 1)) 4 (g 4 + nI 2)) (26 + 2 * (P % 4)) (nI P)) (27 + 2 * (P % 4)) (s_mk (s_F g P) (g (7 + 2 * P)) 8)
def s_un (g : Nat → Int32) (h : Nat → Nat → Int32) (R : Nat) : Nat → Int32 := fun k => if k < 674 then h (R - 1) k else g k
section MD5
variable {L : Nat} {ps : List (Option (Option Nat))} {c : mj_C} {g : Nat → Int32} {R : Nat} {h : Nat → Nat → Int32}
theorem m_setsRoom {r : Int32} (hok : s_ok (c 53)) : mj_EV 122 0 [some (.ref 52), some (.int r), none] [] (w_al L ps) c = some (none, w_al L ps, s_set c 53 (s_sr (upd (c 53) 0 r) 10)) := by
  have hok' : s_ok (upd (c 53) 0 r) := s_ok_congr (fun j hj => s_upd_ne (by omega)) hok
  have key : ∀ n k : Nat, k + n = 10 → mj_EV 122 9 [some (.ref 52), some (.int r), some (.int (nI k))] [] (w_al L ps) (s_set c 53 (s_sr (upd (c 53) 0 r) k)) = some (none, w_al L ps, s_set c 53 (s_sr (upd (c 53) 0 r) 10)) := by
    intro n
    induction n with
    | zero =>
      intro k hk
      rw [e122_9]
      simp (disch := omega) only [nI_leI]
      rw [if_pos (by omega), show k = 10 by omega]
    | succ n ih =>
      intro k hk
      rw [e122_9]
      simp (disch := omega) only [nI_leI]
      rw [if_neg (by omega), m_isPage (by omega), mj_then_i, e122_20, s_set_eq]
      have h1 := ih (k + 1) (by omega)
      rw [show s_sr (upd (c 53) 0 r) (k + 1) = if s_sr (upd (c 53) 0 r) k (6 + 2 * k) = nI 1 then s_keep (s_sr (upd (c 53) 0 r) k) k else s_sr (upd (c 53) 0 r) k from rfl] at h1
      by_cases q : s_sr (upd (c 53) 0 r) k (6 + 2 * k) = nI 1
      · rw [if_pos q] at h1 ⊢
        rw [if_neg (by decide), m_keeps (by omega) (by rw [s_set_eq]; exact s_ok_congr (s_sr_hi k (by omega)) hok'), mj_then_v, e122_28, s_set_set, s_set_eq, nI_add]
        exact h1
      · rw [if_neg q] at h1 ⊢
        rw [if_pos rfl, e122_28, nI_add]
        exact h1
  rw [e122_0, mj_in_nI (by omega), nI_clamp (by omega), if_pos (by decide), s_u]
  exact key 10 0 (by omega)
theorem m_laysAll (hok : s_ok (c 53)) : mj_EV 128 0 [some (.ref 52), none] [] (w_al L ps) c = some (none, w_al L ps, s_set c 53 (s_la (c 53) 10)) := by
  have key : ∀ n k : Nat, k + n = 10 → mj_EV 128 2 [some (.ref 52), some (.int (nI k))] [] (w_al L ps) (s_set c 53 (s_la (c 53) k)) = some (none, w_al L ps, s_set c 53 (s_la (c 53) 10)) := by
    intro n
    induction n with
    | zero =>
      intro k hk
      rw [e128_2]
      simp (disch := omega) only [nI_leI]
      rw [if_pos (by omega), show k = 10 by omega]
    | succ n ih =>
      intro k hk
      rw [e128_2]
      simp (disch := omega) only [nI_leI]
      rw [if_neg (by omega), m_isPage (by omega), mj_then_i, e128_13, s_set_eq]
      have h1 := ih (k + 1) (by omega)
      rw [show s_la (c 53) (k + 1) = if s_la (c 53) k (6 + 2 * k) = nI 1 then s_lay (s_la (c 53) k) k else s_la (c 53) k from rfl] at h1
      by_cases q : s_la (c 53) k (6 + 2 * k) = nI 1
      · rw [if_pos q] at h1 ⊢
        rw [if_neg (by decide), m_lays (by omega) (by rw [s_set_eq]; exact s_ok_congr (s_la_hi k (by omega)) hok), mj_then_v, e128_21, s_set_set, s_set_eq, nI_add]
        exact h1
      · rw [if_neg q] at h1 ⊢
        rw [if_pos rfl, e128_21, nI_add]
        exact h1
  rw [e128_0]
  have h0 := key 10 0 (by omega)
  rw [show s_la (c 53) 0 = c 53 from rfl, s_set_self] at h0
  exact h0
theorem s_sr_far {g : Nat → Int32} : ∀ j, 674 ≤ j → s_sr g 10 j = g j := fun j hj => s_sr_hi 10 (by omega) j (by omega)
theorem m_setRoom {r : Nat} (hr : r < 9) (hM : s_M c g R h) (hok : s_ok g) : s_ch L ps c (mj_EV 123 0 [some (.ref 52), some (.int (nI r)), none, none, none] [] (w_al L ps) c) g R h (s_may g (s_sum (s_sr (upd g 0 (nI r)) 10) 10) = nI 0) (g 0) (s_sr (upd g 0 (nI r)) 10) := by
  have e53 := hM.1
  subst e53
  have hok' : s_ok (s_sr (upd (c 53) 0 (nI r)) 10) := s_ok_congr (s_sr_hi 10 (by omega)) (s_ok_congr (fun j hj => s_upd_ne (by omega)) hok)
  have hk : s_kp c 53 = c 53 := s_kp_ne c (by decide)
  have e : mj_EV 123 0 [some (.ref 52), some (.int (nI r)), none, none, none] [] (w_al L ps) c = (mj_then 123 69 [some (.ref 52), some (.int (nI r)), some (.int (c 53 0)), some (.int (s_sum (c 53) 10)), some (.int (s_sum (s_sr (upd (c 53) 0 (nI r)) 10) 10))] [] (mj_EV 119 0 [some (.ref 52), some (.int (s_sum (c 53) 10)), some (.int (s_sum (s_sr (upd (c 53) 0 (nI r)) 10) 10))] [] (w_al L ps) (s_kp c))) := by
    have e1 := m_setsRoom (L := L) (ps := ps) (c := s_kp c) (r := nI r) (by rw [hk]; exact hok)
    rw [hk] at e1
    have e2 : mj_cp (s_set (s_kp c) 53 (s_sr (upd (c 53) 0 (nI r)) 10)) 54 53 0 0 674 = s_kp c := s_back (fun j hj => (s_sr_far j hj).trans (s_upd_ne (by omega)))
    rw [e123_0, m_withinY (by omega) (by omega) (by omega), mj_then_i, e123_7, if_neg (by decide), mj_in_nI (by omega), nI_clamp (by omega), if_pos (by decide), m_sum hok, mj_then_i, e123_24, m_copies w_53 w_54 (by decide) (by omega) (by omega) (by omega) (by omega), mj_then_v, e123_38, show mj_cp c 53 54 0 0 674 = s_kp c from rfl, e1, mj_then_v, e123_43, m_sum (by rw [s_set_eq]; exact hok'), mj_then_i, e123_47, m_copies w_54 w_53 (by decide) (by omega) (by omega) (by omega) (by omega), mj_then_v, e123_62, s_set_eq, e2]
  rw [e, m_isTooMuch, mj_then_i, e123_69, hk]
  unfold s_may
  constructor
  · intro q
    refine ⟨s_kp c, ?_, s_M_kp hM, s_Fr_kp⟩
    split at q
    · exact absurd q (by decide)
    · rename_i q1
      split at q
      · exact absurd q (by decide)
      · rename_i q2
        rw [if_neg q1, if_neg q2, if_neg (by decide)]
  · intro q
    obtain ⟨c1, e1, hM1, hF1, -⟩ := m_rec (L := L) (ps := ps) (s_M_kp hM)
    have h1 : c1 53 = c 53 := hM1.1
    have e2 := m_setsRoom (L := L) (ps := ps) (c := c1) (r := nI r) (by rw [h1]; exact hok)
    rw [h1] at e2
    refine ⟨s_set c1 53 (s_sr (upd (c 53) 0 (nI r)) 10), ?_, s_M_g _ hM1, s_Fr_t (s_Fr_t s_Fr_kp hF1) (s_Fr_set (Or.inl rfl))⟩
    have z : (if s_sum (s_sr (upd (c 53) 0 (nI r)) 10) 10 ≤ s_sum (c 53) 10 then nI 0 else if s_sum (s_sr (upd (c 53) 0 (nI r)) 10) 10 ≤ c 53 1 then nI 0 else nI 1) = nI 0 := by
      split
      · rfl
      · rename_i q1
        rw [if_neg q1] at q
        split
        · rfl
        · rename_i q2
          rw [if_neg q2] at q
          exact absurd rfl q
    rw [z, if_pos rfl, e1, mj_then_v, e123_79, e2, mj_then_v, e123_84]
theorem m_setBound {b : Nat} (hb : 20 ≤ b) (hb2 : b ≤ 999) (hM : s_M c g R h) : ∃ c', mj_EV 124 0 [some (.ref 52), some (.int (nI b)), none] [] (w_al L ps) c = some (some (.int (g 1)), w_al L ps, c') ∧ s_M c' (upd g 1 (nI b)) (s_R R) (s_hp h R g) ∧ s_Fr c c' := by
  obtain ⟨c1, e1, hM1, hF1, -⟩ := m_rec (L := L) (ps := ps) hM
  have h1 : c1 53 = g := hM1.1
  refine ⟨s_set c1 53 (upd g 1 (nI b)), ?_, s_M_g _ hM1, s_Fr_t hF1 (s_Fr_set (Or.inl rfl))⟩
  rw [e124_0, m_withinY hb hb2 (by omega), mj_then_i, e124_9, if_neg (by decide), e1, mj_then_v, e124_19, mj_in_nI (by omega), nI_clamp (by omega), if_pos (by decide), if_pos (by decide), s_u, h1]
theorem m_newPage_key (hM : s_M c g R h) {n : Nat} : ∀ k : Nat, k + n ≤ 10 → (∀ j, j < k + n → g (6 + 2 * j) = nI 1) → mj_EV 125 2 [some (.ref 52), some (.int (nI k))] [] (w_al L ps) c = mj_EV 125 2 [some (.ref 52), some (.int (nI (k + n)))] [] (w_al L ps) c := by
  induction n with
  | zero => intro k _ _; rfl
  | succ n ih =>
    intro k hk hj
    rw [e125_2]
    simp (disch := omega) only [nI_leI]
    rw [if_neg (by omega), m_isPage_y (by omega) (by rw [hM.1]; exact hj k (by omega)), mj_then_i, e125_13, if_neg (by decide), nI_add, ih (k + 1) (by omega) (fun j q => hj j (by omega)), show k + 1 + n = k + (n + 1) by omega]
theorem m_newPage_full (hM : s_M c g R h) (hj : ∀ j, j < 10 → g (6 + 2 * j) = nI 1) : mj_EV 125 0 [some (.ref 52), none] [] (w_al L ps) c = some (some (.int (-4)), w_al L ps, c) := by
  rw [e125_0, m_newPage_key hM (n := 10) 0 (by omega) (fun j q => hj j (by omega)), e125_2, if_pos (by decide), if_pos (by decide)]
theorem m_newPage {P : Nat} (hP : P < 10) (hM : s_M c g R h) (hok : s_ok g) (hj : ∀ j, j < P → g (6 + 2 * j) = nI 1) (hg : g (6 + 2 * P) ≠ nI 1) : s_ch L ps c (mj_EV 125 0 [some (.ref 52), none] [] (w_al L ps) c) g R h (¬ s_sum g 10 + nI 1 ≤ g 1) (nI P) (s_np g P) := by
  have e53 := hM.1
  subst e53
  have e : mj_EV 125 0 [some (.ref 52), none] [] (w_al L ps) c = mj_EV 125 32 [some (.ref 52), some (.int (nI P))] [.int (s_sum (c 53) 10)] (w_al L ps) c := by
    rw [e125_0, m_newPage_key hM (n := P) 0 (by omega) (fun j q => hj j (by omega)), Nat.zero_add, e125_2]
    simp (disch := omega) only [nI_leI]
    rw [if_neg (by omega), m_isPage hP, if_neg hg, mj_then_i, e125_13, if_pos rfl]
    simp (disch := omega) only [nI_eq]
    rw [if_neg (by omega), m_sum hok, mj_then_i]
  rw [e, e125_32, mj_in_nI (by omega), nI_clamp (by omega), if_pos (by decide)]
  constructor
  · intro q
    exact ⟨c, by rw [if_neg q], hM, s_Fr_r c⟩
  · intro q
    obtain ⟨c1, e1, hM1, hF1, -⟩ := m_rec (L := L) (ps := ps) hM
    have h1 : c1 53 = c 53 := hM1.1
    refine ⟨s_set c1 53 (s_np (c 53) P), ?_, s_M_g _ hM1, s_Fr_t hF1 (s_Fr_set (Or.inl rfl))⟩
    rw [if_pos (Classical.not_not.mp q), e1, mj_then_v, e125_50]
    simp (disch := omega) only [nI_add, pk_mul, mj_in_nI, nI_clamp]
    rw [if_pos (by simp; omega), if_pos (by simp; omega), s_u, s_u, s_set_set, s_set_eq, show 6 + 2 * P + 1 = 7 + 2 * P by omega, h1]
    rfl
theorem m_free {P : Nat} (hP : P < 10) (hM : s_M c g R h) (hok : s_ok g) (hg : g (6 + 2 * P) = nI 1) : ∃ c', mj_EV 126 0 [some (.ref 52), some (.int (nI P)), none, none] [] (w_al L ps) c = some (some (.int (s_pz (s_F g P) (g (7 + 2 * P)))), w_al L ps, c') ∧ s_M c' (s_fp g P) (s_R R) (s_hp h R g) ∧ s_Fr c c' := by
  obtain ⟨c1, e1, hM1, hF1, -⟩ := m_rec (L := L) (ps := ps) hM
  have h1 : c1 53 = g := hM1.1
  have hP4 : nI P - nI P / nI 4 * nI 4 = nI (P % 4) := pk_rem (by omega) (by decide) (by decide)
  have key : ∀ n k : Nat, k + n = 64 → ∀ x, mj_EV 126 48 [some (.ref 52), some (.int (nI P)), some (.int x), some (.int (nI k))] [] (w_al L ps) (s_set c1 53 (s_zw g P k)) = some (some (.int x), w_al L ps, s_set c1 53 (s_fp g P)) := by
    intro n
    induction n with
    | zero =>
      intro k hk x
      rw [e126_48, hP4, show k = 64 by omega]
      simp (disch := omega) only [nI_add, pk_mul, mj_in_nI, nI_clamp]
      rw [if_pos (by decide), if_pos (by decide), if_pos (by simp; omega), s_set_eq]
      unfold s_fp
      split
      · rw [if_pos (by simp; omega), if_pos (by simp; omega), s_u, s_u, s_set_set, s_set_set, s_set_eq, s_set_eq, show 26 + 2 * (P % 4) + 1 = 27 + 2 * (P % 4) by omega]
      · rfl
    | succ n ih =>
      intro k hk x
      rw [e126_48]
      simp (disch := omega) only [nI_leI]
      rw [if_neg (by omega)]
      simp (disch := omega) only [nI_add, pk_mul, mj_in_nI, nI_clamp]
      rw [if_pos (by simp; omega), s_u, s_set_set, s_set_eq]
      have e : upd (s_zw g P k) (34 + 64 * P + k) (nI 0) = s_zw g P (k + 1) := by
        funext j
        by_cases q : j = 34 + 64 * P + k
        · rw [q, s_upd_eq]
          unfold s_zw
          rw [if_pos (by omega)]
        · rw [s_upd_ne q]
          unfold s_zw
          by_cases q2 : 34 + 64 * P ≤ j ∧ j < 34 + 64 * P + k
          · rw [if_pos q2, if_pos (by omega)]
          · rw [if_neg q2, if_neg (by omega)]
      rw [e]
      exact ih (k + 1) (by omega) x
  refine ⟨s_set c1 53 (s_fp g P), ?_, s_M_g _ hM1, s_Fr_t hF1 (s_Fr_set (Or.inl rfl))⟩
  rw [e126_0, m_isPage_y hP (by rw [hM.1]; exact hg), mj_then_i, e126_5, if_neg (by decide), e1, mj_then_v, e126_14, m_pageSize hP (by rw [h1]; exact hok), mj_then_i, e126_19]
  simp (disch := omega) only [nI_add, pk_mul, mj_in_nI, nI_clamp]
  rw [if_pos (by simp; omega), if_pos (by simp; omega), s_u, s_u, s_set_set, s_set_eq, show 6 + 2 * P + 1 = 7 + 2 * P by omega, h1]
  have e : upd (upd g (6 + 2 * P) (nI 0)) (7 + 2 * P) (nI 0) = s_zw g P 0 := by
    funext j
    unfold s_zw
    rw [if_neg (by omega)]
  rw [e]
  exact key 64 0 (by omega) _
theorem m_layAnew {P : Nat} (hP : P < 10) (hM : s_M c g R h) (hok : s_ok g) (hg : g (6 + 2 * P) = nI 1) : ∃ c', mj_EV 127 0 [some (.ref 52), some (.int (nI P)), none] [] (w_al L ps) c = some (some (.int (g (7 + 2 * P))), w_al L ps, c') ∧ s_M c' (s_lay g P) (s_R R) (s_hp h R g) ∧ s_Fr c c' := by
  obtain ⟨c1, e1, hM1, hF1, -⟩ := m_rec (L := L) (ps := ps) hM
  have h1 : c1 53 = g := hM1.1
  refine ⟨s_set c1 53 (s_lay g P), ?_, s_M_g _ hM1, s_Fr_t hF1 (s_Fr_set (Or.inl rfl))⟩
  rw [e127_0, m_isPage_y hP (by rw [hM.1]; exact hg), mj_then_i, e127_5, if_neg (by decide), e1, mj_then_v, e127_14, m_slot hP, mj_then_i, e127_19, m_lays hP (by rw [h1]; exact hok), mj_then_v, e127_25, h1]
theorem m_layAllAnew (hM : s_M c g R h) (hok : s_ok g) : ∃ c', mj_EV 129 0 [some (.ref 52), none] [] (w_al L ps) c = some (some (.int (s_sum g 10 - s_sum (s_la g 10) 10)), w_al L ps, c') ∧ s_M c' (s_la g 10) (s_R R) (s_hp h R g) ∧ s_Fr c c' := by
  obtain ⟨c1, e1, hM1, hF1, -⟩ := m_rec (L := L) (ps := ps) hM
  have h1 : c1 53 = g := hM1.1
  have hok1 : s_ok (c1 53) := by rw [h1]; exact hok
  refine ⟨s_set c1 53 (s_la g 10), ?_, s_M_g _ hM1, s_Fr_t hF1 (s_Fr_set (Or.inl rfl))⟩
  rw [e129_0, e1, mj_then_v, e129_4, m_sum hok1, mj_then_i, e129_8, m_laysAll hok1, mj_then_v, e129_13, m_sum (by rw [s_set_eq]; exact s_ok_congr (s_la_hi 10 (by omega)) hok1), mj_then_i, e129_18, s_set_eq, h1]
theorem m_undo0 (hM : s_M c g 0 h) : mj_EV 165 0 [some (.ref 52)] [] (w_al L ps) c = some (some (.int (-3)), w_al L ps, c) := by
  rw [e165_0, if_pos hM.2.1]
theorem m_undo (hM : s_M c g (R + 1) h) : ∃ c', mj_EV 165 0 [some (.ref 52)] [] (w_al L ps) c = some (some (.int (nI R)), w_al L ps, c') ∧ s_M c' (s_un g h (R + 1)) R h ∧ s_Fr c c' := by
  obtain ⟨h1, h2, h3, h4⟩ := hM
  have e1 : nI (R + 1) - nI 1 = nI R := pk_sub (by omega)
  have e2 : mj_u c 52 3 (nI R) 52 3 = nI R := by simp [mj_u]
  refine ⟨mj_cp (mj_u c 52 3 (nI R)) 55 53 (R * 674) 0 674, ?_, ⟨?_, ?_, by omega, ?_⟩, ?_, ?_, ?_⟩
  · rw [e165_0, h2, if_neg (by simp (disch := omega) only [nI_eq]; omega), e1, e2, pk_mul, m_copies w_55 w_53 (by decide) (by omega) (by omega) (by omega) (by omega), mj_then_v, e165_40, mj_cp_ne _ _ _ _ _ _ (by decide), e2]
  · funext k
    unfold s_un
    by_cases q : k < 674
    · rw [if_pos q, s_cp_in (by omega) (by omega), mj_u_ne _ _ _ _ (by decide : 55 ≠ 52), show R * 674 + (k - 0) = 674 * R + k by omega, h4 R (by omega) k q]
      rfl
    · rw [if_neg q, s_cp_out (by omega), mj_u_ne _ _ _ _ (by decide : 53 ≠ 52), h1]
  · rw [mj_cp_ne _ _ _ _ _ _ (by decide), e2]
  · intro i hi k hk
    rw [mj_cp_ne _ _ _ _ _ _ (by decide), mj_u_ne _ _ _ _ (by decide)]
    exact h4 i (by omega) k hk
  · intro b hb
    rw [mj_cp_ne _ _ _ _ _ _ (by omega), mj_u_ne _ _ _ _ (by omega)]
  · rw [mj_cp_ne _ _ _ _ _ _ (by decide), mj_u_ne _ _ _ _ (by decide)]
  · intro j hj
    rw [mj_cp_ne _ _ _ _ _ _ (by decide)]
    simp [mj_u, hj]
theorem m_look {P l w : Nat} (hP : P < 10) (hl : l < 8) (hw : w < 8) (hM : s_M c g R h) (hok : s_ok g) (hg : g (6 + 2 * P) = nI 1) : (s_hit g P l → ∃ c', mj_EV 135 0 [some (.ref 52), some (.int (nI P)), some (.int (nI l)), some (.int (nI w)), none, none, none] [] (w_al L ps) c = some (some (.int (s_wd g P l w)), w_al L ps, c') ∧ s_M c' (s_lk1 g) (s_R R) (s_hp h R g) ∧ s_Fr c c') ∧ (¬ s_hit g P l → ∃ c', mj_EV 135 0 [some (.ref 52), some (.int (nI P)), some (.int (nI l)), some (.int (nI w)), none, none, none] [] (w_al L ps) c = some (some (.int (s_wd g P l w)), w_al L ps, c') ∧ s_M c' (s_lk2 g P) (s_R R) (s_hp h R g) ∧ s_Fr c c') := by
  obtain ⟨c1, e1, hM1, hF1, -⟩ := m_rec (L := L) (ps := ps) hM
  have h1 : c1 53 = g := hM1.1
  have hP4 : nI P - nI P / nI 4 * nI 4 = nI (P % 4) := pk_rem (by omega) (by decide) (by decide)
  have e : mj_EV 135 0 [some (.ref 52), some (.int (nI P)), some (.int (nI l)), some (.int (nI w)), none, none, none] [] (w_al L ps) c = mj_EV 135 37 [some (.ref 52), some (.int (nI P)), some (.int (nI l)), some (.int (nI w)), some (.int (nI (26 + 2 * (P % 4)))), none, none] [.int (s_mk (s_F g P) (g (7 + 2 * P)) 8)] (w_al L ps) c1 := by
    rw [e135_0, m_isLine_y hP hl (by rw [hM.1]; exact hg), mj_then_i, e135_6, if_neg (by decide), m_isOne_y hw, mj_then_i, e135_13, if_neg (by decide), e1, mj_then_v, e135_22, if_pos (by decide), m_beside hP (by rw [h1]; exact hok), mj_then_i, hP4, pk_mul, nI_add, h1]
  have e76 : ¬ s_hit g P l → mj_EV 135 0 [some (.ref 52), some (.int (nI P)), some (.int (nI l)), some (.int (nI w)), none, none, none] [] (w_al L ps) c = mj_EV 135 76 [some (.ref 52), some (.int (nI P)), some (.int (nI l)), some (.int (nI w)), some (.int (nI (26 + 2 * (P % 4)))), some (.int (s_mk (s_F g P) (g (7 + 2 * P)) 8)), none] [] (w_al L ps) c1 := by
    intro q
    rw [e, e135_37, h1]
    simp (disch := omega) only [nI_add, mj_in_nI, nI_clamp]
    rw [if_pos (by simp; omega)]
    by_cases q1 : g (26 + 2 * (P % 4)) = nI P
    · rw [if_pos q1, if_pos (by simp; omega), show 26 + 2 * (P % 4) + 1 = 27 + 2 * (P % 4) by omega, if_neg (fun q2 => q ⟨q1, q2⟩)]
    · rw [if_neg q1]
  have e77 : s_hit g P l → mj_EV 135 0 [some (.ref 52), some (.int (nI P)), some (.int (nI l)), some (.int (nI w)), none, none, none] [] (w_al L ps) c = mj_EV 135 77 [some (.ref 52), some (.int (nI P)), some (.int (nI l)), some (.int (nI w)), some (.int (nI (26 + 2 * (P % 4)))), some (.int (s_mk (s_F g P) (g (7 + 2 * P)) 8)), none] [.int (nI 1)] (w_al L ps) c1 := by
    intro q
    rw [e, e135_37, h1]
    simp (disch := omega) only [nI_add, mj_in_nI, nI_clamp]
    rw [if_pos (by simp; omega), if_pos q.1, if_pos (by simp; omega), show 26 + 2 * (P % 4) + 1 = 27 + 2 * (P % 4) by omega, if_pos q.2]
  constructor
  · intro q
    refine ⟨s_set c1 53 (s_lk1 g), ?_, s_M_g _ hM1, s_Fr_t hF1 (s_Fr_set (Or.inl rfl))⟩
    rw [e77 q, e135_77, if_neg (by decide)]
    simp (disch := omega) only [mj_in_nI, nI_clamp]
    rw [if_pos (by decide), if_pos (by decide), if_pos (by decide), if_pos (by decide)]
    simp only [s_u, s_set_eq, s_set_set, h1]
    rw [m_word hP hl hw, mj_then_i, e135_153, s_set_eq, s_upd_ne (by decide : 4 ≠ 2)]
    have e3 : s_wd (upd (upd g 2 (g 2 + nI 1)) 4 (g 4 + nI 1)) P l w = s_wd g P l w := by
      unfold s_wd
      rw [s_upd_ne (by omega), s_upd_ne (by omega)]
    rw [e3]
    rfl
  · intro q
    refine ⟨s_set c1 53 (s_lk2 g P), ?_, s_M_g _ hM1, s_Fr_t hF1 (s_Fr_set (Or.inl rfl))⟩
    rw [e76 q, e135_76, e135_77, if_pos rfl]
    simp (disch := omega) only [mj_in_nI, nI_clamp, nI_add]
    rw [if_pos (by decide), if_pos (by decide), if_pos (by decide), if_pos (by decide), if_pos (by simp; omega), if_pos (by simp; omega)]
    simp only [s_u, s_set_eq, s_set_set, h1]
    rw [m_word hP hl hw, mj_then_i, e135_153, s_set_eq, s_upd_ne (by decide : 4 ≠ 3), show 26 + 2 * (P % 4) + 1 = 27 + 2 * (P % 4) by omega]
    have e3 : s_wd (s_lk2 g P) P l w = s_wd g P l w := by
      unfold s_wd s_lk2
      rw [s_upd_ne (by omega), s_upd_ne (by omega), s_upd_ne (by omega), s_upd_ne (by omega)]
    rw [← e3]
    rfl
theorem m_ifRoom {r : Nat} (hr : r < 9) (hM : s_M c g R h) (hok : s_ok g) : ∃ c', mj_EV 150 0 [some (.ref 52), some (.int (nI r)), none] [] (w_al L ps) c = some (some (.int (s_sum (s_la (upd g 0 (nI r)) 10) 10)), w_al L ps, c') ∧ s_M c' g R h ∧ s_Fr c c' := by
  have e53 := hM.1
  subst e53
  have hok0 : s_ok (upd (c 53) 0 (nI r)) := s_ok_congr (fun j hj => s_upd_ne (by omega)) hok
  have hok' : s_ok (s_la (upd (c 53) 0 (nI r)) 10) := s_ok_congr (s_la_hi 10 (by omega)) hok0
  have hk : s_kp c 53 = c 53 := s_kp_ne c (by decide)
  have e2 : mj_cp (s_set (s_kp c) 53 (s_la (upd (c 53) 0 (nI r)) 10)) 54 53 0 0 674 = s_kp c := s_back (fun j hj => (s_la_hi 10 (by omega) j (by omega)).trans (s_upd_ne (by omega)))
  refine ⟨s_kp c, ?_, s_M_kp hM, s_Fr_kp⟩
  rw [e150_0, m_withinY (by omega) (by omega) (by omega), mj_then_i, e150_7, if_neg (by decide), m_copies w_53 w_54 (by decide) (by omega) (by omega) (by omega) (by omega), mj_then_v, e150_26, mj_in_nI (by omega), nI_clamp (by omega), if_pos (by decide), s_u, show mj_cp c 53 54 0 0 674 = s_kp c from rfl, hk, m_laysAll (by rw [s_set_eq]; exact hok0), mj_then_v, e150_37, s_set_set, s_set_eq, m_sum (by rw [s_set_eq]; exact hok'), mj_then_i, e150_41, m_copies w_54 w_53 (by decide) (by omega) (by omega) (by omega) (by omega), mj_then_v, e150_55, s_set_eq, e2]
theorem m_pagesMany : mj_EV 115 0 [some (.ref 52), none, none] [] (w_al L ps) c = some (some (.int (s_pm (c 53) 10)), w_al L ps, c) := by
  have key : ∀ n k : Nat, k + n = 10 → mj_EV 115 4 [some (.ref 52), some (.int (s_pm (c 53) k)), some (.int (nI k))] [] (w_al L ps) c = some (some (.int (s_pm (c 53) 10)), w_al L ps, c) := by
    intro n
    induction n with
    | zero =>
      intro k hk
      rw [e115_4]
      simp (disch := omega) only [nI_leI]
      rw [if_pos (by omega), show k = 10 by omega]
    | succ n ih =>
      intro k hk
      rw [e115_4]
      simp (disch := omega) only [nI_leI]
      rw [if_neg (by omega), m_isPage (by omega), mj_then_i, e115_16]
      have h1 := ih (k + 1) (by omega)
      rw [show s_pm (c 53) (k + 1) = if c 53 (6 + 2 * k) = nI 1 then s_pm (c 53) k + nI 1 else s_pm (c 53) k from rfl] at h1
      by_cases q : c 53 (6 + 2 * k) = nI 1
      · rw [if_pos q] at h1 ⊢
        rw [if_neg (by decide), nI_add k 1]
        exact h1
      · rw [if_neg q] at h1 ⊢
        rw [if_pos rfl, nI_addz, nI_add k 1]
        exact h1
  rw [e115_0]
  exact key 10 0 (by omega)
theorem m_besideMany (hok : s_ok (c 53)) : mj_EV 136 0 [some (.ref 52), none, none] [] (w_al L ps) c = some (some (.int (s_bx (c 53) 10)), w_al L ps, c) := by
  have key : ∀ n k : Nat, k + n = 10 → mj_EV 136 4 [some (.ref 52), some (.int (s_bx (c 53) k)), some (.int (nI k))] [] (w_al L ps) c = some (some (.int (s_bx (c 53) 10)), w_al L ps, c) := by
    intro n
    induction n with
    | zero =>
      intro k hk
      rw [e136_4]
      simp (disch := omega) only [nI_leI]
      rw [if_pos (by omega), show k = 10 by omega]
    | succ n ih =>
      intro k hk
      rw [e136_4]
      simp (disch := omega) only [nI_leI]
      rw [if_neg (by omega), m_isPage (by omega), mj_then_i, e136_16]
      have h1 := ih (k + 1) (by omega)
      rw [show s_bx (c 53) (k + 1) = if c 53 (6 + 2 * k) = nI 1 then s_bx (c 53) k + s_ct (s_F (c 53) k) (c 53 (7 + 2 * k)) 8 else s_bx (c 53) k from rfl] at h1
      by_cases q : c 53 (6 + 2 * k) = nI 1
      · rw [if_pos q] at h1 ⊢
        rw [if_neg (by decide), m_beside (by omega) hok, mj_then_i, e136_24, m_ones, mj_then_i, e136_27, s_one, nI_add k 1]
        exact h1
      · rw [if_neg q] at h1 ⊢
        rw [if_pos rfl, nI_addz, nI_add k 1]
        exact h1
  rw [e136_0]
  exact key 10 0 (by omega)
theorem m_linesOf {x : Int32} (hok : s_ok (c 53)) : mj_EV 144 0 [some (.ref 52), some (.int x), none, none, none] [] (w_al L ps) c = some (some (.int (s_ln (c 53) x 10)), w_al L ps, c) := by
  have inner : ∀ p, p < 10 → c 53 (6 + 2 * p) = nI 1 → ∀ a, ∀ n k : Nat, k + n = 8 → ∃ k4, mj_EV 144 13 [some (.ref 52), some (.int x), some (.int (s_l1 (s_F (c 53) p) x a k)), some (.int (nI p)), some (.int (nI k))] [] (w_al L ps) c = mj_EV 144 4 [some (.ref 52), some (.int x), some (.int (s_l1 (s_F (c 53) p) x a 8)), some (.int (nI (p + 1))), k4] [] (w_al L ps) c := by
    intro p hp hg a n
    induction n with
    | zero =>
      intro k hk
      refine ⟨some (.int (nI k)), ?_⟩
      rw [e144_13]
      simp (disch := omega) only [nI_leI]
      rw [if_pos (by omega), show k = 8 by omega, nI_add]
    | succ n ih =>
      intro k hk
      obtain ⟨k4, h1⟩ := ih (k + 1) (by omega)
      refine ⟨k4, ?_⟩
      rw [e144_13]
      simp (disch := omega) only [nI_leI]
      rw [if_neg (by omega), m_isPage_y hp hg, mj_then_i, e144_25, if_neg (by decide), m_formOf hp (by omega) hok, mj_then_i, e144_36, ← h1]
      rw [show s_l1 (s_F (c 53) p) x a (k + 1) = if s_F (c 53) p k = x then s_l1 (s_F (c 53) p) x a k + nI 1 else s_l1 (s_F (c 53) p) x a k from rfl]
      split
      · rw [nI_add k 1]
      · rw [nI_addz, nI_add k 1]
  have key : ∀ n k : Nat, k + n = 10 → ∀ o4, mj_EV 144 4 [some (.ref 52), some (.int x), some (.int (s_ln (c 53) x k)), some (.int (nI k)), o4] [] (w_al L ps) c = some (some (.int (s_ln (c 53) x 10)), w_al L ps, c) := by
    intro n
    induction n with
    | zero =>
      intro k hk o4
      rw [e144_4]
      simp (disch := omega) only [nI_leI]
      rw [if_pos (by omega), show k = 10 by omega]
    | succ n ih =>
      intro k hk o4
      rw [e144_4]
      simp (disch := omega) only [nI_leI]
      rw [if_neg (by omega)]
      have h1 := ih (k + 1) (by omega)
      rw [show s_ln (c 53) x (k + 1) = if c 53 (6 + 2 * k) = nI 1 then s_l1 (s_F (c 53) k) x (s_ln (c 53) x k) 8 else s_ln (c 53) x k from rfl] at h1
      by_cases q : c 53 (6 + 2 * k) = nI 1
      · rw [if_pos q] at h1
        obtain ⟨k4, h2⟩ := inner k (by omega) q (s_ln (c 53) x k) 8 0 (by omega)
        rw [show s_l1 (s_F (c 53) k) x (s_ln (c 53) x k) 0 = s_ln (c 53) x k from rfl] at h2
        rw [h2]
        exact h1 _
      · rw [if_neg q] at h1
        rw [e144_13]
        simp (disch := omega) only [nI_leI]
        rw [if_neg (by omega), m_isPage (by omega), if_neg q, mj_then_i, e144_25, if_pos rfl, nI_add k 1]
        exact h1 _
  rw [e144_0]
  exact key 10 0 (by omega) _
theorem m_findLoosest (hok : s_ok (c 53)) : mj_EV 151 0 [some (.ref 52), none, none, none, none] [] (w_al L ps) c = some (some (.int (s_lo (c 53) 10)), w_al L ps, c) := by
  have key : ∀ n k : Nat, k + n = 10 → nI 0 ≤ s_lg (c 53) k → ∀ o4, mj_EV 151 7 [some (.ref 52), some (.int (s_lo (c 53) k)), some (.int (s_lg (c 53) k)), some (.int (nI k)), o4] [] (w_al L ps) c = some (some (.int (s_lo (c 53) 10)), w_al L ps, c) := by
    intro n
    induction n with
    | zero =>
      intro k hk h0 o4
      rw [e151_7]
      simp (disch := omega) only [nI_leI]
      rw [if_pos (by omega), show k = 10 by omega]
    | succ n ih =>
      intro k hk h0 o4
      rw [e151_7]
      simp (disch := omega) only [nI_leI]
      rw [if_neg (by omega), m_isPage (by omega), mj_then_i, e151_18]
      have h1 := ih (k + 1) (by omega)
      rw [show s_lo (c 53) (k + 1) = if c 53 (6 + 2 * k) = nI 1 then (if s_gp (c 53) k ≤ s_lg (c 53) k then s_lo (c 53) k else nI k) else s_lo (c 53) k from rfl, show s_lg (c 53) (k + 1) = if c 53 (6 + 2 * k) = nI 1 then (if s_gp (c 53) k ≤ s_lg (c 53) k then s_lg (c 53) k else s_gp (c 53) k) else s_lg (c 53) k from rfl] at h1
      by_cases q : c 53 (6 + 2 * k) = nI 1
      · rw [if_pos q, if_pos q] at h1
        rw [if_pos q, if_neg (by decide), m_pageSize (by omega) hok, mj_then_i, e151_26, m_best (by omega) hok, mj_then_i, e151_33, m_sizeWith (by omega) hok, mj_then_i, e151_36, e151_41]
        rw [show s_pz (s_F (c 53) k) (c 53 (7 + 2 * k)) - s_pz (s_F (c 53) k) (s_bs (s_F (c 53) k) (c 53 0)) = s_gp (c 53) k from rfl]
        by_cases q1 : s_gp (c 53) k ≤ s_lg (c 53) k
        · rw [if_pos q1, if_pos q1] at h1
          rw [if_pos q1, if_pos q1, nI_add k 1]
          exact h1 h0 _
        · rw [if_neg q1, if_neg q1] at h1
          rw [if_neg q1, if_neg q1, nI_add k 1]
          exact h1 (Int32.le_trans h0 (Int32.le_of_lt (Int32.not_le.mp q1))) _
      · rw [if_neg q, if_neg q] at h1
        rw [if_neg q, if_pos rfl, e151_41, if_pos h0, if_pos h0, nI_add k 1]
        exact h1 h0 _
  rw [e151_0]
  exact key 10 0 (by omega) (Int32.le_refl _) _
theorem m_rawLeft (hok : s_ok (c 53)) : mj_EV 153 0 [some (.ref 52), none] [] (w_al L ps) c = some (some (.int (s_rw (c 53))), w_al L ps, c) := by
  rw [e153_0, mj_in_nI (by omega), nI_clamp (by omega), if_pos (by decide), m_sum hok, mj_then_i, e153_10]
  unfold s_rw
  split
  · rfl
  · rw [if_pos (by decide)]
theorem m_equal {P l : Nat} (hP : P < 10) (hl : l < 8) (hg : c 53 (6 + 2 * P) = nI 1) : mj_EV 148 0 [some (.ref 52), some (.int (nI P)), some (.int (nI l)), none, none, none, none, none] [] (w_al L ps) c = some (some (.int (s_qn (c 53) (s_wd (c 53) P l) 10)), w_al L ps, c) := by
  have inmost : ∀ p k, p < 10 → k < 8 → ∀ a, ∀ n w : Nat, w + n = 8 → ∃ o6 o7, mj_EV 148 48 [some (.ref 52), some (.int (nI P)), some (.int (nI l)), some (.int a), some (.int (nI p)), some (.int (nI k)), some (.int (if s_sm (s_wd (c 53) p k) (s_wd (c 53) P l) w = true then nI 1 else nI 0)), some (.int (nI w))] [] (w_al L ps) c = mj_EV 148 26 [some (.ref 52), some (.int (nI P)), some (.int (nI l)), some (.int (if s_sm (s_wd (c 53) p k) (s_wd (c 53) P l) 8 = true then a + nI 1 else a)), some (.int (nI p)), some (.int (nI (k + 1))), o6, o7] [] (w_al L ps) c := by
    intro p k hp hk a n
    induction n with
    | zero =>
      intro w hw
      refine ⟨some (.int (if s_sm (s_wd (c 53) p k) (s_wd (c 53) P l) w = true then nI 1 else nI 0)), some (.int (nI w)), ?_⟩
      rw [e148_48]
      simp (disch := omega) only [nI_leI]
      rw [if_pos (by omega), show w = 8 by omega]
      split
      · rw [if_neg (by decide), nI_add k 1]
      · rw [if_pos rfl, nI_addz, nI_add k 1]
    | succ n ih =>
      intro w hw
      obtain ⟨o6, o7, h1⟩ := ih (w + 1) (by omega)
      refine ⟨o6, o7, ?_⟩
      rw [← h1, e148_48]
      simp (disch := omega) only [nI_leI]
      rw [if_neg (by omega)]
      rw [show s_sm (s_wd (c 53) p k) (s_wd (c 53) P l) (w + 1) = (s_sm (s_wd (c 53) p k) (s_wd (c 53) P l) w && decide (s_wd (c 53) p k w = s_wd (c 53) P l w)) from rfl]
      by_cases q : s_sm (s_wd (c 53) p k) (s_wd (c 53) P l) w = true
      · rw [if_pos q, if_neg (by decide), m_word hp hk (by omega), mj_then_i, e148_70, m_word hP hl (by omega), mj_then_i, e148_78, nI_add w 1]
        by_cases q1 : s_wd (c 53) p k w = s_wd (c 53) P l w
        · rw [if_pos q1, if_pos (by simp [q, q1])]
        · rw [if_neg q1, if_neg (by simp [q1])]
      · rw [if_neg q, if_pos rfl, nI_add w 1, if_neg (by simp [q])]
  have inner : ∀ p, p < 10 → c 53 (6 + 2 * p) = nI 1 → ∀ a, ∀ n k : Nat, k + n = 8 → ∀ o6 o7, ∃ o5 o6' o7', mj_EV 148 26 [some (.ref 52), some (.int (nI P)), some (.int (nI l)), some (.int (s_q1 (c 53) (s_wd (c 53) P l) p a k)), some (.int (nI p)), some (.int (nI k)), o6, o7] [] (w_al L ps) c = mj_EV 148 16 [some (.ref 52), some (.int (nI P)), some (.int (nI l)), some (.int (s_q1 (c 53) (s_wd (c 53) P l) p a 8)), some (.int (nI (p + 1))), o5, o6', o7'] [] (w_al L ps) c := by
    intro p hp hgp a n
    induction n with
    | zero =>
      intro k hk o6 o7
      refine ⟨some (.int (nI k)), o6, o7, ?_⟩
      rw [e148_26]
      simp (disch := omega) only [nI_leI]
      rw [if_pos (by omega), show k = 8 by omega, nI_add p 1]
    | succ n ih =>
      intro k hk o6 o7
      obtain ⟨a6, a7, h2⟩ := inmost p k hp (by omega) (s_q1 (c 53) (s_wd (c 53) P l) p a k) 8 0 (by omega)
      obtain ⟨o5, o6', o7', h1⟩ := ih (k + 1) (by omega) a6 a7
      refine ⟨o5, o6', o7', ?_⟩
      rw [e148_26]
      simp (disch := omega) only [nI_leI]
      rw [if_neg (by omega), m_isPage_y hp hgp, mj_then_i, e148_39, if_neg (by decide)]
      rw [show (if s_sm (s_wd (c 53) p k) (s_wd (c 53) P l) 0 = true then nI 1 else nI 0) = nI 1 from rfl] at h2
      rw [h2, ← h1]
      rfl
  have key : ∀ n k : Nat, k + n = 10 → ∀ o5 o6 o7, mj_EV 148 16 [some (.ref 52), some (.int (nI P)), some (.int (nI l)), some (.int (s_qn (c 53) (s_wd (c 53) P l) k)), some (.int (nI k)), o5, o6, o7] [] (w_al L ps) c = some (some (.int (s_qn (c 53) (s_wd (c 53) P l) 10)), w_al L ps, c) := by
    intro n
    induction n with
    | zero =>
      intro k hk o5 o6 o7
      rw [e148_16]
      simp (disch := omega) only [nI_leI]
      rw [if_pos (by omega), show k = 10 by omega]
    | succ n ih =>
      intro k hk o5 o6 o7
      rw [e148_16]
      simp (disch := omega) only [nI_leI]
      rw [if_neg (by omega)]
      have h1 := ih (k + 1) (by omega)
      rw [show s_qn (c 53) (s_wd (c 53) P l) (k + 1) = if c 53 (6 + 2 * k) = nI 1 then s_q1 (c 53) (s_wd (c 53) P l) k (s_qn (c 53) (s_wd (c 53) P l) k) 8 else s_qn (c 53) (s_wd (c 53) P l) k from rfl] at h1
      by_cases q : c 53 (6 + 2 * k) = nI 1
      · rw [if_pos q] at h1
        obtain ⟨a5, a6, a7, h2⟩ := inner k (by omega) q (s_qn (c 53) (s_wd (c 53) P l) k) 8 0 (by omega) o6 o7
        rw [show s_q1 (c 53) (s_wd (c 53) P l) k (s_qn (c 53) (s_wd (c 53) P l) k) 0 = s_qn (c 53) (s_wd (c 53) P l) k from rfl] at h2
        rw [h2]
        exact h1 _ _ _
      · rw [if_neg q] at h1
        rw [e148_26]
        simp (disch := omega) only [nI_leI]
        rw [if_neg (by omega), m_isPage (by omega), if_neg q, mj_then_i, e148_39, if_pos rfl, nI_add k 1]
        exact h1 _ _ _
  rw [e148_0, m_isLine_y hP hl hg, mj_then_i, e148_6, if_neg (by decide)]
  exact key 10 0 (by omega) _ _ _
end MD5
