/-! THE REFERENCE's methods that change the state -/
def s_set (c : mj_C) (a : Nat) (f : Nat → Int32) : mj_C := fun b k => if b = a then f k else c b k
theorem s_set_eq (c : mj_C) (a : Nat) (f : Nat → Int32) : s_set c a f a = f := by funext k; simp [s_set]
theorem s_set_ne (c : mj_C) {a b : Nat} (f : Nat → Int32) (h : b ≠ a) : s_set c a f b = c b := by funext k; simp [s_set, h]
theorem s_set_set (c : mj_C) (a : Nat) (f f' : Nat → Int32) : s_set (s_set c a f) a f' = s_set c a f' := by
  funext b k
  simp only [s_set]
  split <;> rfl
theorem s_set_self (c : mj_C) (a : Nat) : s_set c a (c a) = c := by
  funext b k
  simp only [s_set]
  split
  · rename_i h; rw [h]
  · rfl
theorem s_u (c : mj_C) (a j : Nat) (x : Int32) : mj_u c a j x = s_set c a (upd (c a) j x) := by
  funext b k
  simp only [mj_u, s_set, upd]
  by_cases h : b = a
  · subst h
    by_cases h2 : k = j <;> simp [h2]
  · simp [h]
theorem s_cp_in {c : mj_C} {a0 a1 sp dp n k : Nat} (h1 : dp ≤ k) (h2 : k < dp + n) : mj_cp c a0 a1 sp dp n a1 k = c a0 (sp + (k - dp)) := by
  simp only [mj_cp]
  rw [if_pos ⟨trivial, h1, h2⟩]
theorem s_cp_out {c : mj_C} {a0 a1 sp dp n k : Nat} (h : k < dp ∨ dp + n ≤ k) : mj_cp c a0 a1 sp dp n a1 k = c a1 k := by
  simp only [mj_cp]
  rw [if_neg (by intro q; omega)]
/-- a line gets words; a page is laid anew; a page is laid anew if too many of its lines are beside -/
def s_put (g : Nat → Int32) (p l : Nat) (f : Nat → Int32) (n : Nat) : Nat → Int32 := fun j => if 34 + 64 * p + 8 * l ≤ j ∧ j < 34 + 64 * p + 8 * l + n then f (j - (34 + 64 * p + 8 * l)) else g j
def s_lay (g : Nat → Int32) (p : Nat) : Nat → Int32 := upd g (7 + 2 * p) (s_bs (s_F g p) (g 0))
def s_keep (g : Nat → Int32) (p : Nat) : Nat → Int32 := if s_ct (s_F g p) (g (7 + 2 * p)) 8 ≤ g 0 then g else upd (s_lay g p) 5 (g 5 + nI 1)
def s_putk (g : Nat → Int32) (p l : Nat) (f : Nat → Int32) : Nat → Int32 := s_keep (s_put g p l f 8) p
def s_sr (g : Nat → Int32) : Nat → Nat → Int32
  | 0 => g
  | k + 1 => if s_sr g k (6 + 2 * k) = nI 1 then s_keep (s_sr g k) k else s_sr g k
def s_la (g : Nat → Int32) : Nat → Nat → Int32
  | 0 => g
  | k + 1 => if s_la g k (6 + 2 * k) = nI 1 then s_lay (s_la g k) k else s_la g k
theorem s_upd_ne {f : Nat → Int32} {k j : Nat} {x : Int32} (h : j ≠ k) : upd f k x j = f j := by simp [upd, h]
theorem s_upd_eq {f : Nat → Int32} {k : Nat} {x : Int32} : upd f k x k = x := by simp [upd]
theorem s_F_congr {g g' : Nat → Int32} {p l : Nat} (h : ∀ j, 34 ≤ j → g' j = g j) : s_F g' p l = s_F g p l := by
  unfold s_F
  congr 1
  funext w
  exact h _ (by omega)
theorem s_F_congrF {g g' : Nat → Int32} {p : Nat} (h : ∀ j, 34 ≤ j → g' j = g j) : s_F g' p = s_F g p := funext fun l => s_F_congr h
theorem s_ok_congr {g g' : Nat → Int32} (h : ∀ j, 34 ≤ j → g' j = g j) (hok : s_ok g) : s_ok g' := fun j hj => by rw [h _ (by omega)]; exact hok j hj
theorem s_lay_hi {g : Nat → Int32} {p : Nat} (hp : p < 10) : ∀ j, 34 ≤ j → s_lay g p j = g j := fun j hj => s_upd_ne (by omega)
theorem s_keep_hi {g : Nat → Int32} {p : Nat} (hp : p < 10) : ∀ j, 34 ≤ j → s_keep g p j = g j := by
  intro j hj
  unfold s_keep
  split
  · rfl
  · rw [s_upd_ne (by omega), s_lay_hi hp j hj]
theorem s_sr_hi {g : Nat → Int32} : ∀ n, n ≤ 10 → ∀ j, 34 ≤ j → s_sr g n j = g j := by
  intro n
  induction n with
  | zero => intro _ j _; rfl
  | succ n ih =>
    intro hn j hj
    rw [s_sr]
    split
    · rw [s_keep_hi (by omega) j hj, ih (by omega) j hj]
    · exact ih (by omega) j hj
theorem s_la_hi {g : Nat → Int32} : ∀ n, n ≤ 10 → ∀ j, 34 ≤ j → s_la g n j = g j := by
  intro n
  induction n with
  | zero => intro _ j _; rfl
  | succ n ih =>
    intro hn j hj
    rw [s_la]
    split
    · rw [s_lay_hi (by omega) j hj, ih (by omega) j hj]
    · exact ih (by omega) j hj
theorem s_putk_far {g f : Nat → Int32} {p l : Nat} (hp : p < 10) (hl : l < 8) : ∀ j, 674 ≤ j → s_putk g p l f j = g j := by
  intro j hj
  unfold s_putk
  rw [s_keep_hi hp j (by omega)]
  unfold s_put
  rw [if_neg (by omega)]
theorem s_put_ok {g f : Nat → Int32} {p l n : Nat} (hn : n ≤ 8) (hok : s_ok g) (hf : ∀ w, w < 8 → ∃ v, v < 65536 ∧ f w = nI v) : s_ok (s_put g p l f n) := by
  intro j hj
  unfold s_put
  split
  · exact hf _ (by omega)
  · exact hok j hj
section MD2
variable {L : Nat} {ps : List (Option (Option Nat))} {c : mj_C}
theorem m_copies {a b na nb x1 x3 : Nat} (ha : (w_al L ps)[a]? = some (0, na, [])) (hb : (w_al L ps)[b]? = some (0, nb, [])) (hab : a ≠ b) (h1 : x1 + 674 ≤ na) (h3 : x3 + 674 ≤ nb) (hn : na < 100000) (hn2 : nb < 100000) : mj_EV 94 0 [some (.ref a), some (.int (nI x1)), some (.ref b), some (.int (nI x3)), none] [] (w_al L ps) c = some (none, w_al L ps, mj_cp c a b x1 x3 674) := by
  have key : ∀ n k : Nat, k + n = 674 → mj_EV 94 3 [some (.ref a), some (.int (nI x1)), some (.ref b), some (.int (nI x3)), some (.int (nI k))] [] (w_al L ps) (mj_cp c a b x1 x3 k) = some (none, w_al L ps, mj_cp c a b x1 x3 674) := by
    intro n
    induction n with
    | zero =>
      intro k hk
      rw [e94_3 ha hb]
      simp (disch := omega) only [nI_leI]
      rw [if_pos (by omega), show k = 674 by omega]
    | succ n ih =>
      intro k hk
      rw [e94_3 ha hb]
      simp (disch := omega) only [nI_leI, nI_add, mj_in_nI, nI_clamp]
      rw [if_neg (by omega), if_pos (by simp; omega), if_pos (by simp; omega)]
      have e : mj_u (mj_cp c a b x1 x3 k) b (x3 + k) (mj_cp c a b x1 x3 k a (x1 + k)) = mj_cp c a b x1 x3 (k + 1) := by
        funext d j
        simp only [mj_u, mj_cp]
        by_cases hd : d = b
        · subst hd
          by_cases hj : j = x3 + k
          · subst hj
            rw [if_pos ⟨rfl, rfl⟩, if_neg (by intro h; exact hab h.1), if_pos (by omega)]
            congr 1
            omega
          · rw [if_neg (by intro h; exact hj h.2)]
            by_cases hr : x3 ≤ j ∧ j < x3 + k
            · rw [if_pos ⟨rfl, hr⟩, if_pos (by omega)]
            · rw [if_neg (by intro h; exact hr h.2), if_neg (by omega)]
        · rw [if_neg (by intro h; exact hd h.1), if_neg (by intro h; exact hd h.1), if_neg (by intro h; exact hd h.1)]
      rw [e]
      exact ih (k + 1) (by omega)
  rw [e94_0 ha hb]
  have h0 : mj_cp c a b x1 x3 0 = c := by
    funext d j
    simp only [mj_cp]
    rw [if_neg (by omega)]
  have h := key 674 0 (by omega)
  rw [h0] at h
  exact h
theorem m_lays {P : Nat} (hP : P < 10) (hok : s_ok (c 53)) : mj_EV 112 0 [some (.ref 52), some (.int (nI P))] [] (w_al L ps) c = some (none, w_al L ps, s_set c 53 (s_lay (c 53) P)) := by
  rw [e112_0, m_best hP hok, mj_then_i, e112_17]
  simp (disch := omega) only [nI_add, pk_mul, mj_in_nI, nI_clamp]
  rw [if_pos (by simp; omega), s_u, show 6 + 2 * P + 1 = 7 + 2 * P by omega]
  rfl
theorem m_keeps {P : Nat} (hP : P < 10) (hok : s_ok (c 53)) : mj_EV 113 0 [some (.ref 52), some (.int (nI P))] [] (w_al L ps) c = some (none, w_al L ps, s_set c 53 (s_keep (c 53) P)) := by
  rw [e113_0, m_beside hP hok, mj_then_i, e113_5, m_ones, mj_then_i, e113_8, s_one, mj_in_nI (by omega), nI_clamp (by omega), if_pos (by decide)]
  unfold s_keep
  split
  · rw [s_set_self]
  · rw [m_lays hP hok, mj_then_v, e113_22, mj_in_nI (by omega), nI_clamp (by omega), if_pos (by decide), if_pos (by decide), s_u, s_set_set, s_set_eq]
    congr 4
    unfold s_lay
    rw [s_upd_ne (by omega)]
theorem m_takes {P l : Nat} (hP : P < 10) (hl : l < 8) : mj_EV 116 0 [some (.ref 52), some (.int (nI P)), some (.int (nI l)), none] [] (w_al L ps) c = some (none, w_al L ps, s_set c 57 (fun j => if j < 8 then s_wd (c 53) P l j else c 57 j)) := by
  have key : ∀ n k : Nat, k + n = 8 → mj_EV 116 2 [some (.ref 52), some (.int (nI P)), some (.int (nI l)), some (.int (nI k))] [] (w_al L ps) (s_set c 57 (fun j => if j < k then s_wd (c 53) P l j else c 57 j)) = some (none, w_al L ps, s_set c 57 (fun j => if j < 8 then s_wd (c 53) P l j else c 57 j)) := by
    intro n
    induction n with
    | zero =>
      intro k hk
      rw [e116_2]
      simp (disch := omega) only [nI_leI]
      rw [if_pos (by omega), show k = 8 by omega]
    | succ n ih =>
      intro k hk
      rw [e116_2]
      simp (disch := omega) only [nI_leI]
      rw [if_neg (by omega), m_word hP hl (by omega), mj_then_i, e116_20, mj_in_nI (by omega), nI_clamp (by omega), if_pos (by simp; omega), s_u, s_set_set, s_set_eq, nI_add, s_set_ne c _ (by decide : 53 ≠ 57)]
      have e : upd (fun j => if j < k then s_wd (c 53) P l j else c 57 j) k (s_wd (c 53) P l k) = (fun j => if j < k + 1 then s_wd (c 53) P l j else c 57 j) := by
        funext j
        simp only [upd]
        by_cases h1 : j = k
        · subst h1
          rw [if_pos rfl, if_pos (by omega)]
        · rw [if_neg h1]
          by_cases h2 : j < k
          · rw [if_pos h2, if_pos (by omega)]
          · rw [if_neg h2, if_neg (by omega)]
      rw [e]
      exact ih (k + 1) (by omega)
  rw [e116_0]
  have h := key 8 0 (by omega)
  have e : (fun j => if j < 0 then s_wd (c 53) P l j else c 57 j) = c 57 := by
    funext j
    rw [if_neg (by omega)]
  rw [e, s_set_self] at h
  exact h
theorem m_puts {P l : Nat} (hP : P < 10) (hl : l < 8) (hok : s_ok (c 53)) (hf : ∀ w, w < 8 → ∃ v, v < 65536 ∧ c 57 w = nI v) : mj_EV 117 0 [some (.ref 52), some (.int (nI P)), some (.int (nI l)), none] [] (w_al L ps) c = some (none, w_al L ps, s_set c 53 (s_putk (c 53) P l (c 57))) := by
  have key : ∀ n k : Nat, k + n = 8 → mj_EV 117 2 [some (.ref 52), some (.int (nI P)), some (.int (nI l)), some (.int (nI k))] [] (w_al L ps) (s_set c 53 (s_put (c 53) P l (c 57) k)) = some (none, w_al L ps, s_set c 53 (s_putk (c 53) P l (c 57))) := by
    intro n
    induction n with
    | zero =>
      intro k hk
      have hk8 : k = 8 := by omega
      subst hk8
      rw [e117_2]
      simp (disch := omega) only [nI_leI]
      rw [if_pos (by omega), m_keeps hP (by rw [s_set_eq]; exact s_put_ok (by omega) hok hf), mj_then_v, e117_36, s_set_set, s_set_eq]
      rfl
    | succ n ih =>
      intro k hk
      rw [e117_2]
      simp (disch := omega) only [nI_leI]
      rw [if_neg (by omega), m_wordAt, mj_then_i, e117_18, mj_in_nI (by omega), mj_in_nI (by omega), nI_clamp (by omega), nI_clamp (by omega), if_pos (by simp; omega), if_pos (by simp; omega), s_u, s_set_set, s_set_eq, nI_add, s_set_ne c _ (by decide : 57 ≠ 53)]
      have e : upd (s_put (c 53) P l (c 57) k) (34 + 64 * P + 8 * l + k) (c 57 k) = s_put (c 53) P l (c 57) (k + 1) := by
        funext j
        simp only [upd, s_put]
        by_cases h1 : j = 34 + 64 * P + 8 * l + k
        · subst h1
          rw [if_pos rfl, if_pos (by omega)]
          congr 1
          omega
        · rw [if_neg h1]
          by_cases h2 : 34 + 64 * P + 8 * l ≤ j ∧ j < 34 + 64 * P + 8 * l + k
          · rw [if_pos h2, if_pos (by omega)]
          · rw [if_neg h2, if_neg (by omega)]
      rw [e]
      exact ih (k + 1) (by omega)
  rw [e117_0]
  have h := key 8 0 (by omega)
  have e : s_put (c 53) P l (c 57) 0 = c 53 := by
    funext j
    simp only [s_put]
    rw [if_neg (by omega)]
  rw [e, s_set_self] at h
  exact h
/-- the state is kept aside -/
def s_kp (c : mj_C) : mj_C := mj_cp c 53 54 0 0 674
theorem s_kp_ne (c : mj_C) {b : Nat} (h : b ≠ 54) : s_kp c b = c b := mj_cp_ne c _ _ _ _ _ h
theorem s_back {c : mj_C} {g : Nat → Int32} (hg : ∀ j, 674 ≤ j → g j = c 53 j) : mj_cp (s_set (s_kp c) 53 g) 54 53 0 0 674 = s_kp c := by
  funext b k
  by_cases hb : b = 53
  · subst hb
    rw [s_kp_ne c (by decide : 53 ≠ 54)]
    by_cases hk : k < 674
    · rw [s_cp_in (by omega) (by omega), s_set_ne _ _ (by decide : 54 ≠ 53)]
      unfold s_kp
      rw [s_cp_in (by omega) (by omega)]
      congr 1
      omega
    · rw [s_cp_out (by omega), s_set_eq]
      exact hg k (by omega)
  · rw [mj_cp_ne _ _ _ _ _ _ hb, s_set_ne _ _ hb]
theorem m_sumThen {P l : Nat} (hP : P < 10) (hl : l < 8) (hok : s_ok (c 53)) (hf : ∀ w, w < 8 → ∃ v, v < 65536 ∧ c 57 w = nI v) : mj_EV 118 0 [some (.ref 52), some (.int (nI P)), some (.int (nI l)), none] [] (w_al L ps) c = some (some (.int (s_sum (s_putk (c 53) P l (c 57)) 10)), w_al L ps, s_kp c) := by
  have h53 : s_kp c 53 = c 53 := s_kp_ne c (by decide)
  have h57 : s_kp c 57 = c 57 := s_kp_ne c (by decide)
  rw [e118_0, m_copies w_53 w_54 (by decide) (by omega) (by omega) (by omega) (by omega), mj_then_v, e118_13]
  have hpo : s_ok (s_putk (c 53) P l (c 57)) := s_ok_congr (s_keep_hi hP) (s_put_ok (by omega) hok hf)
  have e1 := m_puts (L := L) (ps := ps) (c := s_kp c) hP hl (by rw [h53]; exact hok) (by rw [h57]; exact hf)
  rw [h53, h57] at e1
  rw [show mj_cp c 53 54 0 0 674 = s_kp c from rfl, e1, mj_then_v, e118_19, m_sum (by rw [s_set_eq]; exact hpo), mj_then_i, e118_23, m_copies w_54 w_53 (by decide) (by omega) (by omega) (by omega) (by omega), mj_then_v, e118_37, s_set_eq, s_back (s_putk_far hP hl)]
/-- would it be too much? -/
def s_tm (g : Nat → Int32) (before thn : Int32) : Prop := before < thn ∧ g 1 < thn
theorem m_isTooMuch {x z : Int32} : mj_EV 119 0 [some (.ref 52), some (.int x), some (.int z)] [] (w_al L ps) c = some (some (.int (if z ≤ x then nI 0 else if z ≤ c 53 1 then nI 0 else nI 1)), w_al L ps, c) := by
  rw [e119_0, mj_in_nI (by omega), nI_clamp (by omega)]
  split
  · rfl
  · rw [if_pos (by decide)]
    split <;> rfl
def s_may (g : Nat → Int32) (thn : Int32) : Int32 := if thn ≤ s_sum g 10 then nI 1 else if thn ≤ g 1 then nI 1 else nI 0
theorem m_mayPut {P l : Nat} (hP : P < 10) (hl : l < 8) (hok : s_ok (c 53)) (hf : ∀ w, w < 8 → ∃ v, v < 65536 ∧ c 57 w = nI v) : mj_EV 120 0 [some (.ref 52), some (.int (nI P)), some (.int (nI l))] [] (w_al L ps) c = some (some (.int (s_may (c 53) (s_sum (s_putk (c 53) P l (c 57)) 10))), w_al L ps, s_kp c) := by
  have h53 : s_kp c 53 = c 53 := s_kp_ne c (by decide)
  rw [e120_0, m_sum hok, mj_then_i, e120_5, m_sumThen hP hl hok hf, mj_then_i, e120_11, m_isTooMuch, mj_then_i, e120_14, h53]
  unfold s_may
  split
  · rfl
  · split <;> rfl
/-- what a record of the state makes of the rows of states: R' are kept, d is gone -/
def s_push (c c' : mj_C) (R : Nat) : Prop := ∃ R' d, ((R < 6 ∧ R' = R ∧ d = 0) ∨ (R = 6 ∧ R' = 5 ∧ d = 1)) ∧ c' 52 3 = nI (R' + 1) ∧ (∀ k, k < 674 → c' 55 (674 * R' + k) = c 53 k) ∧ ∀ i, i < R' → ∀ k, k < 674 → c' 55 (674 * i + k) = c 55 (674 * (i + d) + k)
theorem m_record {R : Nat} (hR : R ≤ 6) (hr : c 52 3 = nI R) : ∃ c', mj_EV 95 0 [some (.ref 52), none] [] (w_al L ps) c = some (none, w_al L ps, c') ∧ s_push c c' R ∧ (∀ b, b ≠ 52 → b ≠ 55 → c' b = c b) ∧ ∀ j, j ≠ 3 → c' 52 j = c 52 j := by
  by_cases h6 : R = 6
  · subst h6
    have key : ∀ n k : Nat, k + n = 3370 → mj_EV 95 11 [some (.ref 52), some (.int (nI k))] [] (w_al L ps) (s_set c 55 (fun j => if j < k then c 55 (j + 674) else c 55 j)) = some (none, w_al L ps, mj_u (mj_cp (mj_u (s_set c 55 (fun j => if j < 3370 then c 55 (j + 674) else c 55 j)) 52 3 (nI 5)) 53 55 0 3370 674) 52 3 (nI 6)) := by
      intro n
      induction n with
      | zero =>
        intro k hk
        have hk8 : k = 3370 := by omega
        subst hk8
        have e5 : s_set c 55 (fun j => if j < 3370 then c 55 (j + 674) else c 55 j) 52 3 - nI 1 = nI 5 := by
          rw [s_set_ne c _ (by decide), hr]
          decide
        rw [e95_11, if_pos (by decide), e5]
        have e6 : mj_u (s_set c 55 (fun j => if j < 3370 then c 55 (j + 674) else c 55 j)) 52 3 (nI 5) 52 3 = nI 5 := by simp [mj_u]
        rw [e6, show nI 5 * nI 674 = nI 3370 from pk_mul 5 674, m_copies w_53 w_55 (by decide) (by omega) (by omega) (by omega) (by omega), mj_then_v, e95_70]
        have e7 : mj_cp (mj_u (s_set c 55 (fun j => if j < 3370 then c 55 (j + 674) else c 55 j)) 52 3 (nI 5)) 53 55 0 3370 674 52 3 = nI 5 := by
          rw [mj_cp_ne _ _ _ _ _ _ (by decide)]
          simp [mj_u]
        rw [e7, nI_add]
      | succ n ih =>
        intro k hk
        rw [e95_11]
        simp (disch := omega) only [nI_leI, nI_add, mj_in_nI, nI_clamp]
        rw [if_neg (by omega), if_pos (by simp; omega), if_pos (by simp; omega), s_u, s_set_set, s_set_eq]
        have e : upd (fun j => if j < k then c 55 (j + 674) else c 55 j) k ((fun j => if j < k then c 55 (j + 674) else c 55 j) (k + 674)) = (fun j => if j < k + 1 then c 55 (j + 674) else c 55 j) := by
          funext j
          simp only [upd]
          by_cases h1 : j = k
          · subst h1
            rw [if_pos rfl, if_neg (by omega), if_pos (by omega)]
          · rw [if_neg h1]
            by_cases h2 : j < k
            · rw [if_pos h2, if_pos (by omega)]
            · rw [if_neg h2, if_neg (by omega)]
        rw [e]
        exact ih (k + 1) (by omega)
    have h := key 3370 0 (by omega)
    have e : (fun j => if j < 0 then c 55 (j + 674) else c 55 j) = c 55 := by
      funext j
      rw [if_neg (by omega)]
    rw [e, s_set_self] at h
    refine ⟨_, (by rw [e95_0, if_pos hr]; exact h), ⟨5, 1, Or.inr ⟨rfl, rfl, rfl⟩, by simp [mj_u], fun k hk => ?_, fun i hi k hk => ?_⟩, fun b h1 h2 => ?_, fun j hj => ?_⟩
    · rw [mj_u_ne _ _ _ _ (by decide : 55 ≠ 52), s_cp_in (by omega) (by omega), mj_u_ne _ _ _ _ (by decide : 53 ≠ 52), s_set_ne _ _ (by decide : 53 ≠ 55), show 0 + (674 * 5 + k - 3370) = k by omega]
    · rw [mj_u_ne _ _ _ _ (by decide : 55 ≠ 52), s_cp_out (by omega), mj_u_ne _ _ _ _ (by decide : 55 ≠ 52), s_set_eq]
      rw [if_pos (by omega), show 674 * i + k + 674 = 674 * (i + 1) + k by omega]
    · funext k
      simp [mj_u, mj_cp, s_set, h1, h2]
    · simp [mj_u, mj_cp, s_set, hj]
  · have e1 : mj_EV 95 0 [some (.ref 52), none] [] (w_al L ps) c = some (none, w_al L ps, mj_u (mj_cp c 53 55 0 (R * 674) 674) 52 3 (nI (R + 1))) := by
      rw [e95_0, hr]
      simp (disch := omega) only [nI_eq, pk_mul]
      rw [if_neg h6, m_copies w_53 w_55 (by decide) (by omega) (by omega) (by omega) (by omega), mj_then_v, e95_70, mj_cp_ne _ _ _ _ _ _ (by decide), hr, nI_add]
    refine ⟨_, e1, ⟨R, 0, Or.inl ⟨by omega, rfl, rfl⟩, by simp [mj_u], fun k hk => ?_, fun i hi k hk => ?_⟩, fun b h1 h2 => ?_, fun j hj => ?_⟩
    · rw [mj_u_ne _ _ _ _ (by decide : 55 ≠ 52), s_cp_in (by omega) (by omega)]
      congr 1
      omega
    · rw [mj_u_ne _ _ _ _ (by decide : 55 ≠ 52), s_cp_out (by omega), Nat.add_zero]
    · funext k
      simp [mj_u, mj_cp, h1, h2]
    · simp [mj_u, mj_cp, hj]
end MD2
