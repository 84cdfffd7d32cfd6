/-! THE TEXT: the reference's reader, held against the states of the class's -/
def a_run (f : Nat → Nat) (s : Nat × Nat × Nat × Nat × (Nat → Nat)) (i : Nat) : Nat → Option (Nat × Nat × Nat × Nat × (Nat → Nat))
  | 0 => some s
  | n + 1 => (a_run f s i n).bind fun s' => a_step s' (f (i + n))
theorem a_app {f : Nat → Nat} {s s1 s2 : Nat × Nat × Nat × Nat × (Nat → Nat)} {i n : Nat} (h1 : a_run f s i n = some s1) : ∀ m s2, a_run f s1 (i + n) m = some s2 → a_run f s i (n + m) = some s2 := by
  intro m
  induction m with
  | zero =>
    intro s2 h2
    have h2 : some s1 = some s2 := h2
    rw [← h2]
    exact h1
  | succ m ih =>
    intro s2 h2
    have h2 : (a_run f s1 (i + n) m).bind (fun s' => a_step s' (f (i + n + m))) = some s2 := h2
    cases e : a_run f s1 (i + n) m with
    | none =>
      rw [e] at h2
      cases h2
    | some s3 =>
      rw [e] at h2
      have h2 : a_step s3 (f (i + n + m)) = some s2 := h2
      show (a_run f s i (n + m)).bind (fun s' => a_step s' (f (i + (n + m)))) = some s2
      rw [ih s3 e]
      show a_step s3 (f (i + (n + m))) = some s2
      rw [← Nat.add_assoc]
      exact h2
theorem a_one {f : Nat → Nat} {s s1 : Nat × Nat × Nat × Nat × (Nat → Nat)} {i : Nat} (h : a_step s (f i) = some s1) : a_run f s i 1 = some s1 := h
section ST
variable {pg ln pl ch : Nat} {wf : Nat → Nat}
theorem a_s0 : a_step (0, pg, ln, pl, wf) ch = if 48 ≤ ch ∧ ch ≤ 57 then some (1, ch - 48, ln, pl, wf) else none := rfl
theorem a_s1 : a_step (1, pg, ln, pl, wf) ch = if ch = 58 then some (2, pg, ln, pl, wf) else none := rfl
theorem a_s2 : a_step (2, pg, ln, pl, wf) ch = if 48 ≤ ch ∧ ch ≤ 55 then some (3, pg, ch - 48, pl, wf) else none := rfl
theorem a_s3 : a_step (3, pg, ln, pl, wf) ch = if ch = 61 then some (4, pg, ln, 0, wf) else none := rfl
theorem a_s4 : a_step (4, pg, ln, pl, wf) ch = if 48 ≤ ch ∧ ch ≤ 57 then some (5, pg, ln, pl, a_up wf pl (ch - 48)) else none := rfl
theorem a_s5 : a_step (5, pg, ln, pl, wf) ch = if 48 ≤ ch ∧ ch ≤ 57 then (if wf pl = 0 then none else if 10 * wf pl + (ch - 48) ≤ 65535 then some (5, pg, ln, pl, a_up wf pl (10 * wf pl + (ch - 48))) else none) else if ch = 42 ∧ pl = 0 then some (6, pg, ln, pl, fun _ => wf 0) else if ch = 44 ∧ pl < 7 then some (4, pg, ln, pl + 1, wf) else if ch = 59 ∧ pl = 7 then some (0, pg, ln, pl, wf) else none := rfl
theorem a_s6 : a_step (6, pg, ln, pl, wf) ch = if ch = 59 then some (0, pg, ln, pl, wf) else none := rfl
end ST
/-- the text of the reference -/
def a_X (c : mj_C) (f : Nat → Nat) (T : Nat) : Prop := T ≤ 80 ∧ c 52 5 = nI T ∧ ∀ i, i < T → 33 ≤ f i ∧ f i ≤ 126 ∧ c 56 i = nI (f i)
/-- where reading may write -/
def a_F (c c' : mj_C) : Prop := (∀ b, b ≠ 52 → b ≠ 57 → c' b = c b) ∧ ∀ j, j < 7 → c' 52 j = c 52 j
theorem a_F_r (c : mj_C) : a_F c c := ⟨fun _ _ _ => rfl, fun _ _ => rfl⟩
theorem a_F_t {c c' c'' : mj_C} (h : a_F c c') (h' : a_F c' c'') : a_F c c'' := ⟨fun b h1 h2 => (h'.1 b h1 h2).trans (h.1 b h1 h2), fun j hj => (h'.2 j hj).trans (h.2 j hj)⟩
theorem a_F_u {c : mj_C} {k : Nat} {x : Int32} (hk : 7 ≤ k) : a_F c (mj_u c 52 k x) := ⟨fun b h1 _ => mj_u_ne _ _ _ _ h1, fun j hj => by rw [mj_u_self, s_upd_ne (by omega)]⟩
theorem a_F_w {c : mj_C} {g : Nat → Int32} : a_F c (s_set c 57 g) := ⟨fun b _ h2 => s_set_ne _ _ h2, fun j _ => by rw [s_set_ne _ _ (by decide)]⟩
theorem a_X_F {c c' : mj_C} {f : Nat → Nat} {T : Nat} (h : a_X c f T) (hF : a_F c c') : a_X c' f T := by
  unfold a_X
  rw [hF.2 5 (by decide), hF.1 56 (by decide) (by decide)]
  exact h
theorem a_u_self (c : mj_C) (a k : Nat) : mj_u c a k (c a k) = c := by
  funext b j
  simp only [mj_u]
  split
  · rename_i h
    rw [h.1, h.2]
  · rfl
section RD
variable {L : Nat} {ps : List (Option (Option Nat))} {c : mj_C} {f : Nat → Nat} {T : Nat}
theorem m_char {i : Nat} (hX : a_X c f T) (hi : i ≤ T) : mj_EV 157 0 [some (.ref 52), some (.int (nI i))] [] (w_al L ps) c = some (some (.int (if i < T then nI (f i) else (-1))), w_al L ps, c) := by
  obtain ⟨h1, h2, h3⟩ := hX
  rw [e157_0, h2]
  simp (disch := omega) only [nI_leI]
  by_cases q : i < T
  · rw [if_neg (by omega), if_pos q, mj_in_nI (by omega), nI_clamp (by omega), if_pos (by simp; omega), (h3 i q).2.2]
  · rw [if_pos (by omega), if_neg q]
theorem a_m1 : ∀ n, n < 127 → ¬ ((-1 : Int32) = nI n) := by decide
theorem m_isNext_y {i ch : Nat} (hX : a_X c f T) (ha : c 52 7 = nI i) (hi : i < T) (hch : f i = ch) : mj_EV 158 0 [some (.ref 52), some (.int (nI ch)), none] [] (w_al L ps) c = some (some (.int (nI 1)), w_al L ps, mj_u c 52 7 (nI (i + 1))) := by
  rw [e158_0, ha, m_char hX (by omega), mj_then_i, e158_8, if_pos hi, hch, if_pos rfl, if_neg (by decide), ha, nI_add]
theorem m_isNext_n {i ch : Nat} (hX : a_X c f T) (ha : c 52 7 = nI i) (hi : i ≤ T) (hc : ch < 127) (hch : i < T → f i ≠ ch) : mj_EV 158 0 [some (.ref 52), some (.int (nI ch)), none] [] (w_al L ps) c = some (some (.int (nI 0)), w_al L ps, c) := by
  have h80 := hX.1
  rw [e158_0, ha, m_char hX hi, mj_then_i, e158_8]
  have e : mj_u c 52 7 (c 52 7 + nI 0) = c := by rw [nI_addz, a_u_self]
  by_cases q : i < T
  · have := (hX.2.2 i q).2.1
    rw [if_pos q, if_neg (by rw [nI_eq (by omega) (by omega)]; exact hch q), if_pos rfl, e]
  · rw [if_neg q, if_neg (a_m1 ch hc), if_pos rfl, e]
theorem m_withinM {lo hi : Nat} (hlo : lo < 1000) : mj_EV 93 0 [some (.int (-1)), some (.int (nI lo)), some (.int (nI hi))] [] (w_al L ps) c = some (some (.int (nI 0)), w_al L ps, c) := by
  rw [e93_0, if_pos]
  rw [Int32.lt_iff_toInt_lt, nI_toInt (by omega), show (-1 : Int32).toInt = -1 from rfl]
  omega
theorem m_digit_y {i hi : Nat} (hX : a_X c f T) (ha : c 52 7 = nI i) (hi1 : i < T) (h1 : 48 ≤ f i) (h2 : f i ≤ 48 + hi) (hh : hi < 10) : mj_EV 159 0 [some (.ref 52), some (.int (nI hi)), none] [] (w_al L ps) c = some (some (.int (nI 1)), w_al L ps, mj_u (mj_u c 52 10 (nI (f i - 48))) 52 7 (nI (i + 1))) := by
  rw [e159_0, ha, m_char hX (by omega), mj_then_i, e159_8, if_pos hi1, nI_add, m_withinY h1 h2 (by omega), mj_then_i, e159_17, ha, m_char hX (by omega), mj_then_i, e159_27, if_pos hi1, if_neg (by decide), if_pos (by decide), pk_sub h1, mj_u_self, s_upd_ne (by decide), ha, nI_add]
theorem m_digit_n {i hi : Nat} (hX : a_X c f T) (ha : c 52 7 = nI i) (hi1 : i ≤ T) (hn : i < T → ¬ (48 ≤ f i ∧ f i ≤ 48 + hi)) (hh : hi < 10) : ∃ x, mj_EV 159 0 [some (.ref 52), some (.int (nI hi)), none] [] (w_al L ps) c = some (some (.int (nI 0)), w_al L ps, mj_u (mj_u c 52 10 x) 52 7 (nI i)) := by
  have h80 := hX.1
  rw [e159_0, ha, m_char hX hi1, mj_then_i, e159_8]
  by_cases q : i < T
  · have := (hX.2.2 i q).2.1
    rw [if_pos q, nI_add, m_within (by omega) (by omega) (by omega), if_neg (hn q), mj_then_i, e159_17, ha, m_char hX hi1, mj_then_i, e159_27, if_pos rfl, if_pos (by decide), mj_u_self, s_upd_ne (by decide), ha, nI_addz]
    exact ⟨_, rfl⟩
  · rw [if_neg q, nI_add, m_withinM (by omega), mj_then_i, e159_17, ha, m_char hX hi1, mj_then_i, e159_27, if_pos rfl, if_pos (by decide), mj_u_self, s_upd_ne (by decide), ha, nI_addz]
    exact ⟨_, rfl⟩
/-- a value: what the loop over its digits does -/
theorem m_vloop : ∀ n j v : Nat, ∀ (c : mj_C) (o2 : Option Value), T - j = n → j ≤ T → a_X c f T → 0 < v → v < 65536 → c 52 10 = nI v → c 52 7 = nI j → ∃ c' m v', mj_EV 160 24 [some (.ref 52), some (.int (nI 1)), o2] [] (w_al L ps) c = some (some (.int (nI 1)), w_al L ps, c') ∧ j + m ≤ T ∧ v' < 65536 ∧ c' 52 10 = nI v' ∧ c' 52 7 = nI (j + m) ∧ a_F c c' ∧ c' 57 = c 57 ∧ c' 52 8 = c 52 8 ∧ c' 52 9 = c 52 9 ∧ (∀ k, k < m → 48 ≤ f (j + k) ∧ f (j + k) ≤ 57) ∧ (∀ pg ln pl wf, wf pl = v → ∃ wf', a_run f (5, pg, ln, pl, wf) j m = some (5, pg, ln, pl, wf') ∧ wf' pl = v' ∧ ∀ w, w ≠ pl → wf' w = wf w) ∧ (j + m < T → 48 ≤ f (j + m) → f (j + m) ≤ 57 → 65535 < 10 * v' + (f (j + m) - 48)) := by
  intro n
  induction n with
  | zero =>
    intro j v c o2 hn hj hX hv0 hv h10 h7
    have h80 := hX.1
    refine ⟨c, 0, v, ?_, by omega, hv, h10, h7, a_F_r c, rfl, rfl, rfl, fun k hk => absurd hk (Nat.not_lt_zero k), fun pg ln pl wf hw => ⟨wf, rfl, hw, fun _ _ => rfl⟩, fun h => by omega⟩
    have e : mj_u c 52 7 (c 52 7 + nI 0) = c := by rw [nI_addz, a_u_self]
    rw [e160_24, if_neg (by decide), h7, m_char hX hj, mj_then_i, e160_43, h7, m_char hX hj, mj_then_i, e160_56, if_neg (by omega), m_withinM (by omega), mj_then_i, e160_63, if_pos rfl, e160_76, e160_77, if_pos rfl, if_pos rfl, a_u_self, e, e160_24, if_pos rfl]
  | succ n ih =>
    intro j v c o2 hn hj hX hv0 hv h10 h7
    have h80 := hX.1
    have hjT : j < T := by omega
    obtain ⟨f1, f2, f3⟩ := hX.2.2 j hjT
    have e : mj_u c 52 7 (c 52 7 + nI 0) = c := by rw [nI_addz, a_u_self]
    have stop : ∀ x2 : Int32, mj_EV 160 76 [some (.ref 52), some (.int (nI 1)), some (.int x2)] [] (w_al L ps) c = some (some (.int (nI 1)), w_al L ps, c) := by
      intro x2
      rw [e160_76, e160_77, if_pos rfl, if_pos rfl, a_u_self, e, e160_24, if_pos rfl]
    by_cases q : 48 ≤ f j ∧ f j ≤ 57
    · have eb : nI 10 * nI v + nI (f j) - nI 48 = nI (10 * v + (f j - 48)) := by
        rw [pk_mul, nI_add, pk_sub (by omega), show 10 * v + f j - 48 = 10 * v + (f j - 48) by omega]
      by_cases q2 : 10 * v + (f j - 48) ≤ 65535
      · have e10 : mj_u (mj_u c 52 10 (nI (10 * v + (f j - 48)))) 52 7 (nI (j + 1)) 52 10 = nI (10 * v + (f j - 48)) := by
          rw [mj_u_self, s_upd_ne (by decide), mj_u_self, s_upd_eq]
        have e7 : mj_u (mj_u c 52 10 (nI (10 * v + (f j - 48)))) 52 7 (nI (j + 1)) 52 7 = nI (j + 1) := by
          rw [mj_u_self, s_upd_eq]
        have hF1 : a_F c (mj_u (mj_u c 52 10 (nI (10 * v + (f j - 48)))) 52 7 (nI (j + 1))) := a_F_t (a_F_u (by omega)) (a_F_u (by omega))
        obtain ⟨c', m, v', r1, r2, r3, r4, r5, r6, r7, r8, r9, r10, r11, r12⟩ := ih (j + 1) (10 * v + (f j - 48)) _ (some (.int (nI (10 * v + (f j - 48))))) (by omega) (by omega) (a_X_F hX hF1) (by omega) (by omega) e10 e7
        refine ⟨c', m + 1, v', ?_, by omega, r3, r4, by rw [r5, show j + 1 + m = j + (m + 1) by omega], a_F_t hF1 r6, ?_, ?_, ?_, fun k hk => ?_, fun pg ln pl wf hw => ?_, ?_⟩
        · rw [e160_24, if_neg (by decide), h7, m_char hX hj, mj_then_i, e160_43, h7, m_char hX hj, mj_then_i, e160_56, if_pos hjT, m_withinY q.1 q.2 (by omega), mj_then_i, e160_63, if_neg (by decide), h10, eb]
          simp (disch := omega) only [nI_ltI]
          rw [if_neg (by omega), e160_77, if_neg (by decide), if_neg (by decide), mj_u_self c 52 10, s_upd_ne (by decide), h7, nI_add]
          exact r1
        · rw [r7, mj_u_ne _ _ _ _ (by decide), mj_u_ne _ _ _ _ (by decide)]
        · rw [r8, mj_u_self, s_upd_ne (by decide), mj_u_self, s_upd_ne (by decide)]
        · rw [r9, mj_u_self, s_upd_ne (by decide), mj_u_self, s_upd_ne (by decide)]
        · match k with
          | 0 => exact q
          | k + 1 =>
            have := r10 k (by omega)
            rw [show j + 1 + k = j + (k + 1) by omega] at this
            exact this
        · obtain ⟨wf', w1, w2, w3⟩ := r11 pg ln pl (a_up wf pl (10 * v + (f j - 48))) (by unfold a_up; rw [if_pos rfl])
          refine ⟨wf', ?_, w2, fun w hw2 => ?_⟩
          · rw [Nat.add_comm m 1]
            refine a_app (s2 := (0, 0, 0, 0, wf)) (a_one ?_) m _ w1
            rw [a_s5, if_pos q, hw, if_neg (by omega), if_pos q2]
          · rw [w3 w hw2]
            unfold a_up
            rw [if_neg hw2]
        · rw [show j + (m + 1) = j + 1 + m by omega]
          exact r12
      · refine ⟨c, 0, v, ?_, by omega, hv, h10, h7, a_F_r c, rfl, rfl, rfl, fun k hk => absurd hk (Nat.not_lt_zero k), fun pg ln pl wf hw => ⟨wf, rfl, hw, fun _ _ => rfl⟩, fun _ _ _ => ?_⟩
        · rw [e160_24, if_neg (by decide), h7, m_char hX hj, mj_then_i, e160_43, h7, m_char hX hj, mj_then_i, e160_56, if_pos hjT, m_withinY q.1 q.2 (by omega), mj_then_i, e160_63, if_neg (by decide), h10, eb]
          simp (disch := omega) only [nI_ltI]
          rw [if_pos (by omega)]
          exact stop _
        · rw [Nat.add_zero]
          omega
    · refine ⟨c, 0, v, ?_, by omega, hv, h10, h7, a_F_r c, rfl, rfl, rfl, fun k hk => absurd hk (Nat.not_lt_zero k), fun pg ln pl wf hw => ⟨wf, rfl, hw, fun _ _ => rfl⟩, fun _ h1 h2 => absurd ⟨h1, h2⟩ q⟩
      rw [e160_24, if_neg (by decide), h7, m_char hX hj, mj_then_i, e160_43, h7, m_char hX hj, mj_then_i, e160_56, if_pos hjT, m_within (by omega) (by omega) (by omega), if_neg q, mj_then_i, e160_63, if_pos rfl]
      exact stop _
/-- a value -/
theorem m_value_n {i : Nat} (hX : a_X c f T) (hi : i ≤ T) (h7 : c 52 7 = nI i) (hn : i < T → ¬ (48 ≤ f i ∧ f i ≤ 57)) : ∃ c', mj_EV 160 0 [some (.ref 52), none, none] [] (w_al L ps) c = some (some (.int (nI 0)), w_al L ps, c') ∧ a_F c c' ∧ c' 52 7 = nI i := by
  obtain ⟨x, e⟩ := m_digit_n (L := L) (ps := ps) (hi := 9) hX h7 hi hn (by omega)
  refine ⟨_, ?_, a_F_t (a_F_u (k := 10) (x := x) (by omega)) (a_F_u (k := 7) (x := nI i) (by omega)), by rw [mj_u_self, s_upd_eq]⟩
  rw [e160_0, e, mj_then_i, e160_6, if_pos rfl]
theorem m_value_y {i : Nat} (hX : a_X c f T) (hi : i < T) (h7 : c 52 7 = nI i) (hd : 48 ≤ f i ∧ f i ≤ 57) : ∃ c' m v', mj_EV 160 0 [some (.ref 52), none, none] [] (w_al L ps) c = some (some (.int (nI 1)), w_al L ps, c') ∧ 0 < m ∧ i + m ≤ T ∧ v' < 65536 ∧ c' 52 10 = nI v' ∧ c' 52 7 = nI (i + m) ∧ a_F c c' ∧ c' 57 = c 57 ∧ c' 52 8 = c 52 8 ∧ c' 52 9 = c 52 9 ∧ (∀ k, k < m → 48 ≤ f (i + k) ∧ f (i + k) ≤ 57) ∧ (∀ pg ln pl wf, ∃ wf', a_run f (4, pg, ln, pl, wf) i m = some (5, pg, ln, pl, wf') ∧ wf' pl = v' ∧ ∀ w, w ≠ pl → wf' w = wf w) ∧ (i + m < T → 48 ≤ f (i + m) → f (i + m) ≤ 57 → v' = 0 ∨ 65535 < 10 * v' + (f (i + m) - 48)) := by
  have h80 := hX.1
  have e10 : mj_u (mj_u c 52 10 (nI (f i - 48))) 52 7 (nI (i + 1)) 52 10 = nI (f i - 48) := by
    rw [mj_u_self, s_upd_ne (by decide), mj_u_self, s_upd_eq]
  have e7 : mj_u (mj_u c 52 10 (nI (f i - 48))) 52 7 (nI (i + 1)) 52 7 = nI (i + 1) := by
    rw [mj_u_self, s_upd_eq]
  have hF1 : a_F c (mj_u (mj_u c 52 10 (nI (f i - 48))) 52 7 (nI (i + 1))) := a_F_t (a_F_u (by omega)) (a_F_u (by omega))
  have e0 := m_digit_y (L := L) (ps := ps) (hi := 9) hX h7 hi hd.1 hd.2 (by omega)
  have e57 : mj_u (mj_u c 52 10 (nI (f i - 48))) 52 7 (nI (i + 1)) 57 = c 57 := by rw [mj_u_ne _ _ _ _ (by decide), mj_u_ne _ _ _ _ (by decide)]
  have e8 : ∀ j, j ≠ 7 → j ≠ 10 → mj_u (mj_u c 52 10 (nI (f i - 48))) 52 7 (nI (i + 1)) 52 j = c 52 j := fun j j7 j10 => by rw [mj_u_self, s_upd_ne j7, mj_u_self, s_upd_ne j10]
  by_cases q : f i - 48 = 0
  · refine ⟨_, 1, 0, ?_, by omega, by omega, by omega, by rw [e10, q], e7, hF1, e57, e8 8 (by omega) (by omega), e8 9 (by omega) (by omega), fun k hk => ?_, fun pg ln pl wf => ⟨a_up wf pl (f i - 48), ?_, ?_, fun w hw => ?_⟩, fun _ _ _ => Or.inl rfl⟩
    · rw [e160_0, e0, mj_then_i, e160_6, if_neg (by decide), e10, q, if_pos (Int32.le_refl _), e160_24, if_pos rfl]
    · rw [show k = 0 by omega]
      exact hd
    · refine a_one ?_
      rw [a_s4, if_pos hd]
    · unfold a_up
      rw [if_pos rfl, q]
    · unfold a_up
      rw [if_neg hw]
  · obtain ⟨c', m, v', r1, r2, r3, r4, r5, r6, r7, r8, r9, r10, r11, r12⟩ := m_vloop (L := L) (ps := ps) (T := T) (f := f) (T - (i + 1)) (i + 1) (f i - 48) _ none rfl (by omega) (a_X_F hX hF1) (by omega) (by omega) e10 e7
    refine ⟨c', m + 1, v', ?_, by omega, by omega, r3, r4, by rw [r5, show i + 1 + m = i + (m + 1) by omega], a_F_t hF1 r6, r7.trans e57, r8.trans (e8 8 (by omega) (by omega)), r9.trans (e8 9 (by omega) (by omega)), fun k hk => ?_, fun pg ln pl wf => ?_, ?_⟩
    · rw [e160_0, e0, mj_then_i, e160_6, if_neg (by decide), e10]
      simp (disch := omega) only [nI_leI]
      rw [if_neg (by omega)]
      exact r1
    · match k with
      | 0 => exact hd
      | k + 1 =>
        have := r10 k (by omega)
        rw [show i + 1 + k = i + (k + 1) by omega] at this
        exact this
    · obtain ⟨wf', w1, w2, w3⟩ := r11 pg ln pl (a_up wf pl (f i - 48)) (by unfold a_up; rw [if_pos rfl])
      refine ⟨wf', ?_, w2, fun w hw2 => ?_⟩
      · rw [Nat.add_comm m 1]
        refine a_app (s2 := (0, 0, 0, 0, wf)) (a_one ?_) m _ w1
        rw [a_s4, if_pos hd]
      · rw [w3 w hw2]
        unfold a_up
        rw [if_neg hw2]
    · rw [show i + (m + 1) = i + 1 + m by omega]
      exact fun h1 h2 h3 => Or.inr (r12 h1 h2 h3)
end RD
