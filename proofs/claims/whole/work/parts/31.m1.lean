/-! THE REFERENCE's methods: what they answer -/
section MD1
variable {L : Nat} {ps : List (Option (Option Nat))} {c : mj_C}
theorem m_within {a lo hi : Nat} (h1 : a < 2 ^ 31) (h2 : lo < 2 ^ 31) (h3 : hi < 2 ^ 31) : mj_EV 93 0 [some (.int (nI a)), some (.int (nI lo)), some (.int (nI hi))] [] (w_al L ps) c = some (some (.int (if lo ≤ a ∧ a ≤ hi then nI 1 else nI 0)), w_al L ps, c) := by
  rw [e93_0]
  simp (disch := omega) only [nI_ltI]
  by_cases q1 : a < lo
  · rw [if_pos q1, if_neg (by omega)]
  · rw [if_neg q1]
    by_cases q2 : hi < a
    · rw [if_pos q2, if_neg (by omega)]
    · rw [if_neg q2, if_pos (by omega)]
theorem m_isPage {P : Nat} (hP : P < 10) : mj_EV 96 0 [some (.ref 52), some (.int (nI P))] [] (w_al L ps) c = some (some (.int (if c 53 (6 + 2 * P) = nI 1 then nI 1 else nI 0)), w_al L ps, c) := by
  rw [e96_0, m_within (by omega) (by omega) (by omega), if_pos (by omega), mj_then_i, e96_7]
  simp (disch := omega) only [nI_eq, nI_add, pk_mul, mj_in_nI, nI_clamp]
  rw [if_neg (by omega), if_pos (by simp; omega)]
  split <;> rfl
theorem m_wordAt {P l w : Nat} : mj_EV 98 0 [some (.int (nI P)), some (.int (nI l)), some (.int (nI w))] [] (w_al L ps) c = some (some (.int (nI (34 + 64 * P + 8 * l + w))), w_al L ps, c) := by
  rw [e98_0]
  simp only [nI_add, pk_mul]
theorem m_word {P l w : Nat} (hP : P < 10) (hl : l < 8) (hw : w < 8) : mj_EV 99 0 [some (.ref 52), some (.int (nI P)), some (.int (nI l)), some (.int (nI w))] [] (w_al L ps) c = some (some (.int (s_wd (c 53) P l w)), w_al L ps, c) := by
  rw [e99_0, m_wordAt, mj_then_i, e99_10, mj_in_nI (by omega), nI_clamp (by omega), if_pos (by simp; omega)]
  rfl
theorem m_least {P l : Nat} (hP : P < 10) (hl : l < 8) (hok : s_ok (c 53)) : mj_EV 100 0 [some (.ref 52), some (.int (nI P)), some (.int (nI l)), none, none] [] (w_al L ps) c = some (some (.int (s_mn (s_wd (c 53) P l) 7)), w_al L ps, c) := by
  have key : ∀ n k : Nat, k + n = 8 → ∀ m, (k = 0 ∧ m = nI 65535) ∨ (∃ j, k = j + 1 ∧ m = s_mn (s_wd (c 53) P l) j) → mj_EV 100 6 [some (.ref 52), some (.int (nI P)), some (.int (nI l)), some (.int m), some (.int (nI k))] [] (w_al L ps) c = some (some (.int (s_mn (s_wd (c 53) P l) 7)), w_al L ps, c) := by
    intro n
    induction n with
    | zero =>
      intro k hk m hm
      rw [e100_6]
      simp (disch := omega) only [nI_leI]
      rw [if_pos (by omega)]
      rcases hm with ⟨h, -⟩ | ⟨j, h1, h2⟩
      · omega
      · rw [h2, show j = 7 by omega]
    | succ n ih =>
      intro k hk m hm
      rw [e100_6]
      simp (disch := omega) only [nI_leI]
      rw [if_neg (by omega), m_word hP hl (by omega), mj_then_i, e100_21]
      have hnext : (if m ≤ s_wd (c 53) P l k then m else s_wd (c 53) P l k) = s_mn (s_wd (c 53) P l) k := by
        rcases hm with ⟨h1, h2⟩ | ⟨j, h1, h2⟩
        · subst h1
          obtain ⟨v, hv, hvv⟩ := hok (64 * P + 8 * l + 0) (by omega)
          have e : s_wd (c 53) P l 0 = nI v := by
            rw [← hvv]
            show c 53 _ = c 53 _
            congr 1
            omega
          show _ = s_wd (c 53) P l 0
          rw [e, h2]
          simp (disch := omega) only [nI_leI]
          split
          · rw [show v = 65535 by omega]
          · rfl
        · subst h1
          rw [h2]
          show _ = if s_wd (c 53) P l (j + 1) < s_mn (s_wd (c 53) P l) j then _ else _
          by_cases q : s_mn (s_wd (c 53) P l) j ≤ s_wd (c 53) P l (j + 1)
          · rw [if_pos q, if_neg (Int32.not_lt.mpr q)]
          · rw [if_neg q, if_pos (Int32.not_le.mp q)]
      split
      · rename_i q
        rw [if_pos q] at hnext
        rw [nI_add]
        exact ih (k + 1) (by omega) _ (Or.inr ⟨k, rfl, hnext⟩)
      · rename_i q
        rw [if_neg q] at hnext
        rw [m_word hP hl (by omega), mj_then_i, e100_33, nI_add]
        exact ih (k + 1) (by omega) _ (Or.inr ⟨k, rfl, hnext⟩)
  rw [e100_0]
  exact key 8 0 (by omega) _ (Or.inl ⟨rfl, rfl⟩)
theorem m_greatest {P l : Nat} (hP : P < 10) (hl : l < 8) (hok : s_ok (c 53)) : mj_EV 101 0 [some (.ref 52), some (.int (nI P)), some (.int (nI l)), none, none] [] (w_al L ps) c = some (some (.int (s_mx (s_wd (c 53) P l) 7)), w_al L ps, c) := by
  have key : ∀ n k : Nat, k + n = 8 → ∀ m, (k = 0 ∧ m = nI 0) ∨ (∃ j, k = j + 1 ∧ m = s_mx (s_wd (c 53) P l) j) → mj_EV 101 5 [some (.ref 52), some (.int (nI P)), some (.int (nI l)), some (.int m), some (.int (nI k))] [] (w_al L ps) c = some (some (.int (s_mx (s_wd (c 53) P l) 7)), w_al L ps, c) := by
    intro n
    induction n with
    | zero =>
      intro k hk m hm
      rw [e101_5]
      simp (disch := omega) only [nI_leI]
      rw [if_pos (by omega)]
      rcases hm with ⟨h, -⟩ | ⟨j, h1, h2⟩
      · omega
      · rw [h2, show j = 7 by omega]
    | succ n ih =>
      intro k hk m hm
      rw [e101_5]
      simp (disch := omega) only [nI_leI]
      rw [if_neg (by omega), m_word hP hl (by omega), mj_then_i, e101_20]
      have hnext : (if s_wd (c 53) P l k ≤ m then m else s_wd (c 53) P l k) = s_mx (s_wd (c 53) P l) k := by
        rcases hm with ⟨h1, h2⟩ | ⟨j, h1, h2⟩
        · subst h1
          obtain ⟨v, hv, hvv⟩ := hok (64 * P + 8 * l + 0) (by omega)
          have e : s_wd (c 53) P l 0 = nI v := by
            rw [← hvv]
            show c 53 _ = c 53 _
            congr 1
            omega
          show _ = s_wd (c 53) P l 0
          rw [e, h2]
          simp (disch := omega) only [nI_leI]
          split
          · rw [show v = 0 by omega]
          · rfl
        · subst h1
          rw [h2]
          show _ = if s_mx (s_wd (c 53) P l) j < s_wd (c 53) P l (j + 1) then _ else _
          by_cases q : s_wd (c 53) P l (j + 1) ≤ s_mx (s_wd (c 53) P l) j
          · rw [if_pos q, if_neg (Int32.not_lt.mpr q)]
          · rw [if_neg q, if_pos (Int32.not_le.mp q)]
      split
      · rename_i q
        rw [if_pos q] at hnext
        rw [nI_add]
        exact ih (k + 1) (by omega) _ (Or.inr ⟨k, rfl, hnext⟩)
      · rename_i q
        rw [if_neg q] at hnext
        rw [m_word hP hl (by omega), mj_then_i, e101_32, nI_add]
        exact ih (k + 1) (by omega) _ (Or.inr ⟨k, rfl, hnext⟩)
  rw [e101_0]
  exact key 8 0 (by omega) _ (Or.inl ⟨rfl, rfl⟩)
theorem m_formOf {P l : Nat} (hP : P < 10) (hl : l < 8) (hok : s_ok (c 53)) : mj_EV 102 0 [some (.ref 52), some (.int (nI P)), some (.int (nI l)), none, none] [] (w_al L ps) c = some (some (.int (s_F (c 53) P l)), w_al L ps, c) := by
  rw [e102_0, m_least hP hl hok, mj_then_i, e102_6, m_greatest hP hl hok, mj_then_i, e102_13]
  unfold s_F s_fm
  split
  · rfl
  · split
    · rfl
    · split
      · split <;> rfl
      · rfl
theorem m_sizeOfForm {k : Nat} (hk : k < 5) : mj_EV 103 0 [some (.int (nI k))] [] (w_al L ps) c = some (some (.int (w_fs k)), w_al L ps, c) := by
  rw [e103_0]
  simp (disch := omega) only [nI_eq]
  match k, hk with
  | 0, _ => rfl
  | 1, _ => rfl
  | 2, _ => rfl
  | 3, _ => rfl
  | 4, _ => rfl
  | k + 5, h => omega
theorem s_sz_nI {k : Nat} (hk : k < 5) : s_sz (nI k) = w_fs k := by
  unfold s_sz
  rw [nI_clamp (by omega)]
theorem m_lineSize {P l : Nat} (hP : P < 10) (hl : l < 8) (hok : s_ok (c 53)) : mj_EV 104 0 [some (.ref 52), some (.int (nI P)), some (.int (nI l))] [] (w_al L ps) c = some (some (.int (s_sz (s_F (c 53) P l))), w_al L ps, c) := by
  obtain ⟨k, hk, e⟩ := s_fm_cases (s_wd (c 53) P l)
  have e : s_F (c 53) P l = nI k := e
  rw [e104_0, m_formOf hP hl hok, mj_then_i, e104_6, e, m_sizeOfForm hk, mj_then_i, e104_9, s_sz_nI hk]
theorem m_slot {P : Nat} (hP : P < 10) : mj_EV 105 0 [some (.ref 52), some (.int (nI P))] [] (w_al L ps) c = some (some (.int (c 53 (7 + 2 * P))), w_al L ps, c) := by
  rw [e105_0]
  simp (disch := omega) only [nI_add, pk_mul, mj_in_nI, nI_clamp]
  rw [if_pos (by simp; omega), show 6 + 2 * P + 1 = 7 + 2 * P by omega]
theorem m_besideWith {P : Nat} {s : Int32} (hP : P < 10) (hok : s_ok (c 53)) : mj_EV 106 0 [some (.ref 52), some (.int (nI P)), some (.int s), none, none] [] (w_al L ps) c = some (some (.int (s_mk (s_F (c 53) P) s 8)), w_al L ps, c) := by
  have key : ∀ n k : Nat, k + n = 8 → mj_EV 106 5 [some (.ref 52), some (.int (nI P)), some (.int s), some (.int (s_mk (s_F (c 53) P) s k)), some (.int (nI k))] [] (w_al L ps) c = some (some (.int (s_mk (s_F (c 53) P) s 8)), w_al L ps, c) := by
    intro n
    induction n with
    | zero =>
      intro k hk
      rw [e106_5]
      simp (disch := omega) only [nI_leI]
      rw [if_pos (by omega), show k = 8 by omega]
    | succ n ih =>
      intro k hk
      rw [e106_5]
      simp (disch := omega) only [nI_leI]
      rw [if_neg (by omega), m_lineSize hP (by omega) hok, mj_then_i, e106_20, nI_add, nI_orz]
      have h := ih (k + 1) (by omega)
      rw [show s_mk (s_F (c 53) P) s (k + 1) = if s < s_sz (s_F (c 53) P k) then s_mk (s_F (c 53) P) s k ||| (nI 1 <<< (nI k &&& 31)) else s_mk (s_F (c 53) P) s k from rfl] at h
      split
      · rename_i q
        rw [if_neg (Int32.not_lt.mpr q)] at h
        exact h
      · rename_i q
        rw [if_pos (Int32.not_le.mp q)] at h
        exact h
  rw [e106_0]
  exact key 8 0 (by omega)
theorem m_beside {P : Nat} (hP : P < 10) (hok : s_ok (c 53)) : mj_EV 107 0 [some (.ref 52), some (.int (nI P))] [] (w_al L ps) c = some (some (.int (s_mk (s_F (c 53) P) (c 53 (7 + 2 * P)) 8)), w_al L ps, c) := by
  rw [e107_0, m_slot hP, mj_then_i, e107_7, m_besideWith hP hok, mj_then_i, e107_10]
theorem m_ones {x : Int32} : mj_EV 108 0 [some (.int x), none, none] [] (w_al L ps) c = some (some (.int (s_on x 8)), w_al L ps, c) := by
  have key : ∀ n k : Nat, k + n = 8 → mj_EV 108 4 [some (.int x), some (.int (s_on x k)), some (.int (nI k))] [] (w_al L ps) c = some (some (.int (s_on x 8)), w_al L ps, c) := by
    intro n
    induction n with
    | zero =>
      intro k hk
      rw [e108_4]
      simp (disch := omega) only [nI_leI]
      rw [if_pos (by omega), show k = 8 by omega]
    | succ n ih =>
      intro k hk
      rw [e108_4]
      simp (disch := omega) only [nI_leI]
      rw [if_neg (by omega), nI_add]
      exact ih (k + 1) (by omega)
  rw [e108_0]
  exact key 8 0 (by omega)
theorem m_sizeWith {P : Nat} {s : Int32} (hP : P < 10) (hok : s_ok (c 53)) : mj_EV 109 0 [some (.ref 52), some (.int (nI P)), some (.int s)] [] (w_al L ps) c = some (some (.int (s_pz (s_F (c 53) P) s)), w_al L ps, c) := by
  rw [e109_0, m_besideWith hP hok, mj_then_i, e109_14, m_ones, mj_then_i, e109_17, s_one]
  rfl
theorem m_pageSize {P : Nat} (hP : P < 10) (hok : s_ok (c 53)) : mj_EV 110 0 [some (.ref 52), some (.int (nI P))] [] (w_al L ps) c = some (some (.int (s_pz (s_F (c 53) P) (c 53 (7 + 2 * P)))), w_al L ps, c) := by
  rw [e110_0, m_slot hP, mj_then_i, e110_7, m_sizeWith hP hok, mj_then_i, e110_10]
theorem m_best {P : Nat} (hP : P < 10) (hok : s_ok (c 53)) : mj_EV 111 0 [some (.ref 52), some (.int (nI P)), none, none, none, none] [] (w_al L ps) c = some (some (.int (s_bs (s_F (c 53) P) (c 53 0))), w_al L ps, c) := by
  have key : ∀ n k : Nat, k + n = 5 → ∀ o4 o5, mj_EV 111 5 [some (.ref 52), some (.int (nI P)), some (.int (s_bm (s_F (c 53) P) (c 53 0) k)), some (.int (nI k)), o4, o5] [] (w_al L ps) c = some (some (.int (s_bs (s_F (c 53) P) (c 53 0))), w_al L ps, c) := by
    intro n
    induction n with
    | zero =>
      intro k hk o4 o5
      rw [e111_5]
      simp (disch := omega) only [nI_ltI]
      rw [if_pos (by omega), show k = 5 by omega]
      rfl
    | succ n ih =>
      intro k hk o4 o5
      rw [e111_5]
      simp (disch := omega) only [nI_ltI]
      rw [if_neg (by omega), m_sizeOfForm (by omega), mj_then_i, e111_14, m_besideWith hP hok, mj_then_i, e111_23, m_ones, mj_then_i, e111_26, s_one, nI_clamp (by omega), mj_in_nI (by omega), if_pos (by decide)]
      have h := ih (k + 1) (by omega)
      rw [show s_bm (s_F (c 53) P) (c 53 0) (k + 1) = if c 53 0 < s_ct (s_F (c 53) P) (w_fs k) 8 then s_bm (s_F (c 53) P) (c 53 0) k else if s_bm (s_F (c 53) P) (c 53 0) k = (-6) then w_fs k else if s_pz (s_F (c 53) P) (s_bm (s_F (c 53) P) (c 53 0) k) ≤ s_pz (s_F (c 53) P) (w_fs k) then s_bm (s_F (c 53) P) (c 53 0) k else w_fs k from rfl] at h
      split
      · rename_i q
        rw [if_pos q] at h
        rw [e111_40, if_pos rfl, nI_add]
        exact h _ _
      · rename_i q
        rw [if_neg q] at h
        rw [e111_40, if_neg (by decide)]
        split
        · rename_i q2
          rw [if_pos q2] at h
          rw [nI_add]
          exact h _ _
        · rename_i q2
          rw [if_neg q2] at h
          rw [m_sizeWith hP hok, mj_then_i, e111_60, m_sizeWith hP hok, mj_then_i, e111_66, nI_add]
          split
          · rename_i q3
            rw [if_pos q3] at h
            exact h _ _
          · rename_i q3
            rw [if_neg q3] at h
            exact h _ _
  rw [e111_0]
  exact key 5 0 (by omega) _ _
theorem m_sum (hok : s_ok (c 53)) : mj_EV 114 0 [some (.ref 52), none, none] [] (w_al L ps) c = some (some (.int (s_sum (c 53) 10)), w_al L ps, c) := by
  have key : ∀ n k : Nat, k + n = 10 → mj_EV 114 4 [some (.ref 52), some (.int (s_sum (c 53) k)), some (.int (nI k))] [] (w_al L ps) c = some (some (.int (s_sum (c 53) 10)), w_al L ps, c) := by
    intro n
    induction n with
    | zero =>
      intro k hk
      rw [e114_4]
      simp (disch := omega) only [nI_leI]
      rw [if_pos (by omega), show k = 10 by omega]
    | succ n ih =>
      intro k hk
      rw [e114_4]
      simp (disch := omega) only [nI_leI]
      rw [if_neg (by omega), m_isPage (by omega), mj_then_i, e114_16]
      have h := ih (k + 1) (by omega)
      rw [show s_sum (c 53) (k + 1) = if c 53 (6 + 2 * k) = nI 1 then s_sum (c 53) k + s_pz (s_F (c 53) k) (c 53 (7 + 2 * k)) else s_sum (c 53) k from rfl] at h
      by_cases q : c 53 (6 + 2 * k) = nI 1
      · rw [if_pos q] at h ⊢
        rw [if_neg (by decide), m_pageSize (by omega) hok, mj_then_i, e114_24, nI_add]
        exact h
      · rw [if_neg q] at h ⊢
        rw [if_pos rfl, nI_addz, nI_add]
        exact h
  rw [e114_0]
  exact key 10 0 (by omega)
end MD1
