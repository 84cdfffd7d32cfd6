/-! THE CLASS's saved states -/
theorem s_shS {L : Nat} {ps : List (Option (Option Nat))} {rest : List mj_K} {a : Nat} (ha : a = 3 ∨ ∃ k, k < 6 ∧ a = 11 + 6 * k) : (w_sh L ps rest)[a]? = some (5, 10, [none, none, none, none, none, some (some (a + 1)), some (some (a + 2)), some (some (a + 3)), some (some (a + 4)), some (some (a + 5))]) ∧ (w_sh L ps rest)[a + 1]? = some (0, 640, []) ∧ (w_sh L ps rest)[a + 2]? = some (0, 80, []) ∧ (w_sh L ps rest)[a + 3]? = some (0, 10, []) ∧ (w_sh L ps rest)[a + 4]? = some (0, 4, []) ∧ (w_sh L ps rest)[a + 5]? = some (0, 4, []) := by
  rcases ha with rfl | ⟨k, hk, rfl⟩
  · exact ⟨rfl, rfl, rfl, rfl, rfl, rfl⟩
  · match k, hk with
    | 0, _ => exact ⟨rfl, rfl, rfl, rfl, rfl, rfl⟩
    | 1, _ => exact ⟨rfl, rfl, rfl, rfl, rfl, rfl⟩
    | 2, _ => exact ⟨rfl, rfl, rfl, rfl, rfl, rfl⟩
    | 3, _ => exact ⟨rfl, rfl, rfl, rfl, rfl, rfl⟩
    | 4, _ => exact ⟨rfl, rfl, rfl, rfl, rfl, rfl⟩
    | 5, _ => exact ⟨rfl, rfl, rfl, rfl, rfl, rfl⟩
    | k + 6, h => omega
theorem s_S_move {c c' : mj_C} {a b : Nat} {g : Nat → Int32} (hS : s_S c b g) (h0 : ∀ k, k < 5 → c' a k = c b k) (h1 : ∀ j, j < 640 → c' (a + 1) j = c (b + 1) j) (h2 : ∀ j, j < 80 → c' (a + 2) j = c (b + 2) j) (h3 : ∀ j, j < 10 → c' (a + 3) j = c (b + 3) j) (h4 : ∀ j, j < 4 → c' (a + 4) j = c (b + 4) j) (h5 : ∀ j, j < 4 → c' (a + 5) j = c (b + 5) j) : s_S c' a g := by
  obtain ⟨e0, hr, hb, hok, hp, hq⟩ := hS
  refine ⟨?_, hr, hb, hok, fun p hpp => ?_, fun q hqq => ?_⟩
  · rw [h0 0 (by omega), h0 1 (by omega), h0 2 (by omega), h0 3 (by omega), h0 4 (by omega)]
    exact e0
  · rw [h3 p hpp]
    rcases hp p hpp with ⟨q1, q2, q3, q4, q5⟩ | ⟨q1, q2, q3⟩
    · exact Or.inl ⟨q1, q2, q3, fun l hl => by rw [h2 _ (by omega)]; exact q4 l hl, fun j hj => by rw [h1 _ (by omega)]; exact q5 j hj⟩
    · exact Or.inr ⟨q1, q2, q3⟩
  · rw [h4 q hqq, h5 q hqq]
    exact hq q hqq
theorem s_cp_0 {c : mj_C} {a0 a1 n j : Nat} (hj : j < n) : mj_cp c a0 a1 0 0 n a1 j = c a0 j := by
  rw [s_cp_in (by omega) (by omega), show 0 + (j - 0) = j by omega]
theorem s_u5 {c : mj_C} {a b k : Nat} (hba : b ≠ a) (hk : k < 5) : mj_u (mj_u (mj_u (mj_u (mj_u c a 0 (c b 0)) a 1 (c b 1)) a 2 (c b 2)) a 3 (c b 3)) a 4 (c b 4) a k = c b k := by
  match k, hk with
  | 0, _ => rw [mj_u_self, s_upd_ne (by decide), mj_u_self, s_upd_ne (by decide), mj_u_self, s_upd_ne (by decide), mj_u_self, s_upd_ne (by decide), mj_u_self, s_upd_eq]
  | 1, _ => rw [mj_u_self, s_upd_ne (by decide), mj_u_self, s_upd_ne (by decide), mj_u_self, s_upd_ne (by decide), mj_u_self, s_upd_eq]
  | 2, _ => rw [mj_u_self, s_upd_ne (by decide), mj_u_self, s_upd_ne (by decide), mj_u_self, s_upd_eq]
  | 3, _ => rw [mj_u_self, s_upd_ne (by decide), mj_u_self, s_upd_eq]
  | 4, _ => rw [mj_u_self, s_upd_eq]
  | k + 5, h => omega
section KL3
variable {L : Nat} {ps : List (Option (Option Nat))} {rest : List mj_K} {c : mj_C} {g : Nat → Int32}
theorem k_become {a b : Nat} (ha : a = 3 ∨ ∃ k, k < 6 ∧ a = 11 + 6 * k) (hb : b = 3 ∨ ∃ k, k < 6 ∧ b = 11 + 6 * k) (hab : a ≠ b) (hS : s_S c b g) : ∃ c', mj_EV 19 0 [some (.ref a), some (.ref b)] [] (w_sh L ps rest) c = some (none, w_sh L ps rest, c') ∧ s_S c' a g ∧ ∀ x, x < a ∨ a + 5 < x → c' x = c x := by
  obtain ⟨x0, x1, x2, x3, x4, x5⟩ := s_shS (L := L) (ps := ps) (rest := rest) ha
  obtain ⟨y0, y1, y2, y3, y4, y5⟩ := s_shS (L := L) (ps := ps) (rest := rest) hb
  have far : a + 5 < b ∨ b + 5 < a := by
    rcases ha with rfl | ⟨k, hk, rfl⟩
    · rcases hb with rfl | ⟨k', hk', rfl⟩
      · exact absurd rfl hab
      · omega
    · rcases hb with rfl | ⟨k', hk', rfl⟩
      · omega
      · omega
  have e := e19_0 (c := c) x0 y0 x1 x2 x3 x4 x5 y1 y2 y3 y4 y5
  rw [if_pos (by decide), if_pos (by decide), if_pos (by decide), if_pos (by decide), if_pos (by decide)] at e
  have hba : b ≠ a := Ne.symm hab
  simp only [mj_u_ne _ a _ _ hba] at e
  rw [show (nI 0).toNatClampNeg = 0 from rfl, nI_clamp (by omega : 640 < 2 ^ 31), nI_clamp (by omega : 80 < 2 ^ 31), nI_clamp (by omega : 10 < 2 ^ 31), nI_clamp (by omega : 4 < 2 ^ 31)] at e
  refine ⟨_, e, ?_, ?_⟩
  · refine s_S_move hS ?_ ?_ ?_ ?_ ?_ ?_
    · intro k hk
      rw [mj_cp_ne _ _ _ _ _ _ (by omega), mj_cp_ne _ _ _ _ _ _ (by omega), mj_cp_ne _ _ _ _ _ _ (by omega), mj_cp_ne _ _ _ _ _ _ (by omega), mj_cp_ne _ _ _ _ _ _ (by omega), s_u5 hba hk]
    · intro j hj
      rw [mj_cp_ne _ _ _ _ _ _ (by omega), mj_cp_ne _ _ _ _ _ _ (by omega), mj_cp_ne _ _ _ _ _ _ (by omega), mj_cp_ne _ _ _ _ _ _ (by omega), s_cp_0 hj, mj_u_ne _ _ _ _ (by omega), mj_u_ne _ _ _ _ (by omega), mj_u_ne _ _ _ _ (by omega), mj_u_ne _ _ _ _ (by omega), mj_u_ne _ _ _ _ (by omega)]
    · intro j hj
      rw [mj_cp_ne _ _ _ _ _ _ (by omega), mj_cp_ne _ _ _ _ _ _ (by omega), mj_cp_ne _ _ _ _ _ _ (by omega), s_cp_0 hj, mj_cp_ne _ _ _ _ _ _ (by omega), mj_u_ne _ _ _ _ (by omega), mj_u_ne _ _ _ _ (by omega), mj_u_ne _ _ _ _ (by omega), mj_u_ne _ _ _ _ (by omega), mj_u_ne _ _ _ _ (by omega)]
    · intro j hj
      rw [mj_cp_ne _ _ _ _ _ _ (by omega), mj_cp_ne _ _ _ _ _ _ (by omega), s_cp_0 hj, mj_cp_ne _ _ _ _ _ _ (by omega), mj_cp_ne _ _ _ _ _ _ (by omega), mj_u_ne _ _ _ _ (by omega), mj_u_ne _ _ _ _ (by omega), mj_u_ne _ _ _ _ (by omega), mj_u_ne _ _ _ _ (by omega), mj_u_ne _ _ _ _ (by omega)]
    · intro j hj
      rw [mj_cp_ne _ _ _ _ _ _ (by omega), s_cp_0 hj, mj_cp_ne _ _ _ _ _ _ (by omega), mj_cp_ne _ _ _ _ _ _ (by omega), mj_cp_ne _ _ _ _ _ _ (by omega), mj_u_ne _ _ _ _ (by omega), mj_u_ne _ _ _ _ (by omega), mj_u_ne _ _ _ _ (by omega), mj_u_ne _ _ _ _ (by omega), mj_u_ne _ _ _ _ (by omega)]
    · intro j hj
      rw [s_cp_0 hj, mj_cp_ne _ _ _ _ _ _ (by omega), mj_cp_ne _ _ _ _ _ _ (by omega), mj_cp_ne _ _ _ _ _ _ (by omega), mj_cp_ne _ _ _ _ _ _ (by omega), mj_u_ne _ _ _ _ (by omega), mj_u_ne _ _ _ _ (by omega), mj_u_ne _ _ _ _ (by omega), mj_u_ne _ _ _ _ (by omega), mj_u_ne _ _ _ _ (by omega)]
  · intro x hx
    rw [mj_cp_ne _ _ _ _ _ _ (by omega), mj_cp_ne _ _ _ _ _ _ (by omega), mj_cp_ne _ _ _ _ _ _ (by omega), mj_cp_ne _ _ _ _ _ _ (by omega), mj_cp_ne _ _ _ _ _ _ (by omega), mj_u_ne _ _ _ _ (by omega), mj_u_ne _ _ _ _ (by omega), mj_u_ne _ _ _ _ (by omega), mj_u_ne _ _ _ _ (by omega), mj_u_ne _ _ _ _ (by omega)]
/-- the six saved states and their order -/
def s_pr (ps : List (Option (Option Nat))) (t : Nat → Nat) : Prop := ps.length = 6 ∧ (∀ i, i < 6 → ps[i]? = some (some (some (11 + 6 * t i))) ∧ t i < 6) ∧ ∀ i j, i < 6 → j < 6 → t i = t j → i = j
def s_I (ps : List (Option (Option Nat))) (c : mj_C) (g : Nat → Int32) (R : Nat) (h : Nat → Nat → Int32) : Prop := c 1 = w_fs ∧ s_S c 3 g ∧ c 9 1 = nI R ∧ R ≤ 6 ∧ ∃ t, s_pr ps t ∧ ∀ i, i < R → s_S c (11 + 6 * t i) (h i)
/-- the order after the oldest is discarded -/
def s_ro (t : Nat → Nat) : Nat → Nat := fun i => if i = 5 then t 0 else t (i + 1)
theorem k_discard {t : Nat → Nat} (hp : s_pr ps t) : ∃ ps', mj_EV 18 0 [some (.ref 9), none, none] [] (w_sh L ps rest) c = some (none, w_sh L ps' rest, mj_u c 9 1 (nI 5)) ∧ s_pr ps' (s_ro t) := by
  obtain ⟨hl, hi, hj⟩ := hp
  have key : ∀ n k : Nat, k + n = 6 → 1 ≤ k → ∀ qs : List (Option (Option Nat)), qs.length = 6 → (∀ i, i < 6 → qs[i]? = some (some (some (11 + 6 * (if i + 1 < k then t (i + 1) else t i))))) → ∃ ps', mj_EV 18 9 [some (.ref 9), some (.ref (11 + 6 * t 0)), some (.int (nI k))] [] (w_sh L qs rest) c = some (none, w_sh L ps' rest, mj_u c 9 1 (nI 5)) ∧ s_pr ps' (s_ro t) := by
    intro n
    induction n with
    | zero =>
      intro k hk h1 qs hq hqi
      have e := e18_35 (c := c) (L := L) (ps := qs) (rest := rest) (b5 := 11 + 6 * t 0) (x2 := nI k) (by decide) (by rw [nI_clamp (by omega), hq]; rfl) (s_shS (Or.inr ⟨t 0, (hi 0 (by omega)).2, rfl⟩)).1
      refine ⟨qs.set 5 (some (some (11 + 6 * t 0))), ?_, ?_, ?_, ?_⟩
      · rw [e18_9]
        simp (disch := omega) only [nI_leI]
        rw [if_pos (by omega), e, nI_clamp (by omega)]
      · rw [List.length_set, hq]
      · intro i hi6
        unfold s_ro
        by_cases q : i = 5
        · subst q
          rw [if_pos rfl, List.getElem?_set_self (by omega)]
          exact ⟨rfl, (hi 0 (by omega)).2⟩
        · rw [if_neg q, List.getElem?_set_ne (by omega), hqi i hi6, if_pos (by omega)]
          exact ⟨rfl, (hi (i + 1) (by omega)).2⟩
      · intro i j hi6 hj6 hij
        unfold s_ro at hij
        by_cases q1 : i = 5
        · by_cases q2 : j = 5
          · omega
          · rw [if_pos q1, if_neg q2] at hij
            have := hj 0 (j + 1) (by omega) (by omega) hij
            omega
        · by_cases q2 : j = 5
          · rw [if_neg q1, if_pos q2] at hij
            have := hj (i + 1) 0 (by omega) (by omega) hij
            omega
          · rw [if_neg q1, if_neg q2] at hij
            have := hj (i + 1) (j + 1) (by omega) (by omega) hij
            omega
    | succ n ih =>
      intro k hk h1 qs hq hqi
      have hk1 : nI k - nI 1 = nI (k - 1) := pk_sub (by omega)
      have hqk : qs[k]? = some (some (some (11 + 6 * t k))) := by
        rw [hqi k (by omega), if_neg (by omega)]
      have e := e18_15 (c := c) (L := L) (ps := qs) (rest := rest) (b5 := 11 + 6 * t 0) (x2 := nI k) (b27 := 11 + 6 * t k) (by rw [mj_in_nI (by omega)]; simp; omega) (by rw [nI_clamp (by omega)]; exact hqk) (by rw [hk1, mj_in_nI (by omega)]; simp; omega) (by rw [hk1, nI_clamp (by omega), hq, Nat.blt_eq]; omega) (s_shS (Or.inr ⟨t k, (hi k (by omega)).2, rfl⟩)).1
      rw [e18_9]
      simp (disch := omega) only [nI_leI]
      rw [if_neg (by omega), e, hk1, nI_clamp (by omega), nI_add k 1]
      refine ih (k + 1) (by omega) (by omega) _ (by rw [List.length_set, hq]) (fun i hi6 => ?_)
      by_cases q : i = k - 1
      · subst q
        rw [List.getElem?_set_self (by omega), if_pos (by omega), show k - 1 + 1 = k by omega]
      · rw [List.getElem?_set_ne (by omega), hqi i hi6]
        by_cases q2 : i + 1 < k
        · rw [if_pos q2, if_pos (by omega)]
        · rw [if_neg q2, if_neg (by omega)]
  have e := e18_0 (c := c) (L := L) (ps := ps) (rest := rest) (b5 := 11 + 6 * t 0) (by decide) (by rw [nI_clamp (by omega)]; exact (hi 0 (by omega)).1)
  rw [e]
  refine key 5 1 (by omega) (by omega) ps hl (fun i hi6 => ?_)
  rw [if_neg (by omega)]
  exact (hi i hi6).1
theorem k_keep {R : Nat} {h : Nat → Nat → Int32} (hI : s_I ps c g R h) : ∃ ps' c', mj_EV 20 0 [some (.ref 9), some (.ref 3)] [] (w_sh L ps rest) c = some (none, w_sh L ps' rest, c') ∧ s_I ps' c' g (s_R R) (s_hp h R g) ∧ ∀ b, b < 9 ∨ 47 ≤ b → c' b = c b := by
  obtain ⟨h1, hS, hR, hR6, t, hp, hh⟩ := hI
  have main : ∀ (qs : List (Option (Option Nat))) (t' : Nat → Nat) (k : Nat) (c0 : mj_C), k < 6 → s_pr qs t' → c0 9 1 = nI k → (∀ b, b ≠ 9 → c0 b = c b) → s_R R = k + 1 → (∀ i, i < k → s_S c (11 + 6 * t' i) (s_hp h R g i)) → ∃ ps' c', mj_EV 20 13 [some (.ref 9), some (.ref 3)] [] (w_sh L qs rest) c0 = some (none, w_sh L ps' rest, c') ∧ s_I ps' c' g (s_R R) (s_hp h R g) ∧ ∀ b, b < 9 ∨ 47 ≤ b → c' b = c b := by
    intro qs t' k c0 hk hp' hc9 hc0 hsR hh'
    obtain ⟨p1, p2, p3⟩ := hp'
    have hS0 : s_S c0 3 g := s_S_congr hS (fun _ _ => rfl) (fun b h3 h8 => hc0 b (by omega))
    obtain ⟨c1, e1, hS1, hf1⟩ := k_become (L := L) (ps := qs) (rest := rest) (Or.inr ⟨t' k, (p2 k hk).2, rfl⟩) (Or.inl rfl) (by omega) hS0
    have e := e20_13 (c := c0) (L := L) (ps := qs) (rest := rest) (b21 := 11 + 6 * t' k) (by rw [hc9, mj_in_nI (by omega)]; simp; omega) (by rw [hc9, nI_clamp (by omega)]; exact (p2 k hk).1) (s_shS (Or.inr ⟨t' k, (p2 k hk).2, rfl⟩)).1
    have hlt := (p2 k hk).2
    have c19 : c1 9 1 = nI k := by rw [hf1 9 (by omega)]; exact hc9
    refine ⟨qs, mj_u c1 9 1 (nI (k + 1)), ?_, ⟨?_, ?_, ?_, ?_, t', ⟨p1, p2, p3⟩, ?_⟩, ?_⟩
    · rw [e, e1, mj_then_v, e20_26, c19, nI_add]
    · rw [mj_u_ne _ _ _ _ (by decide), hf1 1 (by omega), hc0 1 (by decide)]
      exact h1
    · refine s_S_congr hS0 (fun _ _ => rfl) (fun b h3 h8 => ?_)
      rw [mj_u_ne _ _ _ _ (by omega), hf1 b (by omega)]
    · rw [mj_u_self, s_upd_eq, hsR]
    · omega
    · intro i hi
      rw [hsR] at hi
      by_cases q : i = k
      · have eh : s_hp h R g i = g := by
          unfold s_hp
          rw [if_pos (by omega)]
        rw [eh, q]
        refine s_S_congr hS1 (fun _ _ => rfl) (fun b h3 h8 => ?_)
        rw [mj_u_ne _ _ _ _ (by omega)]
      · have hne : t' i ≠ t' k := fun z => q (p3 i k (by omega) hk z)
        refine s_S_congr (hh' i (by omega)) (fun _ _ => rfl) (fun b h3 h8 => ?_)
        have := (p2 i (by omega)).2
        rw [mj_u_ne _ _ _ _ (by omega), hf1 b (by omega), hc0 b (by omega)]
    · intro b hb
      rw [mj_u_ne _ _ _ _ (by omega), hf1 b (by omega), hc0 b (by omega)]
  by_cases q : R = 6
  · obtain ⟨qs, e1, hp1⟩ := k_discard (L := L) (rest := rest) (c := c) hp
    rw [e20_0, hR, q, if_neg (by decide), e1, mj_then_v]
    refine q ▸ main qs (s_ro t) 5 _ (by omega) hp1 (by rw [mj_u_self, s_upd_eq]) (fun b hb => mj_u_ne _ _ _ _ hb) (by unfold s_R; rw [if_pos q]) (fun i hi => ?_)
    have e2 : s_hp h R g i = h (i + 1) := by
      unfold s_hp s_R
      rw [if_pos q, if_neg (by omega), if_pos q]
    have e3 : s_ro t i = t (i + 1) := by
      unfold s_ro
      rw [if_neg (by omega)]
    rw [e2, e3]
    exact hh (i + 1) (by omega)
  · rw [e20_0, hR]
    simp (disch := omega) only [nI_ltI]
    rw [if_pos (by omega)]
    refine main ps t R c (by omega) hp hR (fun _ _ => rfl) (by unfold s_R; rw [if_neg q]) (fun i hi => ?_)
    have e2 : s_hp h R g i = h i := by
      unfold s_hp s_R
      rw [if_neg q, if_neg (by omega), if_neg q]
    rw [e2]
    exact hh i hi
end KL3
