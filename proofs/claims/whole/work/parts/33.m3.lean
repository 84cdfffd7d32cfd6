/-! THE REFERENCE's methods: what they do to rows of numbers -/
theorem s_rg (x : Int32) {n : Nat} (hn : n < 2 ^ 31) : (∃ j, j < n ∧ x = nI j) ∨ (x < nI 0 ∨ nI n ≤ x) := by
  rcases pk_ix x hn with h | h | h
  · exact Or.inr (Or.inl (by rw [nI_0]; exact h))
  · exact Or.inr (Or.inr h)
  · exact Or.inl h
theorem s_rn {x : Int32} {n j : Nat} (hn : n < 2 ^ 31) (hx : x < nI 0 ∨ nI n ≤ x) (hj : j < n) : x ≠ nI j := by
  intro h
  subst h
  rcases hx with h | h
  · rw [nI_ltI (by omega) (by omega)] at h
    omega
  · rw [nI_leI (by omega) (by omega)] at h
    omega
/-- is it a page, a line -/
def s_pg (g : Nat → Int32) (x : Int32) : Prop := ∃ P, P < 10 ∧ x = nI P ∧ g (6 + 2 * P) = nI 1
def s_li (g : Nat → Int32) (x y : Int32) : Prop := ∃ P l, P < 10 ∧ l < 8 ∧ x = nI P ∧ y = nI l ∧ g (6 + 2 * P) = nI 1
/-- the reference holds the row g, and R rows before it -/
def s_M (c : mj_C) (g : Nat → Int32) (R : Nat) (h : Nat → Nat → Int32) : Prop := c 53 = g ∧ c 52 3 = nI R ∧ R ≤ 6 ∧ ∀ i, i < R → ∀ k, k < 674 → c 55 (674 * i + k) = h i k
def s_Fr (c c' : mj_C) : Prop := (∀ b, b < 52 → c' b = c b) ∧ c' 56 = c 56 ∧ ∀ j, j ≠ 3 → c' 52 j = c 52 j
def s_R (R : Nat) : Nat := if R = 6 then 6 else R + 1
def s_hp (h : Nat → Nat → Int32) (R : Nat) (g : Nat → Int32) : Nat → Nat → Int32 := fun i => if i + 1 = s_R R then g else if R = 6 then h (i + 1) else h i
theorem s_Fr_r (c : mj_C) : s_Fr c c := ⟨fun _ _ => rfl, rfl, fun _ _ => rfl⟩
theorem s_Fr_t {c c' c'' : mj_C} (h : s_Fr c c') (h' : s_Fr c' c'') : s_Fr c c'' := ⟨fun b hb => (h'.1 b hb).trans (h.1 b hb), h'.2.1.trans h.2.1, fun j hj => (h'.2.2 j hj).trans (h.2.2 j hj)⟩
theorem s_Fr_of {c c' : mj_C} (h : ∀ b, b ≠ 53 → b ≠ 54 → b ≠ 55 → b ≠ 57 → c' b = c b) : s_Fr c c' := ⟨fun b hb => h b (by omega) (by omega) (by omega) (by omega), h 56 (by decide) (by decide) (by decide) (by decide), fun j _ => by rw [h 52 (by decide) (by decide) (by decide) (by decide)]⟩
theorem s_Fr_set {c : mj_C} {a : Nat} {f : Nat → Int32} (ha : a = 53 ∨ a = 54 ∨ a = 55 ∨ a = 57) : s_Fr c (s_set c a f) := s_Fr_of fun b h1 h2 h3 h4 => s_set_ne c f (by omega)
theorem s_Fr_kp {c : mj_C} : s_Fr c (s_kp c) := s_Fr_of fun b _ h2 _ _ => s_kp_ne c h2
theorem s_M_57 {c : mj_C} {g : Nat → Int32} {R : Nat} {h : Nat → Nat → Int32} (f : Nat → Int32) (hM : s_M c g R h) : s_M (s_set c 57 f) g R h := by
  unfold s_M
  rw [s_set_ne _ _ (by decide : 53 ≠ 57), s_set_ne _ _ (by decide : 52 ≠ 57), s_set_ne _ _ (by decide : 55 ≠ 57)]
  exact hM
theorem s_M_kp {c : mj_C} {g : Nat → Int32} {R : Nat} {h : Nat → Nat → Int32} (hM : s_M c g R h) : s_M (s_kp c) g R h := by
  unfold s_M
  rw [s_kp_ne _ (by decide : 53 ≠ 54), s_kp_ne _ (by decide : 52 ≠ 54), s_kp_ne _ (by decide : 55 ≠ 54)]
  exact hM
theorem s_M_g {c : mj_C} {g : Nat → Int32} {R : Nat} {h : Nat → Nat → Int32} (f : Nat → Int32) (hM : s_M c g R h) : s_M (s_set c 53 f) f R h := by
  unfold s_M
  rw [s_set_eq, s_set_ne _ _ (by decide : 52 ≠ 53), s_set_ne _ _ (by decide : 55 ≠ 53)]
  exact ⟨rfl, hM.2⟩
theorem s_M_own {c c' : mj_C} {g : Nat → Int32} {R : Nat} {h : Nat → Nat → Int32} (hM : s_M c g R h) (hc : ∀ b, 52 ≤ b → c' b = c b) : s_M c' g R h := by
  unfold s_M
  rw [hc 53 (by decide), hc 52 (by decide), hc 55 (by decide)]
  exact hM
theorem s_put_congr {g f f' : Nat → Int32} {p l n : Nat} (hn : n ≤ 8) (h : ∀ w, w < 8 → f w = f' w) : s_put g p l f n = s_put g p l f' n := by
  funext j
  unfold s_put
  split
  · exact h _ (by omega)
  · rfl
theorem s_putk_congr {g f f' : Nat → Int32} {p l : Nat} (h : ∀ w, w < 8 → f w = f' w) : s_putk g p l f = s_putk g p l f' := by
  unfold s_putk
  rw [s_put_congr (by decide) h]
section MD3
variable {L : Nat} {ps : List (Option (Option Nat))} {c : mj_C} {g : Nat → Int32} {R : Nat} {h : Nat → Nat → Int32}
theorem m_withinY {a lo hi : Nat} (h2 : lo ≤ a) (h3 : a ≤ hi) (h4 : hi < 2 ^ 31) : mj_EV 93 0 [some (.int (nI a)), some (.int (nI lo)), some (.int (nI hi))] [] (w_al L ps) c = some (some (.int (nI 1)), w_al L ps, c) := by
  rw [m_within (by omega) (by omega) (by omega), if_pos ⟨h2, h3⟩]
theorem m_withinN {x : Int32} {lo hi n : Nat} (hn : n = hi + 1) (hi2 : n < 2 ^ 31) (hx : x < nI 0 ∨ nI n ≤ x) (hlo : lo < 2 ^ 31) : mj_EV 93 0 [some (.int x), some (.int (nI lo)), some (.int (nI hi))] [] (w_al L ps) c = some (some (.int (nI 0)), w_al L ps, c) := by
  subst hn
  rw [e93_0]
  by_cases q : x < nI lo
  · rw [if_pos q]
  · rw [if_neg q, if_pos]
    rw [Int32.lt_iff_toInt_lt, nI_toInt (by omega)] at q ⊢
    rcases hx with hx | hx
    · rw [Int32.lt_iff_toInt_lt, nI_toInt (by omega)] at hx
      omega
    · rw [Int32.le_iff_toInt_le, nI_toInt (by omega)] at hx
      omega
theorem m_isPage_y {P : Nat} (hP : P < 10) (hg : c 53 (6 + 2 * P) = nI 1) : mj_EV 96 0 [some (.ref 52), some (.int (nI P))] [] (w_al L ps) c = some (some (.int (nI 1)), w_al L ps, c) := by
  rw [m_isPage hP, if_pos hg]
theorem m_isPage_n {x : Int32} (hx : ¬ s_pg (c 53) x) : mj_EV 96 0 [some (.ref 52), some (.int x)] [] (w_al L ps) c = some (some (.int (nI 0)), w_al L ps, c) := by
  rcases s_rg x (n := 10) (by decide) with ⟨P, hP, rfl⟩ | q
  · rw [m_isPage hP, if_neg (fun hg => hx ⟨P, hP, rfl, hg⟩)]
  · rw [e96_0, m_withinN (n := 10) rfl (by decide) q (by decide), mj_then_i, e96_7, if_pos rfl]
theorem m_isOne_y {l : Nat} (hl : l < 8) : mj_EV 97 0 [some (.int (nI l))] [] (w_al L ps) c = some (some (.int (nI 1)), w_al L ps, c) := by
  rw [e97_0, m_withinY (by omega) (by omega) (by omega), mj_then_i, e97_7]
  try rfl
theorem m_isOne_n {x : Int32} (q : x < nI 0 ∨ nI 8 ≤ x) : mj_EV 97 0 [some (.int x)] [] (w_al L ps) c = some (some (.int (nI 0)), w_al L ps, c) := by
  rw [e97_0, m_withinN (n := 8) rfl (by decide) q (by decide), mj_then_i, e97_7]
  try rfl
theorem m_isLine_y {P l : Nat} (hP : P < 10) (hl : l < 8) (hg : c 53 (6 + 2 * P) = nI 1) : mj_EV 130 0 [some (.ref 52), some (.int (nI P)), some (.int (nI l))] [] (w_al L ps) c = some (some (.int (nI 1)), w_al L ps, c) := by
  rw [e130_0, m_isPage_y hP hg, mj_then_i, e130_5, if_neg (by decide), m_isOne_y hl, mj_then_i, e130_12, if_neg (by decide)]
theorem m_isLine_n {x y : Int32} (hx : ¬ s_li (c 53) x y) : mj_EV 130 0 [some (.ref 52), some (.int x), some (.int y)] [] (w_al L ps) c = some (some (.int (nI 0)), w_al L ps, c) := by
  rw [e130_0]
  by_cases q : s_pg (c 53) x
  · obtain ⟨P, hP, rfl, hg⟩ := q
    rw [m_isPage_y hP hg, mj_then_i, e130_5, if_neg (by decide)]
    rcases s_rg y (n := 8) (by decide) with ⟨l, hl, rfl⟩ | q2
    · exact absurd ⟨P, l, hP, hl, rfl, rfl, hg⟩ hx
    · rw [m_isOne_n q2, mj_then_i, e130_12, if_pos rfl]
  · rw [m_isPage_n q, mj_then_i, e130_5, if_pos rfl]
theorem m_rec (hM : s_M c g R h) : ∃ c', mj_EV 95 0 [some (.ref 52), none] [] (w_al L ps) c = some (none, w_al L ps, c') ∧ s_M c' g (s_R R) (s_hp h R g) ∧ s_Fr c c' ∧ c' 57 = c 57 := by
  obtain ⟨h1, h2, h3, h4⟩ := hM
  obtain ⟨c', e, ⟨R', d, hd, p1, p2, p3⟩, p4, p5⟩ := m_record (L := L) (ps := ps) h3 h2
  refine ⟨c', e, ⟨?_, ?_, ?_, ?_⟩, ⟨fun b hb => p4 b (by omega) (by omega), p4 56 (by decide) (by decide), p5⟩, p4 57 (by decide) (by decide)⟩
  · rw [p4 53 (by decide) (by decide), h1]
  · rw [p1]
    unfold s_R
    congr 1
    split <;> omega
  · unfold s_R
    split <;> omega
  · intro i hi k hk
    unfold s_hp
    rcases hd with ⟨q1, q2, q3⟩ | ⟨q1, q2, q3⟩
    · have hR : s_R R = R + 1 := if_neg (by omega)
      rw [hR] at hi ⊢
      by_cases hh : i + 1 = R + 1
      · rw [if_pos hh, show i = R' by omega, p2 k hk, h1]
      · rw [if_neg hh, if_neg (by omega), p3 i (by omega) k hk, q3, Nat.add_zero]
        exact h4 i (by omega) k hk
    · have hR : s_R R = 6 := if_pos q1
      rw [hR] at hi ⊢
      by_cases hh : i + 1 = 6
      · rw [if_pos hh, show i = R' by omega, p2 k hk, h1]
      · rw [if_neg hh, if_pos q1, p3 i (by omega) k hk, q3]
        exact h4 (i + 1) (by omega) k hk
theorem m_changes_n {P l : Nat} {f : Nat → Int32} (hP : P < 10) (hl : l < 8) (hM : s_M c g R h) (hok : s_ok g) (hf : ∀ w, w < 8 → ∃ v, v < 65536 ∧ f w = nI v) (hc : ∀ w, w < 8 → c 57 w = f w) (q : s_may g (s_sum (s_putk g P l f) 10) = nI 0) : mj_EV 121 0 [some (.ref 52), some (.int (nI P)), some (.int (nI l))] [] (w_al L ps) c = some (some (.int (-4)), w_al L ps, s_kp c) := by
  obtain ⟨rfl, h2⟩ := hM
  rw [e121_0, m_mayPut hP hl hok (fun w hw => by rw [hc w hw]; exact hf w hw), mj_then_i, e121_6, s_putk_congr hc, if_pos q]
theorem m_changes_y {P l : Nat} {f : Nat → Int32} (hP : P < 10) (hl : l < 8) (hM : s_M c g R h) (hok : s_ok g) (hf : ∀ w, w < 8 → ∃ v, v < 65536 ∧ f w = nI v) (hc : ∀ w, w < 8 → c 57 w = f w) (q : ¬ s_may g (s_sum (s_putk g P l f) 10) = nI 0) : ∃ c', mj_EV 121 0 [some (.ref 52), some (.int (nI P)), some (.int (nI l))] [] (w_al L ps) c = some (some (.int (s_F (s_putk g P l f) P l)), w_al L ps, c') ∧ s_M c' (s_putk g P l f) (s_R R) (s_hp h R g) ∧ s_Fr c c' := by
  have hM0 := hM
  obtain ⟨rfl, h2⟩ := hM
  obtain ⟨c1, e1, hM1, hF1, h57⟩ := m_rec (L := L) (ps := ps) (s_M_kp hM0)
  have hc1 : ∀ w, w < 8 → c1 57 w = f w := fun w hw => by rw [h57, s_kp_ne c (by decide)]; exact hc w hw
  have hok1 : s_ok (c1 53) := by rw [hM1.1]; exact hok
  have hpo : s_ok (s_putk (c1 53) P l f) := s_ok_congr (s_keep_hi hP) (s_put_ok (by omega) hok1 hf)
  refine ⟨s_set c1 53 (s_putk (c 53) P l f), ?_, s_M_g _ hM1, s_Fr_t (s_Fr_t s_Fr_kp hF1) (s_Fr_set (Or.inl rfl))⟩
  rw [e121_0, m_mayPut hP hl hok (fun w hw => by rw [hc w hw]; exact hf w hw), mj_then_i, e121_6, s_putk_congr hc, if_neg q, e1, mj_then_v, e121_16, m_puts hP hl hok1 (fun w hw => by rw [hc1 w hw]; exact hf w hw), mj_then_v, e121_22, s_putk_congr hc1, m_formOf hP hl (by rw [s_set_eq]; exact hpo), mj_then_i, e121_28, s_set_eq, hM1.1]
end MD3
/-- the words of a line, one of them changed; added to -/
def s_w1 (g : Nat → Int32) (P l w : Nat) (x : Int32) : Nat → Int32 := upd (s_wd g P l) w x
def s_wa (g : Nat → Int32) (P l : Nat) (x : Int32) : Nat → Int32 := fun w => (s_wd g P l w + x) &&& nI 65535
theorem s_ok_wd {g : Nat → Int32} {P l : Nat} (hP : P < 10) (hl : l < 8) (hok : s_ok g) : ∀ w, w < 8 → ∃ v, v < 65536 ∧ s_wd g P l w = nI v := by
  intro w hw
  obtain ⟨v, hv, e⟩ := hok (64 * P + 8 * l + w) (by omega)
  refine ⟨v, hv, ?_⟩
  rw [← e]
  show g _ = g _
  congr 1
  omega
theorem s_ok_w1 {g : Nat → Int32} {P l w : Nat} {v : Nat} (hP : P < 10) (hl : l < 8) (hok : s_ok g) (hv : v < 65536) : ∀ k, k < 8 → ∃ z, z < 65536 ∧ s_w1 g P l w (nI v) k = nI z := by
  intro k hk
  unfold s_w1
  by_cases q : k = w
  · exact ⟨v, hv, by rw [q, s_upd_eq]⟩
  · rw [s_upd_ne q]
    exact s_ok_wd hP hl hok k hk
theorem s_ok_wa {g : Nat → Int32} {P l : Nat} {x : Int32} : ∀ k, k < 8 → ∃ z, z < 65536 ∧ s_wa g P l x k = nI z := fun k _ => by
  obtain ⟨j, hj, e⟩ := pk_andE (s_wd g P l k + x) (m := nI 65535) 16 (by decide)
  exact ⟨j, hj, e⟩
section MD4
variable {L : Nat} {ps : List (Option (Option Nat))} {c : mj_C} {g : Nat → Int32} {R : Nat} {h : Nat → Nat → Int32}
/-- what the reference does when a line is to have the words f -/
def s_chg (L : Nat) (ps : List (Option (Option Nat))) (c : mj_C) (A : Option (Option Value × List mj_K × mj_C)) (g : Nat → Int32) (R : Nat) (h : Nat → Nat → Int32) (P l : Nat) (f : Nat → Int32) : Prop := (s_may g (s_sum (s_putk g P l f) 10) = nI 0 → ∃ c', A = some (some (.int (-4)), w_al L ps, c') ∧ s_M c' g R h ∧ s_Fr c c') ∧ (¬ s_may g (s_sum (s_putk g P l f) 10) = nI 0 → ∃ c', A = some (some (.int (s_F (s_putk g P l f) P l)), w_al L ps, c') ∧ s_M c' (s_putk g P l f) (s_R R) (s_hp h R g) ∧ s_Fr c c')
theorem m_chg {c0 : mj_C} {P l : Nat} {f : Nat → Int32} (hP : P < 10) (hl : l < 8) (h0 : s_Fr c0 c) (hM : s_M c g R h) (hok : s_ok g) (hf : ∀ w, w < 8 → ∃ v, v < 65536 ∧ f w = nI v) (hc : ∀ w, w < 8 → c 57 w = f w) : s_chg L ps c0 (mj_EV 121 0 [some (.ref 52), some (.int (nI P)), some (.int (nI l))] [] (w_al L ps) c) g R h P l f := by
  constructor
  · intro q
    exact ⟨_, m_changes_n hP hl hM hok hf hc q, s_M_kp hM, s_Fr_t h0 s_Fr_kp⟩
  · intro q
    obtain ⟨c', e, h1, h2⟩ := m_changes_y (L := L) (ps := ps) hP hl hM hok hf hc q
    exact ⟨c', e, h1, s_Fr_t h0 h2⟩
theorem m_chgT {y q : Nat} {Lc : List (Option Value)} {P l : Nat} {f F : Nat → Int32} (hP : P < 10) (hl : l < 8) (hM : s_M c g R h) (hok : s_ok g) (hf : ∀ w, w < 8 → ∃ v, v < 65536 ∧ f w = nI v) (hc : ∀ w, w < 8 → F w = f w) (hB : ∀ x c', mj_EV y q Lc [.int x] (w_al L ps) c' = some (some (.int x), w_al L ps, c')) : s_chg L ps c (mj_then y q Lc [] (mj_EV 121 0 [some (.ref 52), some (.int (nI P)), some (.int (nI l))] [] (w_al L ps) (s_set c 57 F))) g R h P l f := by
  have hA := m_chg (L := L) (ps := ps) (c0 := c) hP hl (s_Fr_set (f := F) (Or.inr (Or.inr (Or.inr rfl)))) (s_M_57 F hM) hok hf (fun w hw => by rw [s_set_eq]; exact hc w hw)
  constructor
  · intro q
    obtain ⟨c', e, h1, h2⟩ := hA.1 q
    exact ⟨c', by rw [e, mj_then_i, hB], h1, h2⟩
  · intro q
    obtain ⟨c', e, h1, h2⟩ := hA.2 q
    exact ⟨c', by rw [e, mj_then_i, hB], h1, h2⟩
theorem m_write {P l w v : Nat} (hP : P < 10) (hl : l < 8) (hw : w < 8) (hv : v < 65536) (hM : s_M c g R h) (hok : s_ok g) (hg : g (6 + 2 * P) = nI 1) : s_chg L ps c (mj_EV 131 0 [some (.ref 52), some (.int (nI P)), some (.int (nI l)), some (.int (nI w)), some (.int (nI v))] [] (w_al L ps) c) g R h P l (s_w1 g P l w (nI v)) := by
  have e53 := hM.1
  rw [e131_0, m_isLine_y hP hl (by rw [e53]; exact hg), mj_then_i, e131_6, if_neg (by decide), m_isOne_y hw, mj_then_i, e131_13, if_neg (by decide), m_withinY (by omega) (by omega) (by omega), mj_then_i, e131_26, if_neg (by decide), m_takes hP hl, mj_then_v, e131_38, mj_in_nI (by omega), nI_clamp (by omega), if_pos (by simp; omega), s_u, s_set_set, s_set_eq]
  refine m_chgT hP hl hM hok (s_ok_w1 hP hl hok hv) ?_ (fun _ _ => e131_52)
  · intro k hk
    rw [e53]
    unfold s_w1
    by_cases q : k = w
    · rw [q, s_upd_eq, s_upd_eq]
    · rw [s_upd_ne q, s_upd_ne q, if_pos hk]
theorem m_fill {P l v : Nat} (hP : P < 10) (hl : l < 8) (hv : v < 65536) (hM : s_M c g R h) (hok : s_ok g) (hg : g (6 + 2 * P) = nI 1) : s_chg L ps c (mj_EV 132 0 [some (.ref 52), some (.int (nI P)), some (.int (nI l)), some (.int (nI v)), none] [] (w_al L ps) c) g R h P l (fun _ => nI v) := by
  have e53 := hM.1
  have key : ∀ n k : Nat, k + n = 8 → s_chg L ps c (mj_EV 132 27 [some (.ref 52), some (.int (nI P)), some (.int (nI l)), some (.int (nI v)), some (.int (nI k))] [] (w_al L ps) (s_set c 57 (fun j => if j < k then nI v else c 57 j))) g R h P l (fun _ => nI v) := by
    intro n
    induction n with
    | zero =>
      intro k hk
      rw [e132_27]
      simp (disch := omega) only [nI_leI]
      rw [if_pos (by omega)]
      refine m_chgT hP hl hM hok (fun _ _ => ⟨v, hv, rfl⟩) ?_ (fun _ _ => e132_54)
      intro j hj
      rw [if_pos (by omega)]
    | succ n ih =>
      intro k hk
      rw [e132_27]
      simp (disch := omega) only [nI_leI, mj_in_nI, nI_clamp, nI_add]
      rw [if_neg (by omega), if_pos (by simp; omega), s_u, s_set_set, s_set_eq]
      have e : upd (fun j => if j < k then nI v else c 57 j) k (nI v) = (fun j => if j < k + 1 then nI v else c 57 j) := by
        funext j
        simp only [upd]
        by_cases h1 : j = k
        · subst h1
          rw [if_pos rfl, if_pos (by omega)]
        · rw [if_neg h1]
          by_cases h2 : j < k
          · rw [if_pos h2, if_pos (by omega)]
          · rw [if_neg h2, if_neg (by omega)]
      rw [e]
      exact ih (k + 1) (by omega)
  rw [e132_0, m_isLine_y hP hl (by rw [e53]; exact hg), mj_then_i, e132_6, if_neg (by decide), m_withinY (by omega) (by omega) (by omega), mj_then_i, e132_18, if_neg (by decide)]
  have h0 := key 8 0 (by omega)
  have e : (fun j => if j < 0 then nI v else c 57 j) = c 57 := by
    funext j
    rw [if_neg (by omega)]
  rw [e, s_set_self] at h0
  exact h0
theorem m_add {P l : Nat} {x : Int32} (hP : P < 10) (hl : l < 8) (hx : (-65535) ≤ x) (hx2 : x ≤ nI 65535) (hM : s_M c g R h) (hok : s_ok g) (hg : g (6 + 2 * P) = nI 1) : s_chg L ps c (mj_EV 133 0 [some (.ref 52), some (.int (nI P)), some (.int (nI l)), some (.int x), none] [] (w_al L ps) c) g R h P l (s_wa g P l x) := by
  have e53 := hM.1
  have key : ∀ n k : Nat, k + n = 8 → s_chg L ps c (mj_EV 133 34 [some (.ref 52), some (.int (nI P)), some (.int (nI l)), some (.int x), some (.int (nI k))] [] (w_al L ps) (s_set c 57 (fun j => if j < k then s_wa g P l x j else if j < 8 then s_wd g P l j else c 57 j))) g R h P l (s_wa g P l x) := by
    intro n
    induction n with
    | zero =>
      intro k hk
      rw [e133_34]
      simp (disch := omega) only [nI_leI]
      rw [if_pos (by omega)]
      refine m_chgT hP hl hM hok s_ok_wa ?_ (fun _ _ => e133_72)
      intro j hj
      rw [if_pos (by omega)]
    | succ n ih =>
      intro k hk
      rw [e133_34]
      simp (disch := omega) only [nI_leI, mj_in_nI, nI_clamp, nI_add]
      rw [if_neg (by omega), if_pos (by simp; omega), if_pos (by simp; omega), s_u, s_set_set, s_set_eq]
      have e : upd (fun j => if j < k then s_wa g P l x j else if j < 8 then s_wd g P l j else c 57 j) k (((fun j => if j < k then s_wa g P l x j else if j < 8 then s_wd g P l j else c 57 j) k + x) &&& nI 65535) = (fun j => if j < k + 1 then s_wa g P l x j else if j < 8 then s_wd g P l j else c 57 j) := by
        funext j
        simp only [upd]
        by_cases h1 : j = k
        · subst h1
          rw [if_pos rfl, if_neg (by omega), if_pos (by omega), if_pos (by omega)]
          rfl
        · rw [if_neg h1]
          by_cases h2 : j < k
          · rw [if_pos h2, if_pos (by omega)]
          · rw [if_neg h2, if_neg (by omega : ¬ j < k + 1)]
      rw [e]
      exact ih (k + 1) (by omega)
  have ew : mj_EV 93 0 [some (.int x), some (.int (-65535)), some (.int (nI 65535))] [] (w_al L ps) c = some (some (.int (nI 1)), w_al L ps, c) := by
    rw [e93_0, if_neg (Int32.not_lt.mpr hx), if_neg (Int32.not_lt.mpr hx2)]
  rw [e133_0, m_isLine_y hP hl (by rw [e53]; exact hg), mj_then_i, e133_6, if_neg (by decide), ew, mj_then_i, e133_19, if_neg (by decide), m_takes hP hl, mj_then_v, e133_31, e53]
  have h0 := key 8 0 (by omega)
  have e : (fun j => if j < 0 then s_wa g P l x j else if j < 8 then s_wd g P l j else c 57 j) = (fun j => if j < 8 then s_wd g P l j else c 57 j) := by
    funext j
    rw [if_neg (by omega : ¬ j < 0)]
  rw [e] at h0
  exact h0
theorem m_copy {P l P' l' : Nat} (hP : P < 10) (hl : l < 8) (hg : g (6 + 2 * P) = nI 1) (hP' : P' < 10) (hl' : l' < 8) (hg' : g (6 + 2 * P') = nI 1) (hM : s_M c g R h) (hok : s_ok g) : s_chg L ps c (mj_EV 134 0 [some (.ref 52), some (.int (nI P)), some (.int (nI l)), some (.int (nI P')), some (.int (nI l'))] [] (w_al L ps) c) g R h P' l' (s_wd g P l) := by
  have e53 := hM.1
  rw [e134_0, m_isLine_y hP hl (by rw [e53]; exact hg), mj_then_i, e134_6, if_neg (by decide), m_isLine_y hP' hl' (by rw [e53]; exact hg'), mj_then_i, e134_16, if_neg (by decide), m_takes hP hl, mj_then_v, e134_27]
  refine m_chgT hP' hl' hM hok (s_ok_wd hP hl hok) ?_ (fun _ _ => e134_34)
  intro k hk
  rw [e53, if_pos hk]
theorem m_ifWritten {P l w v : Nat} (hP : P < 10) (hl : l < 8) (hw : w < 8) (hv : v < 65536) (hM : s_M c g R h) (hok : s_ok g) (hg : g (6 + 2 * P) = nI 1) : ∃ c', mj_EV 149 0 [some (.ref 52), some (.int (nI P)), some (.int (nI l)), some (.int (nI w)), some (.int (nI v))] [] (w_al L ps) c = some (some (.int (s_sum (s_putk g P l (s_w1 g P l w (nI v))) 10)), w_al L ps, c') ∧ s_M c' g R h ∧ s_Fr c c' := by
  have e53 := hM.1
  have hc : ∀ k, k < 8 → upd (fun j => if j < 8 then s_wd (c 53) P l j else c 57 j) w (nI v) k = s_w1 g P l w (nI v) k := by
    intro k hk
    rw [e53]
    unfold s_w1
    by_cases q : k = w
    · rw [q, s_upd_eq, s_upd_eq]
    · rw [s_upd_ne q, s_upd_ne q, if_pos hk]
  refine ⟨s_kp (s_set c 57 (upd (fun j => if j < 8 then s_wd (c 53) P l j else c 57 j) w (nI v))), ?_, s_M_kp (s_M_57 _ hM), s_Fr_t (s_Fr_set (Or.inr (Or.inr (Or.inr rfl)))) s_Fr_kp⟩
  · rw [e149_0, m_isLine_y hP hl (by rw [e53]; exact hg), mj_then_i, e149_6, if_neg (by decide), m_isOne_y hw, mj_then_i, e149_13, if_neg (by decide), m_withinY (by omega) (by omega) (by omega), mj_then_i, e149_26, if_neg (by decide), m_takes hP hl, mj_then_v, e149_38, mj_in_nI (by omega), nI_clamp (by omega), if_pos (by simp; omega), s_u, s_set_set, s_set_eq, m_sumThen hP hl (by rw [s_set_ne _ _ (by decide), e53]; exact hok) (fun k hk => by rw [s_set_eq, hc k hk]; exact s_ok_w1 hP hl hok hv k hk), mj_then_i, e149_52, s_set_eq, s_set_ne _ _ (by decide : 53 ≠ 57), s_putk_congr hc, e53]
end MD4
