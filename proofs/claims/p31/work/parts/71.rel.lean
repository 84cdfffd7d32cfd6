/-! THE LAW'S MEMORY and the row of numbers g that the class's State stands for -/
def s_Ls (q : Nat → Int32) (W : Nat → Nat → Int32) : Nat → Int32
  | 0 => nI 0
  | k + 1 => s_Ls q W k + (if nI 0 ≤ q (6 + k) then s_pz (s_PF (W k)) (q (6 + k)) else nI 0)
def s_LN (q g : Nat → Int32) : Prop := q 0 = g 0 ∧ q 1 = g 1 ∧ q 2 = g 2 ∧ q 3 = g 3 ∧ q 4 = g 4 ∧ q 5 = g 5
def s_LP (q : Nat → Int32) (W : Nat → Nat → Int32) (g : Nat → Int32) : Prop := (∀ p, p < 3 → (g (6 + 2 * p) = nI 1 ∧ q (6 + p) = g (7 + 2 * p) ∧ ∃ s, s ≤ 8 ∧ g (7 + 2 * p) = nI s) ∨ (g (6 + 2 * p) = nI 0 ∧ q (6 + p) = (-1))) ∧ (∀ p, 3 ≤ p → p < 10 → g (6 + 2 * p) = nI 0) ∧ ∀ p, p < 3 → ∀ j, j < 64 → W p j = g (34 + 64 * p + j)
def s_LH (q g : Nat → Int32) : Prop := (∀ k, k < 3 → q (9 + k) = g (26 + 2 * k) ∧ (g (26 + 2 * k) = (-6) ∨ (g (26 + 2 * k) = nI k ∧ q (13 + k) = g (27 + 2 * k)))) ∧ q 12 = (-6) ∧ g 32 = (-6)
def s_W3 (c : mj_C) : Nat → Nat → Int32 := fun p => c (53 + p)
/-- the class's State and the law's cells stand for g -/
def s_K (c : mj_C) (g : Nat → Int32) : Prop := s_S c 3 g ∧ c 1 = w_fs ∧ s_LN (c 52) g ∧ s_LP (c 52) (s_W3 c) g ∧ s_LH (c 52) g
theorem s_K_mono {c c' : mj_C} {g : Nat → Int32} (hK : s_K c g) (h : ∀ b, b < 57 → c' b = c b) : s_K c' g := by
  obtain ⟨h1, h2, h3, h4, h5⟩ := hK
  refine ⟨s_S_congr h1 (fun _ _ => rfl) (fun b _ hb => h b (by omega)), by rw [h 1 (by omega)]; exact h2, by rw [h 52 (by omega)]; exact h3, ?_, by rw [h 52 (by omega)]; exact h5⟩
  rw [h 52 (by omega)]
  refine ⟨h4.1, h4.2.1, fun p hp j hj => ?_⟩
  show c' (53 + p) j = _
  rw [h (53 + p) (by omega)]
  exact h4.2.2 p hp j hj
section LR
variable {q : Nat → Int32} {W : Nat → Nat → Int32} {g : Nat → Int32}
theorem s_LP_wd (hP : s_LP q W g) {p l w : Nat} (hp : p < 3) (hl : l < 8) (hw : w < 8) : W p (8 * l + w) = s_wd g p l w := by
  rw [hP.2.2 p hp (8 * l + w) (by omega)]
  show g _ = g _
  congr 1
  omega
theorem s_LP_F (hP : s_LP q W g) {p l : Nat} (hp : p < 3) (hl : l < 8) : s_PF (W p) l = s_F g p l := s_fm_congr (fun _ hw => s_LP_wd hP hp hl hw)
theorem s_LP_pz (hP : s_LP q W g) {p : Nat} {s : Int32} (hp : p < 3) : s_pz (s_PF (W p)) s = s_pz (s_F g p) s := s_pz_congr (fun _ hl => s_LP_F hP hp hl)
theorem s_LP_bs (hP : s_LP q W g) {p : Nat} {r : Int32} (hp : p < 3) : s_bs (s_PF (W p)) r = s_bs (s_F g p) r := s_bs_congr (fun _ hl => s_LP_F hP hp hl)
theorem s_LP_mk (hP : s_LP q W g) {p : Nat} {s : Int32} (hp : p < 3) : s_mk (s_PF (W p)) s 8 = s_mk (s_F g p) s 8 := s_mk_congr 8 (fun _ hl => s_LP_F hP hp hl)
theorem s_LP_ct (hP : s_LP q W g) {p : Nat} {s : Int32} (hp : p < 3) : s_ct (s_PF (W p)) s 8 = s_ct (s_F g p) s 8 := s_ct_congr 8 (fun _ hl => s_LP_F hP hp hl)
theorem s_LP_ok (hP : s_LP q W g) (hok : s_ok g) {p : Nat} (hp : p < 3) : s_okw (W p) := by
  intro j hj
  obtain ⟨n, hn, e⟩ := hok (64 * p + j) (by omega)
  refine ⟨n, hn, ?_⟩
  rw [hP.2.2 p hp j hj, ← e]
  congr 1
  omega
theorem s_m1 : ¬ (nI 0 ≤ (-1 : Int32)) := by decide
theorem s_m1' : (-1 : Int32) < nI 0 := by decide
theorem s_n1 : ¬ (nI 0 = nI 1) := by decide
theorem s_LP_sum3 (hP : s_LP q W g) : ∀ k, k ≤ 3 → s_Ls q W k = s_sum g k := by
  intro k
  induction k with
  | zero => intro _; rfl
  | succ k ih =>
    intro hk
    rw [show s_Ls q W (k + 1) = s_Ls q W k + (if nI 0 ≤ q (6 + k) then s_pz (s_PF (W k)) (q (6 + k)) else nI 0) from rfl, show s_sum g (k + 1) = if g (6 + 2 * k) = nI 1 then s_sum g k + s_pz (s_F g k) (g (7 + 2 * k)) else s_sum g k from rfl, ih (by omega)]
    rcases hP.1 k (by omega) with ⟨h1, h2, s, hs, h3⟩ | ⟨h1, h2⟩
    · rw [h2, h3, h1, if_pos rfl, if_pos (nI_le (by omega) (by omega)), s_LP_pz hP (by omega)]
    · rw [h2, h1, if_neg s_n1, if_neg s_m1, nI_addz]
theorem s_no3 (h : ∀ p, 3 ≤ p → p < 10 → g (6 + 2 * p) = nI 0) {p : Nat} (h3 : 3 ≤ p) (hp : p < 10) : ¬ g (6 + 2 * p) = nI 1 := by
  rw [h p h3 hp]
  exact s_n1
theorem s_ten {f : Nat → Int32} (h : ∀ p, 3 ≤ p → p < 10 → f (p + 1) = f p) : f 10 = f 3 := (h 9 (by omega) (by omega)).trans ((h 8 (by omega) (by omega)).trans ((h 7 (by omega) (by omega)).trans ((h 6 (by omega) (by omega)).trans ((h 5 (by omega) (by omega)).trans ((h 4 (by omega) (by omega)).trans (h 3 (by omega) (by omega)))))))
theorem s_LP_sum (hP : s_LP q W g) : s_Ls q W 3 = s_sum g 10 := (s_LP_sum3 hP 3 (by omega)).trans (s_ten (f := s_sum g) (fun _ h3 hp => if_neg (s_no3 hP.2.1 h3 hp))).symm
end LR
section LS
variable {L n : Nat} {ps : List (Option (Option Nat))} {c : mj_C} {g : Nat → Int32}
theorem w_5p {p : Nat} (hp : p < 3) : (w_sh L ps (w_lo n))[53 + p]? = some (0, 64, []) := by
  match p, hp with
  | 0, _ => rfl
  | 1, _ => rfl
  | 2, _ => rfl
  | p + 3, h => omega
theorem l_sumQ (hok : ∀ p, p < 3 → s_okw (c (53 + p))) : mj_EV 101 0 [some (.ref 52), some (.ref 53), some (.ref 54), some (.ref 55), none, none] [] (w_sh L ps (w_lo n)) c = some (some (.int (s_Ls (c 52) (s_W3 c) 3)), w_sh L ps (w_lo n), c) := by
  have key : ∀ k p, p + k = 3 → mj_EV 101 6 [some (.ref 52), some (.ref 53), some (.ref 54), some (.ref 55), some (.int (s_Ls (c 52) (s_W3 c) p)), some (.int (nI p))] [] (w_sh L ps (w_lo n)) c = some (some (.int (s_Ls (c 52) (s_W3 c) 3)), w_sh L ps (w_lo n), c) := by
    intro k
    induction k with
    | zero =>
      intro p hp
      have hp : p = 3 := hp
      subst hp
      rw [e101_6, if_pos (Int32.le_refl _)]
    | succ k ih =>
      intro p hp
      have h2 := ih (p + 1) (by omega)
      rw [show s_Ls (c 52) (s_W3 c) (p + 1) = s_Ls (c 52) (s_W3 c) p + (if nI 0 ≤ c 52 (6 + p) then s_pz (s_PF (s_W3 c p)) (c 52 (6 + p)) else nI 0) from rfl] at h2
      rw [e101_6, if_neg (nI_ge (by omega) (by omega)), nI_add, mj_in_nI (by omega), if_pos (decide_eq_true (by omega)), nI_clamp (by omega)]
      by_cases q : nI 0 ≤ c 52 (6 + p)
      · rw [if_pos q] at h2
        rw [if_pos q, if_pos (decide_eq_true (by omega)), l_row (by omega), mj_then_r, e101_43 (w_5p (by omega)), l_units (w_5p (by omega)) (by omega) (hok p (by omega)), mj_then_i, e101_46, nI_add]
        exact h2
      · rw [if_neg q] at h2
        rw [if_neg q, e101_46, nI_add]
        exact h2
  rw [e101_0]
  exact key 3 0 (by omega)
end LS
