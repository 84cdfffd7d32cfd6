/-! THE CLASS's methods that only look -/
theorem s_S_pg {c : mj_C} {a : Nat} {g : Nat → Int32} (hS : s_S c a g) {P : Nat} (hP : P < 10) (hg : g (6 + 2 * P) = nI 1) : (∃ s, s ≤ 8 ∧ g (7 + 2 * P) = nI s) ∧ c (a + 3) P = g (7 + 2 * P) ∧ (∀ l, l < 8 → c (a + 2) (8 * P + l) = s_F g P l) ∧ (∀ j, j < 64 → c (a + 1) (64 * P + j) = g (34 + 64 * P + j)) := by
  rcases hS.2.2.2.2.1 P hP with ⟨h1, h2⟩ | ⟨h1, h2⟩
  · exact h2
  · rw [h1] at hg
    exact absurd hg (by decide)
theorem s_S_no {c : mj_C} {a : Nat} {g : Nat → Int32} (hS : s_S c a g) {P : Nat} (hP : P < 10) (hg : ¬ g (6 + 2 * P) = nI 1) : g (6 + 2 * P) = nI 0 ∧ c (a + 3) P = (-1) ∧ ∀ j, j < 64 → g (34 + 64 * P + j) = nI 0 := by
  rcases hS.2.2.2.2.1 P hP with ⟨h1, h2⟩ | h1
  · exact absurd h1 hg
  · exact h1
theorem s_nm1 {s : Nat} (hs : s ≤ 10) : ¬ nI s = (-1) := by
  match s, hs with
  | 0, _ => decide
  | 1, _ => decide
  | 2, _ => decide
  | 3, _ => decide
  | 4, _ => decide
  | 5, _ => decide
  | 6, _ => decide
  | 7, _ => decide
  | 8, _ => decide
  | 9, _ => decide
  | 10, _ => decide
  | s + 11, h => omega
theorem s_S_ok {c : mj_C} {a : Nat} {g : Nat → Int32} (hS : s_S c a g) : s_ok g := hS.2.2.2.1
/-- the size of a slot changes -/
theorem s_S_slot {c : mj_C} {a P s : Nat} {g : Nat → Int32} (hS : s_S c a g) (hP : P < 10) (hg : g (6 + 2 * P) = nI 1) (hs : s ≤ 8) : s_S (mj_u c (a + 3) P (nI s)) a (upd g (7 + 2 * P) (nI s)) := by
  have hF : ∀ p, s_F (upd g (7 + 2 * P) (nI s)) p = s_F g p := fun p => s_F_congrF (fun j hj => s_upd_ne (by omega))
  obtain ⟨h0, hr, hb, hok, hp, hq⟩ := hS
  refine ⟨?_, ?_, ?_, ?_, fun p hpp => ?_, fun q hqq => ?_⟩
  · rw [mj_u_ne _ _ _ _ (by omega), s_upd_ne (by omega), s_upd_ne (by omega), s_upd_ne (by omega), s_upd_ne (by omega), s_upd_ne (by omega), s_upd_ne (by omega)]
    exact h0
  · rw [s_upd_ne (by omega)]; exact hr
  · rw [s_upd_ne (by omega)]; exact hb
  · exact s_ok_congr (fun j hj => s_upd_ne (by omega)) hok
  · rw [mj_u_ne c (a + 3) _ _ (by omega : a + 1 ≠ a + 3), mj_u_ne c (a + 3) _ _ (by omega : a + 2 ≠ a + 3), mj_u_self, s_upd_ne (by omega : 6 + 2 * p ≠ 7 + 2 * P), hF]
    by_cases q : p = P
    · subst q
      rw [s_upd_eq, s_upd_eq]
      rcases hp p hpp with ⟨q1, q2, q3, q4, q5⟩ | ⟨q1, q2, q3⟩
      · exact Or.inl ⟨q1, ⟨s, hs, rfl⟩, rfl, q4, fun j hj => by rw [s_upd_ne (by omega)]; exact q5 j hj⟩
      · rw [hg] at q1
        exact absurd q1 (by decide)
    · rw [s_upd_ne q, s_upd_ne (by omega : 7 + 2 * p ≠ 7 + 2 * P)]
      rcases hp p hpp with ⟨q1, q2, q3, q4, q5⟩ | ⟨q1, q2, q3⟩
      · exact Or.inl ⟨q1, q2, q3, q4, fun j hj => by rw [s_upd_ne (by omega)]; exact q5 j hj⟩
      · exact Or.inr ⟨q1, q2, fun j hj => by rw [s_upd_ne (by omega)]; exact q3 j hj⟩
  · rw [mj_u_ne _ _ _ _ (by omega), mj_u_ne _ _ _ _ (by omega), s_upd_ne (by omega), s_upd_ne (by omega)]
    exact hq q hqq
/-- a number of the State changes -/
theorem s_S_num {c c' : mj_C} {a : Nat} {g g' : Nat → Int32} (hS : s_S c a g) (hg : ∀ k, 6 ≤ k → g' k = g k) (hc : ∀ b, a < b → b ≤ a + 5 → c' b = c b) (h0 : c' a 0 = g' 0 ∧ c' a 1 = g' 1 ∧ c' a 2 = g' 2 ∧ c' a 3 = g' 3 ∧ g' 4 = g' 2 + nI 2 * g' 3 ∧ c' a 4 = g' 5) (hr : ∃ r, r < 9 ∧ g' 0 = nI r) (hb : ∃ b, b < 1000 ∧ g' 1 = nI b) : s_S c' a g' := by
  have hF : ∀ p, s_F g' p = s_F g p := fun p => s_F_congrF (fun j hj => hg j (by omega))
  obtain ⟨-, -, -, hok, hp, hq⟩ := hS
  refine ⟨h0, hr, hb, s_ok_congr (fun j hj => hg j (by omega)) hok, fun p hpp => ?_, fun q hqq => ?_⟩
  · rw [hc (a + 3) (by omega) (by omega), hc (a + 2) (by omega) (by omega), hc (a + 1) (by omega) (by omega), hg _ (by omega : 6 ≤ 6 + 2 * p), hg _ (by omega : 6 ≤ 7 + 2 * p), hF]
    rcases hp p hpp with ⟨q1, q2, q3, q4, q5⟩ | ⟨q1, q2, q3⟩
    · exact Or.inl ⟨q1, q2, q3, q4, fun j hj => by rw [hg _ (by omega)]; exact q5 j hj⟩
    · exact Or.inr ⟨q1, q2, fun j hj => by rw [hg _ (by omega)]; exact q3 j hj⟩
  · rw [hc (a + 4) (by omega) (by omega), hc (a + 5) (by omega) (by omega), hg _ (by omega : 6 ≤ 26 + 2 * q), hg _ (by omega : 6 ≤ 27 + 2 * q)]
    exact hq q hqq
def s_sw (g : Nat → Int32) (r : Int32) : Nat → Int32
  | 0 => nI 0
  | k + 1 => if g (6 + 2 * k) = nI 1 then s_sw g r k + (if s_ct (s_F g k) (g (7 + 2 * k)) 8 ≤ r then s_pz (s_F g k) (g (7 + 2 * k)) else s_pz (s_F g k) (s_bs (s_F g k) r)) else s_sw g r k
def s_sa (g : Nat → Int32) (r : Int32) : Nat → Int32
  | 0 => nI 0
  | k + 1 => if g (6 + 2 * k) = nI 1 then s_sa g r k + s_pz (s_F g k) (s_bs (s_F g k) r) else s_sa g r k
section KL2
variable {L : Nat} {ps : List (Option (Option Nat))} {rest : List mj_K} {c : mj_C} {g : Nat → Int32}
theorem k_hasPage {P : Nat} (hS : s_S c 3 g) (hP : P < 10) : mj_EV 6 0 [some (.ref 3), some (.int (nI P))] [] (w_sh L ps rest) c = some (some (.int (if g (6 + 2 * P) = nI 1 then nI 1 else nI 0)), w_sh L ps rest, c) := by
  rw [e6_0]
  simp (disch := omega) only [nI_ltI, nI_leI, mj_in_nI, nI_clamp]
  rw [if_neg (by omega), if_neg (by omega), if_pos (by simp; omega)]
  by_cases q : g (6 + 2 * P) = nI 1
  · obtain ⟨⟨s, hs, e⟩, h2, -⟩ := s_S_pg hS hP q
    rw [if_pos q, show c 6 P = g (7 + 2 * P) from h2, e, if_neg (s_nm1 (by omega))]
  · obtain ⟨-, h2, -⟩ := s_S_no hS hP q
    rw [if_neg q, if_pos (show c 6 P = (-1) from h2)]
theorem k_hasPage_y {P : Nat} (hS : s_S c 3 g) (hP : P < 10) (hg : g (6 + 2 * P) = nI 1) : mj_EV 6 0 [some (.ref 3), some (.int (nI P))] [] (w_sh L ps rest) c = some (some (.int (nI 1)), w_sh L ps rest, c) := by
  rw [k_hasPage hS hP, if_pos hg]
theorem k_hasPage_n {x : Int32} (hS : s_S c 3 g) (hx : ¬ s_pg g x) : mj_EV 6 0 [some (.ref 3), some (.int x)] [] (w_sh L ps rest) c = some (some (.int (nI 0)), w_sh L ps rest, c) := by
  rcases s_rg x (n := 10) (by decide) with ⟨P, hP, rfl⟩ | q
  · rw [k_hasPage hS hP, if_neg (fun hg => hx ⟨P, hP, rfl, hg⟩)]
  · rw [e6_0]
    by_cases q1 : x < nI 0
    · rw [if_pos q1]
    · rw [if_neg q1, if_pos (q.resolve_left q1)]
theorem k_hasLine_y {P l : Nat} (hS : s_S c 3 g) (hP : P < 10) (hl : l < 8) (hg : g (6 + 2 * P) = nI 1) : mj_EV 34 0 [some (.ref 3), some (.int (nI P)), some (.int (nI l))] [] (w_sh L ps rest) c = some (some (.int (nI 1)), w_sh L ps rest, c) := by
  rw [e34_0, k_hasPage_y hS hP hg, mj_then_i, e34_5, if_neg (by decide)]
  simp (disch := omega) only [nI_ltI, nI_leI]
  rw [if_neg (by omega), if_neg (by omega)]
theorem k_hasLine_n {x y : Int32} (hS : s_S c 3 g) (hx : ¬ s_li g x y) : mj_EV 34 0 [some (.ref 3), some (.int x), some (.int y)] [] (w_sh L ps rest) c = some (some (.int (nI 0)), w_sh L ps rest, c) := by
  rw [e34_0]
  by_cases q : s_pg g x
  · obtain ⟨P, hP, rfl, hg⟩ := q
    rw [k_hasPage_y hS hP hg, mj_then_i, e34_5, if_neg (by decide)]
    rcases s_rg y (n := 8) (by decide) with ⟨l, hl, rfl⟩ | q2
    · exact absurd ⟨P, l, hP, hl, rfl, rfl, hg⟩ hx
    · by_cases q1 : y < nI 0
      · rw [if_pos q1]
      · rw [if_neg q1, if_pos (q2.resolve_left q1)]
  · rw [k_hasPage_n hS q, mj_then_i, e34_5, if_pos rfl]
theorem k_hasLine {P l : Nat} (hS : s_S c 3 g) (hP : P < 10) (hl : l < 8) : mj_EV 34 0 [some (.ref 3), some (.int (nI P)), some (.int (nI l))] [] (w_sh L ps rest) c = some (some (.int (if g (6 + 2 * P) = nI 1 then nI 1 else nI 0)), w_sh L ps rest, c) := by
  by_cases q : g (6 + 2 * P) = nI 1
  · rw [if_pos q, k_hasLine_y hS hP hl q]
  · rw [if_neg q, k_hasLine_n hS]
    rintro ⟨P', l', h1, h2, h3, h4, h5⟩
    rw [nI_eq (by omega) (by omega)] at h3
    subst h3
    exact q h5
theorem k_isWord_y {w : Nat} (hw : w < 8) : mj_EV 35 0 [some (.int (nI w))] [] (w_sh L ps rest) c = some (some (.int (nI 1)), w_sh L ps rest, c) := by
  rw [e35_0]
  simp (disch := omega) only [nI_ltI, nI_leI]
  rw [if_neg (by omega), if_neg (by omega)]
theorem k_isWord_n {x : Int32} (q : x < nI 0 ∨ nI 8 ≤ x) : mj_EV 35 0 [some (.int x)] [] (w_sh L ps rest) c = some (some (.int (nI 0)), w_sh L ps rest, c) := by
  rw [e35_0]
  by_cases q1 : x < nI 0
  · rw [if_pos q1]
  · rw [if_neg q1, if_pos (q.resolve_left q1)]
theorem s_lt_le {x : Int32} {n : Nat} (hn : n + 1 < 2 ^ 31) : nI (n + 1) ≤ x ↔ nI n < x := by
  rw [Int32.le_iff_toInt_le, Int32.lt_iff_toInt_lt, nI_toInt hn, nI_toInt (by omega)]
  omega
theorem k_isValue_y {v : Nat} (hv : v < 65536) : mj_EV 36 0 [some (.int (nI v))] [] (w_sh L ps rest) c = some (some (.int (nI 1)), w_sh L ps rest, c) := by
  rw [e36_0]
  simp (disch := omega) only [nI_ltI, nI_leI]
  rw [if_neg (by omega), if_neg (by omega)]
theorem k_isValue_n {x : Int32} (q : x < nI 0 ∨ nI 65536 ≤ x) : mj_EV 36 0 [some (.int x)] [] (w_sh L ps rest) c = some (some (.int (nI 0)), w_sh L ps rest, c) := by
  rw [e36_0]
  by_cases q1 : x < nI 0
  · rw [if_pos q1]
  · rw [if_neg q1, if_pos ((s_lt_le (n := 65535) (by decide)).mp (q.resolve_left q1))]
theorem k_besideCountOf {P : Nat} (hS : s_S c 3 g) (h1 : c 1 = w_fs) (hP : P < 10) (hg : g (6 + 2 * P) = nI 1) : mj_EV 9 0 [some (.ref 2), some (.int (nI P))] [] (w_sh L ps rest) c = some (some (.int (s_ct (s_F g P) (g (7 + 2 * P)) 8)), w_sh L ps rest, c) := by
  obtain ⟨-, h2, h3, -⟩ := s_S_pg hS hP hg
  rw [e9_0, e7_0, mj_then_i, e9_11, mj_in_nI (by omega), nI_clamp (by omega), if_pos (by simp; omega), pk_mul, k_besideCount (F := s_F g P) w_5 h1 (by omega) (by omega) (s_fo_F g P) (fun l hl => by rw [Nat.mul_comm P 8]; exact h3 l hl), mj_then_i, e9_23, show c 6 P = g (7 + 2 * P) from h2]
theorem k_bestSlotOf {P r : Nat} (hS : s_S c 3 g) (h1 : c 1 = w_fs) (hP : P < 10) (hg : g (6 + 2 * P) = nI 1) (hr : r ≤ 8) : mj_EV 12 0 [some (.ref 2), some (.int (nI P)), some (.int (nI r))] [] (w_sh L ps rest) c = some (some (.int (s_bs (s_F g P) (nI r))), w_sh L ps rest, c) := by
  obtain ⟨-, h2, h3, -⟩ := s_S_pg hS hP hg
  rw [e12_0, e7_0, mj_then_i, e12_11, pk_mul, k_bestSlot (F := s_F g P) w_5 h1 (by omega) (by omega) (s_fo_F g P) (fun l hl => by rw [Nat.mul_comm P 8]; exact h3 l hl) hr, mj_then_i, e12_15]
theorem k_bestSizeOf {P r : Nat} (hS : s_S c 3 g) (h1 : c 1 = w_fs) (hP : P < 10) (hg : g (6 + 2 * P) = nI 1) (hr : r ≤ 8) : mj_EV 13 0 [some (.ref 2), some (.int (nI P)), some (.int (nI r)), none] [] (w_sh L ps rest) c = some (some (.int (s_pz (s_F g P) (s_bs (s_F g P) (nI r)))), w_sh L ps rest, c) := by
  obtain ⟨-, h2, h3, -⟩ := s_S_pg hS hP hg
  rw [e13_0, k_bestSlotOf hS h1 hP hg hr, mj_then_i, e13_6, e7_0, mj_then_i, e13_19, pk_mul, k_besideCount (F := s_F g P) w_5 h1 (by omega) (by omega) (s_fo_F g P) (fun l hl => by rw [Nat.mul_comm P 8]; exact h3 l hl), mj_then_i, e13_23, k_pageSize, mj_then_i, e13_26]
  rfl
theorem k_sizeOfPage {P : Nat} (hS : s_S c 3 g) (h1 : c 1 = w_fs) (hP : P < 10) (hg : g (6 + 2 * P) = nI 1) : mj_EV 14 0 [some (.ref 2), some (.int (nI P))] [] (w_sh L ps rest) c = some (some (.int (s_pz (s_F g P) (g (7 + 2 * P)))), w_sh L ps rest, c) := by
  obtain ⟨-, h2, h3, -⟩ := s_S_pg hS hP hg
  rw [e14_0, mj_in_nI (by omega), nI_clamp (by omega), if_pos (by simp; omega), k_besideCountOf hS h1 hP hg, mj_then_i, e14_14, k_pageSize, mj_then_i, e14_17, show c 6 P = g (7 + 2 * P) from h2]
  rfl
theorem k_sum (hS : s_S c 3 g) (h1 : c 1 = w_fs) : mj_EV 16 0 [some (.ref 2), none, none] [] (w_sh L ps rest) c = some (some (.int (s_sum g 10)), w_sh L ps rest, c) := by
  have key : ∀ n k : Nat, k + n = 10 → mj_EV 16 4 [some (.ref 2), some (.int (s_sum g k)), some (.int (nI k))] [] (w_sh L ps rest) c = some (some (.int (s_sum g 10)), w_sh L ps rest, c) := by
    intro n
    induction n with
    | zero =>
      intro k hk
      rw [e16_4]
      simp (disch := omega) only [nI_leI]
      rw [if_pos (by omega), show k = 10 by omega]
    | succ n ih =>
      intro k hk
      have h2 := ih (k + 1) (by omega)
      rw [show s_sum g (k + 1) = if g (6 + 2 * k) = nI 1 then s_sum g k + s_pz (s_F g k) (g (7 + 2 * k)) else s_sum g k from rfl] at h2
      rw [e16_4]
      simp (disch := omega) only [nI_leI]
      rw [if_neg (by omega), k_hasPage hS (by omega), mj_then_i, e16_18]
      by_cases q : g (6 + 2 * k) = nI 1
      · rw [if_pos q] at h2 ⊢
        rw [if_neg (by decide), k_sizeOfPage hS h1 (by omega) q, mj_then_i, e16_27, nI_add k 1]
        exact h2
      · rw [if_neg q] at h2 ⊢
        rw [if_pos rfl, nI_add k 1]
        exact h2
  rw [e16_0]
  exact key 10 0 (by omega)
theorem k_sumWithRoom {r : Nat} (hS : s_S c 3 g) (h1 : c 1 = w_fs) (hr : r ≤ 8) : mj_EV 15 0 [some (.ref 2), some (.int (nI r)), none, none] [] (w_sh L ps rest) c = some (some (.int (s_sw g (nI r) 10)), w_sh L ps rest, c) := by
  have key : ∀ n k : Nat, k + n = 10 → mj_EV 15 4 [some (.ref 2), some (.int (nI r)), some (.int (s_sw g (nI r) k)), some (.int (nI k))] [] (w_sh L ps rest) c = some (some (.int (s_sw g (nI r) 10)), w_sh L ps rest, c) := by
    intro n
    induction n with
    | zero =>
      intro k hk
      rw [e15_4]
      simp (disch := omega) only [nI_leI]
      rw [if_pos (by omega), show k = 10 by omega]
    | succ n ih =>
      intro k hk
      have h2 := ih (k + 1) (by omega)
      rw [show s_sw g (nI r) (k + 1) = if g (6 + 2 * k) = nI 1 then s_sw g (nI r) k + (if s_ct (s_F g k) (g (7 + 2 * k)) 8 ≤ nI r then s_pz (s_F g k) (g (7 + 2 * k)) else s_pz (s_F g k) (s_bs (s_F g k) (nI r))) else s_sw g (nI r) k from rfl] at h2
      rw [e15_4]
      simp (disch := omega) only [nI_leI]
      rw [if_neg (by omega), k_hasPage hS (by omega), mj_then_i, e15_18]
      by_cases q : g (6 + 2 * k) = nI 1
      · rw [if_pos q] at h2 ⊢
        rw [if_neg (by decide), k_besideCountOf hS h1 (by omega) q, mj_then_i, e15_27]
        by_cases q2 : s_ct (s_F g k) (g (7 + 2 * k)) 8 ≤ nI r
        · rw [if_pos q2] at h2 ⊢
          rw [k_sizeOfPage hS h1 (by omega) q, mj_then_i, e15_45, nI_add k 1]
          exact h2
        · rw [if_neg q2] at h2 ⊢
          rw [k_bestSizeOf hS h1 (by omega) q hr, mj_then_i, e15_37, e15_45, nI_add k 1]
          exact h2
      · rw [if_neg q] at h2 ⊢
        rw [if_pos rfl, nI_add k 1]
        exact h2
  rw [e15_0]
  exact key 10 0 (by omega)
theorem k_ifRoomLoop {r : Nat} (hS : s_S c 3 g) (h1 : c 1 = w_fs) (hr : r ≤ 8) : mj_EV 69 14 [some (.ref 2), some (.int (nI r)), some (.int (nI 0)), some (.int (nI 0))] [] (w_sh L ps rest) c = some (some (.int (s_sa g (nI r) 10)), w_sh L ps rest, c) := by
  have key : ∀ n k : Nat, k + n = 10 → mj_EV 69 14 [some (.ref 2), some (.int (nI r)), some (.int (s_sa g (nI r) k)), some (.int (nI k))] [] (w_sh L ps rest) c = some (some (.int (s_sa g (nI r) 10)), w_sh L ps rest, c) := by
    intro n
    induction n with
    | zero =>
      intro k hk
      rw [e69_14]
      simp (disch := omega) only [nI_leI]
      rw [if_pos (by omega), show k = 10 by omega]
    | succ n ih =>
      intro k hk
      have h2 := ih (k + 1) (by omega)
      rw [show s_sa g (nI r) (k + 1) = if g (6 + 2 * k) = nI 1 then s_sa g (nI r) k + s_pz (s_F g k) (s_bs (s_F g k) (nI r)) else s_sa g (nI r) k from rfl] at h2
      rw [e69_14]
      simp (disch := omega) only [nI_leI]
      rw [if_neg (by omega), k_hasPage hS (by omega), mj_then_i, e69_28]
      by_cases q : g (6 + 2 * k) = nI 1
      · rw [if_pos q] at h2 ⊢
        rw [if_neg (by decide), k_bestSizeOf hS h1 (by omega) q hr, mj_then_i, e69_38, nI_add k 1]
        exact h2
      · rw [if_neg q] at h2 ⊢
        rw [if_pos rfl, nI_add k 1]
        exact h2
  exact key 10 0 (by omega)
theorem k_exceeds {x : Int32} (hS : s_S c 3 g) (h1 : c 1 = w_fs) : mj_EV 17 0 [some (.ref 2), some (.int x)] [] (w_sh L ps rest) c = some (some (.int (if x ≤ g 1 then nI 0 else if x ≤ s_sum g 10 then nI 0 else nI 1)), w_sh L ps rest, c) := by
  rw [e17_0, hS.1.2.1]
  by_cases q : x ≤ g 1
  · rw [if_pos q, if_pos q]
  · rw [if_neg q, if_neg q, k_sum hS h1, mj_then_i, e17_16]
    split <;> rfl
theorem k_tooFull {P : Nat} (hS : s_S c 3 g) (h1 : c 1 = w_fs) (hP : P < 10) (hg : g (6 + 2 * P) = nI 1) : ∃ c', mj_EV 21 0 [some (.ref 2), some (.int (nI P))] [] (w_sh L ps rest) c = some (none, w_sh L ps rest, c') ∧ s_S c' 3 (s_keep g P) ∧ ∀ b, b ≠ 3 → b ≠ 6 → c' b = c b := by
  obtain ⟨r, hr, er⟩ := hS.2.1
  have e0 : c 3 0 = g 0 := hS.1.1
  by_cases q : s_ct (s_F g P) (g (7 + 2 * P)) 8 ≤ g 0
  · refine ⟨c, ?_, ?_, fun b _ _ => rfl⟩
    · rw [e21_0, k_besideCountOf hS h1 hP hg, mj_then_i, e21_5, e0, if_pos q]
    · unfold s_keep
      rw [if_pos q]
      exact hS
  · obtain ⟨s, hs, es⟩ := s_bs_le (s_fo_F g P) (r := r) (by omega)
    refine ⟨mj_u (mj_u c 6 P (nI s)) 3 4 (g 5 + nI 1), ?_, ?_, fun b h3 h6 => ?_⟩
    · rw [e21_0, k_besideCountOf hS h1 hP hg, mj_then_i, e21_5, e0, if_neg q, er, k_bestSlotOf hS h1 hP hg (by omega), mj_then_i, e21_35, mj_in_nI (by omega), nI_clamp (by omega), if_pos (by simp; omega), es, mj_u_ne c 6 _ _ (by decide : 3 ≠ 6), hS.1.2.2.2.2.2]
    · unfold s_keep
      rw [if_neg q]
      have hS1 := s_S_slot hS hP hg hs
      have el : s_lay g P = upd g (7 + 2 * P) (nI s) := by
        unfold s_lay
        rw [er, es]
      rw [el]
      have hS2 := hS1
      obtain ⟨⟨a0, a1, a2, a3, a4, a5⟩, ar, ab, -⟩ := hS2
      refine s_S_num hS1 (fun k hk => s_upd_ne (by omega)) (fun b h3 h4 => mj_u_ne _ _ _ _ (by omega)) ?_ ?_ ?_
      · rw [mj_u_self]
        refine ⟨?_, ?_, ?_, ?_, ?_, ?_⟩
        · rw [s_upd_ne (by omega : 0 ≠ 4), s_upd_ne (by omega : 0 ≠ 5)]; exact a0
        · rw [s_upd_ne (by omega : 1 ≠ 4), s_upd_ne (by omega : 1 ≠ 5)]; exact a1
        · rw [s_upd_ne (by omega : 2 ≠ 4), s_upd_ne (by omega : 2 ≠ 5)]; exact a2
        · rw [s_upd_ne (by omega : 3 ≠ 4), s_upd_ne (by omega : 3 ≠ 5)]; exact a3
        · rw [s_upd_ne (by omega : 4 ≠ 5), s_upd_ne (by omega : 2 ≠ 5), s_upd_ne (by omega : 3 ≠ 5)]; exact a4
        · rw [s_upd_eq, s_upd_eq]
      · rw [s_upd_ne (by omega)]; exact ar
      · rw [s_upd_ne (by omega)]; exact ab
    · rw [mj_u_ne _ _ _ _ h3, mj_u_ne _ _ _ _ h6]
end KL2
