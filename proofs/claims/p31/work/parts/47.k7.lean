/-! THE CLASS's readers, and two sums -/
theorem s_keep_slot {g : Nat → Int32} {p : Nat} : s_keep g p (7 + 2 * p) = if s_ct (s_F g p) (g (7 + 2 * p)) 8 ≤ g 0 then g (7 + 2 * p) else s_bs (s_F g p) (g 0) := by
  unfold s_keep s_lay
  split
  · rfl
  · rw [s_upd_ne (by omega), s_upd_eq]
theorem s_sr_at {g : Nat → Int32} : ∀ k, k ≤ 10 → s_sr g k 0 = g 0 ∧ (∀ p, s_sr g k (6 + 2 * p) = g (6 + 2 * p)) ∧ ∀ p, s_sr g k (7 + 2 * p) = if p < k ∧ g (6 + 2 * p) = nI 1 then (if s_ct (s_F g p) (g (7 + 2 * p)) 8 ≤ g 0 then g (7 + 2 * p) else s_bs (s_F g p) (g 0)) else g (7 + 2 * p) := by
  intro k
  induction k with
  | zero =>
    intro _
    exact ⟨rfl, fun _ => rfl, fun p => by rw [if_neg (by omega)]; rfl⟩
  | succ k ih =>
    intro hk
    obtain ⟨h0, h6, h7⟩ := ih (by omega)
    have hF : s_F (s_sr g k) k = s_F g k := s_F_congrF (s_sr_hi k (by omega))
    rw [show s_sr g (k + 1) = if s_sr g k (6 + 2 * k) = nI 1 then s_keep (s_sr g k) k else s_sr g k from rfl]
    by_cases q : s_sr g k (6 + 2 * k) = nI 1
    · rw [if_pos q]
      refine ⟨?_, fun p => ?_, fun p => ?_⟩
      · rw [s_keep_ne (by omega) (by omega)]; exact h0
      · rw [s_keep_ne (by omega) (by omega)]; exact h6 p
      · by_cases hp : p = k
        · subst hp
          have e7 := h7 p
          rw [if_neg (by omega)] at e7
          rw [s_keep_slot, hF, e7, h0]
          rw [h6] at q
          rw [if_pos (show p < p + 1 ∧ g (6 + 2 * p) = nI 1 from ⟨by omega, q⟩)]
        · rw [s_keep_ne (by omega) (by omega), h7]
          by_cases q2 : p < k ∧ g (6 + 2 * p) = nI 1
          · rw [if_pos q2, if_pos (show p < k + 1 ∧ g (6 + 2 * p) = nI 1 from ⟨by omega, q2.2⟩)]
          · rw [if_neg q2, if_neg (fun z => q2 ⟨by omega, z.2⟩)]
    · rw [if_neg q]
      refine ⟨h0, h6, fun p => ?_⟩
      rw [h7]
      by_cases q2 : p < k ∧ g (6 + 2 * p) = nI 1
      · rw [if_pos q2, if_pos (show p < k + 1 ∧ g (6 + 2 * p) = nI 1 from ⟨by omega, q2.2⟩)]
      · rw [if_neg q2]
        by_cases hp : p = k
        · subst hp
          rw [h6] at q
          rw [if_neg (fun z => q z.2)]
        · rw [if_neg (fun z => q2 ⟨by omega, z.2⟩)]
theorem s_la_at {g : Nat → Int32} : ∀ k, k ≤ 10 → s_la g k 0 = g 0 ∧ (∀ p, s_la g k (6 + 2 * p) = g (6 + 2 * p)) ∧ ∀ p, s_la g k (7 + 2 * p) = if p < k ∧ g (6 + 2 * p) = nI 1 then s_bs (s_F g p) (g 0) else g (7 + 2 * p) := by
  intro k
  induction k with
  | zero =>
    intro _
    exact ⟨rfl, fun _ => rfl, fun p => by rw [if_neg (by omega)]; rfl⟩
  | succ k ih =>
    intro hk
    obtain ⟨h0, h6, h7⟩ := ih (by omega)
    have hF : s_F (s_la g k) k = s_F g k := s_F_congrF (s_la_hi k (by omega))
    rw [show s_la g (k + 1) = if s_la g k (6 + 2 * k) = nI 1 then s_lay (s_la g k) k else s_la g k from rfl]
    by_cases q : s_la g k (6 + 2 * k) = nI 1
    · rw [if_pos q]
      unfold s_lay
      refine ⟨?_, fun p => ?_, fun p => ?_⟩
      · rw [s_upd_ne (by omega)]; exact h0
      · rw [s_upd_ne (by omega)]; exact h6 p
      · by_cases hp : p = k
        · subst hp
          rw [h6] at q
          rw [s_upd_eq, hF, h0, if_pos (show p < p + 1 ∧ g (6 + 2 * p) = nI 1 from ⟨by omega, q⟩)]
        · rw [s_upd_ne (by omega), h7]
          by_cases q2 : p < k ∧ g (6 + 2 * p) = nI 1
          · rw [if_pos q2, if_pos (show p < k + 1 ∧ g (6 + 2 * p) = nI 1 from ⟨by omega, q2.2⟩)]
          · rw [if_neg q2, if_neg (fun z => q2 ⟨by omega, z.2⟩)]
    · rw [if_neg q]
      refine ⟨h0, h6, fun p => ?_⟩
      rw [h7]
      by_cases q2 : p < k ∧ g (6 + 2 * p) = nI 1
      · rw [if_pos q2, if_pos (show p < k + 1 ∧ g (6 + 2 * p) = nI 1 from ⟨by omega, q2.2⟩)]
      · rw [if_neg q2]
        by_cases hp : p = k
        · subst hp
          rw [h6] at q
          rw [if_neg (fun z => q z.2)]
        · rw [if_neg (fun z => q2 ⟨by omega, z.2⟩)]
theorem s_sw_sum {g : Nat → Int32} {r : Int32} : ∀ n, n ≤ 10 → s_sum (s_sr (upd g 0 r) 10) n = s_sw g r n := by
  intro n
  induction n with
  | zero => intro _; rfl
  | succ n ih =>
    intro hn
    obtain ⟨h0, h6, h7⟩ := s_sr_at (g := upd g 0 r) 10 (by omega)
    have hF : s_F (s_sr (upd g 0 r) 10) n = s_F g n := (s_F_congrF (s_sr_hi 10 (by omega))).trans (s_F_congrF fun j hj => s_upd_ne (by omega))
    have hF0 : s_F (upd g 0 r) n = s_F g n := s_F_congrF fun j hj => s_upd_ne (by omega)
    rw [show s_sum (s_sr (upd g 0 r) 10) (n + 1) = if s_sr (upd g 0 r) 10 (6 + 2 * n) = nI 1 then s_sum (s_sr (upd g 0 r) 10) n + s_pz (s_F (s_sr (upd g 0 r) 10) n) (s_sr (upd g 0 r) 10 (7 + 2 * n)) else s_sum (s_sr (upd g 0 r) 10) n from rfl, show s_sw g r (n + 1) = if g (6 + 2 * n) = nI 1 then s_sw g r n + (if s_ct (s_F g n) (g (7 + 2 * n)) 8 ≤ r then s_pz (s_F g n) (g (7 + 2 * n)) else s_pz (s_F g n) (s_bs (s_F g n) r)) else s_sw g r n from rfl, ih (by omega), h6, h7, hF, hF0, s_upd_eq, s_upd_ne (by omega : 6 + 2 * n ≠ 0), s_upd_ne (by omega : 7 + 2 * n ≠ 0)]
    by_cases q : g (6 + 2 * n) = nI 1
    · rw [if_pos q, if_pos q, if_pos (show n < 10 ∧ g (6 + 2 * n) = nI 1 from ⟨by omega, q⟩)]
      split <;> rfl
    · rw [if_neg q, if_neg q]
theorem s_sa_sum {g : Nat → Int32} {r : Int32} : ∀ n, n ≤ 10 → s_sum (s_la (upd g 0 r) 10) n = s_sa g r n := by
  intro n
  induction n with
  | zero => intro _; rfl
  | succ n ih =>
    intro hn
    obtain ⟨h0, h6, h7⟩ := s_la_at (g := upd g 0 r) 10 (by omega)
    have hF : s_F (s_la (upd g 0 r) 10) n = s_F g n := (s_F_congrF (s_la_hi 10 (by omega))).trans (s_F_congrF fun j hj => s_upd_ne (by omega))
    have hF0 : s_F (upd g 0 r) n = s_F g n := s_F_congrF fun j hj => s_upd_ne (by omega)
    rw [show s_sum (s_la (upd g 0 r) 10) (n + 1) = if s_la (upd g 0 r) 10 (6 + 2 * n) = nI 1 then s_sum (s_la (upd g 0 r) 10) n + s_pz (s_F (s_la (upd g 0 r) 10) n) (s_la (upd g 0 r) 10 (7 + 2 * n)) else s_sum (s_la (upd g 0 r) 10) n from rfl, show s_sa g r (n + 1) = if g (6 + 2 * n) = nI 1 then s_sa g r n + s_pz (s_F g n) (s_bs (s_F g n) r) else s_sa g r n from rfl, ih (by omega), h6, h7, hF, hF0, s_upd_eq, s_upd_ne (by omega : 6 + 2 * n ≠ 0), s_upd_ne (by omega : 7 + 2 * n ≠ 0)]
    by_cases q : g (6 + 2 * n) = nI 1
    · rw [if_pos q, if_pos q, if_pos (show n < 10 ∧ g (6 + 2 * n) = nI 1 from ⟨by omega, q⟩)]
    · rw [if_neg q, if_neg q]
section KL7
variable {L : Nat} {ps : List (Option (Option Nat))} {rest : List mj_K} {c : mj_C} {g : Nat → Int32} {R : Nat} {h : Nat → Nat → Int32}
theorem k_numberOfPages (hS : s_S c 3 g) : mj_EV 58 0 [some (.ref 3), none, none] [] (w_sh L ps rest) c = some (some (.int (s_pm g 10)), w_sh L ps rest, c) := by
  have key : ∀ n k : Nat, k + n = 10 → mj_EV 58 4 [some (.ref 3), some (.int (s_pm g k)), some (.int (nI k))] [] (w_sh L ps rest) c = some (some (.int (s_pm g 10)), w_sh L ps rest, c) := by
    intro n
    induction n with
    | zero =>
      intro k hk
      rw [e58_4]
      simp (disch := omega) only [nI_leI]
      rw [if_pos (by omega), show k = 10 by omega]
    | succ n ih =>
      intro k hk
      have h2 := ih (k + 1) (by omega)
      rw [show s_pm g (k + 1) = if g (6 + 2 * k) = nI 1 then s_pm g k + nI 1 else s_pm g k from rfl] at h2
      rw [e58_4]
      simp (disch := omega) only [nI_leI, mj_in_nI, nI_clamp]
      rw [if_neg (by omega), if_pos (by simp; omega), nI_add k 1]
      by_cases q : g (6 + 2 * k) = nI 1
      · obtain ⟨⟨s, hs, es⟩, e6, -⟩ := s_S_pg hS (P := k) (by omega) q
        rw [if_pos q] at h2
        rw [show c 6 k = g (7 + 2 * k) from e6, es, if_neg (s_nm1 (by omega))]
        exact h2
      · rw [if_neg q] at h2
        rw [if_pos (show c 6 k = (-1) from (s_S_no hS (by omega) q).2.1)]
        exact h2
  rw [e58_0]
  exact key 10 0 (by omega)
theorem k_linesBeside (hS : s_S c 3 g) (h1 : c 1 = w_fs) : mj_EV 59 0 [some (.ref 2), none, none] [] (w_sh L ps rest) c = some (some (.int (s_bx g 10)), w_sh L ps rest, c) := by
  have key : ∀ n k : Nat, k + n = 10 → mj_EV 59 4 [some (.ref 2), some (.int (s_bx g k)), some (.int (nI k))] [] (w_sh L ps rest) c = some (some (.int (s_bx g 10)), w_sh L ps rest, c) := by
    intro n
    induction n with
    | zero =>
      intro k hk
      rw [e59_4]
      simp (disch := omega) only [nI_leI]
      rw [if_pos (by omega), show k = 10 by omega]
    | succ n ih =>
      intro k hk
      have h2 := ih (k + 1) (by omega)
      rw [show s_bx g (k + 1) = if g (6 + 2 * k) = nI 1 then s_bx g k + s_ct (s_F g k) (g (7 + 2 * k)) 8 else s_bx g k from rfl] at h2
      rw [e59_4]
      simp (disch := omega) only [nI_leI]
      rw [if_neg (by omega), k_hasPage hS (by omega), mj_then_i, e59_18]
      by_cases q : g (6 + 2 * k) = nI 1
      · rw [if_pos q] at h2 ⊢
        rw [if_neg (by decide), k_besideCountOf hS h1 (by omega) q, mj_then_i, e59_27, nI_add k 1]
        exact h2
      · rw [if_neg q] at h2 ⊢
        rw [if_pos rfl, nI_add k 1]
        exact h2
  rw [e59_0]
  exact key 10 0 (by omega)
theorem k_lines {x : Nat} (hx : x < 5) (hS : s_S c 3 g) : mj_EV 64 0 [some (.ref 2), some (.int (nI x)), none, none, none] [] (w_sh L ps rest) c = some (some (.int (s_ln g (nI x) 10)), w_sh L ps rest, c) := by
  have skip : ∀ p, p < 10 → ¬ g (6 + 2 * p) = nI 1 → ∀ a, ∀ n k : Nat, k + n = 8 → ∃ k4, mj_EV 64 25 [some (.ref 2), some (.int (nI x)), some (.int a), some (.int (nI p)), some (.int (nI k))] [] (w_sh L ps rest) c = mj_EV 64 16 [some (.ref 2), some (.int (nI x)), some (.int a), some (.int (nI (p + 1))), k4] [] (w_sh L ps rest) c := by
    intro p hp hg a n
    induction n with
    | zero =>
      intro k hk
      refine ⟨some (.int (nI k)), ?_⟩
      rw [e64_25]
      simp (disch := omega) only [nI_leI]
      rw [if_pos (by omega), nI_add p 1]
    | succ n ih =>
      intro k hk
      obtain ⟨k4, h1⟩ := ih (k + 1) (by omega)
      refine ⟨k4, ?_⟩
      rw [e64_25]
      simp (disch := omega) only [nI_leI]
      rw [if_neg (by omega), k_hasLine hS hp (by omega), if_neg hg, mj_then_i, e64_42, if_pos rfl, nI_add k 1]
      exact h1
  have inner : ∀ p, p < 10 → g (6 + 2 * p) = nI 1 → ∀ a, ∀ n k : Nat, k + n = 8 → ∃ k4, mj_EV 64 25 [some (.ref 2), some (.int (nI x)), some (.int (s_l1 (s_F g p) (nI x) a k)), some (.int (nI p)), some (.int (nI k))] [] (w_sh L ps rest) c = mj_EV 64 16 [some (.ref 2), some (.int (nI x)), some (.int (s_l1 (s_F g p) (nI x) a 8)), some (.int (nI (p + 1))), k4] [] (w_sh L ps rest) c := by
    intro p hp hg a n
    induction n with
    | zero =>
      intro k hk
      refine ⟨some (.int (nI k)), ?_⟩
      rw [e64_25]
      simp (disch := omega) only [nI_leI]
      rw [if_pos (by omega), show k = 8 by omega, nI_add p 1]
    | succ n ih =>
      intro k hk
      obtain ⟨k4, h1⟩ := ih (k + 1) (by omega)
      refine ⟨k4, ?_⟩
      rw [e64_25]
      simp (disch := omega) only [nI_leI]
      rw [if_neg (by omega), k_hasLine hS hp (by omega), if_pos hg, mj_then_i, e64_42, if_neg (by decide), k_formOf hS hp (by omega) hg, mj_then_i, e64_55, nI_add k 1, ← h1]
      rw [show s_l1 (s_F g p) (nI x) a (k + 1) = if s_F g p k = nI x then s_l1 (s_F g p) (nI x) a k + nI 1 else s_l1 (s_F g p) (nI x) a k from rfl]
      split <;> rfl
  have key : ∀ n k : Nat, k + n = 10 → ∀ o4, mj_EV 64 16 [some (.ref 2), some (.int (nI x)), some (.int (s_ln g (nI x) k)), some (.int (nI k)), o4] [] (w_sh L ps rest) c = some (some (.int (s_ln g (nI x) 10)), w_sh L ps rest, c) := by
    intro n
    induction n with
    | zero =>
      intro k hk o4
      rw [e64_16]
      simp (disch := omega) only [nI_leI]
      rw [if_pos (by omega), show k = 10 by omega]
    | succ n ih =>
      intro k hk o4
      rw [e64_16]
      simp (disch := omega) only [nI_leI]
      rw [if_neg (by omega)]
      have h1 := ih (k + 1) (by omega)
      rw [show s_ln g (nI x) (k + 1) = if g (6 + 2 * k) = nI 1 then s_l1 (s_F g k) (nI x) (s_ln g (nI x) k) 8 else s_ln g (nI x) k from rfl] at h1
      by_cases q : g (6 + 2 * k) = nI 1
      · rw [if_pos q] at h1
        obtain ⟨k4, h2⟩ := inner k (by omega) q (s_ln g (nI x) k) 8 0 (by omega)
        rw [show s_l1 (s_F g k) (nI x) (s_ln g (nI x) k) 0 = s_ln g (nI x) k from rfl] at h2
        rw [h2]
        exact h1 _
      · rw [if_neg q] at h1
        obtain ⟨k4, h2⟩ := skip k (by omega) q (s_ln g (nI x) k) 8 0 (by omega)
        rw [h2]
        exact h1 _
  rw [e64_0]
  simp (disch := omega) only [nI_ltI]
  rw [if_neg (by omega), if_pos (by omega)]
  exact key 10 0 (by omega) _
theorem k_loosest (hS : s_S c 3 g) (h1 : c 1 = w_fs) : mj_EV 70 0 [some (.ref 2), none, none, none, none] [] (w_sh L ps rest) c = some (some (.int (s_lo g 10)), w_sh L ps rest, c) := by
  obtain ⟨r, hr, er⟩ := hS.2.1
  have key : ∀ n k : Nat, k + n = 10 → ∀ o4, mj_EV 70 7 [some (.ref 2), some (.int (s_lo g k)), some (.int (s_lg g k)), some (.int (nI k)), o4] [] (w_sh L ps rest) c = some (some (.int (s_lo g 10)), w_sh L ps rest, c) := by
    intro n
    induction n with
    | zero =>
      intro k hk o4
      rw [e70_7]
      simp (disch := omega) only [nI_leI]
      rw [if_pos (by omega), show k = 10 by omega]
    | succ n ih =>
      intro k hk o4
      have h2 := ih (k + 1) (by omega)
      rw [show s_lo g (k + 1) = if g (6 + 2 * k) = nI 1 then (if s_gp g k ≤ s_lg g k then s_lo g k else nI k) else s_lo g k from rfl, show s_lg g (k + 1) = if g (6 + 2 * k) = nI 1 then (if s_gp g k ≤ s_lg g k then s_lg g k else s_gp g k) else s_lg g k from rfl] at h2
      rw [e70_7]
      simp (disch := omega) only [nI_leI]
      rw [if_neg (by omega), k_hasPage hS (by omega), mj_then_i, e70_21]
      by_cases q : g (6 + 2 * k) = nI 1
      · rw [if_pos q, if_pos q] at h2
        rw [if_pos q, if_neg (by decide), k_sizeOfPage hS h1 (by omega) q, mj_then_i, e70_29, show c 3 0 = g 0 from hS.1.1, er, k_bestSizeOf hS h1 (by omega) q (by omega), mj_then_i, e70_41, nI_add k 1, ← er]
        rw [show s_pz (s_F g k) (g (7 + 2 * k)) - s_pz (s_F g k) (s_bs (s_F g k) (g 0)) = s_gp g k from rfl]
        by_cases q1 : s_gp g k ≤ s_lg g k
        · rw [if_pos q1, if_pos q1] at h2
          rw [if_pos q1]
          exact h2 _
        · rw [if_neg q1, if_neg q1] at h2
          rw [if_neg q1]
          exact h2 _
      · rw [if_neg q, if_neg q] at h2
        rw [if_neg q, if_pos rfl, nI_add k 1]
        exact h2 _
  rw [e70_0]
  exact key 10 0 (by omega) _
theorem k_rawLeft (hS : s_S c 3 g) (h1 : c 1 = w_fs) : mj_EV 71 0 [some (.ref 2)] [] (w_sh L ps rest) c = some (some (.int (s_rw g)), w_sh L ps rest, c) := by
  rw [e71_0, k_sum hS h1, mj_then_i, e71_12, e40_0, show c 3 1 = g 1 from hS.1.2.1]
  unfold s_rw
  by_cases q : g 1 - s_sum g 10 ≤ nI 0
  · rw [if_pos q, if_neg (Int32.not_lt.mpr q), mj_then_i, e71_16, if_pos (by decide)]
    rfl
  · rw [if_neg q, if_pos (Int32.not_le.mp q), mj_then_i, e71_16, if_pos (by decide)]
end KL7
