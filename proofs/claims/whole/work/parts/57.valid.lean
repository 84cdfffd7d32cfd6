/-! A TEXT WITHOUT ERROR is a row of entries -/
def a_V (f : Nat → Nat) (T i : Nat) (s : Nat × Nat × Nat × Nat × (Nat → Nat)) : Prop := ∃ m s', i + m = T ∧ a_run f s i m = some s' ∧ a_end s'
theorem a_split {f : Nat → Nat} {s s' : Nat × Nat × Nat × Nat × (Nat → Nat)} {i n : Nat} : ∀ m, ∀ s', a_run f s i (n + m) = some s' → ∃ s1, a_run f s i n = some s1 ∧ a_run f s1 (i + n) m = some s' := by
  intro m
  induction m with
  | zero => intro s' h; exact ⟨s', h, rfl⟩
  | succ m ih =>
    intro s' h
    have h : (a_run f s i (n + m)).bind (fun s' => a_step s' (f (i + (n + m)))) = some s' := h
    cases e : a_run f s i (n + m) with
    | none =>
      rw [e] at h
      cases h
    | some s2 =>
      rw [e] at h
      have h : a_step s2 (f (i + (n + m))) = some s' := h
      obtain ⟨s1, h1, h2⟩ := ih s2 e
      refine ⟨s1, h1, ?_⟩
      show (a_run f s1 (i + n) m).bind (fun s' => a_step s' (f (i + n + m))) = some s'
      rw [h2]
      show a_step s2 (f (i + n + m)) = some s'
      rw [Nat.add_assoc]
      exact h
theorem a_first {f : Nat → Nat} {s s' : Nat × Nat × Nat × Nat × (Nat → Nat)} {i m : Nat} (hm : 0 < m) (h : a_run f s i m = some s') : ∃ s1, a_step s (f i) = some s1 ∧ a_run f s1 (i + 1) (m - 1) = some s' := by
  rw [show m = 1 + (m - 1) by omega] at h
  obtain ⟨s1, h1, h2⟩ := a_split (s' := s) (m - 1) s' h
  exact ⟨s1, h1, h2⟩
theorem a_end_semi {s' : Nat × Nat × Nat × Nat × (Nat → Nat)} (e6 : a_end s') : a_step s' 59 = some (0, s'.2.1, s'.2.2.1, s'.2.2.2.1, s'.2.2.2.2) := by
  obtain ⟨st, pg', ln', pl', wf'⟩ := s'
  rcases e6 with h | ⟨h, h2⟩
  · have h : st = 6 := h
    subst h
    rw [a_s6, if_pos rfl]
  · have h : st = 5 := h
    have h2 : pl' = 7 := h2
    subst h
    subst h2
    rw [a_s5, if_neg (by decide), if_neg (by decide), if_neg (by decide), if_pos (by decide)]
theorem a_end_0 {pg ln pl : Nat} {wf : Nat → Nat} : ¬ a_end (0, pg, ln, pl, wf) := by
  intro h
  rcases h with h | ⟨h, -⟩
  · have h : 0 = 6 := h
    omega
  · have h : 0 = 5 := h
    omega
/-- an entry of length m at i -/
def a_E (f : Nat → Nat) (T i m : Nat) (s s' : Nat × Nat × Nat × Nat × (Nat → Nat)) : Prop := i + m ≤ T ∧ 0 < m ∧ a_run f s i m = some s' ∧ a_end s' ∧ (∀ k, k < m → f (i + k) ≠ 59) ∧ (i + m < T → f (i + m) = 59 ∧ a_V f T (i + m + 1) (0, s'.2.1, s'.2.2.1, s'.2.2.2.1, s'.2.2.2.2))
theorem a_E_u {f : Nat → Nat} {T i m m' : Nat} {s s' s'' : Nat × Nat × Nat × Nat × (Nat → Nat)} (h : a_E f T i m s s') (h' : a_E f T i m' s s'') : m = m' ∧ s' = s'' := by
  obtain ⟨h1, h2, h3, h4, h5, h6⟩ := h
  obtain ⟨g1, g2, g3, g4, g5, g6⟩ := h'
  have hm : m = m' := by
    rcases Nat.lt_trichotomy m m' with q | q | q
    · exact absurd (h6 (by omega)).1 (g5 m q)
    · exact q
    · exact absurd (g6 (by omega)).1 (h5 m' q)
  subst hm
  rw [h3] at g3
  cases g3
  exact ⟨rfl, rfl⟩
section VA
variable {L : Nat} {ps : List (Option (Option Nat))} {c : mj_C} {f : Nat → Nat} {T : Nat}
theorem m_readE {i pg ln pl : Nat} {wf : Nat → Nat} (hX : a_X c f T) (hi : i ≤ T) (h7 : c 52 7 = nI i) (hV : a_V f T i (0, pg, ln, pl, wf)) : ∃ c' m s', mj_EV 161 0 [some (.ref 52), none, none] [] (w_al L ps) c = some (some (.int (nI 1)), w_al L ps, c') ∧ a_E f T i m (0, pg, ln, pl, wf) s' ∧ c' 52 7 = nI (i + m) ∧ a_F c c' ∧ (c' 52 8 = nI s'.2.1 ∧ s'.2.1 < 10) ∧ (c' 52 9 = nI s'.2.2.1 ∧ s'.2.2.1 < 8) ∧ (∀ w, w < 8 → c' 57 w = nI (s'.2.2.2.2 w) ∧ s'.2.2.2.2 w < 65536) := by
  obtain ⟨n, sE, hn, hrun, hE⟩ := hV
  have cont : ∀ m s', i + m < T → a_run f (0, pg, ln, pl, wf) i m = some s' → ∃ s1, a_step s' (f (i + m)) = some s1 ∧ a_run f s1 (i + m + 1) (n - m - 1) = some sE := by
    intro m s' hm hr
    have h := hrun
    rw [show n = m + (n - m) by omega] at h
    obtain ⟨s1, h1, h2⟩ := a_split (s' := sE) (n - m) sE h
    rw [hr] at h1
    cases h1
    exact a_first (by omega) h2
  rcases m_entry (L := L) (ps := ps) (pg0 := pg) (ln0 := ln) (pl0 := pl) (wf0 := wf) hX hi h7 with ⟨c1, m, s', e1, e2, e3, e4, e5, e6, e7, e8, e9, e10, e11⟩ | ⟨c1, m, s', e1, e2, e3, e4, e5, e6, e7, e8⟩
  · refine ⟨c1, m, s', e1, ⟨e2, ?_, e5, e6, e10, fun hm => ?_⟩, e3, e4, e7, e8, e9⟩
    · rcases Nat.eq_zero_or_pos m with q | q
      · subst q
        have e5 : some (0, pg, ln, pl, wf) = some s' := e5
        cases e5
        exact absurd e6 a_end_0
      · exact q
    · obtain ⟨s1, h1, h2⟩ := cont m s' hm e5
      have q : f (i + m) = 59 := by
        by_cases q : f (i + m) = 59
        · exact q
        · rw [e11 hm q] at h1
          cases h1
      rw [q, a_end_semi e6] at h1
      cases h1
      exact ⟨q, n - m - 1, sE, by omega, h2, hE⟩
  · exfalso
    by_cases q : i + m = T
    · rw [show n = m by omega, e5] at hrun
      cases hrun
      exact e6 hE
    · obtain ⟨s1, h1, h2⟩ := cont m s' (by omega) e5
      rw [e8 (by omega)] at h1
      cases h1
end VA
/-! the digests, paired -/
section PR4
variable {L : Nat} {ps : List (Option (Option Nat))} {c : mj_C} {g : Nat → Int32} {R : Nat} {h : Nat → Nat → Int32}
theorem p_digest (hI : s_I ps c g R h) (hM : s_M c g R h) : mj_EV 91 0 [some (.ref 2), none, none, none] [] (w_sh L ps w_mo) c = some (some (.long (s_dg g)), w_sh L ps w_mo, c) ∧ mj_EV 166 0 [some (.ref 52), none, none, none, none, none] [] (w_al L ps) c = some (some (.long (s_dg g)), w_al L ps, c) := by
  have e := hM.1
  subst e
  exact ⟨k_digest hI.2.1 hI.1, m_digest (s_S_ok hI.2.1)⟩
end PR4
