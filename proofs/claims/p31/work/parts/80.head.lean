/-! THE HEAD OF THE LAW, whole -/
def w_ps0 : List (Option (Option Nat)) := [some (some 11), some (some 17), some (some 23), some (some 29), some (some 35), some (some 41)]
theorem t_pr : s_pr w_ps0 (fun i => i) := by
  refine ⟨rfl, fun i hi => ⟨?_, hi⟩, fun i j _ _ h => h⟩
  match i, hi with
  | 0, _ => rfl
  | 1, _ => rfl
  | 2, _ => rfl
  | 3, _ => rfl
  | 4, _ => rfl
  | 5, _ => rfl
  | i + 6, hi => exact absurd hi (by omega)
theorem t_mod {c : mj_C} : ∃ c' B, (mj_u (mj_u (mj_u (mj_u (mj_u (mj_u (mj_u (mj_u (mj_u (mj_z (mj_z (mj_z (mj_z (mj_z c 52) 53) 54) 55) 56) 52 (nI 0).toNatClampNeg (nI 3)) 52 (nI 1).toNatClampNeg (nI 300)) 52 ((nI 6) + (nI 0)).toNatClampNeg (-1)) 52 ((nI 6) + ((nI 0) + (nI 1))).toNatClampNeg (-1)) 52 ((nI 6) + (((nI 0) + (nI 1)) + (nI 1))).toNatClampNeg (-1)) 52 ((nI 9) + (nI 0)).toNatClampNeg (-6)) 52 ((nI 9) + ((nI 0) + (nI 1))).toNatClampNeg (-6)) 52 ((nI 9) + (((nI 0) + (nI 1)) + (nI 1))).toNatClampNeg (-6)) 52 ((nI 9) + ((((nI 0) + (nI 1)) + (nI 1)) + (nI 1))).toNatClampNeg (-6)) = c' ∧ (∀ b, b < 52 → c' b = c b) ∧ (∀ b, 53 ≤ b → b < 56 → ∀ j, c' b j = nI 0) ∧ (∀ j, B j = nI 0) ∧ c' 52 = upd (upd (upd (upd (upd (upd (upd (upd (upd B 0 (nI 3)) 1 (nI 300)) 6 (-1)) 7 (-1)) 8 (-1)) 9 (-6)) 10 (-6)) 11 (-6)) 12 (-6) := by
  refine ⟨_, fun j => mj_z (mj_z (mj_z (mj_z (mj_z c 52) 53) 54) 55) 56 52 j, rfl, fun b hb => ?_, fun b h1 h2 j => ?_, fun j => ?_, ?_⟩
  · rw [mj_u_ne _ _ _ _ (by omega), mj_u_ne _ _ _ _ (by omega), mj_u_ne _ _ _ _ (by omega), mj_u_ne _ _ _ _ (by omega), mj_u_ne _ _ _ _ (by omega), mj_u_ne _ _ _ _ (by omega), mj_u_ne _ _ _ _ (by omega), mj_u_ne _ _ _ _ (by omega), mj_u_ne _ _ _ _ (by omega), c_z (by omega), c_z (by omega), c_z (by omega), c_z (by omega), c_z (by omega)]
  · rw [mj_u_ne _ _ _ _ (by omega), mj_u_ne _ _ _ _ (by omega), mj_u_ne _ _ _ _ (by omega), mj_u_ne _ _ _ _ (by omega), mj_u_ne _ _ _ _ (by omega), mj_u_ne _ _ _ _ (by omega), mj_u_ne _ _ _ _ (by omega), mj_u_ne _ _ _ _ (by omega), mj_u_ne _ _ _ _ (by omega), c_z (by omega)]
    have hb : b = 53 ∨ b = 54 ∨ b = 55 := by omega
    rcases hb with rfl | rfl | rfl
    · rw [c_z (by omega), c_z (by omega), c_z0]
    · rw [c_z (by omega), c_z0]
    · rw [c_z0]
  · show mj_z (mj_z (mj_z (mj_z (mj_z c 52) 53) 54) 55) 56 52 j = nI 0
    rw [c_z (by omega), c_z (by omega), c_z (by omega), c_z (by omega), c_z0]
  · rw [mj_u_self, mj_u_self, mj_u_self, mj_u_self, mj_u_self, mj_u_self, mj_u_self, mj_u_self, mj_u_self]
    rfl
theorem t_lawhead {L : Nat} {xs : Nat → Int32} : ∃ c', mj_EV 103 0 [some (.ref 0), none, none, none, none, none, none, none, none, none, none, none, none, none, none, none, none, none, none, none, none, none, none, none, none, none, none, none] [] (w_s0 L) (w_c0 xs) = mj_EV 103 96 [some (.ref 0), some (.ref 2), some (.ref 52), some (.ref 53), some (.ref 54), some (.ref 55), some (.ref 56), some (.int (nI 0)), none, none, none, none, none, none, none, none, none, none, none, none, none, none, none, none, none, none, none, none] [] (w_sh L w_ps0 (w_lo 0)) c' ∧ s_J w_ps0 c' := by
  obtain ⟨c1, e1, hS, k9, k2, kb⟩ := t_sq (L := L) (c := mj_z (w_c0 xs) 2)
  obtain ⟨c2, B, e2, hb, hw, hB, h52⟩ := t_mod (c := c1)
  have t0 := Eq.trans (v103_0 (L := L) (c := w_c0 xs)) (Eq.trans (congrArg (mj_then 103 7 [some (.ref 0), none, none, none, none, none, none, none, none, none, none, none, none, none, none, none, none, none, none, none, none, none, none, none, none, none, none, none] [.ref 2]) e1) (v103_7 (L := L) (c := c1)))
  rw [e2] at t0
  have hS2 : s_S c2 3 s_g0 := s_S_congr hS (fun _ _ => rfl) (fun b h1 h2 => hb b (by omega))
  have h1 : c2 1 = w_fs := by rw [hb 1 (by omega), kb 1 (by omega), c_z (by omega)]; rfl
  refine ⟨c2, t0, s_g0, 0, fun _ _ => nI 0, ⟨h1, hS2, ?_, by omega, fun i => i, t_pr, fun i hi => absurd hi (by omega)⟩, hS2, h1, ?_, ?_, ?_⟩
  · rw [hb 9 (by omega)]; exact k9
  · rw [h52]
    refine ⟨?_, ?_, ?_, ?_, ?_, ?_⟩
    · simp (disch := omega) only [s_upd_ne, s_upd_eq]; rfl
    · simp (disch := omega) only [s_upd_ne, s_upd_eq]; rfl
    · simp (disch := omega) only [s_upd_ne]; exact (hB 2).trans (s_g0_0 (by omega) (by omega)).symm
    · simp (disch := omega) only [s_upd_ne]; exact (hB 3).trans (s_g0_0 (by omega) (by omega)).symm
    · simp (disch := omega) only [s_upd_ne]; exact (hB 4).trans (s_g0_0 (by omega) (by omega)).symm
    · simp (disch := omega) only [s_upd_ne]; exact (hB 5).trans (s_g0_0 (by omega) (by omega)).symm
  · rw [h52]
    refine ⟨fun p hp => Or.inr ⟨s_g0_0 (by omega) (by omega), ?_⟩, fun p h3 hp => s_g0_0 (by omega) (by omega), fun p hp j hj => (hw (53 + p) (by omega) (by omega) j).trans (s_g0_0 (by omega) (by omega)).symm⟩
    match p, hp with
    | 0, _ => simp (disch := omega) only [s_upd_ne, s_upd_eq]
    | 1, _ => simp (disch := omega) only [s_upd_ne, s_upd_eq]
    | 2, _ => simp (disch := omega) only [s_upd_ne, s_upd_eq]
    | p + 3, h => omega
  · rw [h52]
    refine ⟨fun k hk => ?_, by simp (disch := omega) only [s_upd_ne, s_upd_eq], rfl⟩
    match k, hk with
    | 0, _ => exact ⟨rfl, Or.inl rfl⟩
    | 1, _ => exact ⟨rfl, Or.inl rfl⟩
    | 2, _ => exact ⟨rfl, Or.inl rfl⟩
    | k + 3, h => omega
