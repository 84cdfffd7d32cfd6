/-! THE HEAD, whole -/
def w_ps0 : List (Option (Option Nat)) := [some (some 11), some (some 17), some (some 23), some (some 29), some (some 35), some (some 41)]
theorem t_pr : s_pr w_ps0 (fun i => i) := by
  refine ⟨rfl, fun i hi => ⟨?_, hi⟩, fun i j _ _ h => h⟩
  match i, hi with
  | 0, _ => rfl
  | 1, _ => rfl
  | 2, _ => rfl
  | 3, _ => rfl
  | 4, _ => rfl
  | 5, _ => rfl
  | i + 6, hi => exact absurd hi (by omega)
theorem t_mod {c : mj_C} : ∃ c', (mj_u (mj_u (mj_u (mj_u (mj_u (mj_u (mj_z (mj_z (mj_z (mj_z (mj_z c 53) 54) 55) 56) 57) 53 (nI 0).toNatClampNeg (nI 3)) 53 (nI 1).toNatClampNeg (nI 300)) 53 ((nI 26) + ((nI 2) * (nI 0))).toNatClampNeg (-6)) 53 ((nI 26) + ((nI 2) * ((nI 0) + (nI 1)))).toNatClampNeg (-6)) 53 ((nI 26) + ((nI 2) * (((nI 0) + (nI 1)) + (nI 1)))).toNatClampNeg (-6)) 53 ((nI 26) + ((nI 2) * ((((nI 0) + (nI 1)) + (nI 1)) + (nI 1)))).toNatClampNeg (-6)) = c' ∧ (∀ b, b < 53 → c' b = c b) ∧ ∀ k, k < 674 → c' 53 k = s_g0 k := by
  refine ⟨_, rfl, fun b hb => ?_, fun k hk => ?_⟩
  · rw [mj_u_ne _ _ _ _ (by omega), mj_u_ne _ _ _ _ (by omega), mj_u_ne _ _ _ _ (by omega), mj_u_ne _ _ _ _ (by omega), mj_u_ne _ _ _ _ (by omega), mj_u_ne _ _ _ _ (by omega), c_z (by omega), c_z (by omega), c_z (by omega), c_z (by omega), c_z (by omega)]
  · rw [mj_u_self, mj_u_self, mj_u_self, mj_u_self, mj_u_self, mj_u_self, c_z (by omega), c_z (by omega), c_z (by omega), c_z (by omega)]
    rw [show ((nI 26) + ((nI 2) * ((((nI 0) + (nI 1)) + (nI 1)) + (nI 1)))).toNatClampNeg = 32 from by decide, show ((nI 26) + ((nI 2) * (((nI 0) + (nI 1)) + (nI 1)))).toNatClampNeg = 30 from by decide, show ((nI 26) + ((nI 2) * ((nI 0) + (nI 1)))).toNatClampNeg = 28 from by decide, show ((nI 26) + ((nI 2) * (nI 0))).toNatClampNeg = 26 from by decide, show (nI 1).toNatClampNeg = 1 from by decide, show (nI 0).toNatClampNeg = 0 from by decide]
    unfold s_g0 upd
    by_cases k0 : k = 0
    · subst k0; rfl
    by_cases k1 : k = 1
    · subst k1; rfl
    by_cases q : k = 26 ∨ k = 28 ∨ k = 30 ∨ k = 32
    · rcases q with rfl | rfl | rfl | rfl <;> rfl
    · rw [if_neg k0, if_neg k1, if_neg q, if_neg (by omega), if_neg (by omega), if_neg (by omega), if_neg (by omega), if_neg (by omega), if_neg (by omega), c_z0]
theorem t_mod5 {c : mj_C} : ((mj_u (mj_u (mj_u (mj_u (mj_u (mj_u (mj_z (mj_z (mj_z (mj_z (mj_z c 53) 54) 55) 56) 57) 53 (nI 0).toNatClampNeg (nI 3)) 53 (nI 1).toNatClampNeg (nI 300)) 53 ((nI 26) + ((nI 2) * (nI 0))).toNatClampNeg (-6)) 53 ((nI 26) + ((nI 2) * ((nI 0) + (nI 1)))).toNatClampNeg (-6)) 53 ((nI 26) + ((nI 2) * (((nI 0) + (nI 1)) + (nI 1)))).toNatClampNeg (-6)) 53 ((nI 26) + ((nI 2) * ((((nI 0) + (nI 1)) + (nI 1)) + (nI 1)))).toNatClampNeg (-6))) 52 = mj_z (mj_z (mj_z (mj_z (mj_z c 53) 54) 55) 56) 57 52 := by
  rw [mj_u_ne _ _ _ _ (by omega), mj_u_ne _ _ _ _ (by omega), mj_u_ne _ _ _ _ (by omega), mj_u_ne _ _ _ _ (by omega), mj_u_ne _ _ _ _ (by omega), mj_u_ne _ _ _ _ (by omega)]
theorem t_lawhead {L : Nat} {xs : Nat → Int32} : ∃ c', mj_EV 167 0 [some (.ref 0), none, none, none] [] (w_s0 L) (w_c0 xs) = mj_EV 167 18 [some (.ref 0), some (.ref 2), some (.ref 52), some (.int (nI 0))] [] (w_al L w_ps0) c' ∧ s_V w_ps0 c' ∧ c' 0 = xs := by
  obtain ⟨c1, e1, hS, k9, k2, kb⟩ := t_sq (L := L) (c := mj_z (w_c0 xs) 2)
  obtain ⟨c2, e2, hb, hg⟩ := t_mod (c := mj_z c1 52)
  have t0 := Eq.trans (v167_0 (L := L) (c := w_c0 xs)) (Eq.trans (congrArg (mj_then 167 7 [some (.ref 0), none, none, none] [.ref 2]) e1) (v167_7 (L := L) (c := c1)))
  have t1 := Eq.trans t0 (congrArg (mj_then 167 15 [some (.ref 0), some (.ref 2), none, none] [.ref 52]) (v92_0 (L := L) (c := mj_z c1 52)))
  rw [e2, mj_then_v] at t1
  have hk : ∀ b, b < 52 → c2 b = c1 b := fun b h => by rw [hb b (by omega), c_z (by omega)]
  have h52 : ∀ k, c2 52 k = nI 0 := fun k => by rw [hb 52 (by omega), c_z0]
  refine ⟨c2, t1.trans (e167_15 (L := L) (ps := w_ps0) (c := c2)), ⟨c2 53, 0, fun _ _ => nI 0, ⟨?_, ?_, ?_, by omega, fun i => i, t_pr, fun i hi => absurd hi (by omega)⟩, ⟨rfl, h52 3, by omega, fun i hi => absurd hi (by omega)⟩, 0, by omega, ?_, h52 5, fun i hi => absurd hi (by omega)⟩, ?_⟩
  · rw [hk 1 (by omega), kb 1 (by omega), c_z (by omega)]; rfl
  · exact s_S_congr hS (fun k hk => hg k hk) (fun b h1 h2 => hk b (by omega))
  · rw [hk 9 (by omega)]; exact k9
  · rw [hk 2 (by omega)]; exact k2
  · rw [hk 0 (by omega), kb 0 (by omega), c_z (by omega)]; rfl
