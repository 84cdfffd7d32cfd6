/-! WHAT THE CONSTRUCTORS LEAVE BEHIND -/
theorem c_z {c : mj_C} {z b : Nat} (h : b ≠ z) : mj_z c z b = c b := by
  funext k
  simp only [mj_z]
  rw [if_neg h]
theorem c_z0 {c : mj_C} {z k : Nat} : mj_z c z z k = nI 0 := by
  simp only [mj_z]
  rfl
/-- the first row -/
def s_g0 : Nat → Int32 := fun k => if k = 0 then nI 3 else if k = 1 then nI 300 else if k = 26 ∨ k = 28 ∨ k = 30 ∨ k = 32 then (-6) else nI 0
theorem s_g0_0 {k : Nat} (h : 2 ≤ k) (h2 : k ≠ 26 ∧ k ≠ 28 ∧ k ≠ 30 ∧ k ≠ 32) : s_g0 k = nI 0 := by
  unfold s_g0
  rw [if_neg (by omega), if_neg (by omega), if_neg (by omega)]
theorem s_S_0 {c : mj_C} {a : Nat} (h0 : c a 0 = nI 3) (h1 : c a 1 = nI 300) (h2 : c a 2 = nI 0) (h3 : c a 3 = nI 0) (h4 : c a 4 = nI 0) (hs : ∀ p, p < 10 → c (a + 3) p = (-1)) (hq : ∀ q, q < 4 → c (a + 4) q = (-1)) : s_S c a s_g0 := by
  refine ⟨⟨h0, h1, h2, h3, rfl, h4⟩, ⟨3, by omega, rfl⟩, ⟨300, by omega, rfl⟩, fun j hj => ⟨0, by omega, s_g0_0 (by omega) (by omega)⟩, fun p hp => Or.inr ⟨?_, hs p hp, fun j hj => s_g0_0 (by omega) (by omega)⟩, fun q hqq => Or.inl ⟨?_, hq q hqq⟩⟩
  · exact s_g0_0 (by omega) (by omega)
  · unfold s_g0
    rw [if_neg (by omega), if_neg (by omega), if_pos (by omega)]
theorem u_state {pre : List mj_K} {a : Nat} {c : mj_C} (ha : pre.length = a) : ∃ c', mj_EV 1 0 [some (.ref a)] [] (pre ++ [(5, 10, [none, none, none, none, none, some none, some none, some none, some none, some none])]) c = some (none, pre ++ [(5, 10, [none, none, none, none, none, some (some (a + 1)), some (some (a + 2)), some (some (a + 3)), some (some (a + 4)), some (some (a + 5))]), (0, 640, []), (0, 80, []), (0, 10, []), (0, 4, []), (0, 4, [])], c') ∧ s_S c' a s_g0 ∧ ∀ b, b < a ∨ a + 5 < b → c' b = c b := by
  have e1 := u1_0 (c := c) ha
  rw [j_fill (c_at ha 3) (by omega), mj_then_v, u1_78 ha, j_fill (c_at ha 4) (by omega), mj_then_v, u1_86 ha] at e1
  refine ⟨_, e1, s_S_0 ?_ ?_ ?_ ?_ ?_ (fun p hp => ?_) (fun q hq => ?_), fun b hb => ?_⟩
  · rw [s_set_ne _ _ (by omega), s_set_ne _ _ (by omega), c_z (by omega), c_z (by omega), c_z (by omega), c_z (by omega), c_z (by omega), mj_u_self, s_upd_ne (by omega), mj_u_self, s_upd_ne (by omega), mj_u_self, s_upd_ne (by omega), mj_u_self, s_upd_ne (by omega), mj_u_self, s_upd_eq]
  · rw [s_set_ne _ _ (by omega), s_set_ne _ _ (by omega), c_z (by omega), c_z (by omega), c_z (by omega), c_z (by omega), c_z (by omega), mj_u_self, s_upd_ne (by omega), mj_u_self, s_upd_ne (by omega), mj_u_self, s_upd_ne (by omega), mj_u_self, s_upd_eq]
  · rw [s_set_ne _ _ (by omega), s_set_ne _ _ (by omega), c_z (by omega), c_z (by omega), c_z (by omega), c_z (by omega), c_z (by omega), mj_u_self, s_upd_ne (by omega), mj_u_self, s_upd_ne (by omega), mj_u_self, s_upd_eq]
  · rw [s_set_ne _ _ (by omega), s_set_ne _ _ (by omega), c_z (by omega), c_z (by omega), c_z (by omega), c_z (by omega), c_z (by omega), mj_u_self, s_upd_ne (by omega), mj_u_self, s_upd_eq]
  · rw [s_set_ne _ _ (by omega), s_set_ne _ _ (by omega), c_z (by omega), c_z (by omega), c_z (by omega), c_z (by omega), c_z (by omega), mj_u_self, s_upd_eq]
  · rw [s_set_ne _ _ (by omega), s_set_eq, if_pos hp]
  · rw [s_set_eq, if_pos hq]
  · rw [s_set_ne _ _ (by omega), s_set_ne _ _ (by omega), c_z (by omega), c_z (by omega), c_z (by omega), c_z (by omega), c_z (by omega), mj_u_ne _ _ _ _ (by omega), mj_u_ne _ _ _ _ (by omega), mj_u_ne _ _ _ _ (by omega), mj_u_ne _ _ _ _ (by omega), mj_u_ne _ _ _ _ (by omega)]
