/-! THE CLASS's pages and hints -/
theorem f26 : mj_cd 26 = mj_c26 := rfl
theorem d26_0 : mj_At 26 0 (.iload_n 1) 1 [1] (.null) := ⟨1, (congrArg (fun z => mj_at z 0) f26).trans rfl, rfl⟩
theorem d26_1 : mj_At 26 1 (.iload_n 2) 2 [2] (.null) := ⟨1, (congrArg (fun z => mj_at z 1) f26).trans rfl, rfl⟩
theorem d26_2 : mj_At 26 2 (.if_icmp .le (44)) 5 [46] (.null) := ⟨3, (congrArg (fun z => mj_at z 2) f26).trans rfl, rfl⟩
theorem d26_46 : mj_At 26 46 (.iload_n 1) 47 [1] (.null) := ⟨1, (congrArg (fun z => mj_at z 46) f26).trans rfl, rfl⟩
theorem d26_47 : mj_At 26 47 (.ifCond .ge (12)) 50 [59] (.null) := ⟨3, (congrArg (fun z => mj_at z 47) f26).trans rfl, rfl⟩
theorem d26_59 : mj_At 26 59 (.iload_n 2) 60 [2] (.null) := ⟨1, (congrArg (fun z => mj_at z 59) f26).trans rfl, rfl⟩
theorem d26_60 : mj_At 26 60 (.iload_n 0) 61 [0] (.null) := ⟨1, (congrArg (fun z => mj_at z 60) f26).trans rfl, rfl⟩
theorem d26_61 : mj_At 26 61 (.if_icmp .le (12)) 64 [73] (.null) := ⟨3, (congrArg (fun z => mj_at z 61) f26).trans rfl, rfl⟩
theorem d26_73 : mj_At 26 73 (.return_) 74 [] (.null) := ⟨1, (congrArg (fun z => mj_at z 73) f26).trans rfl, rfl⟩
theorem j_range {sh : List mj_K} {c : mj_C} {x y z : Int32} (h1 : y ≤ z) (h2 : nI 0 ≤ y) (h3 : z ≤ x) : mj_EV 26 0 [some (.int x), some (.int y), some (.int z)] [] sh c = some (none, sh, c) := by
  refine (mj_iload_n d26_0 rfl (mj_iload_n d26_1 rfl ((mj_icle d26_2 rfl rfl).trans (if_pos h1)))).trans ?_
  refine (mj_iload_n d26_46 rfl ((mj_ifge d26_47 rfl rfl).trans (if_pos h2))).trans ?_
  exact mj_iload_n d26_59 rfl (mj_iload_n d26_60 rfl ((mj_icle d26_61 (mj_vret d26_73) rfl).trans (if_pos h3)))
theorem j_fillR {sh : List mj_K} {a na lo hi : Nat} {x : Int32} {c : mj_C} (ha : sh[a]? = some (0, na, [])) (hn : na < 100000) (h1 : lo ≤ hi) (h2 : hi ≤ na) : mj_EV 27 0 [some (.ref a), some (.int (nI lo)), some (.int (nI hi)), some (.int x), none] [] sh c = some (none, sh, s_set c a (fun j => if lo ≤ j ∧ j < hi then x else c a j)) := by
  have key : ∀ n k : Nat, k + n = hi → lo ≤ k → mj_EV 27 10 [some (.ref a), some (.int (nI lo)), some (.int (nI hi)), some (.int x), some (.int (nI k))] [] sh (s_set c a (fun j => if lo ≤ j ∧ j < k then x else c a j)) = some (none, sh, s_set c a (fun j => if lo ≤ j ∧ j < hi then x else c a j)) := by
    intro n
    induction n with
    | zero =>
      intro k hk hlo
      rw [e27_10 ha]
      simp (disch := omega) only [nI_leI]
      rw [if_pos (by omega), show k = hi by omega]
    | succ n ih =>
      intro k hk hlo
      rw [e27_10 ha]
      simp (disch := omega) only [nI_leI, mj_in_nI, nI_clamp]
      rw [if_neg (by omega), if_pos (by simp; omega), s_u, s_set_set, s_set_eq, nI_add]
      have e : upd (fun j => if lo ≤ j ∧ j < k then x else c a j) k x = (fun j => if lo ≤ j ∧ j < k + 1 then x else c a j) := by
        funext j
        simp only [upd]
        by_cases h1 : j = k
        · subst h1
          rw [if_pos rfl, if_pos (by omega)]
        · rw [if_neg h1]
          by_cases h2 : lo ≤ j ∧ j < k
          · rw [if_pos h2, if_pos (by omega)]
          · rw [if_neg h2, if_neg (by omega)]
      rw [e]
      exact ih (k + 1) (by omega) (by omega)
  rw [e27_0 ha, show Int32.ofNat na = nI na from rfl, j_range ((nI_leI (by omega) (by omega)).mpr h1) ((nI_leI (by omega) (by omega)).mpr (Nat.zero_le lo)) ((nI_leI (by omega) (by omega)).mpr h2), mj_then_v, e27_7 ha]
  have h := key (hi - lo) lo (by omega) (by omega)
  have e : (fun j => if lo ≤ j ∧ j < lo then x else c a j) = c a := by
    funext j
    rw [if_neg (by omega)]
  rw [e, s_set_self] at h
  exact h
theorem s_fm_0 {f : Nat → Int32} (h : ∀ w, w < 8 → f w = nI 0) : s_fm f = nI 0 := (s_fm_congr (f' := fun _ => nI 0) h).trans rfl
theorem s_S_new {c c' : mj_C} {P : Nat} {g : Nat → Int32} (hS : s_S c 3 g) (hP : P < 10) (hg : ¬ g (6 + 2 * P) = nI 1) (h3 : ∀ b, b = 3 ∨ b = 7 ∨ b = 8 → c' b = c b) (h4 : ∀ j, c' 4 j = if 64 * P ≤ j ∧ j < 64 * P + 64 then nI 0 else c 4 j) (h5 : ∀ j, c' 5 j = if 8 * P ≤ j ∧ j < 8 * P + 8 then nI 0 else c 5 j) (h6 : c' 6 = upd (c 6) P (nI 0)) : s_S c' 3 (s_np g P) := by
  have hz := (s_S_no hS hP hg).2.2
  have hi : ∀ j, 34 ≤ j → s_np g P j = g j := fun j hj => by
    unfold s_np
    rw [s_upd_ne (by omega), s_upd_ne (by omega)]
  have lo : ∀ j, j < 6 → s_np g P j = g j := fun j hj => by
    unfold s_np
    rw [s_upd_ne (by omega), s_upd_ne (by omega)]
  have hF : ∀ p, s_F (s_np g P) p = s_F g p := fun p => s_F_congrF hi
  obtain ⟨e0, hr, hb, hok, hp, hq⟩ := hS
  refine ⟨?_, ?_, ?_, s_ok_congr hi hok, fun p hpp => ?_, fun q hqq => ?_⟩
  · rw [h3 3 (Or.inl rfl), lo 0 (by omega), lo 1 (by omega), lo 2 (by omega), lo 3 (by omega), lo 4 (by omega), lo 5 (by omega)]
    exact e0
  · rw [lo 0 (by omega)]; exact hr
  · rw [lo 1 (by omega)]; exact hb
  · rw [hF]
    show (_ ∧ _ ∧ c' 6 p = _ ∧ (∀ l, l < 8 → c' 5 _ = _) ∧ (∀ j, j < 64 → c' 4 _ = _)) ∨ (_ ∧ c' 6 p = _ ∧ _)
    by_cases q : p = P
    · subst q
      have e6 : s_np g p (6 + 2 * p) = nI 1 := by
        unfold s_np
        rw [s_upd_ne (by omega), s_upd_eq]
      have e7 : s_np g p (7 + 2 * p) = nI 0 := by
        unfold s_np
        rw [s_upd_eq]
      refine Or.inl ⟨e6, ⟨0, by omega, e7⟩, ?_, fun l hl => ?_, fun j hj => ?_⟩
      · rw [h6, s_upd_eq, e7]
      · rw [h5, if_pos (by omega)]
        refine (s_fm_0 fun w hw => ?_).symm
        have := hz (8 * l + w) (by omega)
        rw [show 34 + 64 * p + (8 * l + w) = 34 + 64 * p + 8 * l + w by omega] at this
        exact this
      · rw [h4, if_pos (by omega), hi _ (by omega), hz j hj]
    · have e6 : s_np g P (6 + 2 * p) = g (6 + 2 * p) := by
        unfold s_np
        rw [s_upd_ne (by omega), s_upd_ne (by omega)]
      have e7 : s_np g P (7 + 2 * p) = g (7 + 2 * p) := by
        unfold s_np
        rw [s_upd_ne (by omega), s_upd_ne (by omega)]
      rw [e6, e7, h6, s_upd_ne q]
      rcases hp p hpp with ⟨q1, q2, q3, q4, q5⟩ | ⟨q1, q2, q3⟩
      · refine Or.inl ⟨q1, q2, q3, fun l hl => ?_, fun j hj => ?_⟩
        · rw [h5, if_neg (by omega)]
          exact q4 l hl
        · rw [h4, if_neg (by omega), hi _ (by omega)]
          exact q5 j hj
      · exact Or.inr ⟨q1, q2, fun j hj => by rw [hi _ (by omega)]; exact q3 j hj⟩
  · have e1 : s_np g P (26 + 2 * q) = g (26 + 2 * q) := by
      unfold s_np
      rw [s_upd_ne (by omega), s_upd_ne (by omega)]
    have e2 : s_np g P (27 + 2 * q) = g (27 + 2 * q) := by
      unfold s_np
      rw [s_upd_ne (by omega), s_upd_ne (by omega)]
    rw [h3 7 (by decide), h3 8 (by decide), e1, e2]
    exact hq q hqq
theorem s_zw_at {g : Nat → Int32} {P j : Nat} (h6 : j ≠ 6 + 2 * P) (h7 : j ≠ 7 + 2 * P) (hw : j < 34 + 64 * P ∨ 34 + 64 * P + 64 ≤ j) : s_zw g P 64 j = g j := by
  unfold s_zw
  rw [if_neg (by omega), s_upd_ne h7, s_upd_ne h6]
theorem s_fp_at {g : Nat → Int32} {P j : Nat} (h26 : j ≠ 26 + 2 * (P % 4)) (h27 : j ≠ 27 + 2 * (P % 4)) : s_fp g P j = s_zw g P 64 j := by
  unfold s_fp
  split
  · rw [s_upd_ne h27, s_upd_ne h26]
  · rfl
theorem s_S_free {c c' : mj_C} {P : Nat} {g : Nat → Int32} (hS : s_S c 3 g) (hP : P < 10) (h3 : ∀ b, b = 3 ∨ b = 4 ∨ b = 5 ∨ b = 8 → c' b = c b) (h6 : c' 6 = upd (c 6) P (-1)) (h7 : c' 7 = if c 7 (P % 4) = nI P then upd (c 7) (P % 4) (-1) else c 7) : s_S c' 3 (s_fp g P) := by
  obtain ⟨e0, hr, hb, hok, hp, hq⟩ := hS
  have hm : P % 4 < 4 := Nat.mod_lt _ (by decide)
  have lo : ∀ j, j < 6 → s_fp g P j = g j := fun j hj => by rw [s_fp_at (by omega) (by omega), s_zw_at (by omega) (by omega) (by omega)]
  have h6p : ∀ p, p < 10 → p ≠ P → s_fp g P (6 + 2 * p) = g (6 + 2 * p) := fun p hp10 hpP => by rw [s_fp_at (by omega) (by omega), s_zw_at (by omega) (by omega) (by omega)]
  have h7p : ∀ p, p < 10 → p ≠ P → s_fp g P (7 + 2 * p) = g (7 + 2 * p) := fun p hp10 hpP => by rw [s_fp_at (by omega) (by omega), s_zw_at (by omega) (by omega) (by omega)]
  have hw : ∀ p j, p ≠ P → j < 64 → s_fp g P (34 + 64 * p + j) = g (34 + 64 * p + j) := fun p j hpP hj => by rw [s_fp_at (by omega) (by omega), s_zw_at (by omega) (by omega) (by omega)]
  have hwP : ∀ j, j < 64 → s_fp g P (34 + 64 * P + j) = nI 0 := fun j hj => by
    rw [s_fp_at (by omega) (by omega)]
    unfold s_zw
    rw [if_pos (by omega)]
  have hF : ∀ p l, p ≠ P → l < 8 → s_F (s_fp g P) p l = s_F g p l := fun p l hpP hl => s_fm_congr fun w hw8 => by
    have := hw p (8 * l + w) hpP (by omega)
    rw [show 34 + 64 * p + (8 * l + w) = 34 + 64 * p + 8 * l + w by omega] at this
    exact this
  refine ⟨?_, ?_, ?_, fun j hj => ?_, fun p hpp => ?_, fun q hqq => ?_⟩
  · rw [h3 3 (Or.inl rfl), lo 0 (by omega), lo 1 (by omega), lo 2 (by omega), lo 3 (by omega), lo 4 (by omega), lo 5 (by omega)]
    exact e0
  · rw [lo 0 (by omega)]; exact hr
  · rw [lo 1 (by omega)]; exact hb
  · by_cases q : 64 * P ≤ j ∧ j < 64 * P + 64
    · have := hwP (j - 64 * P) (by omega)
      rw [show 34 + 64 * P + (j - 64 * P) = 34 + j by omega] at this
      exact ⟨0, by decide, this⟩
    · rw [s_fp_at (by omega) (by omega), s_zw_at (by omega) (by omega) (by omega)]
      exact hok j hj
  · show (_ ∧ _ ∧ c' 6 p = _ ∧ (∀ l, l < 8 → c' 5 _ = _) ∧ (∀ j, j < 64 → c' 4 _ = _)) ∨ (_ ∧ c' 6 p = _ ∧ _)
    rw [h3 4 (by decide), h3 5 (by decide), h6]
    by_cases q : p = P
    · subst q
      refine Or.inr ⟨?_, s_upd_eq, hwP⟩
      rw [s_fp_at (by omega) (by omega)]
      unfold s_zw
      rw [if_neg (by omega), s_upd_ne (by omega), s_upd_eq]
    · rw [h6p p hpp q, h7p p hpp q, s_upd_ne q]
      rcases hp p hpp with ⟨q1, q2, q3, q4, q5⟩ | ⟨q1, q2, q3⟩
      · exact Or.inl ⟨q1, q2, q3, fun l hl => by rw [hF p l q hl]; exact q4 l hl, fun j hj => by rw [hw p j q hj]; exact q5 j hj⟩
      · exact Or.inr ⟨q1, q2, fun j hj => by rw [hw p j q hj]; exact q3 j hj⟩
  · show (_ ∧ c' 7 q = _) ∨ (∃ P, _ ∧ _ ∧ c' 7 q = _ ∧ c' 8 q = _)
    rw [h3 8 (by decide), h7]
    have hz : s_zw g P 64 (26 + 2 * (P % 4)) = g (26 + 2 * (P % 4)) := s_zw_at (by omega) (by omega) (by omega)
    by_cases q1 : q = P % 4
    · subst q1
      by_cases q2 : g (26 + 2 * (P % 4)) = nI P
      · have q3 : c 7 (P % 4) = nI P := by
          rcases hq (P % 4) hm with ⟨z1, z2⟩ | ⟨P', z1, z2, z3, z4⟩
          · rw [z1] at q2
            exfalso
            have : ∀ n, n < 10 → ¬ ((-6 : Int32) = nI n) := by decide
            exact this P hP q2
          · rw [z2] at q2
            exact z3.trans q2
        refine Or.inl ⟨?_, ?_⟩
        · unfold s_fp
          rw [if_pos (by rw [hz]; exact q2), s_upd_ne (by omega), s_upd_eq]
        · rw [if_pos q3, s_upd_eq]
      · have q3 : ¬ c 7 (P % 4) = nI P := by
          rcases hq (P % 4) hm with ⟨z1, z2⟩ | ⟨P', z1, z2, z3, z4⟩
          · intro z
            exact s_nm1 (s := P) (by omega) (z.symm.trans z2)
          · intro z
            exact q2 (z2.trans (z3.symm.trans z))
        have e : s_fp g P = s_zw g P 64 := by
          unfold s_fp
          rw [if_neg (by rw [hz]; exact q2)]
        rw [if_neg q3, e, hz, s_zw_at (by omega) (by omega) (by omega)]
        exact hq (P % 4) hm
    · have e7 : (if c 7 (P % 4) = nI P then upd (c 7) (P % 4) (-1) else c 7) q = c 7 q := by
        split
        · rw [s_upd_ne q1]
        · rfl
      rw [e7, s_fp_at (by omega) (by omega), s_fp_at (by omega) (by omega), s_zw_at (by omega) (by omega) (by omega), s_zw_at (by omega) (by omega) (by omega)]
      exact hq q hqq
/-- a hint changes -/
theorem s_S_hint {c c' : mj_C} {P q0 : Nat} {x : Int32} {g g' : Nat → Int32} (hS : s_S c 3 g) (hP : P < 10) (hq0 : q0 < 4) (hc : ∀ b, b = 3 ∨ b = 4 ∨ b = 5 ∨ b = 6 → c' b = c b) (h7 : c' 7 = upd (c 7) q0 (nI P)) (h8 : c' 8 = upd (c 8) q0 x) (hg : g' = upd (upd g (26 + 2 * q0) (nI P)) (27 + 2 * q0) x) : s_S c' 3 g' := by
  subst hg
  have ne : ∀ j, j ≠ 26 + 2 * q0 → j ≠ 27 + 2 * q0 → upd (upd g (26 + 2 * q0) (nI P)) (27 + 2 * q0) x j = g j := fun j h1 h2 => by rw [s_upd_ne h2, s_upd_ne h1]
  have hF : ∀ p, s_F (upd (upd g (26 + 2 * q0) (nI P)) (27 + 2 * q0) x) p = s_F g p := fun p => s_F_congrF fun j hj => ne j (by omega) (by omega)
  obtain ⟨e0, hr, hb, hok, hp, hq⟩ := hS
  refine ⟨?_, ?_, ?_, s_ok_congr (fun j hj => ne j (by omega) (by omega)) hok, fun p hpp => ?_, fun q hqq => ?_⟩
  · rw [hc 3 (by decide), ne 0 (by omega) (by omega), ne 1 (by omega) (by omega), ne 2 (by omega) (by omega), ne 3 (by omega) (by omega), ne 4 (by omega) (by omega), ne 5 (by omega) (by omega)]
    exact e0
  · rw [ne 0 (by omega) (by omega)]; exact hr
  · rw [ne 1 (by omega) (by omega)]; exact hb
  · show (_ ∧ _ ∧ c' 6 p = _ ∧ (∀ l, l < 8 → c' 5 _ = _) ∧ (∀ j, j < 64 → c' 4 _ = _)) ∨ (_ ∧ c' 6 p = _ ∧ _)
    rw [hc 4 (by decide), hc 5 (by decide), hc 6 (by decide), hF, ne _ (by omega) (by omega), ne (7 + 2 * p) (by omega) (by omega)]
    rcases hp p hpp with ⟨q1, q2, q3, q4, q5⟩ | ⟨q1, q2, q3⟩
    · exact Or.inl ⟨q1, q2, q3, q4, fun j hj => by rw [ne _ (by omega) (by omega)]; exact q5 j hj⟩
    · exact Or.inr ⟨q1, q2, fun j hj => by rw [ne _ (by omega) (by omega)]; exact q3 j hj⟩
  · show (_ ∧ c' 7 q = _) ∨ (∃ P, _ ∧ _ ∧ c' 7 q = _ ∧ c' 8 q = _)
    rw [h7, h8]
    by_cases q1 : q = q0
    · subst q1
      refine Or.inr ⟨P, hP, ?_, s_upd_eq, ?_⟩
      · rw [s_upd_ne (by omega), s_upd_eq]
      · rw [s_upd_eq, s_upd_eq]
    · rw [s_upd_ne q1, s_upd_ne q1, ne _ (by omega) (by omega), ne (27 + 2 * q) (by omega) (by omega)]
      exact hq q hqq
theorem s_xb (x y s : Int32) : ((x ^^^ y) >>> s) &&& nI 1 = nI 0 ↔ (x >>> s) &&& nI 1 = (y >>> s) &&& nI 1 := by
  have e : ((x ^^^ y) >>> s) &&& nI 1 = ((x >>> s) &&& nI 1) ^^^ ((y >>> s) &&& nI 1) := by
    apply Int32.toBitVec_inj.mp
    apply BitVec.eq_of_getLsbD_eq
    intro i hi
    rw [Int32.toBitVec_and, Int32.toBitVec_xor, Int32.toBitVec_and, Int32.toBitVec_and, Int32.toBitVec_shiftRight, Int32.toBitVec_shiftRight, Int32.toBitVec_shiftRight, Int32.toBitVec_xor, BitVec.getLsbD_and, BitVec.getLsbD_xor, BitVec.getLsbD_and, BitVec.getLsbD_and]
    simp only [BitVec.sshiftRight', BitVec.sshiftRight_xor_distrib, BitVec.getLsbD_xor]
    cases (x.toBitVec.sshiftRight (s.toBitVec.smod 32).toNat).getLsbD i <;> cases (y.toBitVec.sshiftRight (s.toBitVec.smod 32).toNat).getLsbD i <;> cases (nI 1).toBitVec.getLsbD i <;> rfl
  rw [e, nI_0]
  constructor
  · intro h
    apply Int32.toBitVec_inj.mp
    have h2 := congrArg Int32.toBitVec h
    rw [Int32.toBitVec_xor] at h2
    exact BitVec.xor_eq_zero_iff.mp h2
  · intro h
    rw [h]
    exact Int32.xor_self
