/-! THE CLASS's changes of lines -/
theorem j_fill {sh : List mj_K} {a na : Nat} {x : Int32} {c : mj_C} (ha : sh[a]? = some (0, na, [])) (hn : na < 100000) : mj_EV 0 0 [some (.ref a), some (.int x), none, none] [] sh c = some (none, sh, s_set c a (fun j => if j < na then x else c a j)) := by
  have key : ∀ n k : Nat, k + n = na → mj_EV 0 5 [some (.ref a), some (.int x), some (.int (nI k)), some (.int (nI na))] [] sh (s_set c a (fun j => if j < k then x else c a j)) = some (none, sh, s_set c a (fun j => if j < na then x else c a j)) := by
    intro n
    induction n with
    | zero =>
      intro k hk
      rw [e0_5 ha]
      simp (disch := omega) only [nI_leI]
      rw [if_pos (by omega), show k = na by omega]
    | succ n ih =>
      intro k hk
      rw [e0_5 ha]
      simp (disch := omega) only [nI_leI, mj_in_nI, nI_clamp]
      rw [if_neg (by omega), if_pos (by simp; omega), s_u, s_set_set, s_set_eq, nI_add]
      have e : upd (fun j => if j < k then x else c a j) k x = (fun j => if j < k + 1 then x else c a j) := by
        funext j
        simp only [upd]
        by_cases h1 : j = k
        · subst h1
          rw [if_pos rfl, if_pos (by omega)]
        · rw [if_neg h1]
          by_cases h2 : j < k
          · rw [if_pos h2, if_pos (by omega)]
          · rw [if_neg h2, if_neg (by omega)]
      rw [e]
      exact ih (k + 1) (by omega)
  rw [e0_0 ha]
  have h := key na 0 (by omega)
  have e : (fun j => if j < 0 then x else c a j) = c a := by
    funext j
    rw [if_neg (by omega)]
  rw [e, s_set_self] at h
  exact h
theorem s_neg {x : Int32} (h1 : (-65535) ≤ x) (h2 : ¬ nI 0 ≤ x) : ∃ m, 1 ≤ m ∧ m ≤ 65535 ∧ x = nI 0 - nI m := by
  rw [Int32.le_iff_toInt_le] at h1 h2
  have a1 : (-65535 : Int32).toInt = -65535 := by decide
  have a2 : (nI 0).toInt = 0 := by decide
  rw [a1] at h1
  rw [a2] at h2
  refine ⟨(-x.toInt).toNat, by omega, by omega, Int32.toInt_inj.mp ?_⟩
  rw [pk_sub_toInt (by omega) (by omega)]
  omega
theorem s_sub_add (a b d : Int32) : a - b + d = a + d - b := by
  rw [Int32.sub_eq_add_neg, Int32.sub_eq_add_neg, Int32.add_assoc, Int32.add_comm (-b) d, ← Int32.add_assoc]
theorem j_fm {sh : List mj_K} {c : mj_C} {v : Nat} {x : Int32} (hv : v < 65536) (h1 : (-65535) ≤ x) (h2 : x ≤ nI 65535) : mj_EV 50 0 [some (.int (nI v + x)), some (.int (nI 65536)), none] [] sh c = some (some (.int ((nI v + x) &&& nI 65535)), sh, c) := by
  have big : ∀ n, n ≤ 200000 → mj_EV 50 0 [some (.int (nI n)), some (.int (nI 65536)), none] [] sh c = some (some (.int (nI n &&& nI 65535)), sh, c) := by
    intro n hn
    rw [e50_0, if_pos (by decide), pk_rem (by omega) (by omega) (by omega), pk_andN (by omega) 16 (by decide)]
    have hx : nI 0 ≤ nI n ^^^ nI 65536 := by
      rw [Int32.le_iff_toInt_le, show (nI 0).toInt = 0 from rfl]
      have hm : (nI n ^^^ nI 65536).toBitVec.msb = false := by
        rw [Int32.toBitVec_xor, BitVec.msb_xor]
        have m1 : (nI n).toBitVec.msb = false := by
          rw [BitVec.msb_eq_toInt, decide_eq_false_iff_not]
          have := nI_toInt (n := n) (by omega)
          have e : (nI n).toBitVec.toInt = (nI n).toInt := rfl
          omega
        rw [m1]
        rfl
      rw [BitVec.msb_eq_toInt, decide_eq_false_iff_not] at hm
      exact Int.not_lt.mp hm
    rw [if_pos hx]
  by_cases q : nI 0 ≤ x
  · obtain ⟨n, hn, rfl⟩ := nI_of2 (n := 65535) (M := nI 65535) (by decide) (by rw [← nI_0]; exact Int32.not_lt.mpr q) h2
    rw [nI_add]
    exact big _ (by omega)
  · obtain ⟨m, hm1, hm2, rfl⟩ := s_neg h1 q
    have e : nI v + (nI 0 - nI m) = nI v - nI m := by
      rw [Int32.sub_eq_add_neg, nI_0, Int32.zero_add, ← Int32.sub_eq_add_neg]
    rw [e]
    by_cases q2 : m ≤ v
    · rw [pk_sub q2]
      exact big _ (by omega)
    · have ti : (nI v - nI m).toInt = (v : Int) - m := pk_sub_toInt (by omega) (by omega)
      have hx : ¬ nI 0 ≤ (nI v - nI m) ^^^ nI 65536 := by
        rw [Int32.le_iff_toInt_le, show (nI 0).toInt = 0 from rfl, Int.not_le]
        have hm : ((nI v - nI m) ^^^ nI 65536).toBitVec.msb = true := by
          rw [Int32.toBitVec_xor, BitVec.msb_xor]
          have m1 : (nI v - nI m).toBitVec.msb = true := by
            rw [BitVec.msb_eq_toInt, decide_eq_true_eq]
            have e : (nI v - nI m).toBitVec.toInt = (nI v - nI m).toInt := rfl
            omega
          rw [m1]
          rfl
        rw [BitVec.msb_eq_toInt, decide_eq_true_eq] at hm
        exact hm
      have hd : (nI v - nI m) / nI 65536 = nI 0 := by
        apply Int32.toInt_inj.mp
        rw [Int32.toInt_div, ti, show (nI 65536).toInt = 65536 from rfl, show (nI 0).toInt = 0 from rfl, show ((v : Int) - m) = -((m : Int) - v) by omega, Int.neg_tdiv, Int.tdiv_eq_zero_of_lt (by omega) (by omega)]
        rfl
      have hr : (nI v - nI m) - (nI v - nI m) / nI 65536 * nI 65536 = nI v - nI m := by
        rw [hd, nI_0, Int32.zero_mul, Int32.sub_zero]
      have hs : nI v - nI m + nI 65536 = nI (v + 65536 - m) := by
        rw [s_sub_add, nI_add, pk_sub (by omega)]
      have ha : (nI v - nI m) &&& nI 65535 = nI (v + 65536 - m) := by
        have a1 := pk_and (nI v - nI m) (m := nI 65535) 16 (by decide)
        have a2 := pk_and (nI v - nI m + nI 65536) (m := nI 65535) 16 (by decide)
        have a3 := pk_andN (n := v + 65536 - m) (by omega) (m := nI 65535) 16 (by decide)
        have a4 : (nI v - nI m + nI 65536).toBitVec.toNat % 2 ^ 16 = (nI v - nI m).toBitVec.toNat % 2 ^ 16 := by
          rw [Int32.toBitVec_add, BitVec.toNat_add, show (nI 65536).toBitVec.toNat = 65536 from rfl]
          omega
        rw [a1, ← a4, ← a2, hs, a3, Nat.mod_eq_of_lt (by omega)]
      rw [e50_0, if_pos (by decide), hr, if_neg hx, if_neg, hs, ha]
      intro z
      have z2 : (nI v - nI m).toInt = (nI 0).toInt := by rw [z]
      rw [ti, show (nI 0).toInt = 0 from rfl] at z2
      omega
theorem s_Fo_r (c : mj_C) : s_Fo c c := fun _ _ => rfl
theorem s_Fo_t {c c' c'' : mj_C} (h : s_Fo c c') (h' : s_Fo c' c'') : s_Fo c c'' := fun b hb => (h' b hb).trans (h b hb)
section KL5
variable {L : Nat} {ps : List (Option (Option Nat))} {rest : List mj_K} {c : mj_C} {g : Nat → Int32} {R : Nat} {h : Nat → Nat → Int32}
theorem k_chgT {c0 : mj_C} {y q : Nat} {Lc : List (Option Value)} {P l : Nat} {f : Nat → Int32} (h0 : s_Fo c0 c) (hI : s_I ps c g R h) (hP : P < 10) (hl : l < 8) (hg : g (6 + 2 * P) = nI 1) (hf : ∀ w, w < 8 → ∃ v, v < 65536 ∧ f w = nI v) (hc : ∀ w, w < 8 → c 49 w = f w) (hB : ∀ x ps' c', mj_EV y q Lc [.int x] (w_sh L ps' rest) c' = some (some (.int x), w_sh L ps' rest, c')) : s_cc L rest ps c0 (mj_then y q Lc [] (mj_EV 47 0 [some (.ref 2), some (.int (nI P)), some (.int (nI l))] [] (w_sh L ps rest) c)) g R h (s_may g (s_sum (s_putk g P l f) 10) = nI 0) (s_F (s_putk g P l f) P l) (s_putk g P l f) := by
  have hA := k_changeLine (L := L) (rest := rest) hI hP hl hg hf hc
  constructor
  · intro q
    obtain ⟨c', e, h1, h2⟩ := hA.1 q
    exact ⟨c', by rw [e, mj_then_i, hB], h1, s_Fo_t h0 h2⟩
  · intro q
    obtain ⟨ps', c', e, h1, h2⟩ := hA.2 q
    exact ⟨ps', c', by rw [e, mj_then_i, hB], h1, s_Fo_t h0 h2⟩
theorem k_write {P l w v : Nat} (hP : P < 10) (hl : l < 8) (hw : w < 8) (hv : v < 65536) (hI : s_I ps c g R h) (hg : g (6 + 2 * P) = nI 1) : s_cc L rest ps c (mj_EV 48 0 [some (.ref 2), some (.int (nI P)), some (.int (nI l)), some (.int (nI w)), some (.int (nI v))] [] (w_sh L ps rest) c) g R h (s_may g (s_sum (s_putk g P l (s_w1 g P l w (nI v))) 10) = nI 0) (s_F (s_putk g P l (s_w1 g P l w (nI v))) P l) (s_putk g P l (s_w1 g P l w (nI v))) := by
  have hS := hI.2.1
  obtain ⟨c1, e1, h1, hf1⟩ := k_takeNewWords (L := L) (ps := ps) (rest := rest) hS hP hl hg
  rw [e48_0, k_hasLine_y hS hP hl hg, mj_then_i, e48_9, if_neg (by decide), k_isWord_y hw, mj_then_i, e48_16, if_neg (by decide), k_isValue_y hv, mj_then_i, e48_26, if_neg (by decide), e1, mj_then_v, e48_38, mj_in_nI (by omega), nI_clamp (by omega), if_pos (by simp; omega)]
  have hf2 : ∀ b, b ≠ 49 → mj_u c1 49 w (nI v) b = c b := fun b hb => by rw [mj_u_ne _ _ _ _ hb, hf1 b hb]
  refine k_chgT (fun b hb => hf2 b (by omega)) (s_I_congr hI (fun b hb => hf2 b (by omega))) hP hl hg (s_ok_w1 hP hl (s_S_ok hS) hv) (fun k hk => ?_) (fun _ _ _ => e48_52)
  unfold s_w1
  rw [mj_u_self]
  by_cases q : k = w
  · rw [q, s_upd_eq, s_upd_eq]
  · rw [s_upd_ne q, s_upd_ne q, h1 k hk]
theorem k_fill {P l v : Nat} (hP : P < 10) (hl : l < 8) (hv : v < 65536) (hI : s_I ps c g R h) (hg : g (6 + 2 * P) = nI 1) : s_cc L rest ps c (mj_EV 49 0 [some (.ref 2), some (.int (nI P)), some (.int (nI l)), some (.int (nI v))] [] (w_sh L ps rest) c) g R h (s_may g (s_sum (s_putk g P l (fun _ => nI v)) 10) = nI 0) (s_F (s_putk g P l (fun _ => nI v)) P l) (s_putk g P l (fun _ => nI v)) := by
  have hS := hI.2.1
  rw [e49_0, k_hasLine_y hS hP hl hg, mj_then_i, e49_9, if_neg (by decide), k_isValue_y hv, mj_then_i, e49_18, if_neg (by decide), j_fill w_49 (by omega), mj_then_v, e49_32]
  refine k_chgT (fun b hb => s_set_ne _ _ (by omega)) (s_I_congr hI (fun b hb => s_set_ne _ _ (by omega))) hP hl hg (fun _ _ => ⟨v, hv, rfl⟩) (fun k hk => ?_) (fun _ _ _ => e49_38)
  rw [s_set_eq, if_pos hk]
theorem k_add {P l : Nat} {x : Int32} (hP : P < 10) (hl : l < 8) (hx : (-65535) ≤ x) (hx2 : x ≤ nI 65535) (hI : s_I ps c g R h) (hg : g (6 + 2 * P) = nI 1) : s_cc L rest ps c (mj_EV 51 0 [some (.ref 2), some (.int (nI P)), some (.int (nI l)), some (.int x), none] [] (w_sh L ps rest) c) g R h (s_may g (s_sum (s_putk g P l (s_wa g P l x)) 10) = nI 0) (s_F (s_putk g P l (s_wa g P l x)) P l) (s_putk g P l (s_wa g P l x)) := by
  have hS := hI.2.1
  obtain ⟨c1, e1, h1, hf1⟩ := k_takeNewWords (L := L) (ps := ps) (rest := rest) hS hP hl hg
  have key : ∀ n k : Nat, k + n = 8 → ∀ c2 : mj_C, (∀ b, b ≠ 49 → c2 b = c b) → (∀ w, w < 8 → c2 49 w = if w < k then s_wa g P l x w else s_wd g P l w) → s_cc L rest ps c (mj_EV 51 38 [some (.ref 2), some (.int (nI P)), some (.int (nI l)), some (.int x), some (.int (nI k))] [] (w_sh L ps rest) c2) g R h (s_may g (s_sum (s_putk g P l (s_wa g P l x)) 10) = nI 0) (s_F (s_putk g P l (s_wa g P l x)) P l) (s_putk g P l (s_wa g P l x)) := by
    intro n
    induction n with
    | zero =>
      intro k hk c2 hc2 hw
      rw [e51_38]
      simp (disch := omega) only [nI_leI]
      rw [if_pos (by omega)]
      refine k_chgT (fun b hb => hc2 b (by omega)) (s_I_congr hI (fun b hb => hc2 b (by omega))) hP hl hg s_ok_wa (fun w hw8 => ?_) (fun _ _ _ => e51_78)
      rw [hw w hw8, if_pos (by omega)]
    | succ n ih =>
      intro k hk c2 hc2 hw
      obtain ⟨v, hv, ev⟩ := s_ok_wd hP hl (s_S_ok hS) k (by omega)
      rw [e51_38]
      simp (disch := omega) only [nI_leI, mj_in_nI, nI_clamp]
      rw [if_neg (by omega), if_pos (by simp; omega), hw k (by omega), if_neg (by omega), ev, j_fm hv hx hx2, mj_then_i, e51_65, mj_in_nI (by omega), nI_clamp (by omega), if_pos (by simp; omega), nI_add k 1]
      refine ih (k + 1) (by omega) _ (fun b hb => by rw [mj_u_ne _ _ _ _ hb]; exact hc2 b hb) (fun w hw8 => ?_)
      rw [mj_u_self]
      by_cases q : w = k
      · rw [q, s_upd_eq, if_pos (by omega)]
        unfold s_wa
        rw [ev]
      · rw [s_upd_ne q, hw w hw8]
        by_cases q2 : w < k
        · rw [if_pos q2, if_pos (by omega)]
        · rw [if_neg q2, if_neg (by omega)]
  rw [e51_0, k_hasLine_y hS hP hl hg, mj_then_i, e51_9, if_neg (by decide), if_neg (Int32.not_lt.mpr hx), if_pos hx2, e1, mj_then_v, e51_35]
  exact key 8 0 (by omega) c1 hf1 (fun w hw => by rw [if_neg (by omega)]; exact h1 w hw)
theorem k_copy {P l P' l' : Nat} (hP : P < 10) (hl : l < 8) (hg : g (6 + 2 * P) = nI 1) (hP' : P' < 10) (hl' : l' < 8) (hg' : g (6 + 2 * P') = nI 1) (hI : s_I ps c g R h) : s_cc L rest ps c (mj_EV 52 0 [some (.ref 2), some (.int (nI P)), some (.int (nI l)), some (.int (nI P')), some (.int (nI l'))] [] (w_sh L ps rest) c) g R h (s_may g (s_sum (s_putk g P' l' (s_wd g P l)) 10) = nI 0) (s_F (s_putk g P' l' (s_wd g P l)) P' l') (s_putk g P' l' (s_wd g P l)) := by
  have hS := hI.2.1
  obtain ⟨c1, e1, h1, hf1⟩ := k_takeNewWords (L := L) (ps := ps) (rest := rest) hS hP hl hg
  rw [e52_0, k_hasLine_y hS hP hl hg, mj_then_i, e52_9, if_neg (by decide), k_hasLine_y hS hP' hl' hg', mj_then_i, e52_22, if_neg (by decide), e1, mj_then_v, e52_33]
  exact k_chgT (fun b hb => hf1 b (by omega)) (s_I_congr hI (fun b hb => hf1 b (by omega))) hP' hl' hg' (s_ok_wd hP hl (s_S_ok hS)) h1 (fun _ _ _ => e52_40)
theorem k_ifWritten {P l w v : Nat} (hP : P < 10) (hl : l < 8) (hw : w < 8) (hv : v < 65536) (hI : s_I ps c g R h) (hg : g (6 + 2 * P) = nI 1) : ∃ c', mj_EV 68 0 [some (.ref 2), some (.int (nI P)), some (.int (nI l)), some (.int (nI w)), some (.int (nI v))] [] (w_sh L ps rest) c = some (some (.int (s_sum (s_putk g P l (s_w1 g P l w (nI v))) 10)), w_sh L ps rest, c') ∧ s_I ps c' g R h ∧ s_Fo c c' := by
  have hS := hI.2.1
  obtain ⟨c1, e1, h1, hf1⟩ := k_takeNewWords (L := L) (ps := ps) (rest := rest) hS hP hl hg
  have hf2 : ∀ b, b ≠ 49 → mj_u c1 49 w (nI v) b = c b := fun b hb => by rw [mj_u_ne _ _ _ _ hb, hf1 b hb]
  have hI2 : s_I ps (mj_u c1 49 w (nI v)) g R h := s_I_congr hI (fun b hb => hf2 b (by omega))
  obtain ⟨c3, e3, hf3⟩ := k_sumWithLine (L := L) (ps := ps) (rest := rest) (f := s_w1 g P l w (nI v)) w_49 (by decide) hI2.2.1 hI2.1 hP hl hg (fun k hk => by
    unfold s_w1
    rw [mj_u_self]
    by_cases q : k = w
    · rw [q, s_upd_eq, s_upd_eq]
    · rw [s_upd_ne q, s_upd_ne q, h1 k hk])
  refine ⟨c3, ?_, s_I_congr hI2 (fun b hb => hf3 b (by omega)), fun b hb => by rw [hf3 b (by omega), hf2 b (by omega)]⟩
  rw [e68_0, k_hasLine_y hS hP hl hg, mj_then_i, e68_9, if_neg (by decide), k_isWord_y hw, mj_then_i, e68_16, if_neg (by decide), k_isValue_y hv, mj_then_i, e68_26, if_neg (by decide), e1, mj_then_v, e68_38, mj_in_nI (by omega), nI_clamp (by omega), if_pos (by simp; omega), e3, mj_then_i, e68_56]
end KL5
