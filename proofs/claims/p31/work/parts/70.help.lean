/-! THE LAW'S HELPERS: what each of them answers -/
def p_low (x : Int32) (n : Nat) : Nat := (x.toBitVec.toNat % 2 ^ 31) % n
theorem p_low_lt {x : Int32} {n : Nat} (h : 0 < n) : p_low x n < n := Nat.mod_lt _ h
def bI (b : Bool) : Int32 := if b = true then nI 1 else nI 0
theorem bI_t : bI true = nI 1 := rfl
theorem bI_f : bI false = nI 0 := rfl
theorem l_sub {a b k : Nat} (ha : a < 65536) (hb : b < 65536) (hk : k < 65536) : (nI k ≤ nI a - nI b) ↔ b + k ≤ a := by
  rw [Int32.le_iff_toInt_le, nI_toInt (by omega), pk_sub_toInt (by omega) (by omega)]
  omega
/-- a page's forms, out of its 64 words -/
def s_PF (f : Nat → Int32) : Nat → Int32 := fun l => s_fm (fun w => f (8 * l + w))
theorem s_fo_PF (f : Nat → Int32) : s_fo (s_PF f) := fun l _ => s_fm_cases _
def s_okw (f : Nat → Int32) : Prop := ∀ j, j < 64 → ∃ n, n < 65536 ∧ f j = nI n
theorem n_ne {a b : Nat} (h : a ≠ b) (ha : a < 2 ^ 31) (hb : b < 2 ^ 31) : ¬ nI a = nI b := fun z => h ((nI_eq ha hb).mp z)
theorem n_sp {a b k : Nat} (h : b + k ≤ a) (ha : a < 65536) (hb : b < 65536) (hk : k < 65536) : nI k ≤ nI a - nI b := (l_sub ha hb hk).mpr h
theorem n_sn {a b k : Nat} (h : ¬ b + k ≤ a) (ha : a < 65536) (hb : b < 65536) (hk : k < 65536) : ¬ nI k ≤ nI a - nI b := fun z => h ((l_sub ha hb hk).mp z)
section LH
variable {L : Nat} {ps : List (Option (Option Nat))} {rest : List mj_K} {c : mj_C}
theorem l_low {x : Int32} {n : Nat} (h : 0 < n) (h2 : n < 2 ^ 31) : mj_EV 93 0 [some (.int x), some (.int (nI n))] [] (w_sh L ps rest) c = some (some (.int (nI (p_low x n))), w_sh L ps rest, c) := by
  have e : x &&& nI 2147483647 = nI (x.toBitVec.toNat % 2 ^ 31) := pk_and x (m := nI 2147483647) 31 (by decide)
  have hne : ¬ (nI n = nI 0) := by rw [nI_eq h2 (by decide)]; omega
  rw [e93_0, if_pos (by simp [hne]), e, pk_rem (Nat.mod_lt _ (by decide)) h h2]
  rfl
theorem l_cell {k : Nat} (hL : L < 1000) (hk : k < 1000) : ∃ v, mj_EV 92 0 [some (.ref 0), some (.int (nI k))] [] (w_sh L ps rest) c = some (some (.int v), w_sh L ps rest, c) := by
  by_cases q : L ≤ k
  · exact ⟨_, by rw [e92_0, if_pos (show Int32.ofNat L ≤ nI k from nI_le q (by omega))]⟩
  · exact ⟨_, by rw [e92_0, if_neg (show ¬ Int32.ofNat L ≤ nI k from nI_ge (by omega) (by omega)), mj_in_nI (by omega), if_pos (decide_eq_true (by omega))]⟩
theorem l_row {n p : Nat} (hp : p < 3) : mj_EV 94 0 [some (.int (nI p)), some (.ref 53), some (.ref 54), some (.ref 55)] [] (w_sh L ps (w_lo n)) c = some (some (.ref (53 + p)), w_sh L ps (w_lo n), c) := by
  match p, hp with
  | 0, _ => rw [e94_0 w_53 w_54 w_55, if_pos rfl]
  | 1, _ => rw [e94_0 w_53 w_54 w_55, if_neg (by decide), if_pos rfl]
  | 2, _ => rw [e94_0 w_53 w_54 w_55, if_neg (by decide), if_neg (by decide)]
  | p + 3, h => omega
theorem l_size {k : Nat} (hk : k < 5) : mj_EV 96 0 [some (.int (nI k))] [] (w_sh L ps rest) c = some (some (.int (w_fs k)), w_sh L ps rest, c) := by
  match k, hk with
  | 0, _ => rw [e96_0, if_neg (by decide)]; rfl
  | 1, _ => rw [e96_0, if_neg (by decide)]; rfl
  | 2, _ => rw [e96_0, if_pos (by decide), if_neg (by decide)]; rfl
  | 3, _ => rw [e96_0, if_pos (by decide), if_neg (by decide)]; rfl
  | 4, _ => rw [e96_0, if_pos (by decide), if_pos (by decide)]; rfl
  | k + 5, h => omega
/-! the form by each pair of words -/
def f_z (F : Nat → Nat) : Nat → Bool
  | 0 => true
  | m + 1 => f_z F m && decide (F m = 0)
def f_s (F : Nat → Nat) : Nat → Bool
  | 0 => true
  | m + 1 => f_s F m && decide (F m < 256)
def f_e1 (F : Nat → Nat) (i : Nat) (b : Bool) : Nat → Bool
  | 0 => b
  | k + 1 => f_e1 F i b k && decide (F i = F k)
def f_e (F : Nat → Nat) : Nat → Bool
  | 0 => true
  | m + 1 => f_e1 F m (f_e F m) m
def f_n1 (F : Nat → Nat) (i : Nat) (b : Bool) : Nat → Bool
  | 0 => b
  | k + 1 => f_n1 F i b k && (decide (F i < F k + 16) && decide (F k < F i + 16))
def f_n (F : Nat → Nat) : Nat → Bool
  | 0 => true
  | m + 1 => f_n1 F m (f_n F m) m
theorem f_z_iff (F : Nat → Nat) : ∀ m, f_z F m = true ↔ ∀ j, j < m → F j = 0 := by
  intro m
  induction m with
  | zero => exact ⟨fun _ j hj => by omega, fun _ => rfl⟩
  | succ m ih =>
    simp only [f_z, Bool.and_eq_true, decide_eq_true_eq, ih]
    constructor
    · intro ⟨h1, h2⟩ j hj
      by_cases q : j = m
      · rw [q]; exact h2
      · exact h1 j (by omega)
    · exact fun h => ⟨fun j hj => h j (by omega), h m (by omega)⟩
theorem f_s_iff (F : Nat → Nat) : ∀ m, f_s F m = true ↔ ∀ j, j < m → F j < 256 := by
  intro m
  induction m with
  | zero => exact ⟨fun _ j hj => by omega, fun _ => rfl⟩
  | succ m ih =>
    simp only [f_s, Bool.and_eq_true, decide_eq_true_eq, ih]
    constructor
    · intro ⟨h1, h2⟩ j hj
      by_cases q : j = m
      · rw [q]; exact h2
      · exact h1 j (by omega)
    · exact fun h => ⟨fun j hj => h j (by omega), h m (by omega)⟩
theorem f_e1_iff (F : Nat → Nat) (i : Nat) (b : Bool) : ∀ k, f_e1 F i b k = true ↔ b = true ∧ ∀ j, j < k → F i = F j := by
  intro k
  induction k with
  | zero => exact ⟨fun h => ⟨h, fun j hj => by omega⟩, fun h => h.1⟩
  | succ k ih =>
    simp only [f_e1, Bool.and_eq_true, decide_eq_true_eq, ih]
    constructor
    · intro ⟨⟨h0, h1⟩, h2⟩
      refine ⟨h0, fun j hj => ?_⟩
      by_cases q : j = k
      · rw [q]; exact h2
      · exact h1 j (by omega)
    · exact fun h => ⟨⟨h.1, fun j hj => h.2 j (by omega)⟩, h.2 k (by omega)⟩
theorem f_n1_iff (F : Nat → Nat) (i : Nat) (b : Bool) : ∀ k, f_n1 F i b k = true ↔ b = true ∧ ∀ j, j < k → F i < F j + 16 ∧ F j < F i + 16 := by
  intro k
  induction k with
  | zero => exact ⟨fun h => ⟨h, fun j hj => by omega⟩, fun h => h.1⟩
  | succ k ih =>
    simp only [f_n1, Bool.and_eq_true, decide_eq_true_eq, ih]
    constructor
    · intro ⟨⟨h0, h1⟩, h2⟩
      refine ⟨h0, fun j hj => ?_⟩
      by_cases q : j = k
      · rw [q]; exact h2
      · exact h1 j (by omega)
    · exact fun h => ⟨⟨h.1, fun j hj => h.2 j (by omega)⟩, h.2 k (by omega)⟩
theorem f_e_iff (F : Nat → Nat) : ∀ m, f_e F m = true ↔ ∀ i, i < m → ∀ j, j < i → F i = F j := by
  intro m
  induction m with
  | zero => exact ⟨fun _ j hj => by omega, fun _ => rfl⟩
  | succ m ih =>
    simp only [f_e, f_e1_iff, ih]
    constructor
    · intro ⟨h1, h2⟩ i hi
      by_cases q : i = m
      · rw [q]; exact h2
      · exact h1 i (by omega)
    · exact fun h => ⟨fun j hj => h j (by omega), h m (by omega)⟩
theorem f_n_iff (F : Nat → Nat) : ∀ m, f_n F m = true ↔ ∀ i, i < m → ∀ j, j < i → F i < F j + 16 ∧ F j < F i + 16 := by
  intro m
  induction m with
  | zero => exact ⟨fun _ j hj => by omega, fun _ => rfl⟩
  | succ m ih =>
    simp only [f_n, f_n1_iff, ih]
    constructor
    · intro ⟨h1, h2⟩ i hi
      by_cases q : i = m
      · rw [q]; exact h2
      · exact h1 i (by omega)
    · exact fun h => ⟨fun j hj => h j (by omega), h m (by omega)⟩
/-- the greatest and the least in natural numbers -/
theorem s_mx_nat {f : Nat → Int32} {F : Nat → Nat} (h : ∀ w, w < 8 → F w < 65536 ∧ f w = nI (F w)) : ∀ k, k < 8 → ∃ j, j ≤ k ∧ s_mx f k = nI (F j) ∧ ∀ i, i ≤ k → F i ≤ F j := by
  intro k
  induction k with
  | zero => exact fun _ => ⟨0, by omega, (h 0 (by omega)).2, fun i hi => by rw [show i = 0 by omega]; omega⟩
  | succ k ih =>
    intro hk
    obtain ⟨j, hj, e, hm⟩ := ih (by omega)
    have h1 := h j (by omega)
    have h2 := h (k + 1) hk
    rw [show s_mx f (k + 1) = if s_mx f k < f (k + 1) then f (k + 1) else s_mx f k from rfl, e, h2.2]
    by_cases q : F j < F (k + 1)
    · rw [if_pos (nI_lt q (by omega))]
      refine ⟨k + 1, by omega, rfl, fun i hi => ?_⟩
      by_cases q2 : i = k + 1
      · rw [q2]; omega
      · have := hm i (by omega); omega
    · rw [if_neg (nI_nlt (by omega) (by omega))]
      refine ⟨j, by omega, rfl, fun i hi => ?_⟩
      by_cases q2 : i = k + 1
      · rw [q2]; omega
      · exact hm i (by omega)
theorem s_mn_nat {f : Nat → Int32} {F : Nat → Nat} (h : ∀ w, w < 8 → F w < 65536 ∧ f w = nI (F w)) : ∀ k, k < 8 → ∃ j, j ≤ k ∧ s_mn f k = nI (F j) ∧ ∀ i, i ≤ k → F j ≤ F i := by
  intro k
  induction k with
  | zero => exact fun _ => ⟨0, by omega, (h 0 (by omega)).2, fun i hi => by rw [show i = 0 by omega]; omega⟩
  | succ k ih =>
    intro hk
    obtain ⟨j, hj, e, hm⟩ := ih (by omega)
    have h1 := h j (by omega)
    have h2 := h (k + 1) hk
    rw [show s_mn f (k + 1) = if f (k + 1) < s_mn f k then f (k + 1) else s_mn f k from rfl, e, h2.2]
    by_cases q : F (k + 1) < F j
    · rw [if_pos (nI_lt q (by omega))]
      refine ⟨k + 1, by omega, rfl, fun i hi => ?_⟩
      by_cases q2 : i = k + 1
      · rw [q2]; omega
      · have := hm i (by omega); omega
    · rw [if_neg (nI_nlt (by omega) (by omega))]
      refine ⟨j, by omega, rfl, fun i hi => ?_⟩
      by_cases q2 : i = k + 1
      · rw [q2]; omega
      · exact hm i (by omega)
theorem f_fm {f : Nat → Int32} {F : Nat → Nat} (h : ∀ w, w < 8 → F w < 65536 ∧ f w = nI (F w)) : s_fm f = if f_z F 8 = true then nI 0 else if f_e F 8 = true then nI 1 else if f_n F 8 = true then nI 2 else if f_s F 8 = true then nI 3 else nI 4 := by
  obtain ⟨a, ha, ea, ma⟩ := s_mx_nat h 7 (by omega)
  obtain ⟨b, hb, eb, mb⟩ := s_mn_nat h 7 (by omega)
  have h1 := h a (by omega)
  have h2 := h b (by omega)
  have hab := ma b hb
  have z0 := f_z_iff F 8
  have z1 := f_e_iff F 8
  have z2 := f_n_iff F 8
  have z3 := f_s_iff F 8
  unfold s_fm
  rw [ea, eb, pk_sub hab]
  by_cases q0 : F a = 0
  · have y0 : f_z F 8 = true := z0.mpr (fun j hj => by have := ma j (by omega); omega)
    rw [if_pos y0, q0, if_pos rfl]
  · have y0 : ¬ f_z F 8 = true := fun z => q0 (z0.mp z a (by omega))
    have x0 : ¬ nI (F a) = nI 0 := n_ne q0 (by omega) (by omega)
    rw [if_neg y0, if_neg x0]
    by_cases q1 : F b = F a
    · have y1 : f_e F 8 = true := z1.mpr (fun i hi j hj => by have := ma i (by omega); have := ma j (by omega); have := mb i (by omega); have := mb j (by omega); omega)
      rw [if_pos y1, q1, if_pos rfl]
    · have hne : ¬ a = b := fun z => q1 (by rw [z])
      have y1 : ¬ f_e F 8 = true := fun z => q1 (by
        by_cases q : a < b
        · exact z1.mp z b (by omega) a q
        · exact (z1.mp z a (by omega) b (by omega)).symm)
      have x1 : ¬ nI (F b) = nI (F a) := n_ne q1 (by omega) (by omega)
      rw [if_neg y1, if_neg x1]
      by_cases q2 : 15 < F a - F b
      · have y2 : ¬ f_n F 8 = true := fun z => by
          by_cases q : a < b
          · have := z2.mp z b (by omega) a q; omega
          · have := z2.mp z a (by omega) b (by omega); omega
        have x2 : nI 15 < nI (F a - F b) := nI_lt q2 (by omega)
        rw [if_neg y2, if_pos x2]
        by_cases q3 : 255 < F a
        · have y3 : ¬ f_s F 8 = true := fun z => by have := z3.mp z a (by omega); omega
          have x3 : nI 255 < nI (F a) := nI_lt q3 (by omega)
          rw [if_neg y3, if_pos x3]
        · have y3 : f_s F 8 = true := z3.mpr (fun j hj => by have := ma j (by omega); omega)
          have x3 : ¬ nI 255 < nI (F a) := nI_nlt (by omega) (by omega)
          rw [if_pos y3, if_neg x3]
      · have y2 : f_n F 8 = true := z2.mpr (fun i hi j hj => by have := ma i (by omega); have := ma j (by omega); have := mb i (by omega); have := mb j (by omega); omega)
        have x2 : ¬ nI 15 < nI (F a - F b) := nI_nlt (by omega) (by omega)
        rw [if_pos y2, if_neg x2]
section FO
variable {a na l : Nat} {F : Nat → Nat}
theorem l_fi {m t : Nat} {z s n r : Bool} (ha : (w_sh L ps rest)[a]? = some (0, na, [])) (hna : 64 ≤ na) (hl : l < 8) (hF : ∀ w, w < 8 → F w < 65536 ∧ c a (8 * l + w) = nI (F w)) (hm : m < 8) (ht : t < m) : mj_EV 95 73 [some (.int (nI l)), some (.ref a), some (.int (bI z)), some (.int (bI s)), some (.int (bI n)), some (.int (bI r)), some (.int (nI (8 * l + m))), some (.int (nI (8 * l + t)))] [] (w_sh L ps rest) c = mj_EV 95 73 [some (.int (nI l)), some (.ref a), some (.int (bI z)), some (.int (bI (s && decide (F m = F t)))), some (.int (bI (n && (decide (F m < F t + 16) && decide (F t < F m + 16))))), some (.int (bI r)), some (.int (nI (8 * l + m))), some (.int (nI (8 * l + (t + 1))))] [] (w_sh L ps rest) c := by
  have hFm := hF m hm
  have hFt := hF t (by omega)
  have hA : mj_EV 95 73 [some (.int (nI l)), some (.ref a), some (.int (bI z)), some (.int (bI s)), some (.int (bI n)), some (.int (bI r)), some (.int (nI (8 * l + m))), some (.int (nI (8 * l + t)))] [] (w_sh L ps rest) c = mj_EV 95 100 [some (.int (nI l)), some (.ref a), some (.int (bI z)), some (.int (bI s)), some (.int (bI n)), some (.int (bI r)), some (.int (nI (8 * l + m))), some (.int (nI (8 * l + t)))] [.int (bI (s && decide (F m = F t)))] (w_sh L ps rest) c := by
    rw [e95_73 ha, if_neg (nI_ge (by omega) (by omega))]
    cases s with
    | false => rw [if_pos bI_f, e95_99 ha]; rfl
    | true =>
      rw [if_neg (by decide), mj_in_nI (by omega), mj_in_nI (by omega), if_pos (decide_eq_true (by omega)), if_pos (decide_eq_true (by omega)), nI_clamp (by omega), nI_clamp (by omega), hFm.2, hFt.2]
      by_cases q : F m = F t
      · rw [if_pos (by rw [q]), decide_eq_true q]; rfl
      · rw [if_neg (n_ne q (by omega) (by omega)), e95_99 ha, decide_eq_false q]; rfl
  rw [hA, e95_100 ha]
  cases n with
  | false => rw [if_pos bI_f, nI_add]; rfl
  | true =>
    rw [if_neg (by decide), mj_in_nI (by omega), mj_in_nI (by omega), if_pos (decide_eq_true (by omega)), if_pos (decide_eq_true (by omega)), nI_clamp (by omega), nI_clamp (by omega), hFm.2, hFt.2, if_pos (decide_eq_true (by omega)), if_pos (decide_eq_true (by omega)), nI_add]
    by_cases q1 : F t + 16 ≤ F m
    · rw [if_pos (n_sp q1 (by omega) (by omega) (by omega)), decide_eq_false (by omega : ¬ F m < F t + 16)]; rfl
    · rw [if_neg (n_sn q1 (by omega) (by omega) (by omega)), decide_eq_true (by omega : F m < F t + 16)]
      by_cases q2 : F m + 16 ≤ F t
      · rw [if_pos (n_sp q2 (by omega) (by omega) (by omega)), decide_eq_false (by omega : ¬ F t < F m + 16)]; rfl
      · rw [if_neg (n_sn q2 (by omega) (by omega) (by omega)), decide_eq_true (by omega : F t < F m + 16)]; rfl
theorem l_fj {m : Nat} {z r : Bool} (ha : (w_sh L ps rest)[a]? = some (0, na, [])) (hna : 64 ≤ na) (hl : l < 8) (hF : ∀ w, w < 8 → F w < 65536 ∧ c a (8 * l + w) = nI (F w)) (hm : m < 8) : ∀ k t, t + k = m → mj_EV 95 73 [some (.int (nI l)), some (.ref a), some (.int (bI z)), some (.int (bI (f_e1 F m (f_e F m) t))), some (.int (bI (f_n1 F m (f_n F m) t))), some (.int (bI r)), some (.int (nI (8 * l + m))), some (.int (nI (8 * l + t)))] [] (w_sh L ps rest) c = mj_EV 95 16 [some (.int (nI l)), some (.ref a), some (.int (bI z)), some (.int (bI (f_e F (m + 1)))), some (.int (bI (f_n F (m + 1)))), some (.int (bI r)), some (.int (nI (8 * l + (m + 1)))), some (.int (nI (8 * l + m)))] [] (w_sh L ps rest) c := by
  intro k
  induction k with
  | zero =>
    intro t ht
    have ht : t = m := ht
    subst ht
    rw [e95_73 ha, if_pos (Int32.le_refl _), nI_add]
    rfl
  | succ k ih =>
    intro t ht
    rw [l_fi ha hna hl hF hm (by omega)]
    exact ih (t + 1) (by omega)
theorem l_fh (ha : (w_sh L ps rest)[a]? = some (0, na, [])) (hna : 64 ≤ na) (hl : l < 8) (hF : ∀ w, w < 8 → F w < 65536 ∧ c a (8 * l + w) = nI (F w)) : ∀ k m o, m + k = 8 → mj_EV 95 16 [some (.int (nI l)), some (.ref a), some (.int (bI (f_z F m))), some (.int (bI (f_e F m))), some (.int (bI (f_n F m))), some (.int (bI (f_s F m))), some (.int (nI (8 * l + m))), o] [] (w_sh L ps rest) c = some (some (.int (if f_z F 8 = true then nI 0 else if f_e F 8 = true then nI 1 else if f_n F 8 = true then nI 2 else if f_s F 8 = true then nI 3 else nI 4)), w_sh L ps rest, c) := by
  intro k
  induction k with
  | zero =>
    intro m o hm
    have hm : m = 8 := hm
    subst hm
    rw [e95_16 ha, pk_mul, nI_add, if_pos (Int32.le_refl _)]
    cases f_z F 8 with
    | true => rw [if_neg (by decide)]; rfl
    | false =>
      rw [if_pos bI_f]
      cases f_e F 8 with
      | true => rw [if_neg (by decide)]; rfl
      | false =>
        rw [if_pos bI_f]
        cases f_n F 8 with
        | true => rw [if_neg (by decide)]; rfl
        | false =>
          rw [if_pos bI_f]
          cases f_s F 8 with
          | true => rw [if_neg (by decide)]; rfl
          | false => rw [if_pos bI_f]; rfl
  | succ k ih =>
    intro m o hm
    have hFm := hF m (by omega)
    have hA : mj_EV 95 16 [some (.int (nI l)), some (.ref a), some (.int (bI (f_z F m))), some (.int (bI (f_e F m))), some (.int (bI (f_n F m))), some (.int (bI (f_s F m))), some (.int (nI (8 * l + m))), o] [] (w_sh L ps rest) c = mj_EV 95 44 [some (.int (nI l)), some (.ref a), some (.int (bI (f_z F m))), some (.int (bI (f_e F m))), some (.int (bI (f_n F m))), some (.int (bI (f_s F m))), some (.int (nI (8 * l + m))), o] [.int (bI (f_z F (m + 1)))] (w_sh L ps rest) c := by
      rw [e95_16 ha, pk_mul, nI_add, if_neg (nI_ge (by omega) (by omega)), show f_z F (m + 1) = (f_z F m && decide (F m = 0)) from rfl]
      cases f_z F m with
      | false => rw [if_pos bI_f, e95_43 ha]; rfl
      | true =>
        rw [if_neg (by decide), mj_in_nI (by omega), if_pos (decide_eq_true (by omega)), nI_clamp (by omega), hFm.2]
        by_cases q : F m = 0
        · rw [if_pos (by rw [q]), decide_eq_true q]; rfl
        · rw [if_neg (n_ne q (by omega) (by omega)), e95_43 ha, decide_eq_false q]; rfl
    have hB : mj_EV 95 44 [some (.int (nI l)), some (.ref a), some (.int (bI (f_z F m))), some (.int (bI (f_e F m))), some (.int (bI (f_n F m))), some (.int (bI (f_s F m))), some (.int (nI (8 * l + m))), o] [.int (bI (f_z F (m + 1)))] (w_sh L ps rest) c = mj_EV 95 73 [some (.int (nI l)), some (.ref a), some (.int (bI (f_z F (m + 1)))), some (.int (bI (f_e F m))), some (.int (bI (f_n F m))), some (.int (bI (f_s F (m + 1)))), some (.int (nI (8 * l + m))), some (.int (nI (8 * l)))] [] (w_sh L ps rest) c := by
      rw [e95_44 ha, pk_mul, show f_s F (m + 1) = (f_s F m && decide (F m < 256)) from rfl]
      cases f_s F m with
      | false => rw [if_pos bI_f]; rfl
      | true =>
        rw [if_neg (by decide), mj_in_nI (by omega), if_pos (decide_eq_true (by omega)), nI_clamp (by omega), hFm.2]
        by_cases q : 256 ≤ F m
        · rw [if_pos (nI_le q (by omega)), decide_eq_false (by omega : ¬ F m < 256)]; rfl
        · rw [if_neg (nI_ge (by omega) (by omega)), decide_eq_true (by omega : F m < 256)]; rfl
    rw [hA, hB]
    have hC := l_fj (z := f_z F (m + 1)) (r := f_s F (m + 1)) ha hna hl hF (by omega : m < 8) m 0 (by omega)
    exact hC.trans (ih (m + 1) _ (by omega))
end FO
theorem l_form {a na l : Nat} (ha : (w_sh L ps rest)[a]? = some (0, na, [])) (hna : 64 ≤ na) (hok : s_okw (c a)) (hl : l < 8) : mj_EV 95 0 [some (.int (nI l)), some (.ref a), none, none, none, none, none, none] [] (w_sh L ps rest) c = some (some (.int (s_PF (c a) l)), w_sh L ps rest, c) := by
  obtain ⟨F, hF⟩ : ∃ F : Nat → Nat, ∀ w, w < 8 → F w < 65536 ∧ c a (8 * l + w) = nI (F w) := by
    refine ⟨fun w => (c a (8 * l + w)).toNatClampNeg, fun w hw => ?_⟩
    obtain ⟨n, hn, e⟩ := hok (8 * l + w) (by omega)
    show (c a (8 * l + w)).toNatClampNeg < 65536 ∧ c a (8 * l + w) = nI (c a (8 * l + w)).toNatClampNeg
    rw [e, nI_clamp (by omega)]
    exact ⟨hn, rfl⟩
  rw [e95_0 ha, show s_PF (c a) l = s_fm (fun w => c a (8 * l + w)) from rfl, f_fm hF, pk_mul]
  exact l_fh ha hna hl hF 8 0 none (by omega)
theorem l_beside {a na : Nat} {s : Int32} (ha : (w_sh L ps rest)[a]? = some (0, na, [])) (hna : 64 ≤ na) (hok : s_okw (c a)) : mj_EV 97 0 [some (.int s), some (.ref a), none, none] [] (w_sh L ps rest) c = some (some (.int (s_mk (s_PF (c a)) s 8)), w_sh L ps rest, c) := by
  have key : ∀ n k : Nat, k + n = 8 → mj_EV 97 4 [some (.int s), some (.ref a), some (.int (s_mk (s_PF (c a)) s k)), some (.int (nI k))] [] (w_sh L ps rest) c = some (some (.int (s_mk (s_PF (c a)) s 8)), w_sh L ps rest, c) := by
    intro n
    induction n with
    | zero =>
      intro k hk
      have hk : k = 8 := hk
      subst hk
      rw [e97_4 ha, if_pos (Int32.le_refl _)]
    | succ n ih =>
      intro k hk
      obtain ⟨f, hf, ef⟩ := s_fo_PF (c a) k (by omega)
      have h2 := ih (k + 1) (by omega)
      rw [show s_mk (s_PF (c a)) s (k + 1) = if s < s_sz (s_PF (c a) k) then s_mk (s_PF (c a)) s k ||| (nI 1 <<< (nI k &&& 31)) else s_mk (s_PF (c a)) s k from rfl, ef, s_sz_nI hf] at h2
      rw [e97_4 ha, if_neg (nI_ge (by omega) (by omega)), l_form ha hna hok (by omega), mj_then_i, e97_16 ha, ef, l_size hf, mj_then_i, e97_19 ha, nI_add, nI_orz]
      by_cases q : w_fs f ≤ s
      · rw [if_neg (Int32.not_lt.mpr q)] at h2
        rw [if_pos q]
        exact h2
      · rw [if_pos (Int32.not_le.mp q)] at h2
        rw [if_neg q]
        exact h2
  rw [e97_0 ha]
  exact key 8 0 (by omega)
def p_pc : Nat → Int32 → Int32 → Option Int32
  | 0, _, _ => none
  | n + 1, a, x => if x = nI 0 then some a else p_pc n (a + nI 1) (x &&& (x - nI 1))
theorem l_pc {x0 : Int32} : ∀ (n : Nat) (a x r : Int32), p_pc n a x = some r → mj_EV 98 4 [some (.int x0), some (.int a), some (.int x)] [] (w_sh L ps rest) c = some (some (.int r), w_sh L ps rest, c) := by
  intro n
  induction n with
  | zero => intro a x r h; cases h
  | succ n ih =>
    intro a x r h
    simp only [p_pc] at h
    by_cases q : x = nI 0
    · rw [if_pos q] at h
      cases h
      rw [e98_4, if_pos q]
    · rw [if_neg q] at h
      rw [e98_4, if_neg q]
      exact ih _ _ _ h
set_option maxRecDepth 100000 in
theorem p_pc_all : ∀ b0 b1 b2 b3 b4 b5 b6 b7 : Bool, p_pc 9 (nI 0) (s_b8m (s_b8 b0 b1 b2 b3 b4 b5 b6 b7) 8) = some (nI (s_b8c (s_b8 b0 b1 b2 b3 b4 b5 b6 b7) 8)) := by decide +kernel
theorem l_ones {F : Nat → Int32} {s : Int32} : mj_EV 98 0 [some (.int (s_mk F s 8)), none, none] [] (w_sh L ps rest) c = some (some (.int (s_ct F s 8)), w_sh L ps rest, c) := by
  rw [e98_0]
  refine l_pc 9 _ _ _ ?_
  rw [(s_mk_b F s 8).1, (s_mk_b F s 8).2]
  obtain ⟨h1, h2⟩ := s_b8m_congr 8 (s_b8_of (fun k => decide (s < s_sz (F k))))
  rw [h1, h2]
  exact p_pc_all _ _ _ _ _ _ _ _
theorem l_units {a na : Nat} {s : Int32} (ha : (w_sh L ps rest)[a]? = some (0, na, [])) (hna : 64 ≤ na) (hok : s_okw (c a)) : mj_EV 99 0 [some (.int s), some (.ref a)] [] (w_sh L ps rest) c = some (some (.int (s_pz (s_PF (c a)) s)), w_sh L ps rest, c) := by
  rw [e99_0 ha, l_beside ha hna hok, mj_then_i, e99_9 ha, l_ones, mj_then_i, e99_12 ha, Int32.mul_add, ← Int32.add_assoc]
  rfl
theorem l_best {a na r : Nat} (ha : (w_sh L ps rest)[a]? = some (0, na, [])) (hna : 64 ≤ na) (hok : s_okw (c a)) (hr : r ≤ 8) : mj_EV 100 0 [some (.int (nI r)), some (.ref a), none, none] [] (w_sh L ps rest) c = some (some (.int (s_bs (s_PF (c a)) (nI r))), w_sh L ps rest, c) := by
  have hF := s_fo_PF (c a)
  have step : ∀ k : Nat, k < 4 → ∀ m, m < 5 → s_be (s_PF (c a)) r (fun j => k < j ∧ j < 5) m → ∃ m', m' < 5 ∧ s_be (s_PF (c a)) r (fun j => k ≤ j ∧ j < 5) m' ∧ mj_EV 100 5 [some (.int (nI r)), some (.ref a), some (.int (w_fs m)), some (.int (nI k))] [] (w_sh L ps rest) c = mj_EV 100 5 [some (.int (nI r)), some (.ref a), some (.int (w_fs m')), some (.int (nI k + (-1)))] [] (w_sh L ps rest) c := by
    intro k hk m hm hb
    have c1 := s_co_lt (s_PF (c a)) m
    have c2 := s_co_lt (s_PF (c a)) k
    have e : mj_EV 100 5 [some (.int (nI r)), some (.ref a), some (.int (w_fs m)), some (.int (nI k))] [] (w_sh L ps rest) c = mj_EV 100 20 [some (.int (nI r)), some (.ref a), some (.int (w_fs m)), some (.int (nI k))] [.int (s_ct (s_PF (c a)) (w_fs k) 8)] (w_sh L ps rest) c := by
      rw [e100_5 ha, if_neg (nI_nlt (by omega) (by omega)), l_size (by omega), mj_then_i, e100_13 ha, l_beside ha hna hok, mj_then_i, e100_17 ha, l_ones, mj_then_i]
    by_cases q : nI r < s_ct (s_PF (c a)) (w_fs k) 8
    · have q' := (s_ct_fe hr).mp q
      refine ⟨m, hm, ⟨hb.1, fun j hj hf => ?_⟩, ?_⟩
      · by_cases hj2 : j = k
        · subst hj2; omega
        · exact hb.2 j ⟨by omega, hj.2⟩ hf
      · rw [e, e100_20 ha, if_pos q]
    · have q' : ¬ r < s_cn (s_PF (c a)) (w_fs k) := fun z => q ((s_ct_fe hr).mpr z)
      have e2 : mj_EV 100 5 [some (.int (nI r)), some (.ref a), some (.int (w_fs m)), some (.int (nI k))] [] (w_sh L ps rest) c = mj_EV 100 37 [some (.int (nI r)), some (.ref a), some (.int (w_fs m)), some (.int (nI k))] [.int (nI (s_co (s_PF (c a)) m)), .int (nI (s_co (s_PF (c a)) k))] (w_sh L ps rest) c := by
        rw [e, e100_20 ha, if_neg q, l_size (by omega), mj_then_i, e100_28 ha, l_units ha hna hok, mj_then_i, e100_32 ha, l_units ha hna hok, mj_then_i, s_pz_co hm, s_pz_co (k := k) (by omega)]
      by_cases q2 : s_co (s_PF (c a)) m < s_co (s_PF (c a)) k
      · refine ⟨m, hm, ⟨hb.1, fun j hj hf => ?_⟩, ?_⟩
        · by_cases hj2 : j = k
          · subst hj2; omega
          · exact hb.2 j ⟨by omega, hj.2⟩ hf
        · rw [e2, e100_37 ha, if_pos (nI_lt q2 (by omega))]
      · refine ⟨k, by omega, ⟨by omega, fun j hj hf => ?_⟩, ?_⟩
        · by_cases hj2 : j = k
          · subst hj2; omega
          · have h3 := hb.2 j ⟨by omega, hj.2⟩ hf
            omega
        · rw [e2, e100_37 ha, if_neg (nI_nlt (by omega) (by omega)), l_size (by omega), mj_then_i, e100_44 ha]
  have key : ∀ k : Nat, k < 4 → ∀ m, m < 5 → s_be (s_PF (c a)) r (fun j => k < j ∧ j < 5) m → mj_EV 100 5 [some (.int (nI r)), some (.ref a), some (.int (w_fs m)), some (.int (nI k))] [] (w_sh L ps rest) c = some (some (.int (s_bs (s_PF (c a)) (nI r))), w_sh L ps rest, c) := by
    intro k
    induction k with
    | zero =>
      intro hk m hm hb
      obtain ⟨m', hm', hb', e⟩ := step 0 hk m hm hb
      obtain ⟨m2, hm2, e2, hb2⟩ := s_bs_spec hF hr
      have : m' = m2 := s_be_u hm' hm2 ⟨hb'.1, fun j hj hf => hb'.2 j ⟨by omega, hj⟩ hf⟩ hb2
      rw [e, e100_5 ha, if_pos (by decide), e2, this]
    | succ k ih =>
      intro hk m hm hb
      obtain ⟨m', hm', hb', e⟩ := step (k + 1) hk m hm hb
      rw [e, pk_m1]
      exact ih (by omega) m' hm' ⟨hb'.1, fun j hj hf => hb'.2 j ⟨by omega, hj.2⟩ hf⟩
  have e4 := s_cn_4 hF
  rw [e100_0 ha]
  exact key 3 (by omega) 4 (by omega) ⟨by omega, fun j hj hf => by
    have : j = 4 := by omega
    subst this
    omega⟩
end LH
