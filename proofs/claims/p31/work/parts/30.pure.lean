/-! PURE FROM HERE ON. Words for the state: g is the reference's row of numbers -/
theorem mj_in_nI {a n : Nat} (h : a < 2 ^ 31) : mj_in (nI a) n = decide (a < n) := by
  unfold mj_in
  rw [nI_clamp h]
  have h1 : ¬ (nI a < 0) := nI_pos h
  by_cases hn : a < n
  · have h2 : ¬ n ≤ a := by omega
    simp [h1, hn, h2]
  · have h2 : n ≤ a := by omega
    simp [h1, hn, h2]
theorem nI_lt0 {a : Nat} (h : a < 2 ^ 31) : ¬ (nI a < (0 : Int32)) := nI_pos h
theorem nI_0' : (0 : Int32) = nI 0 := rfl
theorem nI_addz (x : Int32) : x + nI 0 = x := by rw [nI_0]; exact Int32.add_zero x
theorem nI_orz (x : Int32) : x ||| nI 0 = x := by rw [nI_0]; exact Int32.or_zero
/-- the least of the first k + 1, the greatest, the form of a line -/
def s_mn (f : Nat → Int32) : Nat → Int32
  | 0 => f 0
  | k + 1 => if f (k + 1) < s_mn f k then f (k + 1) else s_mn f k
def s_mx (f : Nat → Int32) : Nat → Int32
  | 0 => f 0
  | k + 1 => if s_mx f k < f (k + 1) then f (k + 1) else s_mx f k
def s_fm (f : Nat → Int32) : Int32 := if s_mx f 7 = nI 0 then nI 0 else if s_mn f 7 = s_mx f 7 then nI 1 else if nI 15 < s_mx f 7 - s_mn f 7 then (if nI 255 < s_mx f 7 then nI 4 else nI 3) else nI 2
theorem s_fm_cases (f : Nat → Int32) : ∃ k, k < 5 ∧ s_fm f = nI k := by
  unfold s_fm
  split
  · exact ⟨0, by decide, rfl⟩
  · split
    · exact ⟨1, by decide, rfl⟩
    · split
      · split
        · exact ⟨4, by decide, rfl⟩
        · exact ⟨3, by decide, rfl⟩
      · exact ⟨2, by decide, rfl⟩
/-- the size of a form; how many of the first k lines are larger than a slot, and which -/
def s_sz (x : Int32) : Int32 := w_fs x.toNatClampNeg
def s_ct (F : Nat → Int32) (s : Int32) : Nat → Int32
  | 0 => nI 0
  | k + 1 => if s < s_sz (F k) then s_ct F s k + nI 1 else s_ct F s k
def s_mk (F : Nat → Int32) (s : Int32) : Nat → Int32
  | 0 => nI 0
  | k + 1 => if s < s_sz (F k) then s_mk F s k ||| (nI 1 <<< (nI k &&& 31)) else s_mk F s k
def s_on (x : Int32) : Nat → Int32
  | 0 => nI 0
  | k + 1 => s_on x k + ((x >>> (nI k &&& 31)) &&& nI 1)
def s_pz (F : Nat → Int32) (s : Int32) : Int32 := (nI 1 + nI 8 * s) + nI 8 * s_ct F s 8
/-- the best slot, as the reference finds it: after k forms -/
def s_bm (F : Nat → Int32) (room : Int32) : Nat → Int32
  | 0 => (-6)
  | k + 1 => if room < s_ct F (w_fs k) 8 then s_bm F room k else if s_bm F room k = (-6) then w_fs k else if s_pz F (s_bm F room k) ≤ s_pz F (w_fs k) then s_bm F room k else w_fs k
def s_bs (F : Nat → Int32) (room : Int32) : Int32 := s_bm F room 5
/-- a line's words, a page's forms, the sum of the first k pages -/
def s_wd (g : Nat → Int32) (p l : Nat) : Nat → Int32 := fun w => g (34 + 64 * p + 8 * l + w)
def s_F (g : Nat → Int32) (p : Nat) : Nat → Int32 := fun l => s_fm (s_wd g p l)
def s_sum (g : Nat → Int32) : Nat → Int32
  | 0 => nI 0
  | k + 1 => if g (6 + 2 * k) = nI 1 then s_sum g k + s_pz (s_F g k) (g (7 + 2 * k)) else s_sum g k
/-- all words lie in their range -/
def s_ok (g : Nat → Int32) : Prop := ∀ j, j < 640 → ∃ n, n < 65536 ∧ g (34 + j) = nI n
/-! with eight truth values -/
def s_b8m (b : Nat → Bool) : Nat → Int32
  | 0 => nI 0
  | k + 1 => if b k = true then s_b8m b k ||| (nI 1 <<< (nI k &&& 31)) else s_b8m b k
def s_b8c (b : Nat → Bool) : Nat → Nat
  | 0 => 0
  | k + 1 => if b k = true then s_b8c b k + 1 else s_b8c b k
def s_b8 (b0 b1 b2 b3 b4 b5 b6 b7 : Bool) : Nat → Bool
  | 0 => b0
  | 1 => b1
  | 2 => b2
  | 3 => b3
  | 4 => b4
  | 5 => b5
  | 6 => b6
  | _ => b7
theorem s_b8m_congr {b b' : Nat → Bool} : ∀ n, (∀ k, k < n → b k = b' k) → s_b8m b n = s_b8m b' n ∧ s_b8c b n = s_b8c b' n := by
  intro n
  induction n with
  | zero => intro _; exact ⟨rfl, rfl⟩
  | succ n ih =>
    intro h
    obtain ⟨h1, h2⟩ := ih (fun k hk => h k (by omega))
    simp only [s_b8m, s_b8c, h n (by omega), h1, h2, and_self]
theorem s_b8_of (b : Nat → Bool) : ∀ k, k < 8 → b k = s_b8 (b 0) (b 1) (b 2) (b 3) (b 4) (b 5) (b 6) (b 7) k := by
  intro k hk
  match k, hk with
  | 0, _ => rfl
  | 1, _ => rfl
  | 2, _ => rfl
  | 3, _ => rfl
  | 4, _ => rfl
  | 5, _ => rfl
  | 6, _ => rfl
  | 7, _ => rfl
  | k + 8, h => omega
set_option maxRecDepth 100000 in
theorem s_b8_all : ∀ b0 b1 b2 b3 b4 b5 b6 b7 : Bool, s_on (s_b8m (s_b8 b0 b1 b2 b3 b4 b5 b6 b7) 8) 8 = nI (s_b8c (s_b8 b0 b1 b2 b3 b4 b5 b6 b7) 8) ∧ (∀ l, l < 8 → (s_b8m (s_b8 b0 b1 b2 b3 b4 b5 b6 b7) 8 >>> (nI l &&& 31)) &&& nI 1 = if s_b8 b0 b1 b2 b3 b4 b5 b6 b7 l = true then nI 1 else nI 0) := by decide +kernel
theorem s_b8_one (b : Nat → Bool) : s_on (s_b8m b 8) 8 = nI (s_b8c b 8) := by
  obtain ⟨h1, h2⟩ := s_b8m_congr 8 (s_b8_of b)
  rw [h1, h2]
  exact (s_b8_all _ _ _ _ _ _ _ _).1
theorem s_b8_bit (b : Nat → Bool) {l : Nat} (hl : l < 8) : (s_b8m b 8 >>> (nI l &&& 31)) &&& nI 1 = if b l = true then nI 1 else nI 0 := by
  obtain ⟨h1, h2⟩ := s_b8m_congr 8 (s_b8_of b)
  rw [h1, s_b8_of b l hl]
  exact (s_b8_all _ _ _ _ _ _ _ _).2 l hl
theorem s_mk_b (F : Nat → Int32) (s : Int32) : ∀ n, s_mk F s n = s_b8m (fun k => decide (s < s_sz (F k))) n ∧ s_ct F s n = nI (s_b8c (fun k => decide (s < s_sz (F k))) n) := by
  intro n
  induction n with
  | zero => exact ⟨rfl, rfl⟩
  | succ n ih =>
    obtain ⟨h1, h2⟩ := ih
    simp only [s_mk, s_ct, s_b8m, s_b8c, h1, h2, decide_eq_true_eq]
    refine ⟨trivial, ?_⟩
    split
    · rw [nI_add]
    · rfl
theorem s_one (F : Nat → Int32) (s : Int32) : s_on (s_mk F s 8) 8 = s_ct F s 8 := by
  rw [(s_mk_b F s 8).1, (s_mk_b F s 8).2, s_b8_one]
theorem s_bit (F : Nat → Int32) (s : Int32) {l : Nat} (hl : l < 8) : (s_mk F s 8 >>> (nI l &&& 31)) &&& nI 1 = if s < s_sz (F l) then nI 1 else nI 0 := by
  rw [(s_mk_b F s 8).1, s_b8_bit _ hl]
  simp only [decide_eq_true_eq]
theorem s_b8c_le (b : Nat → Bool) : ∀ n, s_b8c b n ≤ n := by
  intro n
  induction n with
  | zero => exact Nat.le_refl 0
  | succ n ih =>
    simp only [s_b8c]
    split <;> omega
/-- a count is a small number -/
theorem s_ct_nat (F : Nat → Int32) (s : Int32) : ∃ n, n ≤ 8 ∧ s_ct F s 8 = nI n := ⟨_, s_b8c_le _ 8, (s_mk_b F s 8).2⟩
