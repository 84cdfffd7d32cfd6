/-! THE REFERENCE's methods that change the state -/
def s_set (c : mj_C) (a : Nat) (f : Nat → Int32) : mj_C := fun b k => if b = a then f k else c b k
theorem s_set_eq (c : mj_C) (a : Nat) (f : Nat → Int32) : s_set c a f a = f := by funext k; simp [s_set]
theorem s_set_ne (c : mj_C) {a b : Nat} (f : Nat → Int32) (h : b ≠ a) : s_set c a f b = c b := by funext k; simp [s_set, h]
theorem s_set_set (c : mj_C) (a : Nat) (f f' : Nat → Int32) : s_set (s_set c a f) a f' = s_set c a f' := by
  funext b k
  simp only [s_set]
  split <;> rfl
theorem s_set_self (c : mj_C) (a : Nat) : s_set c a (c a) = c := by
  funext b k
  simp only [s_set]
  split
  · rename_i h; rw [h]
  · rfl
theorem s_u (c : mj_C) (a j : Nat) (x : Int32) : mj_u c a j x = s_set c a (upd (c a) j x) := by
  funext b k
  simp only [mj_u, s_set, upd]
  by_cases h : b = a
  · subst h
    by_cases h2 : k = j <;> simp [h2]
  · simp [h]
theorem s_cp_in {c : mj_C} {a0 a1 sp dp n k : Nat} (h1 : dp ≤ k) (h2 : k < dp + n) : mj_cp c a0 a1 sp dp n a1 k = c a0 (sp + (k - dp)) := by
  simp only [mj_cp]
  rw [if_pos ⟨trivial, h1, h2⟩]
theorem s_cp_out {c : mj_C} {a0 a1 sp dp n k : Nat} (h : k < dp ∨ dp + n ≤ k) : mj_cp c a0 a1 sp dp n a1 k = c a1 k := by
  simp only [mj_cp]
  rw [if_neg (by intro q; omega)]
/-- a line gets words; a page is laid anew; a page is laid anew if too many of its lines are beside -/
def s_put (g : Nat → Int32) (p l : Nat) (f : Nat → Int32) (n : Nat) : Nat → Int32 := fun j => if 34 + 64 * p + 8 * l ≤ j ∧ j < 34 + 64 * p + 8 * l + n then f (j - (34 + 64 * p + 8 * l)) else g j
def s_lay (g : Nat → Int32) (p : Nat) : Nat → Int32 := upd g (7 + 2 * p) (s_bs (s_F g p) (g 0))
def s_keep (g : Nat → Int32) (p : Nat) : Nat → Int32 := if s_ct (s_F g p) (g (7 + 2 * p)) 8 ≤ g 0 then g else upd (s_lay g p) 5 (g 5 + nI 1)
def s_putk (g : Nat → Int32) (p l : Nat) (f : Nat → Int32) : Nat → Int32 := s_keep (s_put g p l f 8) p
def s_sr (g : Nat → Int32) : Nat → Nat → Int32
  | 0 => g
  | k + 1 => if s_sr g k (6 + 2 * k) = nI 1 then s_keep (s_sr g k) k else s_sr g k
def s_la (g : Nat → Int32) : Nat → Nat → Int32
  | 0 => g
  | k + 1 => if s_la g k (6 + 2 * k) = nI 1 then s_lay (s_la g k) k else s_la g k
theorem s_upd_ne {f : Nat → Int32} {k j : Nat} {x : Int32} (h : j ≠ k) : upd f k x j = f j := by simp [upd, h]
theorem s_upd_eq {f : Nat → Int32} {k : Nat} {x : Int32} : upd f k x k = x := by simp [upd]
theorem s_F_congr {g g' : Nat → Int32} {p l : Nat} (h : ∀ j, 34 ≤ j → g' j = g j) : s_F g' p l = s_F g p l := by
  unfold s_F
  congr 1
  funext w
  exact h _ (by omega)
theorem s_F_congrF {g g' : Nat → Int32} {p : Nat} (h : ∀ j, 34 ≤ j → g' j = g j) : s_F g' p = s_F g p := funext fun l => s_F_congr h
theorem s_ok_congr {g g' : Nat → Int32} (h : ∀ j, 34 ≤ j → g' j = g j) (hok : s_ok g) : s_ok g' := fun j hj => by rw [h _ (by omega)]; exact hok j hj
theorem s_lay_hi {g : Nat → Int32} {p : Nat} (hp : p < 10) : ∀ j, 34 ≤ j → s_lay g p j = g j := fun j hj => s_upd_ne (by omega)
theorem s_keep_hi {g : Nat → Int32} {p : Nat} (hp : p < 10) : ∀ j, 34 ≤ j → s_keep g p j = g j := by
  intro j hj
  unfold s_keep
  split
  · rfl
  · rw [s_upd_ne (by omega), s_lay_hi hp j hj]
theorem s_sr_hi {g : Nat → Int32} : ∀ n, n ≤ 10 → ∀ j, 34 ≤ j → s_sr g n j = g j := by
  intro n
  induction n with
  | zero => intro _ j _; rfl
  | succ n ih =>
    intro hn j hj
    rw [s_sr]
    split
    · rw [s_keep_hi (by omega) j hj, ih (by omega) j hj]
    · exact ih (by omega) j hj
theorem s_la_hi {g : Nat → Int32} : ∀ n, n ≤ 10 → ∀ j, 34 ≤ j → s_la g n j = g j := by
  intro n
  induction n with
  | zero => intro _ j _; rfl
  | succ n ih =>
    intro hn j hj
    rw [s_la]
    split
    · rw [s_lay_hi (by omega) j hj, ih (by omega) j hj]
    · exact ih (by omega) j hj
theorem s_putk_far {g f : Nat → Int32} {p l : Nat} (hp : p < 10) (hl : l < 8) : ∀ j, 674 ≤ j → s_putk g p l f j = g j := by
  intro j hj
  unfold s_putk
  rw [s_keep_hi hp j (by omega)]
  unfold s_put
  rw [if_neg (by omega)]
theorem s_put_ok {g f : Nat → Int32} {p l n : Nat} (hn : n ≤ 8) (hok : s_ok g) (hf : ∀ w, w < 8 → ∃ v, v < 65536 ∧ f w = nI v) : s_ok (s_put g p l f n) := by
  intro j hj
  unfold s_put
  split
  · exact hf _ (by omega)
  · exact hok j hj
section MD2
variable {L : Nat} {ps : List (Option (Option Nat))} {c : mj_C}
/-- the state is kept aside -/
def s_kp (c : mj_C) : mj_C := mj_cp c 53 54 0 0 674
theorem s_kp_ne (c : mj_C) {b : Nat} (h : b ≠ 54) : s_kp c b = c b := mj_cp_ne c _ _ _ _ _ h
theorem s_back {c : mj_C} {g : Nat → Int32} (hg : ∀ j, 674 ≤ j → g j = c 53 j) : mj_cp (s_set (s_kp c) 53 g) 54 53 0 0 674 = s_kp c := by
  funext b k
  by_cases hb : b = 53
  · subst hb
    rw [s_kp_ne c (by decide : 53 ≠ 54)]
    by_cases hk : k < 674
    · rw [s_cp_in (by omega) (by omega), s_set_ne _ _ (by decide : 54 ≠ 53)]
      unfold s_kp
      rw [s_cp_in (by omega) (by omega)]
      congr 1
      omega
    · rw [s_cp_out (by omega), s_set_eq]
      exact hg k (by omega)
  · rw [mj_cp_ne _ _ _ _ _ _ hb, s_set_ne _ _ hb]
/-- would it be too much? -/
def s_tm (g : Nat → Int32) (before thn : Int32) : Prop := before < thn ∧ g 1 < thn
def s_may (g : Nat → Int32) (thn : Int32) : Int32 := if thn ≤ s_sum g 10 then nI 1 else if thn ≤ g 1 then nI 1 else nI 0
/-- what a record of the state makes of the rows of states: R' are kept, d is gone -/
def s_push (c c' : mj_C) (R : Nat) : Prop := ∃ R' d, ((R < 6 ∧ R' = R ∧ d = 0) ∨ (R = 6 ∧ R' = 5 ∧ d = 1)) ∧ c' 52 3 = nI (R' + 1) ∧ (∀ k, k < 674 → c' 55 (674 * R' + k) = c 53 k) ∧ ∀ i, i < R' → ∀ k, k < 674 → c' 55 (674 * i + k) = c 55 (674 * (i + d) + k)
end MD2
