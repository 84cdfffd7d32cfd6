/-! THE REFERENCE's methods: what they do to rows of numbers -/
theorem s_rg (x : Int32) {n : Nat} (hn : n < 2 ^ 31) : (∃ j, j < n ∧ x = nI j) ∨ (x < nI 0 ∨ nI n ≤ x) := by
  rcases pk_ix x hn with h | h | h
  · exact Or.inr (Or.inl (by rw [nI_0]; exact h))
  · exact Or.inr (Or.inr h)
  · exact Or.inl h
theorem s_rn {x : Int32} {n j : Nat} (hn : n < 2 ^ 31) (hx : x < nI 0 ∨ nI n ≤ x) (hj : j < n) : x ≠ nI j := by
  intro h
  subst h
  rcases hx with h | h
  · rw [nI_ltI (by omega) (by omega)] at h
    omega
  · rw [nI_leI (by omega) (by omega)] at h
    omega
/-- is it a page, a line -/
def s_pg (g : Nat → Int32) (x : Int32) : Prop := ∃ P, P < 10 ∧ x = nI P ∧ g (6 + 2 * P) = nI 1
def s_li (g : Nat → Int32) (x y : Int32) : Prop := ∃ P l, P < 10 ∧ l < 8 ∧ x = nI P ∧ y = nI l ∧ g (6 + 2 * P) = nI 1
def s_Fr (c c' : mj_C) : Prop := (∀ b, b < 52 → c' b = c b) ∧ c' 56 = c 56 ∧ ∀ j, j ≠ 3 → c' 52 j = c 52 j
def s_R (R : Nat) : Nat := if R = 6 then 6 else R + 1
def s_hp (h : Nat → Nat → Int32) (R : Nat) (g : Nat → Int32) : Nat → Nat → Int32 := fun i => if i + 1 = s_R R then g else if R = 6 then h (i + 1) else h i
theorem s_Fr_r (c : mj_C) : s_Fr c c := ⟨fun _ _ => rfl, rfl, fun _ _ => rfl⟩
theorem s_Fr_t {c c' c'' : mj_C} (h : s_Fr c c') (h' : s_Fr c' c'') : s_Fr c c'' := ⟨fun b hb => (h'.1 b hb).trans (h.1 b hb), h'.2.1.trans h.2.1, fun j hj => (h'.2.2 j hj).trans (h.2.2 j hj)⟩
theorem s_Fr_of {c c' : mj_C} (h : ∀ b, b ≠ 53 → b ≠ 54 → b ≠ 55 → b ≠ 57 → c' b = c b) : s_Fr c c' := ⟨fun b hb => h b (by omega) (by omega) (by omega) (by omega), h 56 (by decide) (by decide) (by decide) (by decide), fun j _ => by rw [h 52 (by decide) (by decide) (by decide) (by decide)]⟩
theorem s_Fr_set {c : mj_C} {a : Nat} {f : Nat → Int32} (ha : a = 53 ∨ a = 54 ∨ a = 55 ∨ a = 57) : s_Fr c (s_set c a f) := s_Fr_of fun b h1 h2 h3 h4 => s_set_ne c f (by omega)
theorem s_Fr_kp {c : mj_C} : s_Fr c (s_kp c) := s_Fr_of fun b _ h2 _ _ => s_kp_ne c h2
theorem s_put_congr {g f f' : Nat → Int32} {p l n : Nat} (hn : n ≤ 8) (h : ∀ w, w < 8 → f w = f' w) : s_put g p l f n = s_put g p l f' n := by
  funext j
  unfold s_put
  split
  · exact h _ (by omega)
  · rfl
theorem s_putk_congr {g f f' : Nat → Int32} {p l : Nat} (h : ∀ w, w < 8 → f w = f' w) : s_putk g p l f = s_putk g p l f' := by
  unfold s_putk
  rw [s_put_congr (by decide) h]
section MD3
variable {L : Nat} {ps : List (Option (Option Nat))} {c : mj_C} {g : Nat → Int32} {R : Nat} {h : Nat → Nat → Int32}
end MD3
/-- the words of a line, one of them changed; added to -/
def s_w1 (g : Nat → Int32) (P l w : Nat) (x : Int32) : Nat → Int32 := upd (s_wd g P l) w x
def s_wa (g : Nat → Int32) (P l : Nat) (x : Int32) : Nat → Int32 := fun w => (s_wd g P l w + x) &&& nI 65535
theorem s_ok_wd {g : Nat → Int32} {P l : Nat} (hP : P < 10) (hl : l < 8) (hok : s_ok g) : ∀ w, w < 8 → ∃ v, v < 65536 ∧ s_wd g P l w = nI v := by
  intro w hw
  obtain ⟨v, hv, e⟩ := hok (64 * P + 8 * l + w) (by omega)
  refine ⟨v, hv, ?_⟩
  rw [← e]
  show g _ = g _
  congr 1
  omega
theorem s_ok_w1 {g : Nat → Int32} {P l w : Nat} {v : Nat} (hP : P < 10) (hl : l < 8) (hok : s_ok g) (hv : v < 65536) : ∀ k, k < 8 → ∃ z, z < 65536 ∧ s_w1 g P l w (nI v) k = nI z := by
  intro k hk
  unfold s_w1
  by_cases q : k = w
  · exact ⟨v, hv, by rw [q, s_upd_eq]⟩
  · rw [s_upd_ne q]
    exact s_ok_wd hP hl hok k hk
theorem s_ok_wa {g : Nat → Int32} {P l : Nat} {x : Int32} : ∀ k, k < 8 → ∃ z, z < 65536 ∧ s_wa g P l x k = nI z := fun k _ => by
  obtain ⟨j, hj, e⟩ := pk_andE (s_wd g P l k + x) (m := nI 65535) 16 (by decide)
  exact ⟨j, hj, e⟩
section MD4
variable {L : Nat} {ps : List (Option (Option Nat))} {c : mj_C} {g : Nat → Int32} {R : Nat} {h : Nat → Nat → Int32}
end MD4
