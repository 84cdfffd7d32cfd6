/-! MORE PAIRS -/
def s_cv (g : Nat → Int32) : Nat → Int32
  | 0 => s_pm g 10
  | 1 => s_sum g 10
  | 2 => g 1
  | 3 => g 0
  | 4 => s_bx g 10
  | 5 => g 2
  | 6 => g 3
  | 7 => g 4
  | _ => g 5
def s_pv (g : Nat → Int32) (P : Nat) : Nat → Int32
  | 0 => g (7 + 2 * P)
  | 1 => s_pz (s_F g P) (g (7 + 2 * P))
  | 2 => s_mk (s_F g P) (g (7 + 2 * P)) 8
  | 3 => s_bs (s_F g P) (g 0)
  | _ => s_pz (s_F g P) (s_bs (s_F g P) (g 0))
def s_lv (g : Nat → Int32) (P l : Nat) : Nat → Int32
  | 0 => s_F g P l
  | 1 => s_sz (s_F g P l)
  | 2 => if g (7 + 2 * P) < s_sz (s_F g P l) then nI 1 else nI 0
  | 3 => s_mn (s_wd g P l) 7
  | _ => s_mx (s_wd g P l) 7
def s_hv (g : Nat → Int32) (q k : Nat) : Int32 := if g (26 + 2 * q) = (-6) then (-6) else g (26 + 2 * q + k)
section PR2
variable {L : Nat} {ps : List (Option (Option Nat))} {rest : List mj_K} {c : mj_C} {g : Nat → Int32} {R : Nat} {h : Nat → Nat → Int32}
theorem k_count {k : Nat} (hk : k < 9) (hS : s_S c 3 g) (h1 : c 1 = w_fs) : mj_EV 60 0 [some (.ref 2), some (.int (nI k))] [] (w_sh L ps rest) c = some (some (.int (s_cv g k)), w_sh L ps rest, c) := by
  obtain ⟨a0, a1, a2, a3, a4, a5⟩ := hS.1
  rw [e60_0]
  match k, hk with
  | 0, _ => rw [if_pos rfl, k_numberOfPages hS, mj_then_i, e60_59]; rfl
  | 1, _ => rw [if_neg (by decide), if_pos rfl, k_sum hS h1, mj_then_i, e60_64]; rfl
  | 2, _ => rw [if_neg (by decide), if_neg (by decide), if_pos rfl, a1]; rfl
  | 3, _ => rw [if_neg (by decide), if_neg (by decide), if_neg (by decide), if_pos rfl, a0]; rfl
  | 4, _ => rw [if_neg (by decide), if_neg (by decide), if_neg (by decide), if_neg (by decide), if_pos rfl, k_linesBeside hS h1, mj_then_i, e60_85]; rfl
  | 5, _ => rw [if_neg (by decide), if_neg (by decide), if_neg (by decide), if_neg (by decide), if_neg (by decide), if_pos rfl, a2]; rfl
  | 6, _ => rw [if_neg (by decide), if_neg (by decide), if_neg (by decide), if_neg (by decide), if_neg (by decide), if_neg (by decide), if_pos rfl, a3]; rfl
  | 7, _ =>
    rw [if_neg (by decide), if_neg (by decide), if_neg (by decide), if_neg (by decide), if_neg (by decide), if_neg (by decide), if_neg (by decide), if_pos rfl, a2, a3, ← a4]; rfl
  | 8, _ => rw [if_neg (by decide), if_neg (by decide), if_neg (by decide), if_neg (by decide), if_neg (by decide), if_neg (by decide), if_neg (by decide), if_neg (by decide), if_pos rfl, a5]; rfl
  | k + 9, hk => omega
theorem k_page {P k : Nat} (hP : P < 10) (hk : k < 5) (hS : s_S c 3 g) (h1 : c 1 = w_fs) (hg : g (6 + 2 * P) = nI 1) : mj_EV 62 0 [some (.ref 2), some (.int (nI P)), some (.int (nI k))] [] (w_sh L ps rest) c = some (some (.int (s_pv g P k)), w_sh L ps rest, c) := by
  obtain ⟨r, hr, er⟩ := hS.2.1
  obtain ⟨-, h6, -⟩ := s_S_pg hS hP hg
  rw [e62_0, k_hasPage_y hS hP hg, mj_then_i, e62_8, if_neg (by decide), show c 3 0 = g 0 from hS.1.1]
  match k, hk with
  | 0, _ => rw [if_pos rfl, mj_in_nI (by omega), nI_clamp (by omega), if_pos (by simp; omega), show c 6 P = g (7 + 2 * P) from h6]; rfl
  | 1, _ => rw [if_neg (by decide), if_pos rfl, k_sizeOfPage hS h1 hP hg, mj_then_i, e62_63]; rfl
  | 2, _ => rw [if_neg (by decide), if_neg (by decide), if_pos rfl, k_besideSet hS h1 hP hg, mj_then_i, e62_69]; rfl
  | 3, _ => rw [if_neg (by decide), if_neg (by decide), if_neg (by decide), if_pos rfl, er, k_bestSlotOf hS h1 hP hg (by omega), mj_then_i, e62_82, ← er]; rfl
  | 4, _ => rw [if_neg (by decide), if_neg (by decide), if_neg (by decide), if_neg (by decide), if_pos rfl, er, k_bestSizeOf hS h1 hP hg (by omega), mj_then_i, e62_95, ← er]; rfl
  | k + 5, hk => omega
theorem s_ne_of {x : Int32} {n j : Nat} (hn : n < 2 ^ 31) (q : x < nI 0 ∨ nI n ≤ x) (hj : j < n) : ¬ x = nI j := s_rn hn q hj
theorem k_hint {q k : Nat} (hq : q < 4) (hk : k < 2) (hS : s_S c 3 g) : mj_EV 65 0 [some (.ref 2), some (.int (nI q)), some (.int (nI k))] [] (w_sh L ps rest) c = some (some (.int (s_hv g q k)), w_sh L ps rest, c) := by
  rw [e65_0]
  simp (disch := omega) only [nI_ltI, nI_leI, nI_eq, mj_in_nI, nI_clamp]
  rw [if_neg (by omega), if_pos (by omega), if_neg (by omega), if_pos (by omega), if_pos (by simp; omega)]
  unfold s_hv
  rcases hS.2.2.2.2.2 q hq with ⟨z1, z2⟩ | ⟨P, z0, z1, z2, z3⟩
  · rw [if_pos (show c 7 q = (-1) from z2), if_pos z1]
  · rw [if_neg (by rw [show c 7 q = nI P from z2]; exact s_nm1 (by omega) : ¬ c 7 q = (-1)), if_neg (by rw [z1]; exact fun z => s_ne6 P (by omega) z.symm : ¬ g (26 + 2 * q) = (-6))]
    match k, hk with
    | 0, _ => rw [if_pos rfl, if_pos (by simp; omega), show c 7 q = nI P from z2, Nat.add_zero, z1]
    | 1, _ => rw [if_neg (by decide), if_pos (by simp; omega), show c 8 q = g (27 + 2 * q) from z3, show 26 + 2 * q + 1 = 27 + 2 * q by omega]
    | k + 2, hk => omega
/-! the text -/
theorem s_nar {v : Nat} (hv : v < 65536) : vp_nar .char (UInt32.toInt32 (Int32.toUInt32 (nI v) % 65536)) = nI v := by
  rw [pk_vc, pk_char, show (nI v).toBitVec.toNat = v from ?_, Nat.mod_eq_of_lt hv]
  show (BitVec.ofNat 32 v).toNat = v
  rw [BitVec.toNat_ofNat, Nat.mod_eq_of_lt (by omega)]
end PR2
