/-! THE REFERENCE's other methods -/
def s_pm (g : Nat → Int32) : Nat → Int32
  | 0 => nI 0
  | k + 1 => if g (6 + 2 * k) = nI 1 then s_pm g k + nI 1 else s_pm g k
def s_bx (g : Nat → Int32) : Nat → Int32
  | 0 => nI 0
  | k + 1 => if g (6 + 2 * k) = nI 1 then s_bx g k + s_ct (s_F g k) (g (7 + 2 * k)) 8 else s_bx g k
def s_l1 (F : Nat → Int32) (x a : Int32) : Nat → Int32
  | 0 => a
  | k + 1 => if F k = x then s_l1 F x a k + nI 1 else s_l1 F x a k
def s_ln (g : Nat → Int32) (x : Int32) : Nat → Int32
  | 0 => nI 0
  | k + 1 => if g (6 + 2 * k) = nI 1 then s_l1 (s_F g k) x (s_ln g x k) 8 else s_ln g x k
def s_sm (f f' : Nat → Int32) : Nat → Bool
  | 0 => true
  | k + 1 => s_sm f f' k && decide (f k = f' k)
def s_q1 (g : Nat → Int32) (f : Nat → Int32) (p : Nat) (a : Int32) : Nat → Int32
  | 0 => a
  | k + 1 => if s_sm (s_wd g p k) f 8 = true then s_q1 g f p a k + nI 1 else s_q1 g f p a k
def s_qn (g : Nat → Int32) (f : Nat → Int32) : Nat → Int32
  | 0 => nI 0
  | k + 1 => if g (6 + 2 * k) = nI 1 then s_q1 g f k (s_qn g f k) 8 else s_qn g f k
/-- how much smaller a page would be -/
def s_gp (g : Nat → Int32) (p : Nat) : Int32 := s_pz (s_F g p) (g (7 + 2 * p)) - s_pz (s_F g p) (s_bs (s_F g p) (g 0))
def s_lg (g : Nat → Int32) : Nat → Int32
  | 0 => nI 0
  | k + 1 => if g (6 + 2 * k) = nI 1 then (if s_gp g k ≤ s_lg g k then s_lg g k else s_gp g k) else s_lg g k
def s_lo (g : Nat → Int32) : Nat → Int32
  | 0 => (-6)
  | k + 1 => if g (6 + 2 * k) = nI 1 then (if s_gp g k ≤ s_lg g k then s_lo g k else nI k) else s_lo g k
def s_rw (g : Nat → Int32) : Int32 := if g 1 - s_sum g 10 ≤ nI 0 then nI 0 else (g 1 - s_sum g 10) / nI 65
/-- a new page; a page is freed; a look -/
def s_np (g : Nat → Int32) (P : Nat) : Nat → Int32 := upd (upd g (6 + 2 * P) (nI 1)) (7 + 2 * P) (nI 0)
def s_zw (g : Nat → Int32) (P n : Nat) : Nat → Int32 := fun j => if 34 + 64 * P ≤ j ∧ j < 34 + 64 * P + n then nI 0 else upd (upd g (6 + 2 * P) (nI 0)) (7 + 2 * P) (nI 0) j
def s_fp (g : Nat → Int32) (P : Nat) : Nat → Int32 := if s_zw g P 64 (26 + 2 * (P % 4)) = nI P then upd (upd (s_zw g P 64) (26 + 2 * (P % 4)) (-6)) (27 + 2 * (P % 4)) (nI 0) else s_zw g P 64
def s_hit (g : Nat → Int32) (P l : Nat) : Prop := g (26 + 2 * (P % 4)) = nI P ∧ (g (27 + 2 * (P % 4)) >>> (nI l &&& 31)) &&& nI 1 = (s_mk (s_F g P) (g (7 + 2 * P)) 8 >>> (nI l &&& 31)) &&& nI 1
def s_lk1 (g : Nat → Int32) : Nat → Int32 := upd (upd g 2 (g 2 + nI 1)) 4 (g 4 + nI 1)
def s_lk2 (g : Nat → Int32) (P : Nat) : Nat → Int32 := upd (upd (upd (upd g 3 (g 3 + nI 1)) 4 (g 4 + nI 2)) (26 + 2 * (P % 4)) (nI P)) (27 + 2 * (P % 4)) (s_mk (s_F g P) (g (7 + 2 * P)) 8)
def s_un (g : Nat → Int32) (h : Nat → Nat → Int32) (R : Nat) : Nat → Int32 := fun k => if k < 674 then h (R - 1) k else g k
section MD5
variable {L : Nat} {ps : List (Option (Option Nat))} {c : mj_C} {g : Nat → Int32} {R : Nat} {h : Nat → Nat → Int32}
theorem s_sr_far {g : Nat → Int32} : ∀ j, 674 ≤ j → s_sr g 10 j = g j := fun j hj => s_sr_hi 10 (by omega) j (by omega)
end MD5
