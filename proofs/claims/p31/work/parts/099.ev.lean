/-! ONE ROW A STEP of the small machine: from the state behind it to the state ahead of it -/
noncomputable def mj_EV (y pc : Nat) (L : List (Option Value)) (st : List Value) (sh : List mj_K) (c : mj_C) : Option mj_R := mj_ev mj_df mj_cd mj_nl y (pc, L, st) (sh, c)
def mj_At (y pc : Nat) (ins : Instr) (q : Nat) (lk : List Nat) (cv : Value) : Prop := ∃ len, mj_at (mj_cd y) pc = some (ins, len, lk, cv) ∧ pc + len = q
theorem mj_go1 {y pc len : Nat} {ins : Instr} {lk : List Nat} {cv : Value} {L : List (Option Value)} {st : List Value} {sh : List mj_K} {c : mj_C} (h : mj_at (mj_cd y) pc = some (ins, len, lk, cv)) :
    mj_EV y pc L st sh c = mj_nx mj_nl (mj_ev mj_df mj_cd mj_nl) (mj_ev mj_df mj_cd mj_nl) y (match mj_p ins len lk cv pc L st with
      | some g => mj_go g (sh, c)
      | none => mj_q mj_df ins len lk cv pc L st (sh, c)) := by
  unfold mj_EV
  rw [mj_ev_eq]
  congr 1
  unfold mj_step
  dsimp only
  rw [h]
  rfl
section MQ
variable {y pc q : Nat} {lk : List Nat} {cv : Value} {L L' : List (Option Value)} {st r : List Value} {sh : List mj_K} {c : mj_C} {R A B : Option mj_R}
theorem mj_iconst {n : Int} (h : mj_At y pc (.iconst n) q lk cv) (k : mj_EV y q L (cv :: st) sh c = R) : mj_EV y pc L st sh c = R := by
  obtain ⟨len, h1, rfl⟩ := h
  rw [← k]
  exact (mj_go1 h1).trans (rfl)
theorem mj_bipush {n : Int} (h : mj_At y pc (.bipush n) q lk cv) (k : mj_EV y q L (cv :: st) sh c = R) : mj_EV y pc L st sh c = R := by
  obtain ⟨len, h1, rfl⟩ := h
  rw [← k]
  exact (mj_go1 h1).trans (rfl)
theorem mj_sipush {n : Int} (h : mj_At y pc (.sipush n) q lk cv) (k : mj_EV y q L (cv :: st) sh c = R) : mj_EV y pc L st sh c = R := by
  obtain ⟨len, h1, rfl⟩ := h
  rw [← k]
  exact (mj_go1 h1).trans (rfl)
theorem mj_ldc {n p0 : Nat} (h : mj_At y pc (.ldc n) q [p0] cv) (k : mj_EV y q L (cv :: st) sh c = R) : mj_EV y pc L st sh c = R := by
  obtain ⟨len, h1, rfl⟩ := h
  rw [← k]
  exact (mj_go1 h1).trans (rfl)
theorem mj_ldc2_w {n p0 : Nat} (h : mj_At y pc (.ldc2_w n) q [p0] cv) (k : mj_EV y q L (cv :: st) sh c = R) : mj_EV y pc L st sh c = R := by
  obtain ⟨len, h1, rfl⟩ := h
  rw [← k]
  exact (mj_go1 h1).trans (rfl)
theorem mj_iload_n {n : Fin 4} {i : Nat} {x : Int32} (h : mj_At y pc (.iload_n n) q [i] cv) (hx : L[i]? = some (some (.int x))) (k : mj_EV y q L (.int x :: st) sh c = R) : mj_EV y pc L st sh c = R := by
  obtain ⟨len, h1, rfl⟩ := h
  rw [← k]
  refine (mj_go1 h1).trans ?_
  have e : mj_p (.iload_n n) len [i] cv pc L st = some (pc + len, L, .int x :: st) := by simp [mj_p, mj_ldI, mj_g, hx]
  rw [e]
  rfl
theorem mj_istore_n {n : Fin 4} {i : Nat} {x : Int32} (L' : List (Option Value)) (h : mj_At y pc (.istore_n n) q [i] cv) (hi : Nat.blt i L.length = true) (hL : mj_s1 L i (.int x) = L') (k : mj_EV y q L' r sh c = R) : mj_EV y pc L (.int x :: r) sh c = R := by
  obtain ⟨len, h1, rfl⟩ := h
  rw [← k]
  refine (mj_go1 h1).trans ?_
  have e : mj_p (.istore_n n) len [i] cv pc L (.int x :: r) = some (pc + len, L', r) := by simp only [mj_p, mj_stI, hi, hL, cond_true]
  rw [e]
  rfl
theorem mj_iload {n : Nat} {i : Nat} {x : Int32} (h : mj_At y pc (.iload n) q [i] cv) (hx : L[i]? = some (some (.int x))) (k : mj_EV y q L (.int x :: st) sh c = R) : mj_EV y pc L st sh c = R := by
  obtain ⟨len, h1, rfl⟩ := h
  rw [← k]
  refine (mj_go1 h1).trans ?_
  have e : mj_p (.iload n) len [i] cv pc L st = some (pc + len, L, .int x :: st) := by simp [mj_p, mj_ldI, mj_g, hx]
  rw [e]
  rfl
theorem mj_istore {n : Nat} {i : Nat} {x : Int32} (L' : List (Option Value)) (h : mj_At y pc (.istore n) q [i] cv) (hi : Nat.blt i L.length = true) (hL : mj_s1 L i (.int x) = L') (k : mj_EV y q L' r sh c = R) : mj_EV y pc L (.int x :: r) sh c = R := by
  obtain ⟨len, h1, rfl⟩ := h
  rw [← k]
  refine (mj_go1 h1).trans ?_
  have e : mj_p (.istore n) len [i] cv pc L (.int x :: r) = some (pc + len, L', r) := by simp only [mj_p, mj_stI, hi, hL, cond_true]
  rw [e]
  rfl
theorem mj_lload_n {n : Fin 4} {i : Nat} {x : Int64} (h : mj_At y pc (.lload_n n) q [i] cv) (hx : L[i]? = some (some (.long x))) (k : mj_EV y q L (.long x :: st) sh c = R) : mj_EV y pc L st sh c = R := by
  obtain ⟨len, h1, rfl⟩ := h
  rw [← k]
  refine (mj_go1 h1).trans ?_
  have e : mj_p (.lload_n n) len [i] cv pc L st = some (pc + len, L, .long x :: st) := by simp [mj_p, mj_ldL, mj_g, hx]
  rw [e]
  rfl
theorem mj_lstore_n {n : Fin 4} {i : Nat} {x : Int64} (L' : List (Option Value)) (h : mj_At y pc (.lstore_n n) q [i] cv) (hi : Nat.blt (i + 1) L.length = true) (hL : mj_s2 L i (.long x) = L') (k : mj_EV y q L' r sh c = R) : mj_EV y pc L (.long x :: r) sh c = R := by
  obtain ⟨len, h1, rfl⟩ := h
  rw [← k]
  refine (mj_go1 h1).trans ?_
  have e : mj_p (.lstore_n n) len [i] cv pc L (.long x :: r) = some (pc + len, L', r) := by simp only [mj_p, mj_stL, hi, hL, cond_true]
  rw [e]
  rfl
theorem mj_lload {n : Nat} {i : Nat} {x : Int64} (h : mj_At y pc (.lload n) q [i] cv) (hx : L[i]? = some (some (.long x))) (k : mj_EV y q L (.long x :: st) sh c = R) : mj_EV y pc L st sh c = R := by
  obtain ⟨len, h1, rfl⟩ := h
  rw [← k]
  refine (mj_go1 h1).trans ?_
  have e : mj_p (.lload n) len [i] cv pc L st = some (pc + len, L, .long x :: st) := by simp [mj_p, mj_ldL, mj_g, hx]
  rw [e]
  rfl
theorem mj_lstore {n : Nat} {i : Nat} {x : Int64} (L' : List (Option Value)) (h : mj_At y pc (.lstore n) q [i] cv) (hi : Nat.blt (i + 1) L.length = true) (hL : mj_s2 L i (.long x) = L') (k : mj_EV y q L' r sh c = R) : mj_EV y pc L (.long x :: r) sh c = R := by
  obtain ⟨len, h1, rfl⟩ := h
  rw [← k]
  refine (mj_go1 h1).trans ?_
  have e : mj_p (.lstore n) len [i] cv pc L (.long x :: r) = some (pc + len, L', r) := by simp only [mj_p, mj_stL, hi, hL, cond_true]
  rw [e]
  rfl
theorem mj_aload_n {n : Fin 4} {i : Nat} {x : Nat} (h : mj_At y pc (.aload_n n) q [i] cv) (hx : L[i]? = some (some (.ref x))) (k : mj_EV y q L (.ref x :: st) sh c = R) : mj_EV y pc L st sh c = R := by
  obtain ⟨len, h1, rfl⟩ := h
  rw [← k]
  refine (mj_go1 h1).trans ?_
  have e : mj_p (.aload_n n) len [i] cv pc L st = some (pc + len, L, .ref x :: st) := by simp [mj_p, mj_ldR, mj_g, hx]
  rw [e]
  rfl
theorem mj_astore_n {n : Fin 4} {i : Nat} {x : Nat} (L' : List (Option Value)) (h : mj_At y pc (.astore_n n) q [i] cv) (hi : Nat.blt i L.length = true) (hL : mj_s1 L i (.ref x) = L') (k : mj_EV y q L' r sh c = R) : mj_EV y pc L (.ref x :: r) sh c = R := by
  obtain ⟨len, h1, rfl⟩ := h
  rw [← k]
  refine (mj_go1 h1).trans ?_
  have e : mj_p (.astore_n n) len [i] cv pc L (.ref x :: r) = some (pc + len, L', r) := by simp only [mj_p, mj_stR, hi, hL, cond_true]
  rw [e]
  rfl
theorem mj_aload {n : Nat} {i : Nat} {x : Nat} (h : mj_At y pc (.aload n) q [i] cv) (hx : L[i]? = some (some (.ref x))) (k : mj_EV y q L (.ref x :: st) sh c = R) : mj_EV y pc L st sh c = R := by
  obtain ⟨len, h1, rfl⟩ := h
  rw [← k]
  refine (mj_go1 h1).trans ?_
  have e : mj_p (.aload n) len [i] cv pc L st = some (pc + len, L, .ref x :: st) := by simp [mj_p, mj_ldR, mj_g, hx]
  rw [e]
  rfl
theorem mj_astore {n : Nat} {i : Nat} {x : Nat} (L' : List (Option Value)) (h : mj_At y pc (.astore n) q [i] cv) (hi : Nat.blt i L.length = true) (hL : mj_s1 L i (.ref x) = L') (k : mj_EV y q L' r sh c = R) : mj_EV y pc L (.ref x :: r) sh c = R := by
  obtain ⟨len, h1, rfl⟩ := h
  rw [← k]
  refine (mj_go1 h1).trans ?_
  have e : mj_p (.astore n) len [i] cv pc L (.ref x :: r) = some (pc + len, L', r) := by simp only [mj_p, mj_stR, hi, hL, cond_true]
  rw [e]
  rfl
theorem mj_iinc {n : Nat} {z : Int} {i : Nat} {x d : Int32} (L' : List (Option Value)) (h : mj_At y pc (.iinc n z) q [i] (.int d)) (hx : L[i]? = some (some (.int x))) (hi : Nat.blt i L.length = true) (hL : mj_s1 L i (.int (x + d)) = L') (k : mj_EV y q L' st sh c = R) : mj_EV y pc L st sh c = R := by
  obtain ⟨len, h1, rfl⟩ := h
  rw [← k]
  refine (mj_go1 h1).trans ?_
  have e : mj_p (.iinc n z) len [i] (.int d) pc L st = some (pc + len, L', st) := by simp only [mj_p, mj_g, hx, hi, hL, cond_true]
  rw [e]
  rfl
theorem mj_iadd {x z : Int32} (h : mj_At y pc .iadd q lk cv) (k : mj_EV y q L (.int (x + z) :: r) sh c = R) : mj_EV y pc L (.int z :: .int x :: r) sh c = R := by
  obtain ⟨len, h1, rfl⟩ := h
  rw [← k]
  exact (mj_go1 h1).trans (rfl)
theorem mj_isub {x z : Int32} (h : mj_At y pc .isub q lk cv) (k : mj_EV y q L (.int (x - z) :: r) sh c = R) : mj_EV y pc L (.int z :: .int x :: r) sh c = R := by
  obtain ⟨len, h1, rfl⟩ := h
  rw [← k]
  exact (mj_go1 h1).trans (rfl)
theorem mj_imul {x z : Int32} (h : mj_At y pc .imul q lk cv) (k : mj_EV y q L (.int (x * z) :: r) sh c = R) : mj_EV y pc L (.int z :: .int x :: r) sh c = R := by
  obtain ⟨len, h1, rfl⟩ := h
  rw [← k]
  exact (mj_go1 h1).trans (rfl)
theorem mj_iand {x z : Int32} (h : mj_At y pc .iand q lk cv) (k : mj_EV y q L (.int (x &&& z) :: r) sh c = R) : mj_EV y pc L (.int z :: .int x :: r) sh c = R := by
  obtain ⟨len, h1, rfl⟩ := h
  rw [← k]
  exact (mj_go1 h1).trans (rfl)
theorem mj_ior {x z : Int32} (h : mj_At y pc .ior q lk cv) (k : mj_EV y q L (.int (x ||| z) :: r) sh c = R) : mj_EV y pc L (.int z :: .int x :: r) sh c = R := by
  obtain ⟨len, h1, rfl⟩ := h
  rw [← k]
  exact (mj_go1 h1).trans (rfl)
theorem mj_ixor {x z : Int32} (h : mj_At y pc .ixor q lk cv) (k : mj_EV y q L (.int (x ^^^ z) :: r) sh c = R) : mj_EV y pc L (.int z :: .int x :: r) sh c = R := by
  obtain ⟨len, h1, rfl⟩ := h
  rw [← k]
  exact (mj_go1 h1).trans (rfl)
theorem mj_ishl {x z : Int32} (h : mj_At y pc .ishl q lk cv) (k : mj_EV y q L (.int (x <<< (z &&& 31)) :: r) sh c = R) : mj_EV y pc L (.int z :: .int x :: r) sh c = R := by
  obtain ⟨len, h1, rfl⟩ := h
  rw [← k]
  exact (mj_go1 h1).trans (rfl)
theorem mj_ishr {x z : Int32} (h : mj_At y pc .ishr q lk cv) (k : mj_EV y q L (.int (x >>> (z &&& 31)) :: r) sh c = R) : mj_EV y pc L (.int z :: .int x :: r) sh c = R := by
  obtain ⟨len, h1, rfl⟩ := h
  rw [← k]
  exact (mj_go1 h1).trans (rfl)
theorem mj_ladd {x z : Int64} (h : mj_At y pc .ladd q lk cv) (k : mj_EV y q L (.long (x + z) :: r) sh c = R) : mj_EV y pc L (.long z :: .long x :: r) sh c = R := by
  obtain ⟨len, h1, rfl⟩ := h
  rw [← k]
  exact (mj_go1 h1).trans (rfl)
theorem mj_lmul {x z : Int64} (h : mj_At y pc .lmul q lk cv) (k : mj_EV y q L (.long (x * z) :: r) sh c = R) : mj_EV y pc L (.long z :: .long x :: r) sh c = R := by
  obtain ⟨len, h1, rfl⟩ := h
  rw [← k]
  exact (mj_go1 h1).trans (rfl)
theorem mj_lcmp {x z : Int64} (h : mj_At y pc .lcmp q lk cv) (k : mj_EV y q L (.int (lg_cmp x z) :: r) sh c = R) : mj_EV y pc L (.long z :: .long x :: r) sh c = R := by
  obtain ⟨len, h1, rfl⟩ := h
  rw [← k]
  exact (mj_go1 h1).trans (rfl)
theorem mj_ineg {x : Int32} (h : mj_At y pc .ineg q lk cv) (k : mj_EV y q L (.int (-x) :: r) sh c = R) : mj_EV y pc L (.int x :: r) sh c = R := by
  obtain ⟨len, h1, rfl⟩ := h
  rw [← k]
  exact (mj_go1 h1).trans (rfl)
theorem mj_i2l {x : Int32} (h : mj_At y pc .i2l q lk cv) (k : mj_EV y q L (.long x.toInt64 :: r) sh c = R) : mj_EV y pc L (.int x :: r) sh c = R := by
  obtain ⟨len, h1, rfl⟩ := h
  rw [← k]
  exact (mj_go1 h1).trans (rfl)
theorem mj_i2c {x : Int32} (h : mj_At y pc .i2c q lk cv) (k : mj_EV y q L (.int (x.toUInt32 % 65536).toInt32 :: r) sh c = R) : mj_EV y pc L (.int x :: r) sh c = R := by
  obtain ⟨len, h1, rfl⟩ := h
  rw [← k]
  exact (mj_go1 h1).trans (rfl)
theorem mj_dupI {x : Int32} (h : mj_At y pc .dup q lk cv) (k : mj_EV y q L (.int x :: .int x :: r) sh c = R) : mj_EV y pc L (.int x :: r) sh c = R := by
  obtain ⟨len, h1, rfl⟩ := h
  rw [← k]
  exact (mj_go1 h1).trans (rfl)
theorem mj_popI {x : Int32} (h : mj_At y pc .pop q lk cv) (k : mj_EV y q L r sh c = R) : mj_EV y pc L (.int x :: r) sh c = R := by
  obtain ⟨len, h1, rfl⟩ := h
  rw [← k]
  exact (mj_go1 h1).trans (rfl)
theorem mj_dupR {x : Nat} (h : mj_At y pc .dup q lk cv) (k : mj_EV y q L (.ref x :: .ref x :: r) sh c = R) : mj_EV y pc L (.ref x :: r) sh c = R := by
  obtain ⟨len, h1, rfl⟩ := h
  rw [← k]
  exact (mj_go1 h1).trans (rfl)
theorem mj_popR {x : Nat} (h : mj_At y pc .pop q lk cv) (k : mj_EV y q L r sh c = R) : mj_EV y pc L (.ref x :: r) sh c = R := by
  obtain ⟨len, h1, rfl⟩ := h
  rw [← k]
  exact (mj_go1 h1).trans (rfl)
theorem mj_dup2 {x : Nat} {i : Int32} (h : mj_At y pc .dup2 q lk cv) (k : mj_EV y q L (.int i :: .ref x :: .int i :: .ref x :: r) sh c = R) : mj_EV y pc L (.int i :: .ref x :: r) sh c = R := by
  obtain ⟨len, h1, rfl⟩ := h
  rw [← k]
  exact (mj_go1 h1).trans (rfl)
theorem mj_goto {z : Int} {t : Nat} (h : mj_At y pc (.goto z) q [t] cv) (k : mj_EV y t L st sh c = R) : mj_EV y pc L st sh c = R := by
  obtain ⟨len, h1, rfl⟩ := h
  rw [← k]
  exact (mj_go1 h1).trans rfl
theorem mj_ite {b : Bool} {P : Prop} {iP : Decidable P} (hb : b = decide P) {U V U' V' : Option mj_R} (h1 : U = U') (h2 : V = V') : cond b U V = if P then U' else V' := by
  subst h1; subst h2
  rw [hb]
  by_cases h : P
  · rw [if_pos h, decide_eq_true h]; rfl
  · rw [if_neg h, decide_eq_false h]; rfl
theorem mj_ifeq {z : Int} {t : Nat} {x : Int32} (h : mj_At y pc (.ifCond .eq z) q [t] cv) (k1 : mj_EV y t L r sh c = A) (k2 : mj_EV y q L r sh c = B) : mj_EV y pc L (.int x :: r) sh c = if x = nI 0 then A else B := by
  obtain ⟨len, h1, rfl⟩ := h
  exact (mj_go1 h1).trans (mj_ite rfl k1 k2)
theorem mj_ifne {z : Int} {t : Nat} {x : Int32} (h : mj_At y pc (.ifCond .ne z) q [t] cv) (k1 : mj_EV y t L r sh c = A) (k2 : mj_EV y q L r sh c = B) : mj_EV y pc L (.int x :: r) sh c = if x = nI 0 then B else A := by
  obtain ⟨len, h1, rfl⟩ := h
  refine (mj_go1 h1).trans ((?_ : _ = cond (decide (x = 0)) _ _).trans (mj_ite rfl k2 k1))
  show cond (!decide (x = 0)) _ _ = _
  cases decide (x = 0) <;> rfl
theorem mj_iflt {z : Int} {t : Nat} {x : Int32} (h : mj_At y pc (.ifCond .lt z) q [t] cv) (k1 : mj_EV y t L r sh c = A) (k2 : mj_EV y q L r sh c = B) : mj_EV y pc L (.int x :: r) sh c = if x < nI 0 then A else B := by
  obtain ⟨len, h1, rfl⟩ := h
  exact (mj_go1 h1).trans (mj_ite rfl k1 k2)
theorem mj_ifge {z : Int} {t : Nat} {x : Int32} (h : mj_At y pc (.ifCond .ge z) q [t] cv) (k1 : mj_EV y t L r sh c = A) (k2 : mj_EV y q L r sh c = B) : mj_EV y pc L (.int x :: r) sh c = if nI 0 ≤ x then A else B := by
  obtain ⟨len, h1, rfl⟩ := h
  exact (mj_go1 h1).trans (mj_ite rfl k1 k2)
theorem mj_ifgt {z : Int} {t : Nat} {x : Int32} (h : mj_At y pc (.ifCond .gt z) q [t] cv) (k1 : mj_EV y t L r sh c = A) (k2 : mj_EV y q L r sh c = B) : mj_EV y pc L (.int x :: r) sh c = if nI 0 < x then A else B := by
  obtain ⟨len, h1, rfl⟩ := h
  exact (mj_go1 h1).trans (mj_ite rfl k1 k2)
theorem mj_ifle {z : Int} {t : Nat} {x : Int32} (h : mj_At y pc (.ifCond .le z) q [t] cv) (k1 : mj_EV y t L r sh c = A) (k2 : mj_EV y q L r sh c = B) : mj_EV y pc L (.int x :: r) sh c = if x ≤ nI 0 then A else B := by
  obtain ⟨len, h1, rfl⟩ := h
  exact (mj_go1 h1).trans (mj_ite rfl k1 k2)
theorem mj_iceq {z : Int} {t : Nat} {x w : Int32} (h : mj_At y pc (.if_icmp .eq z) q [t] cv) (k1 : mj_EV y t L r sh c = A) (k2 : mj_EV y q L r sh c = B) : mj_EV y pc L (.int w :: .int x :: r) sh c = if x = w then A else B := by
  obtain ⟨len, h1, rfl⟩ := h
  exact (mj_go1 h1).trans (mj_ite rfl k1 k2)
theorem mj_icne {z : Int} {t : Nat} {x w : Int32} (h : mj_At y pc (.if_icmp .ne z) q [t] cv) (k1 : mj_EV y t L r sh c = A) (k2 : mj_EV y q L r sh c = B) : mj_EV y pc L (.int w :: .int x :: r) sh c = if x = w then B else A := by
  obtain ⟨len, h1, rfl⟩ := h
  refine (mj_go1 h1).trans ((?_ : _ = cond (decide (x = w)) _ _).trans (mj_ite rfl k2 k1))
  show cond (!decide (x = w)) _ _ = _
  cases decide (x = w) <;> rfl
theorem mj_iclt {z : Int} {t : Nat} {x w : Int32} (h : mj_At y pc (.if_icmp .lt z) q [t] cv) (k1 : mj_EV y t L r sh c = A) (k2 : mj_EV y q L r sh c = B) : mj_EV y pc L (.int w :: .int x :: r) sh c = if x < w then A else B := by
  obtain ⟨len, h1, rfl⟩ := h
  exact (mj_go1 h1).trans (mj_ite rfl k1 k2)
theorem mj_icge {z : Int} {t : Nat} {x w : Int32} (h : mj_At y pc (.if_icmp .ge z) q [t] cv) (k1 : mj_EV y t L r sh c = A) (k2 : mj_EV y q L r sh c = B) : mj_EV y pc L (.int w :: .int x :: r) sh c = if w ≤ x then A else B := by
  obtain ⟨len, h1, rfl⟩ := h
  exact (mj_go1 h1).trans (mj_ite rfl k1 k2)
theorem mj_icgt {z : Int} {t : Nat} {x w : Int32} (h : mj_At y pc (.if_icmp .gt z) q [t] cv) (k1 : mj_EV y t L r sh c = A) (k2 : mj_EV y q L r sh c = B) : mj_EV y pc L (.int w :: .int x :: r) sh c = if w < x then A else B := by
  obtain ⟨len, h1, rfl⟩ := h
  exact (mj_go1 h1).trans (mj_ite rfl k1 k2)
theorem mj_icle {z : Int} {t : Nat} {x w : Int32} (h : mj_At y pc (.if_icmp .le z) q [t] cv) (k1 : mj_EV y t L r sh c = A) (k2 : mj_EV y q L r sh c = B) : mj_EV y pc L (.int w :: .int x :: r) sh c = if x ≤ w then A else B := by
  obtain ⟨len, h1, rfl⟩ := h
  exact (mj_go1 h1).trans (mj_ite rfl k1 k2)
theorem mj_when {b : Bool} {U U' : Option mj_R} (h1 : U = U') : cond b U none = if b = true then U' else none := by
  subst h1
  cases b <;> rfl
theorem mj_idiv {x w : Int32} (h : mj_At y pc .idiv q lk cv) (k : mj_EV y q L (.int (x / w) :: r) sh c = A) : mj_EV y pc L (.int w :: .int x :: r) sh c = if (!decide (w = nI 0)) = true then A else none := by
  obtain ⟨len, h1, rfl⟩ := h
  exact (mj_go1 h1).trans (mj_when k)
theorem mj_irem {x w : Int32} (h : mj_At y pc .irem q lk cv) (k : mj_EV y q L (.int (x - x / w * w) :: r) sh c = A) : mj_EV y pc L (.int w :: .int x :: r) sh c = if (!decide (w = nI 0)) = true then A else none := by
  obtain ⟨len, h1, rfl⟩ := h
  exact (mj_go1 h1).trans (mj_when k)
theorem mj_getI {n ci kf a : Nat} {lt : List Nat} {nn : Nat} {fs : List (Option (Option Nat))} (h : mj_At y pc (.getfield n) q (ci :: kf :: lt) cv) (hs : sh[a]? = some (ci + 3, nn, fs)) (hf : fs[kf]? = some none) (k : mj_EV y q L (.int (c a kf) :: r) sh c = R) : mj_EV y pc L (.ref a :: r) sh c = R := by
  obtain ⟨len, h1, rfl⟩ := h
  rw [← k]
  refine (mj_go1 h1).trans ?_
  have e : mj_q mj_df (.getfield n) len (ci :: kf :: lt) cv pc L (.ref a :: r) (sh, c) = mj_go (pc + len, L, .int (c a kf) :: r) (sh, c) := by simp [mj_q, hs, hf]
  show mj_nx _ _ _ _ (mj_q mj_df (.getfield n) len (ci :: kf :: lt) cv pc L (.ref a :: r) (sh, c)) = _
  rw [e]
  rfl
theorem mj_getR {n ci kf a b : Nat} {lt : List Nat} {nn : Nat} {fs : List (Option (Option Nat))} (h : mj_At y pc (.getfield n) q (ci :: kf :: lt) cv) (hs : sh[a]? = some (ci + 3, nn, fs)) (hf : fs[kf]? = some (some (some b))) (k : mj_EV y q L (.ref b :: r) sh c = R) : mj_EV y pc L (.ref a :: r) sh c = R := by
  obtain ⟨len, h1, rfl⟩ := h
  rw [← k]
  refine (mj_go1 h1).trans ?_
  have e : mj_q mj_df (.getfield n) len (ci :: kf :: lt) cv pc L (.ref a :: r) (sh, c) = mj_go (pc + len, L, .ref b :: r) (sh, c) := by simp [mj_q, hs, hf]
  show mj_nx _ _ _ _ (mj_q mj_df (.getfield n) len (ci :: kf :: lt) cv pc L (.ref a :: r) (sh, c)) = _
  rw [e]
  rfl
theorem mj_putI {n ci kf a : Nat} {x : Int32} {lt : List Nat} {nn : Nat} {fs : List (Option (Option Nat))} (h : mj_At y pc (.putfield n) q (ci :: kf :: 0 :: lt) cv) (hs : sh[a]? = some (ci + 3, nn, fs)) (hf : fs[kf]? = some none) (k : mj_EV y q L r sh (mj_u c a kf x) = R) : mj_EV y pc L (.int x :: .ref a :: r) sh c = R := by
  obtain ⟨len, h1, rfl⟩ := h
  rw [← k]
  refine (mj_go1 h1).trans ?_
  have e : mj_q mj_df (.putfield n) len (ci :: kf :: 0 :: lt) cv pc L (.int x :: .ref a :: r) (sh, c) = mj_go (pc + len, L, r) (sh, mj_u c a kf x) := by simp [mj_q, hs, hf]
  show mj_nx _ _ _ _ (mj_q mj_df (.putfield n) len (ci :: kf :: 0 :: lt) cv pc L (.int x :: .ref a :: r) (sh, c)) = _
  rw [e]
  rfl
theorem mj_putR {n ci kf a b : Nat} {lt : List Nat} {nn : Nat} {fs : List (Option (Option Nat))} {o : Option Nat} (sh' : List mj_K) (h : mj_At y pc (.putfield n) q (ci :: kf :: 1 :: lt) cv) (hs : sh[a]? = some (ci + 3, nn, fs)) (hf : fs[kf]? = some (some o)) (he : sh.set a (ci + 3, nn, fs.set kf (some (some b))) = sh') (k : mj_EV y q L r sh' c = R) : mj_EV y pc L (.ref b :: .ref a :: r) sh c = R := by
  obtain ⟨len, h1, rfl⟩ := h
  rw [← k, ← he]
  refine (mj_go1 h1).trans ?_
  have e : mj_q mj_df (.putfield n) len (ci :: kf :: 1 :: lt) cv pc L (.ref b :: .ref a :: r) (sh, c) = mj_go (pc + len, L, r) (sh.set a (ci + 3, nn, fs.set kf (some (some b))), c) := by simp [mj_q, hs, hf]
  show mj_nx _ _ _ _ (mj_q mj_df (.putfield n) len (ci :: kf :: 1 :: lt) cv pc L (.ref b :: .ref a :: r) (sh, c)) = _
  rw [e]
  rfl
theorem mj_gets {n p0 : Nat} {lt : List Nat} (h : mj_At y pc (.getstatic n) q (p0 :: lt) cv) (k : mj_EV y q L (.ref 1 :: st) sh c = R) : mj_EV y pc L st sh c = R := by
  obtain ⟨len, h1, rfl⟩ := h
  rw [← k]
  exact (mj_go1 h1).trans rfl
theorem mj_iald {i : Int32} {a n : Nat} {fs : List (Option (Option Nat))} (h : mj_At y pc .iaload q lk cv) (hs : sh[a]? = some (0, n, fs)) (k : mj_EV y q L (.int (c a i.toNatClampNeg) :: r) sh c = A) : mj_EV y pc L (.int i :: .ref a :: r) sh c = if mj_in i n = true then A else none := by
  obtain ⟨len, h1, rfl⟩ := h
  refine (mj_go1 h1).trans ?_
  have e : mj_q mj_df .iaload len lk cv pc L (.int i :: .ref a :: r) (sh, c) = mj_if (mj_in i n) (pc + len, L, (.int (c a i.toNatClampNeg) :: r)) (sh, c) := by simp [mj_q, hs]
  show mj_nx _ _ _ _ (mj_q mj_df .iaload len lk cv pc L (.int i :: .ref a :: r) (sh, c)) = _
  rw [e]
  exact mj_when k
theorem mj_roald {i : Int32} {a n : Nat} {fs : List (Option (Option Nat))} (h : mj_At y pc .iaload q lk cv) (hs : sh[a]? = some (1000, n, fs)) (h2 : Nat.blt a 2 = true) (k : mj_EV y q L (.int (c a i.toNatClampNeg) :: r) sh c = A) : mj_EV y pc L (.int i :: .ref a :: r) sh c = if mj_in i n = true then A else none := by
  obtain ⟨len, h1, rfl⟩ := h
  refine (mj_go1 h1).trans ?_
  have e : mj_q mj_df .iaload len lk cv pc L (.int i :: .ref a :: r) (sh, c) = mj_if (mj_in i n) (pc + len, L, (.int (c a i.toNatClampNeg) :: r)) (sh, c) := by simp only [mj_q, hs, h2]; rfl
  show mj_nx _ _ _ _ (mj_q mj_df .iaload len lk cv pc L (.int i :: .ref a :: r) (sh, c)) = _
  rw [e]
  exact mj_when k
theorem mj_cald {i : Int32} {a n : Nat} {fs : List (Option (Option Nat))} (h : mj_At y pc .caload q lk cv) (hs : sh[a]? = some (1, n, fs)) (k : mj_EV y q L (.int (c a i.toNatClampNeg) :: r) sh c = A) : mj_EV y pc L (.int i :: .ref a :: r) sh c = if mj_in i n = true then A else none := by
  obtain ⟨len, h1, rfl⟩ := h
  refine (mj_go1 h1).trans ?_
  have e : mj_q mj_df .caload len lk cv pc L (.int i :: .ref a :: r) (sh, c) = mj_if (mj_in i n) (pc + len, L, (.int (c a i.toNatClampNeg) :: r)) (sh, c) := by simp [mj_q, hs]
  show mj_nx _ _ _ _ (mj_q mj_df .caload len lk cv pc L (.int i :: .ref a :: r) (sh, c)) = _
  rw [e]
  exact mj_when k
theorem mj_iast {i x : Int32} {a n : Nat} {fs : List (Option (Option Nat))} (h : mj_At y pc .iastore q lk cv) (hs : sh[a]? = some (0, n, fs)) (k : mj_EV y q L r sh (mj_u c a i.toNatClampNeg x) = A) : mj_EV y pc L (.int x :: .int i :: .ref a :: r) sh c = if mj_in i n = true then A else none := by
  obtain ⟨len, h1, rfl⟩ := h
  refine (mj_go1 h1).trans ?_
  have e : mj_q mj_df .iastore len lk cv pc L (.int x :: .int i :: .ref a :: r) (sh, c) = mj_if (mj_in i n) (pc + len, L, r) (sh, (mj_u c a i.toNatClampNeg x)) := by simp [mj_q, hs]
  show mj_nx _ _ _ _ (mj_q mj_df .iastore len lk cv pc L (.int x :: .int i :: .ref a :: r) (sh, c)) = _
  rw [e]
  exact mj_when k
theorem mj_cast {i x : Int32} {a n : Nat} {fs : List (Option (Option Nat))} (h : mj_At y pc .castore q lk cv) (hs : sh[a]? = some (1, n, fs)) (k : mj_EV y q L r sh (mj_u c a i.toNatClampNeg (vp_nar .char x)) = A) : mj_EV y pc L (.int x :: .int i :: .ref a :: r) sh c = if mj_in i n = true then A else none := by
  obtain ⟨len, h1, rfl⟩ := h
  refine (mj_go1 h1).trans ?_
  have e : mj_q mj_df .castore len lk cv pc L (.int x :: .int i :: .ref a :: r) (sh, c) = mj_if (mj_in i n) (pc + len, L, r) (sh, (mj_u c a i.toNatClampNeg (vp_nar .char x))) := by simp [mj_q, hs]
  show mj_nx _ _ _ _ (mj_q mj_df .castore len lk cv pc L (.int x :: .int i :: .ref a :: r) (sh, c)) = _
  rw [e]
  exact mj_when k
theorem mj_aald {i : Int32} {a n b : Nat} {fs : List (Option (Option Nat))} (h : mj_At y pc .aaload q lk cv) (hs : sh[a]? = some (2, n, fs)) (hi : mj_in i n = true) (hb : fs[i.toNatClampNeg]? = some (some (some b))) (k : mj_EV y q L (.ref b :: r) sh c = R) : mj_EV y pc L (.int i :: .ref a :: r) sh c = R := by
  obtain ⟨len, h1, rfl⟩ := h
  rw [← k]
  refine (mj_go1 h1).trans ?_
  have e : mj_q mj_df .aaload len lk cv pc L (.int i :: .ref a :: r) (sh, c) = mj_go (pc + len, L, .ref b :: r) (sh, c) := by simp [mj_q, hs, hi, hb]
  show mj_nx _ _ _ _ (mj_q mj_df .aaload len lk cv pc L (.int i :: .ref a :: r) (sh, c)) = _
  rw [e]
  rfl
theorem mj_aast {i : Int32} {a n b ci nb : Nat} {fs fb : List (Option (Option Nat))} {lt : List Nat} (sh' : List mj_K) (h : mj_At y pc .aastore q (ci :: lt) cv) (hs : sh[a]? = some (2, n, fs)) (hb : sh[b]? = some (ci + 3, nb, fb)) (hi : mj_in i n = true) (hlt : Nat.blt i.toNatClampNeg fs.length = true) (he : sh.set a (2, n, fs.set i.toNatClampNeg (some (some b))) = sh') (k : mj_EV y q L r sh' c = R) : mj_EV y pc L (.ref b :: .int i :: .ref a :: r) sh c = R := by
  obtain ⟨len, h1, rfl⟩ := h
  rw [← k, ← he]
  refine (mj_go1 h1).trans ?_
  have e : mj_q mj_df .aastore len (ci :: lt) cv pc L (.ref b :: .int i :: .ref a :: r) (sh, c) = mj_go (pc + len, L, r) (sh.set a (2, n, fs.set i.toNatClampNeg (some (some b))), c) := by simp only [mj_q, hs, hb, hi, hlt]; simp
  show mj_nx _ _ _ _ (mj_q mj_df .aastore len (ci :: lt) cv pc L (.ref b :: .int i :: .ref a :: r) (sh, c)) = _
  rw [e]
  rfl
theorem mj_alen {a t n : Nat} {fs : List (Option (Option Nat))} (h : mj_At y pc .arraylength q lk cv) (hs : sh[a]? = some (t, n, fs)) (ht : ((Nat.beq t 0 || Nat.beq t 1) || (Nat.beq t 1000 && Nat.blt a 2)) = true) (k : mj_EV y q L (.int (Int32.ofNat n) :: r) sh c = R) : mj_EV y pc L (.ref a :: r) sh c = R := by
  obtain ⟨len, h1, rfl⟩ := h
  rw [← k]
  refine (mj_go1 h1).trans ?_
  have e : mj_q mj_df .arraylength len lk cv pc L (.ref a :: r) (sh, c) = mj_go (pc + len, L, .int (Int32.ofNat n) :: r) (sh, c) := by simp only [mj_q, hs, ht, cond_true]
  show mj_nx _ _ _ _ (mj_q mj_df .arraylength len lk cv pc L (.ref a :: r) (sh, c)) = _
  rw [e]
  rfl
theorem mj_new {n ci nf z : Nat} {lt : List Nat} (sh' : List mj_K) (h : mj_At y pc (.new n) q (ci :: nf :: lt) cv) (hd : Nat.beq (mj_df ci).length nf = true) (hz : sh.length = z) (he : sh ++ [(ci + 3, nf, mj_df ci)] = sh') (k : mj_EV y q L (.ref z :: st) sh' (mj_z c z) = R) : mj_EV y pc L st sh c = R := by
  obtain ⟨len, h1, rfl⟩ := h
  rw [← k, ← he, ← hz]
  refine (mj_go1 h1).trans ?_
  have e : mj_q mj_df (.new n) len (ci :: nf :: lt) cv pc L st (sh, c) = mj_go (pc + len, L, .ref sh.length :: st) (sh ++ [(ci + 3, nf, mj_df ci)], mj_z c sh.length) := by simp only [mj_q, hd, cond_true]
  show mj_nx _ _ _ _ (mj_q mj_df (.new n) len (ci :: nf :: lt) cv pc L st (sh, c)) = _
  rw [e]
  rfl
theorem mj_newa {ty : ArrayType} {t z N : Nat} {n : Int32} {lt : List Nat} (sh' : List mj_K) (h : mj_At y pc (.newarray ty) q (t :: lt) cv) (hn : (Nat.ble t 1 && (!decide (n < 0) && Nat.ble n.toNatClampNeg 1000000)) = true) (hN : n.toNatClampNeg = N) (hz : sh.length = z) (he : sh ++ [(t, N, [])] = sh') (k : mj_EV y q L (.ref z :: r) sh' (mj_z c z) = R) : mj_EV y pc L (.int n :: r) sh c = R := by
  obtain ⟨len, h1, rfl⟩ := h
  rw [← k, ← he, ← hz, ← hN]
  refine (mj_go1 h1).trans ?_
  have e : mj_q mj_df (.newarray ty) len (t :: lt) cv pc L (.int n :: r) (sh, c) = mj_go (pc + len, L, .ref sh.length :: r) (sh ++ [(t, n.toNatClampNeg, [])], mj_z c sh.length) := by simp only [mj_q, hn, cond_true]
  show mj_nx _ _ _ _ (mj_q mj_df (.newarray ty) len (t :: lt) cv pc L (.int n :: r) (sh, c)) = _
  rw [e]
  rfl
theorem mj_newq {m t z N : Nat} {n : Int32} {lt : List Nat} (sh' : List mj_K) (h : mj_At y pc (.anewarray m) q (t :: lt) cv) (hn : (!decide (n < 0) && Nat.ble n.toNatClampNeg 1000000) = true) (hN : n.toNatClampNeg = N) (hz : sh.length = z) (he : sh ++ [(2, N, List.replicate N (some none))] = sh') (k : mj_EV y q L (.ref z :: r) sh' (mj_z c z) = R) : mj_EV y pc L (.int n :: r) sh c = R := by
  obtain ⟨len, h1, rfl⟩ := h
  rw [← k, ← he, ← hz, ← hN]
  refine (mj_go1 h1).trans ?_
  have e : mj_q mj_df (.anewarray m) len (t :: lt) cv pc L (.int n :: r) (sh, c) = mj_go (pc + len, L, .ref sh.length :: r) (sh ++ [(2, n.toNatClampNeg, List.replicate n.toNatClampNeg (some none))], mj_z c sh.length) := by simp only [mj_q, hn, cond_true]
  show mj_nx _ _ _ _ (mj_q mj_df (.anewarray m) len (t :: lt) cv pc L (.int n :: r) (sh, c)) = _
  rw [e]
  rfl
theorem mj_oini {n p1 a : Nat} {lt : List Nat} (h : mj_At y pc (.invokespecial n) q (5 :: lt) cv) (k : mj_EV y q L [] sh c = R) : mj_EV y pc L [.ref a] sh c = R := by
  obtain ⟨len, h1, rfl⟩ := h
  rw [← k]
  exact (mj_go1 h1).trans rfl
theorem mj_acpy {m a0 a1 n0 n1 : Nat} {f0 f1 : List (Option (Option Nat))} {n dp sp : Int32} {lt : List Nat} (h : mj_At y pc (.invokestatic m) q (6 :: lt) cv) (h0 : sh[a0]? = some (0, n0, f0)) (hs1 : sh[a1]? = some (0, n1, f1)) (k : mj_EV y q L [] sh (mj_cp c a0 a1 sp.toNatClampNeg dp.toNatClampNeg n.toNatClampNeg) = A) :
    mj_EV y pc L [.int n, .int dp, .ref a1, .int sp, .ref a0] sh c = if ((!decide (sp < nI 0) && (!decide (dp < nI 0) && !decide (n < nI 0))) && (decide (sp.toNatClampNeg + n.toNatClampNeg ≤ n0) && decide (dp.toNatClampNeg + n.toNatClampNeg ≤ n1))) = true then A else none := by
  obtain ⟨len, h1, rfl⟩ := h
  refine (mj_go1 h1).trans ?_
  have e : mj_q mj_df (.invokestatic m) len (6 :: lt) cv pc L [.int n, .int dp, .ref a1, .int sp, .ref a0] (sh, c) = mj_if ((!decide (sp < 0) && (!decide (dp < 0) && !decide (n < 0))) && (decide (sp.toNatClampNeg + n.toNatClampNeg ≤ n0) && decide (dp.toNatClampNeg + n.toNatClampNeg ≤ n1))) (pc + len, L, []) (sh, mj_cp c a0 a1 sp.toNatClampNeg dp.toNatClampNeg n.toNatClampNeg) := by simp [mj_q, h0, hs1]
  show mj_nx _ _ _ _ (mj_q mj_df (.invokestatic m) len (6 :: lt) cv pc L [.int n, .int dp, .ref a1, .int sp, .ref a0] (sh, c)) = _
  rw [e]
  exact mj_when k
theorem mj_iret {v : Int32} (h : mj_At y pc .ireturn q [0] cv) : mj_EV y pc L [.int v] sh c = some (some (.int v), sh, c) := by
  obtain ⟨len, h1, rfl⟩ := h
  exact (mj_go1 h1).trans rfl
theorem mj_zret {v : Int32} (h : mj_At y pc .ireturn q [1] cv) : mj_EV y pc L [.int v] sh c = if (decide (v = nI 0) || decide (v = nI 1)) = true then some (some (.int v), sh, c) else none := by
  obtain ⟨len, h1, rfl⟩ := h
  exact (mj_go1 h1).trans (mj_when rfl)
theorem mj_zret0 (h : mj_At y pc .ireturn q [1] cv) : mj_EV y pc L [.int (nI 0)] sh c = some (some (.int (nI 0)), sh, c) := (mj_zret h).trans rfl
theorem mj_zret1 (h : mj_At y pc .ireturn q [1] cv) : mj_EV y pc L [.int (nI 1)] sh c = some (some (.int (nI 1)), sh, c) := (mj_zret h).trans rfl
theorem mj_lret {v : Int64} (h : mj_At y pc .lreturn q lk cv) : mj_EV y pc L [.long v] sh c = some (some (.long v), sh, c) := by
  obtain ⟨len, h1, rfl⟩ := h
  exact (mj_go1 h1).trans rfl
theorem mj_aret {v : Nat} (h : mj_At y pc .areturn q lk cv) : mj_EV y pc L [.ref v] sh c = some (some (.ref v), sh, c) := by
  obtain ⟨len, h1, rfl⟩ := h
  exact (mj_go1 h1).trans rfl
theorem mj_vret (h : mj_At y pc .return_ q lk cv) : mj_EV y pc L [] sh c = some (none, sh, c) := by
  obtain ⟨len, h1, rfl⟩ := h
  exact (mj_go1 h1).trans rfl
/-- a call; behind it -/
noncomputable def mj_then (y q : Nat) (L : List (Option Value)) (r : List Value) (o : Option mj_R) : Option mj_R := o.bind fun z => mj_EV y q L (z.1.toList ++ r) z.2.1 z.2.2
theorem mj_then_i {v : Int32} : mj_then y q L r (some (some (.int v), sh, c)) = mj_EV y q L (.int v :: r) sh c := rfl
theorem mj_then_l {v : Int64} : mj_then y q L r (some (some (.long v), sh, c)) = mj_EV y q L (.long v :: r) sh c := rfl
theorem mj_then_r {v : Nat} : mj_then y q L r (some (some (.ref v), sh, c)) = mj_EV y q L (.ref v :: r) sh c := rfl
theorem mj_then_v : mj_then y q L r (some (none, sh, c)) = mj_EV y q L r sh c := rfl
theorem mj_inv {o : Option mj_A} {as : List Value} {z : Nat} (e : o = some (.inr (.inr (.inr (.inl (z, as, (q, L, r), (sh, c))))))) (LE : List (Option Value)) (hZ : Nat.ble (mj_sum as) (mj_nl z) = true) (hE : mj_en (mj_nl z) as = LE) : mj_nx mj_nl (mj_ev mj_df mj_cd mj_nl) (mj_ev mj_df mj_cd mj_nl) y o = mj_then y q L r (mj_EV z 0 LE [] sh c) := by
  subst hE
  rw [e]
  show (bif Nat.ble (mj_sum as) (mj_nl z) then _ else none) = _
  rw [hZ]
  rfl
theorem mj_invS {m z n kd : Nat} {lt : List Nat} (LE : List (Option Value)) (r : List Value) (h : mj_At y pc (.invokestatic m) q (kd :: z :: n :: lt) cv) (hk : kd = 0 ∨ kd = 3) (hn : (Nat.ble n st.length && Nat.ble (mj_sum (st.drop n)) 8) = true) (hr : st.drop n = r) (hZ : Nat.ble (mj_sum (st.take n).reverse) (mj_nl z) = true) (hE : mj_en (mj_nl z) (st.take n).reverse = LE) : mj_EV y pc L st sh c = mj_then y q L r (mj_EV z 0 LE [] sh c) := by
  subst hr
  obtain ⟨len, h1, rfl⟩ := h
  refine (mj_go1 h1).trans ?_
  show mj_nx _ _ _ _ (mj_q mj_df (.invokestatic m) len (kd :: z :: n :: lt) cv pc L st (sh, c)) = _
  refine mj_inv (as := (st.take n).reverse) ?_ LE hZ hE
  rcases hk with rfl | rfl
  · simp only [mj_q, mj_call, hn, Bool.and_true, cond_true]
  · simp only [mj_q, mj_call, hn, Bool.and_true, cond_true]
theorem mj_invV {m z n ci : Nat} {lt : List Nat} (LE : List (Option Value)) (r : List Value) (h : mj_At y pc (.invokevirtual m) q (1 :: z :: n :: ci :: lt) cv) (hn : (Nat.ble n st.length && Nat.ble (mj_sum (st.drop n)) 8) = true) (hr : st.drop n = r) {a : Nat} {as : List Value} (ha : (st.take n).reverse = .ref a :: as) {nn : Nat} {fs : List (Option (Option Nat))} (hs : sh[a]? = some (ci + 3, nn, fs)) (hZ : Nat.ble (mj_sum (.ref a :: as)) (mj_nl z) = true) (hE : mj_en (mj_nl z) (.ref a :: as) = LE) : mj_EV y pc L st sh c = mj_then y q L r (mj_EV z 0 LE [] sh c) := by
  subst hr
  obtain ⟨len, h1, rfl⟩ := h
  refine (mj_go1 h1).trans ?_
  show mj_nx _ _ _ _ (mj_q mj_df (.invokevirtual m) len (1 :: z :: n :: ci :: lt) cv pc L st (sh, c)) = _
  refine mj_inv (as := .ref a :: as) ?_ LE hZ hE
  have hO : mj_isO (sh, c) ci (.ref a :: as) = true := by simp [mj_isO, hs]
  simp only [mj_q, mj_call, hn, ha, hO, Bool.and_true, cond_true]
theorem mj_invI {m z n kd : Nat} {lt : List Nat} (LE : List (Option Value)) (r : List Value) (h : mj_At y pc (.invokespecial m) q (kd :: z :: n :: lt) cv) (hk : kd = 2 ∨ kd = 4) (hn : (Nat.ble n st.length && Nat.ble (mj_sum (st.drop n)) 8) = true) (hr : st.drop n = r) {a : Nat} {as : List Value} (ha : (st.take n).reverse = .ref a :: as) (hZ : Nat.ble (mj_sum (.ref a :: as)) (mj_nl z) = true) (hE : mj_en (mj_nl z) (.ref a :: as) = LE) : mj_EV y pc L st sh c = mj_then y q L r (mj_EV z 0 LE [] sh c) := by
  subst hr
  obtain ⟨len, h1, rfl⟩ := h
  refine (mj_go1 h1).trans ?_
  show mj_nx _ _ _ _ (mj_q mj_df (.invokespecial m) len (kd :: z :: n :: lt) cv pc L st (sh, c)) = _
  refine mj_inv (as := .ref a :: as) ?_ LE hZ hE
  rcases hk with rfl | rfl
  · simp only [mj_q, mj_call, hn, ha, Bool.and_true, cond_true]
  · simp only [mj_q, mj_call, hn, ha, Bool.and_true, cond_true]
theorem mj_tsw {d lo hi : Int} {offs : Array Int} {t : Nat} {ts : List Nat} {x l0 : Int32} (h : mj_At y pc (.tableswitch d lo hi offs) q (t :: ts) (.int l0)) : mj_EV y pc L (.int x :: r) sh c = mj_sel (mj_sw x l0 L r (sh, c) 0 ts) (some ((t, L, r), (sh, c))) (fun s => mj_EV y s.1.1 s.1.2.1 s.1.2.2 s.2.1 s.2.2) := by
  obtain ⟨len, h1, rfl⟩ := h
  exact (mj_go1 h1).trans rfl
end MQ
