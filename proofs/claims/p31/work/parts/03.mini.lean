/-! THE SMALL MACHINE: a pure evaluator of the bytecode over a memory of few kinds of cells. A cell: (tag, size, references). tag 0: ints, 1: chars, 2: references, n + 3: an object of the n-th of mj_cl; 1000: a row of ints that is only read. The ints of all cells: a function of cell and place. -/
abbrev mj_K : Type := Nat × Nat × List (Option (Option Nat))
abbrev mj_C : Type := Nat → Nat → Int32
abbrev mj_F : Type := Nat × List (Option Value) × List Value
abbrev mj_M : Type := List mj_K × mj_C
abbrev mj_I : Type := Instr × Nat × List Nat × Value
abbrev mj_R : Type := Option Value × mj_M
abbrev mj_A : Type := mj_R ⊕ ((mj_F × mj_M) ⊕ ((List (Bool × mj_F × mj_M) × Option (mj_F × mj_M)) ⊕ ((Nat × List Value × mj_F × mj_M) ⊕ (Bool × mj_R))))
def mj_at : List (Nat × mj_I) → Nat → Option mj_I
  | [], _ => none
  | (p, e) :: t, k => bif Nat.beq p k then some e else mj_at t k
def mj_g (L : List (Option Value)) (i : Nat) : Option Value := match L[i]? with
  | some (some v) => some v
  | _ => none
/-- a long that stands just ahead of a place is gone when this place is written -/
def mj_cut (L : List (Option Value)) : Nat → List (Option Value)
  | 0 => L
  | j + 1 => match L[j]? with
    | some (some (.long _)) => L.set j none
    | some (some (.double _)) => L.set j none
    | _ => L
def mj_s1 (L : List (Option Value)) (i : Nat) (v : Value) : List (Option Value) := (mj_cut L i).set i (some v)
def mj_s2 (L : List (Option Value)) (i : Nat) (v : Value) : List (Option Value) := ((mj_cut L i).set i (some v)).set (i + 1) none
def mj_b (f : Int32 → Int32 → Int32) (q : Nat) (L : List (Option Value)) (st : List Value) : Option mj_F := match st with
  | .int y :: .int x :: r => some (q, L, .int (f x y) :: r)
  | _ => none
def mj_lb (f : Int64 → Int64 → Int64) (q : Nat) (L : List (Option Value)) (st : List Value) : Option mj_F := match st with
  | .long y :: .long x :: r => some (q, L, .long (f x y) :: r)
  | _ => none
def mj_ldI (q : Nat) (lk : List Nat) (L : List (Option Value)) (st : List Value) : Option mj_F := match lk with
  | [i] => match mj_g L i with
    | some (.int x) => some (q, L, .int x :: st)
    | _ => none
  | _ => none
def mj_ldL (q : Nat) (lk : List Nat) (L : List (Option Value)) (st : List Value) : Option mj_F := match lk with
  | [i] => match mj_g L i with
    | some (.long x) => some (q, L, .long x :: st)
    | _ => none
  | _ => none
def mj_ldR (q : Nat) (lk : List Nat) (L : List (Option Value)) (st : List Value) : Option mj_F := match lk with
  | [i] => match mj_g L i with
    | some (.ref x) => some (q, L, .ref x :: st)
    | _ => none
  | _ => none
def mj_stI (q : Nat) (lk : List Nat) (L : List (Option Value)) (st : List Value) : Option mj_F := match lk with
  | [i] => match st with
    | .int x :: r => bif Nat.blt i L.length then some (q, mj_s1 L i (.int x), r) else none
    | _ => none
  | _ => none
def mj_stR (q : Nat) (lk : List Nat) (L : List (Option Value)) (st : List Value) : Option mj_F := match lk with
  | [i] => match st with
    | .ref x :: r => bif Nat.blt i L.length then some (q, mj_s1 L i (.ref x), r) else none
    | _ => none
  | _ => none
def mj_stL (q : Nat) (lk : List Nat) (L : List (Option Value)) (st : List Value) : Option mj_F := match lk with
  | [i] => match st with
    | .long x :: r => bif Nat.blt (i + 1) L.length then some (q, mj_s2 L i (.long x), r) else none
    | _ => none
  | _ => none
/-- what touches locals and stack alone -/
def mj_p (ins : Instr) (len : Nat) (lk : List Nat) (cv : Value) (pc : Nat) (L : List (Option Value)) (st : List Value) : Option mj_F :=
  match ins with
  | .iconst _ => some (pc + len, L, cv :: st)
  | .bipush _ => some (pc + len, L, cv :: st)
  | .sipush _ => some (pc + len, L, cv :: st)
  | .ldc _ => match lk with
    | [_] => some (pc + len, L, cv :: st)
    | _ => none
  | .ldc2_w _ => match lk with
    | [_] => some (pc + len, L, cv :: st)
    | _ => none
  | .iload_n _ => mj_ldI (pc + len) lk L st
  | .iload _ => mj_ldI (pc + len) lk L st
  | .lload_n _ => mj_ldL (pc + len) lk L st
  | .lload _ => mj_ldL (pc + len) lk L st
  | .aload_n _ => mj_ldR (pc + len) lk L st
  | .aload _ => mj_ldR (pc + len) lk L st
  | .istore_n _ => mj_stI (pc + len) lk L st
  | .istore _ => mj_stI (pc + len) lk L st
  | .lstore_n _ => mj_stL (pc + len) lk L st
  | .lstore _ => mj_stL (pc + len) lk L st
  | .astore_n _ => mj_stR (pc + len) lk L st
  | .astore _ => mj_stR (pc + len) lk L st
  | .iinc _ _ => match lk, cv with
    | [i], .int k => match mj_g L i with
      | some (.int x) => bif Nat.blt i L.length then some (pc + len, mj_s1 L i (.int (x + k)), st) else none
      | _ => none
    | _, _ => none
  | .iadd => mj_b (fun x y => x + y) (pc + len) L st
  | .isub => mj_b (fun x y => x - y) (pc + len) L st
  | .imul => mj_b (fun x y => x * y) (pc + len) L st
  | .iand => mj_b (fun x y => x &&& y) (pc + len) L st
  | .ior => mj_b (fun x y => x ||| y) (pc + len) L st
  | .ixor => mj_b (fun x y => x ^^^ y) (pc + len) L st
  | .ishl => mj_b (fun x y => x <<< (y &&& 31)) (pc + len) L st
  | .ishr => mj_b (fun x y => x >>> (y &&& 31)) (pc + len) L st
  | .ladd => mj_lb (fun x y => x + y) (pc + len) L st
  | .lmul => mj_lb (fun x y => x * y) (pc + len) L st
  | .ineg => match st with
    | .int x :: r => some (pc + len, L, .int (-x) :: r)
    | _ => none
  | .i2l => match st with
    | .int x :: r => some (pc + len, L, .long x.toInt64 :: r)
    | _ => none
  | .i2c => match st with
    | .int x :: r => some (pc + len, L, .int (x.toUInt32 % 65536).toInt32 :: r)
    | _ => none
  | .lcmp => match st with
    | .long y :: .long x :: r => some (pc + len, L, .int (lg_cmp x y) :: r)
    | _ => none
  | .dup => match st with
    | a :: r => bif Nat.beq a.category 1 then some (pc + len, L, a :: a :: r) else none
    | _ => none
  | .pop => match st with
    | a :: r => bif Nat.beq a.category 1 then some (pc + len, L, r) else none
    | _ => none
  | .dup2 => match st with
    | a :: b :: r => bif Nat.beq a.category 1 && Nat.beq b.category 1 then some (pc + len, L, a :: b :: a :: b :: r) else none
    | _ => none
  | .goto _ => match lk with
    | [t] => some (t, L, st)
    | _ => none
  | _ => none
def mj_in (i : Int32) (n : Nat) : Bool := !(decide (i < 0) || decide (n ≤ i.toNatClampNeg))
def mj_u (c : mj_C) (a j : Nat) (x : Int32) : mj_C := fun b k => if b = a ∧ k = j then x else c b k
def mj_z (c : mj_C) (a : Nat) : mj_C := fun b k => if b = a then 0 else c b k
def mj_cp (c : mj_C) (a0 a1 sp dp n : Nat) : mj_C := fun b k => if b = a1 ∧ dp ≤ k ∧ k < dp + n then c a0 (sp + (k - dp)) else c b k
def mj_t1 (d : Jvm.ClassFile.Cond) (x : Int32) : Bool := match d with
  | .eq => decide (x = 0)
  | .ne => !decide (x = 0)
  | .lt => decide (x < 0)
  | .ge => decide (0 ≤ x)
  | .gt => decide (0 < x)
  | .le => decide (x ≤ 0)
def mj_t2 (d : Jvm.ClassFile.Cond) (x y : Int32) : Bool := match d with
  | .eq => decide (x = y)
  | .ne => !decide (x = y)
  | .lt => decide (x < y)
  | .ge => decide (y ≤ x)
  | .gt => decide (y < x)
  | .le => decide (x ≤ y)
def mj_go (f : mj_F) (m : mj_M) : Option mj_A := some (.inr (.inl (f, m)))
def mj_br (b : Bool) (f g : mj_F) (m : mj_M) : Option mj_A := some (.inr (.inr (.inl ([(b, f, m)], some (g, m)))))
/-- only where b holds -/
def mj_if (b : Bool) (f : mj_F) (m : mj_M) : Option mj_A := some (.inr (.inr (.inl ([(b, f, m)], none))))
def mj_sw (x lo : Int32) (L : List (Option Value)) (st : List Value) (m : mj_M) : Nat → List Nat → List (Bool × mj_F × mj_M)
  | _, [] => []
  | k, t :: ts => (decide (x = lo + Int32.ofNat k), (t, L, st), m) :: mj_sw x lo L st m (k + 1) ts
def mj_end (v : Option Value) (m : mj_M) : Option mj_A := some (.inl (v, m))
def mj_sum (st : List Value) : Nat := (st.map fun v => v.category).sum
def mj_call (lk : List Nat) (q : Nat) (L : List (Option Value)) (st : List Value) (m : mj_M) (ok : List Value → Bool) : Option mj_A := match lk with
  | k :: y :: n :: _ => bif (Nat.ble n st.length && Nat.ble (mj_sum (st.drop n)) 8) && ok (st.take n).reverse then some (.inr (.inr (.inr (.inl (y, (st.take n).reverse, (q, L, st.drop n), m))))) else none
  | _ => none
def mj_isO (m : mj_M) (ci : Nat) (as : List Value) : Bool := match as with
  | .ref b :: _ => match m.1[b]? with
    | some (t, _, _) => Nat.beq t (ci + 3)
    | none => false
  | _ => false
/-- what reads or writes cells, calls, turns off or ends. df: how the fields of an object of the n-th kind stand at first -/
def mj_q (df : Nat → List (Option (Option Nat))) (ins : Instr) (len : Nat) (lk : List Nat) (cv : Value) (pc : Nat) (L : List (Option Value)) (st : List Value) (m : mj_M) : Option mj_A :=
  match ins with
  | .ifCond d _ => match lk, st with
    | [t], .int x :: r => mj_br (mj_t1 d x) (t, L, r) (pc + len, L, r) m
    | _, _ => none
  | .if_icmp d _ => match lk, st with
    | [t], .int y :: .int x :: r => mj_br (mj_t2 d x y) (t, L, r) (pc + len, L, r) m
    | _, _ => none
  | .tableswitch _ _ _ _ => match lk, cv, st with
    | t :: ts, .int lo, .int x :: r => some (.inr (.inr (.inl (mj_sw x lo L r m 0 ts, some ((t, L, r), m)))))
    | _, _, _ => none
  | .idiv => match st with
    | .int y :: .int x :: r => mj_if (!decide (y = 0)) (pc + len, L, .int (x / y) :: r) m
    | _ => none
  | .irem => match st with
    | .int y :: .int x :: r => mj_if (!decide (y = 0)) (pc + len, L, .int (x - x / y * y) :: r) m
    | _ => none
  | .getfield _ => match lk, st with
    | ci :: k :: _, .ref a :: r => match m.1[a]? with
      | some (t, _, fs) => bif Nat.beq t (ci + 3) then (match fs[k]? with
        | some none => mj_go (pc + len, L, .int (m.2 a k) :: r) m
        | some (some (some b)) => mj_go (pc + len, L, .ref b :: r) m
        | _ => none) else none
      | none => none
    | _, _ => none
  | .putfield _ => match lk, st with
    | ci :: k :: fl :: _, v :: .ref a :: r => match m.1[a]? with
      | some (t, n, fs) => bif Nat.beq t (ci + 3) then (match fl, fs[k]?, v with
        | 0, some none, .int x => mj_go (pc + len, L, r) (m.1, mj_u m.2 a k x)
        | 1, some (some _), .ref b => mj_go (pc + len, L, r) (m.1.set a (t, n, fs.set k (some (some b))), m.2)
        | _, _, _ => none) else none
      | none => none
    | _, _ => none
  | .getstatic _ => match lk with
    | _ :: _ => mj_go (pc + len, L, .ref 1 :: st) m
    | _ => none
  | .iaload => match st with
    | .int i :: .ref a :: r => match m.1[a]? with
      | some (t, n, _) => bif Nat.beq t 0 || (Nat.beq t 1000 && Nat.blt a 2) then mj_if (mj_in i n) (pc + len, L, .int (m.2 a i.toNatClampNeg) :: r) m else none
      | none => none
    | _ => none
  | .caload => match st with
    | .int i :: .ref a :: r => match m.1[a]? with
      | some (t, n, _) => bif Nat.beq t 1 then mj_if (mj_in i n) (pc + len, L, .int (m.2 a i.toNatClampNeg) :: r) m else none
      | none => none
    | _ => none
  | .iastore => match st with
    | .int x :: .int i :: .ref a :: r => match m.1[a]? with
      | some (t, n, _) => bif Nat.beq t 0 then mj_if (mj_in i n) (pc + len, L, r) (m.1, mj_u m.2 a i.toNatClampNeg x) else none
      | none => none
    | _ => none
  | .castore => match st with
    | .int x :: .int i :: .ref a :: r => match m.1[a]? with
      | some (t, n, _) => bif Nat.beq t 1 then mj_if (mj_in i n) (pc + len, L, r) (m.1, mj_u m.2 a i.toNatClampNeg (vp_nar .char x)) else none
      | none => none
    | _ => none
  | .aaload => match st with
    | .int i :: .ref a :: r => match m.1[a]? with
      | some (t, n, fs) => bif Nat.beq t 2 && mj_in i n then (match fs[i.toNatClampNeg]? with
        | some (some (some b)) => mj_go (pc + len, L, .ref b :: r) m
        | _ => none) else none
      | none => none
    | _ => none
  | .aastore => match lk, st with
    | ci :: _, .ref b :: .int i :: .ref a :: r => match m.1[a]?, m.1[b]? with
      | some (t, n, fs), some (tb, _, _) => bif (Nat.blt i.toNatClampNeg fs.length && (Nat.beq t 2 && Nat.beq tb (ci + 3))) && mj_in i n then mj_go (pc + len, L, r) (m.1.set a (t, n, fs.set i.toNatClampNeg (some (some b))), m.2) else none
      | _, _ => none
    | _, _ => none
  | .arraylength => match st with
    | .ref a :: r => match m.1[a]? with
      | some (t, n, _) => bif (Nat.beq t 0 || Nat.beq t 1) || (Nat.beq t 1000 && Nat.blt a 2) then mj_go (pc + len, L, .int (Int32.ofNat n) :: r) m else none
      | none => none
    | _ => none
  | .new _ => match lk with
    | ci :: n :: _ => bif Nat.beq (df ci).length n then mj_go (pc + len, L, .ref m.1.length :: st) (m.1 ++ [(ci + 3, n, df ci)], mj_z m.2 m.1.length) else none
    | _ => none
  | .newarray _ => match lk, st with
    | t :: _, .int n :: r => bif Nat.ble t 1 && (!decide (n < 0) && Nat.ble n.toNatClampNeg 1000000) then mj_go (pc + len, L, .ref m.1.length :: r) (m.1 ++ [(t, n.toNatClampNeg, [])], mj_z m.2 m.1.length) else none
    | _, _ => none
  | .anewarray _ => match lk, st with
    | _ :: _, .int n :: r => bif !decide (n < 0) && Nat.ble n.toNatClampNeg 1000000 then mj_go (pc + len, L, .ref m.1.length :: r) (m.1 ++ [(2, n.toNatClampNeg, List.replicate n.toNatClampNeg (some none))], mj_z m.2 m.1.length) else none
    | _, _ => none
  | .invokevirtual _ => match lk with
    | 1 :: _ :: _ :: ci :: _ => mj_call lk (pc + len) L st m (mj_isO m ci)
    | _ => none
  | .invokespecial _ => match lk with
    | 2 :: _ => mj_call lk (pc + len) L st m (fun as => match as with
      | .ref _ :: _ => true
      | _ => false)
    | 4 :: _ => mj_call lk (pc + len) L st m (fun as => match as with
      | .ref _ :: _ => true
      | _ => false)
    | 5 :: _ => match st with
      | [.ref _] => mj_go (pc + len, L, []) m
      | _ => none
    | _ => none
  | .invokestatic _ => match lk with
    | 0 :: _ => mj_call lk (pc + len) L st m (fun _ => true)
    | 3 :: _ => mj_call lk (pc + len) L st m (fun _ => true)
    | 6 :: _ => match st with
      | [.int n, .int dp, .ref a1, .int sp, .ref a0] => match m.1[a0]?, m.1[a1]? with
        | some (t0, n0, _), some (t1, n1, _) => bif Nat.beq t0 0 && Nat.beq t1 0 then
            mj_if ((!decide (sp < 0) && (!decide (dp < 0) && !decide (n < 0))) && (decide (sp.toNatClampNeg + n.toNatClampNeg ≤ n0) && decide (dp.toNatClampNeg + n.toNatClampNeg ≤ n1))) (pc + len, L, []) (m.1, mj_cp m.2 a0 a1 sp.toNatClampNeg dp.toNatClampNeg n.toNatClampNeg) else none
        | _, _ => none
      | _ => none
    | _ => none
  | .ireturn => match lk, st with
    | [0], [.int v] => mj_end (some (.int v)) m
    | [1], [.int v] => some (.inr (.inr (.inr (.inr (decide (v = 0) || decide (v = 1), (some (.int v), m))))))
    | _, _ => none
  | .lreturn => match st with
    | [.long v] => mj_end (some (.long v)) m
    | _ => none
  | .areturn => match st with
    | [.ref v] => mj_end (some (.ref v)) m
    | _ => none
  | .return_ => match st with
    | [] => mj_end none m
    | _ => none
  | _ => none

/-- one step -/
def mj_step (df : Nat → List (Option (Option Nat))) (cd : List (Nat × mj_I)) (f : mj_F) (m : mj_M) : Option mj_A :=
  match mj_at cd f.1 with
  | none => none
  | some (ins, len, lk, cv) => match mj_p ins len lk cv f.1 f.2.1 f.2.2 with
    | some g => mj_go g m
    | none => mj_q df ins len lk cv f.1 f.2.1 f.2.2 m
def mj_sel (bs : List (Bool × mj_F × mj_M)) (d : Option (mj_F × mj_M)) (k : mj_F × mj_M → Option mj_R) : Option mj_R :=
  bs.foldr (fun b acc => cond b.1 (k b.2) acc) (match d with
    | none => none
    | some s => k s)
def mj_en (nL : Nat) (as : List Value) : List (Option Value) :=
  (as.flatMap fun v => bif Nat.beq v.category 2 then [some v, none] else [some v]) ++ List.replicate (nL - (as.flatMap fun v => bif Nat.beq v.category 2 then [some v, none] else [some v]).length) none
/-- what comes of a step: K goes on in the frame, C makes calls and goes on behind them -/
def mj_nx (nlT : Nat → Nat) (K C : Nat → mj_F → mj_M → Option mj_R) (y : Nat) (a : Option mj_A) : Option mj_R := match a with
  | none => none
  | some (.inl r) => some r
  | some (.inr (.inl (g, m'))) => K y g m'
  | some (.inr (.inr (.inl (bs, d)))) => mj_sel bs d (fun s => K y s.1 s.2)
  | some (.inr (.inr (.inr (.inl (z, as, g, m'))))) => bif Nat.ble (mj_sum as) (nlT z) then (C z (0, mj_en (nlT z) as, []) m').bind (fun r => C y (g.1, g.2.1, r.1.toList ++ g.2.2) r.2) else none
  | some (.inr (.inr (.inr (.inr (b, r))))) => cond b (some r) none
theorem mj_sel_mono {bs : List (Bool × mj_F × mj_M)} {d : Option (mj_F × mj_M)} {k k' : mj_F × mj_M → Option mj_R} (hk : ∀ s r, k s = some r → k' s = some r) {r : mj_R} (h : mj_sel bs d k = some r) : mj_sel bs d k' = some r := by
  unfold mj_sel at h ⊢
  induction bs with
  | nil =>
    cases d with
    | none => exact h
    | some s => exact hk s r h
  | cons b bs ih =>
    obtain ⟨b1, s⟩ := b
    cases b1 with
    | true => exact hk s r h
    | false => exact ih h
theorem mj_sel_one {bs : List (Bool × mj_F × mj_M)} {d : Option (mj_F × mj_M)} {k : mj_F × mj_M → Option mj_R} {r : mj_R} (h : mj_sel bs d k = some r) : ∃ s, k s = some r ∧ ∀ k' : mj_F × mj_M → Option mj_R, k' s = some r → mj_sel bs d k' = some r := by
  unfold mj_sel at h ⊢
  induction bs with
  | nil =>
    cases d with
    | none => cases h
    | some s => exact ⟨s, h, fun k' h' => h'⟩
  | cons b bs ih =>
    obtain ⟨b1, s⟩ := b
    cases b1 with
    | true => exact ⟨s, h, fun k' h' => h'⟩
    | false => exact ih h
theorem mj_nx_mono {nlT : Nat → Nat} {K K' C C' : Nat → mj_F → mj_M → Option mj_R} (hK : ∀ y f m r, K y f m = some r → K' y f m = some r) (hC : ∀ y f m r, C y f m = some r → C' y f m = some r) {y : Nat} {a : Option mj_A} {r : mj_R} (h : mj_nx nlT K C y a = some r) : mj_nx nlT K' C' y a = some r := by
  rcases a with _ | (a | a | a | a | a)
  · cases h
  · exact h
  · exact hK _ _ _ _ h
  · exact mj_sel_mono (fun s r => hK y s.1 s.2 r) h
  · obtain ⟨z, as, g, m'⟩ := a
    cases hb : Nat.ble (mj_sum as) (nlT z) with
    | false => simp [mj_nx, hb] at h
    | true =>
      simp only [mj_nx, hb, cond_true] at h ⊢
      obtain ⟨q, h1, h2⟩ := Option.bind_eq_some_iff.mp h
      exact Option.bind_eq_some_iff.mpr ⟨q, hC _ _ _ _ h1, hC _ _ _ _ h2⟩
  · exact h
section MJ
variable (df : Nat → List (Option (Option Nat))) (cdT : Nat → List (Nat × mj_I)) (nlT : Nat → Nat)
def mj_run : Nat → Nat → mj_F → mj_M → Option mj_R
  | 0 => fun _ _ _ => none
  | n + 1 => fun y f m => mj_nx nlT (mj_run n) (mj_run n) y (mj_step df (cdT y) f m)
theorem mj_run_succ : ∀ (n y : Nat) (f : mj_F) (m : mj_M) (r : mj_R), mj_run df cdT nlT n y f m = some r → mj_run df cdT nlT (n + 1) y f m = some r := by
  intro n
  induction n with
  | zero => intro y f m r h; cases h
  | succ n ih => intro y f m r h; exact mj_nx_mono ih ih h
theorem mj_run_le {n k y : Nat} {f : mj_F} {m : mj_M} {r : mj_R} (h : mj_run df cdT nlT n y f m = some r) (hk : n ≤ k) : mj_run df cdT nlT k y f m = some r := by
  induction hk with
  | refl => exact h
  | step _ ih => exact mj_run_succ df cdT nlT _ _ _ _ _ ih
noncomputable def mj_ev (y : Nat) (f : mj_F) (m : mj_M) : Option mj_R := @dite (Option mj_R) (∃ r n, mj_run df cdT nlT n y f m = some r) (Classical.propDecidable _) (fun h => some h.choose) (fun _ => none)
theorem mj_ev_of {n y : Nat} {f : mj_F} {m : mj_M} {r : mj_R} (h : mj_run df cdT nlT n y f m = some r) : mj_ev df cdT nlT y f m = some r := by
  have hx : ∃ r n, mj_run df cdT nlT n y f m = some r := ⟨r, n, h⟩
  unfold mj_ev
  rw [dif_pos hx]
  obtain ⟨k, h2⟩ := hx.choose_spec
  have h3 := mj_run_le df cdT nlT h (Nat.le_max_left n k)
  have h4 := mj_run_le df cdT nlT h2 (Nat.le_max_right n k)
  rw [h3] at h4
  exact h4.symm
theorem mj_ev_run {y : Nat} {f : mj_F} {m : mj_M} {r : mj_R} (h : mj_ev df cdT nlT y f m = some r) : ∃ n, mj_run df cdT nlT n y f m = some r := by
  unfold mj_ev at h
  split at h
  · rename_i hx
    cases h
    exact hx.choose_spec
  · cases h
theorem mj_ev_eq (y : Nat) (f : mj_F) (m : mj_M) : mj_ev df cdT nlT y f m = mj_nx nlT (mj_ev df cdT nlT) (mj_ev df cdT nlT) y (mj_step df (cdT y) f m) := by
  apply Option.ext
  intro r
  constructor
  · intro h
    obtain ⟨n, h⟩ := mj_ev_run df cdT nlT h
    cases n with
    | zero => cases h
    | succ n => exact mj_nx_mono (fun _ _ _ _ h => mj_ev_of df cdT nlT h) (fun _ _ _ _ h => mj_ev_of df cdT nlT h) h
  · intro h
    have key : ∃ n, mj_nx nlT (mj_run df cdT nlT n) (mj_run df cdT nlT n) y (mj_step df (cdT y) f m) = some r := by
      generalize mj_step df (cdT y) f m = a at h ⊢
      rcases a with _ | (a | a | a | a | a)
      · cases h
      · exact ⟨0, h⟩
      · exact mj_ev_run df cdT nlT h
      · obtain ⟨bs, d⟩ := a
        have h : mj_sel bs d (fun s => mj_ev df cdT nlT y s.1 s.2) = some r := h
        obtain ⟨s, h1, h2⟩ := mj_sel_one h
        obtain ⟨n, h3⟩ := mj_ev_run df cdT nlT h1
        exact ⟨n, h2 (fun s => mj_run df cdT nlT n y s.1 s.2) h3⟩
      · obtain ⟨z, as, g, m'⟩ := a
        cases hb : Nat.ble (mj_sum as) (nlT z) with
        | false => simp [mj_nx, hb] at h
        | true =>
          simp only [mj_nx, hb, cond_true] at h ⊢
          obtain ⟨q, h1, h2⟩ := Option.bind_eq_some_iff.mp h
          obtain ⟨n1, h3⟩ := mj_ev_run df cdT nlT h1
          obtain ⟨n2, h4⟩ := mj_ev_run df cdT nlT h2
          exact ⟨max n1 n2, Option.bind_eq_some_iff.mpr ⟨q, mj_run_le df cdT nlT h3 (Nat.le_max_left n1 n2), mj_run_le df cdT nlT h4 (Nat.le_max_right n1 n2)⟩⟩
      · exact ⟨0, h⟩
    obtain ⟨n, h⟩ := key
    exact mj_ev_of df cdT nlT (n := n + 1) h
end MJ
