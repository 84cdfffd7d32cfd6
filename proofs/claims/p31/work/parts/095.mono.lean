/-! nothing goes away: the cells and their slots only grow -/
def mj_gr (sh sh' : List mj_K) : Prop := sh.length ≤ sh'.length ∧ mj_sl sh ≤ mj_sl sh'
theorem mj_gr.rf {sh : List mj_K} : mj_gr sh sh := ⟨Nat.le_refl _, Nat.le_refl _⟩
theorem mj_gr.tr {a b c : List mj_K} (h1 : mj_gr a b) (h2 : mj_gr b c) : mj_gr a c := ⟨Nat.le_trans h1.1 h2.1, Nat.le_trans h1.2 h2.2⟩
theorem mj_gr.set {sh : List mj_K} {a t n : Nat} {fs fs' : List (Option (Option Nat))} (h : sh[a]? = some (t, n, fs)) : mj_gr sh (sh.set a (t, n, fs')) := ⟨by rw [List.length_set]; exact Nat.le_refl _, by rw [mj_sl_set h]; exact Nat.le_refl _⟩
theorem mj_gr.app {sh : List mj_K} {x : mj_K} : mj_gr sh (sh ++ [x]) := ⟨by simp, by rw [mj_sl_app]; omega⟩
def mj_ok (sh : List mj_K) (a : Option mj_A) : Prop := match a with
  | none => True
  | some (.inl r) => mj_gr sh r.2.1
  | some (.inr (.inl (_, m))) => mj_gr sh m.1
  | some (.inr (.inr (.inl (bs, d)))) => (∀ b ∈ bs, mj_gr sh b.2.2.1) ∧ ∀ s, d = some s → mj_gr sh s.2.1
  | some (.inr (.inr (.inr (.inl (_, _, _, m))))) => mj_gr sh m.1
  | some (.inr (.inr (.inr (.inr (_, r))))) => mj_gr sh r.2.1
theorem mj_ok_if {sh : List mj_K} {b : Bool} {f : mj_F} {m : mj_M} (h : mj_gr sh m.1) : mj_ok sh (mj_if b f m) := ⟨fun x hx => by cases List.mem_singleton.mp hx; exact h, fun s hs => by cases hs⟩
theorem mj_ok_br {sh : List mj_K} {b : Bool} {f g : mj_F} {m : mj_M} (h : mj_gr sh m.1) : mj_ok sh (mj_br b f g m) := ⟨fun x hx => by cases List.mem_singleton.mp hx; exact h, fun s hs => by cases hs; exact h⟩
theorem mj_ok_cif {sh : List mj_K} {b : Bool} {x : Option mj_A} (h : mj_ok sh x) : mj_ok sh (bif b then x else none) := by
  cases b with
  | true => exact h
  | false => trivial
theorem mj_ok_sw {x lo : Int32} {L : List (Option Value)} {st : List Value} {mm : mj_M} : ∀ (ts : List Nat) (k : Nat) (b : Bool × mj_F × mj_M), b ∈ mj_sw x lo L st mm k ts → b.2.2 = mm := by
  intro ts
  induction ts with
  | nil => intro k b h; cases h
  | cons t ts ih =>
    intro k b h
    rcases List.mem_cons.mp h with h | h
    · rw [h]
    · exact ih _ _ h
theorem mj_ok_call {lk : List Nat} {q : Nat} {L : List (Option Value)} {st : List Value} {m : mj_M} {ok : List Value → Bool} : mj_ok m.1 (mj_call lk q L st m ok) := by
  unfold mj_call
  split
  · exact mj_ok_cif mj_gr.rf
  · trivial
theorem mj_ok_q (df : Nat → List (Option (Option Nat))) (ins : Instr) (len : Nat) (lk : List Nat) (cv : Value) (pc : Nat) (L : List (Option Value)) (st : List Value) (sh : List mj_K) (c : mj_C) : mj_ok sh (mj_q df ins len lk cv pc L st (sh, c)) := by
  cases ins with
  | ifCond d z =>
    simp only [mj_q]
    split
    · exact mj_ok_br mj_gr.rf
    · trivial
  | if_icmp d z =>
    simp only [mj_q]
    split
    · exact mj_ok_br mj_gr.rf
    · trivial
  | tableswitch d lo hi os =>
    simp only [mj_q]
    split
    · exact ⟨fun b hb => by rw [mj_ok_sw _ _ _ hb]; exact mj_gr.rf, fun s hs => by cases hs; exact mj_gr.rf⟩
    · trivial
  | idiv =>
    simp only [mj_q]
    split
    · exact mj_ok_if mj_gr.rf
    · trivial
  | irem =>
    simp only [mj_q]
    split
    · exact mj_ok_if mj_gr.rf
    · trivial
  | getfield n =>
    simp only [mj_q]
    split
    · split
      · apply mj_ok_cif
        split
        · exact mj_gr.rf
        · exact mj_gr.rf
        · trivial
      · trivial
    · trivial
  | putfield n =>
    simp only [mj_q]
    split
    · split
      · rename_i hs
        apply mj_ok_cif
        split
        · exact mj_gr.rf
        · exact mj_gr.set hs
        · trivial
      · trivial
    · trivial
  | getstatic n =>
    simp only [mj_q]
    split
    · exact mj_gr.rf
    · trivial
  | iaload =>
    simp only [mj_q]
    split
    · split
      · exact mj_ok_cif (mj_ok_if mj_gr.rf)
      · trivial
    · trivial
  | caload =>
    simp only [mj_q]
    split
    · split
      · exact mj_ok_cif (mj_ok_if mj_gr.rf)
      · trivial
    · trivial
  | iastore =>
    simp only [mj_q]
    split
    · split
      · exact mj_ok_cif (mj_ok_if mj_gr.rf)
      · trivial
    · trivial
  | castore =>
    simp only [mj_q]
    split
    · split
      · exact mj_ok_cif (mj_ok_if mj_gr.rf)
      · trivial
    · trivial
  | aaload =>
    simp only [mj_q]
    split
    · split
      · apply mj_ok_cif
        split
        · exact mj_gr.rf
        · trivial
      · trivial
    · trivial
  | aastore =>
    simp only [mj_q]
    split
    · split
      · rename_i hs _
        apply mj_ok_cif
        exact mj_gr.set hs
      · trivial
    · trivial
  | arraylength =>
    simp only [mj_q]
    split
    · split
      · exact mj_ok_cif mj_gr.rf
      · trivial
    · trivial
  | new n =>
    simp only [mj_q]
    split
    · exact mj_ok_cif mj_gr.app
    · trivial
  | newarray n =>
    simp only [mj_q]
    split
    · exact mj_ok_cif mj_gr.app
    · trivial
  | anewarray n =>
    simp only [mj_q]
    split
    · exact mj_ok_cif mj_gr.app
    · trivial
  | invokevirtual n =>
    simp only [mj_q]
    split
    · exact mj_ok_call (m := (sh, c))
    · trivial
  | invokespecial n =>
    simp only [mj_q]
    split
    · exact mj_ok_call (m := (sh, c))
    · exact mj_ok_call (m := (sh, c))
    · split
      · exact mj_gr.rf
      · trivial
    · trivial
  | invokestatic n =>
    simp only [mj_q]
    split
    · exact mj_ok_call (m := (sh, c))
    · exact mj_ok_call (m := (sh, c))
    · split
      · split
        · exact mj_ok_cif (mj_ok_if mj_gr.rf)
        · trivial
      · trivial
    · trivial
  | ireturn =>
    simp only [mj_q]
    split
    · exact mj_gr.rf
    · exact mj_gr.rf
    · trivial
  | lreturn =>
    simp only [mj_q]
    split
    · exact mj_gr.rf
    · trivial
  | areturn =>
    simp only [mj_q]
    split
    · exact mj_gr.rf
    · trivial
  | return_ =>
    simp only [mj_q]
    split
    · exact mj_gr.rf
    · trivial
  | _ => trivial
theorem mj_sel_mem {d : Option (mj_F × mj_M)} {k : mj_F × mj_M → Option mj_R} {r : mj_R} : ∀ (bs : List (Bool × mj_F × mj_M)), mj_sel bs d k = some r → (∃ b ∈ bs, k b.2 = some r) ∨ ∃ s, d = some s ∧ k s = some r := by
  intro bs
  induction bs with
  | nil =>
    intro h
    cases d with
    | none => cases h
    | some s => exact Or.inr ⟨s, rfl, h⟩
  | cons b bs ih =>
    intro h
    obtain ⟨b1, s⟩ := b
    cases b1 with
    | true => exact Or.inl ⟨(true, s), List.mem_cons_self, h⟩
    | false =>
      rcases ih h with ⟨b, hb, hr⟩ | h
      · exact Or.inl ⟨b, List.mem_cons_of_mem _ hb, hr⟩
      · exact Or.inr h
theorem mj_mono (df : Nat → List (Option (Option Nat))) (cdT : Nat → List (Nat × mj_I)) (nlT : Nat → Nat) : ∀ (n y : Nat) (f : mj_F) (m : mj_M) (r : mj_R), mj_run df cdT nlT n y f m = some r → mj_gr m.1 r.2.1 := by
  intro n
  induction n with
  | zero => intro y f m r h; cases h
  | succ n ih =>
    intro y f m r h
    have h : mj_nx nlT (mj_run df cdT nlT n) (mj_run df cdT nlT n) y (mj_step df (cdT y) f m) = some r := h
    have hok : mj_ok m.1 (mj_step df (cdT y) f m) := by
      unfold mj_step
      split
      · trivial
      · split
        · exact mj_gr.rf
        · exact mj_ok_q _ _ _ _ _ _ _ _ _ _
    revert h hok
    generalize mj_step df (cdT y) f m = a
    intro h hok
    rcases a with _ | (a | a | a | a | a)
    · cases h
    · cases h; exact hok
    · exact hok.tr (ih _ _ _ _ h)
    · obtain ⟨bs, d⟩ := a
      have h : mj_sel bs d (fun s => mj_run df cdT nlT n y s.1 s.2) = some r := h
      rcases mj_sel_mem bs h with ⟨b, hb, hr⟩ | ⟨s, hs, hr⟩
      · exact (hok.1 b hb).tr (ih _ _ _ _ hr)
      · exact (hok.2 s hs).tr (ih _ _ _ _ hr)
    · obtain ⟨z, as, g, m'⟩ := a
      obtain ⟨-, h⟩ : Nat.ble (mj_sum as) (nlT z) = true ∧ ((mj_run df cdT nlT n z (0, mj_en (nlT z) as, []) m').bind (fun r => mj_run df cdT nlT n y (g.1, g.2.1, r.1.toList ++ g.2.2) r.2)) = some r := by
        cases hb : Nat.ble (mj_sum as) (nlT z) with
        | false => simp [mj_nx, hb] at h
        | true => simp only [mj_nx, hb, cond_true] at h; exact ⟨rfl, h⟩
      obtain ⟨q, h1, h2⟩ := Option.bind_eq_some_iff.mp h
      exact (hok.tr (ih _ _ _ _ h1)).tr (ih _ _ _ _ h2)
    · obtain ⟨b, r'⟩ := a
      cases b with
      | true => cases h; exact hok
      | false => cases h
