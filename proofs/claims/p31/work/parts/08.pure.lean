/-! THE MACHINE FOLLOWS THE SMALL ONE: locals and stack -/
theorem mj_b_spec {f : Int32 → Int32 → Int32} {q : Nat} {L : List (Option Value)} {st : List Value} {g : mj_F} (h : mj_b f q L st = some g) : ∃ x y r, st = .int y :: .int x :: r ∧ g = (q, L, .int (f x y) :: r) := by
  unfold mj_b at h
  split at h
  · cases h; exact ⟨_, _, _, rfl, rfl⟩
  · cases h
theorem mj_lb_spec {f : Int64 → Int64 → Int64} {q : Nat} {L : List (Option Value)} {st : List Value} {g : mj_F} (h : mj_lb f q L st = some g) : ∃ x y r, st = .long y :: .long x :: r ∧ g = (q, L, .long (f x y) :: r) := by
  unfold mj_lb at h
  split at h
  · cases h; exact ⟨_, _, _, rfl, rfl⟩
  · cases h
theorem mj_g_spec {L : List (Option Value)} {i : Nat} {v : Value} (h : mj_g L i = some v) : L[i]? = some (some v) := by
  unfold mj_g at h
  split at h
  · rename_i v' hv
    cases h
    exact hv
  · cases h
theorem mj_ldI_spec {q : Nat} {lk : List Nat} {L : List (Option Value)} {st : List Value} {g : mj_F} (h : mj_ldI q lk L st = some g) : ∃ i x, lk = [i] ∧ L[i]? = some (some (.int x)) ∧ g = (q, L, .int x :: st) := by
  unfold mj_ldI at h
  split at h
  · split at h
    · rename_i i _ x hx
      cases h
      exact ⟨_, x, rfl, mj_g_spec hx, rfl⟩
    · cases h
  · cases h
theorem mj_stI_spec {q : Nat} {lk : List Nat} {L : List (Option Value)} {st : List Value} {g : mj_F} (h : mj_stI q lk L st = some g) : ∃ i x r, lk = [i] ∧ st = .int x :: r ∧ i < L.length ∧ g = (q, mj_s1 L i (.int x), r) := by
  unfold mj_stI at h
  split at h
  · split at h
    · rename_i i _ x r
      cases hb : Nat.blt (i) L.length with
      | false => rw [hb] at h; cases h
      | true =>
        rw [hb] at h
        cases h
        exact ⟨_, _, _, rfl, rfl, by simpa using hb, rfl⟩
    · cases h
  · cases h
theorem mj_ldL_spec {q : Nat} {lk : List Nat} {L : List (Option Value)} {st : List Value} {g : mj_F} (h : mj_ldL q lk L st = some g) : ∃ i x, lk = [i] ∧ L[i]? = some (some (.long x)) ∧ g = (q, L, .long x :: st) := by
  unfold mj_ldL at h
  split at h
  · split at h
    · rename_i i _ x hx
      cases h
      exact ⟨_, x, rfl, mj_g_spec hx, rfl⟩
    · cases h
  · cases h
theorem mj_stL_spec {q : Nat} {lk : List Nat} {L : List (Option Value)} {st : List Value} {g : mj_F} (h : mj_stL q lk L st = some g) : ∃ i x r, lk = [i] ∧ st = .long x :: r ∧ i + 1 < L.length ∧ g = (q, mj_s2 L i (.long x), r) := by
  unfold mj_stL at h
  split at h
  · split at h
    · rename_i i _ x r
      cases hb : Nat.blt (i + 1) L.length with
      | false => rw [hb] at h; cases h
      | true =>
        rw [hb] at h
        cases h
        exact ⟨_, _, _, rfl, rfl, by simpa using hb, rfl⟩
    · cases h
  · cases h
theorem mj_ldR_spec {q : Nat} {lk : List Nat} {L : List (Option Value)} {st : List Value} {g : mj_F} (h : mj_ldR q lk L st = some g) : ∃ i x, lk = [i] ∧ L[i]? = some (some (.ref x)) ∧ g = (q, L, .ref x :: st) := by
  unfold mj_ldR at h
  split at h
  · split at h
    · rename_i i _ x hx
      cases h
      exact ⟨_, x, rfl, mj_g_spec hx, rfl⟩
    · cases h
  · cases h
theorem mj_stR_spec {q : Nat} {lk : List Nat} {L : List (Option Value)} {st : List Value} {g : mj_F} (h : mj_stR q lk L st = some g) : ∃ i x r, lk = [i] ∧ st = .ref x :: r ∧ i < L.length ∧ g = (q, mj_s1 L i (.ref x), r) := by
  unfold mj_stR at h
  split at h
  · split at h
    · rename_i i _ x r
      cases hb : Nat.blt (i) L.length with
      | false => rw [hb] at h; cases h
      | true =>
        rw [hb] at h
        cases h
        exact ⟨_, _, _, rfl, rfl, by simpa using hb, rfl⟩
    · cases h
  · cases h
theorem mj_and {a b : Bool} (h : (a && b) = true) : a = true ∧ b = true := by
  rw [Bool.and_eq_true] at h
  exact h
section MP
variable {p : Program} {l : Launch} {e : Env} {R : Room} {s : State} {m : MethodId} {args : Array Value} {below : List Frame} {meth : Method} {co : Code} {H : Heap} {locs : List Loc} {cells slots : Nat} {Q : State → Prop}
theorem mj_pure {Y : mj_Y} {cc : ByteArray} (hx : p.tables.exec = Jvm.exec) (hb : co.code = cc) (hown : s.vm.findClass (mj_own Y) = some m.cls) (hts : ∀ w ∈ mj_TB, w.before args s = true) {ad : Nat → Nat} {nL pc len : Nat} {ins : Instr} {lk : List Nat} {cv : Value} {L : List (Option Value)} {st : List Value} {g : mj_F} {ls : Array Slot} (hd : decode cc pc = .ok (ins, len)) (hk : mj_lnk Y pc ins len lk cv = true) (hp : mj_p ins len lk cv pc L st = some g) (hl : mj_LR ad nL L ls)
    (kk : ∀ ls', mj_LR ad nL g.2.1 ls' → W p l e R s m args below meth co H locs cells slots Q (F0 m g.1 ls' (g.2.2.map (mj_tr ad)))) : W p l e R s m args below meth co H locs cells slots Q (F0 m pc ls (st.map (mj_tr ad))) := by
  cases ins with
  | iconst n =>
    obtain ⟨h1, h2⟩ := mj_and hk
    have e1 := Nat.eq_of_beq_eq_true h1
    subst e1
    have e2 := of_decide_eq_true h2
    subst e2
    have hp : some (pc + 1, L, _ :: st) = some g := hp
    cases hp
    exact lv_iconst hx hb hd rfl (kk ls hl)
  | bipush n =>
    obtain ⟨h1, h2⟩ := mj_and hk
    have e1 := Nat.eq_of_beq_eq_true h1
    subst e1
    have e2 := of_decide_eq_true h2
    subst e2
    have hp : some (pc + 2, L, _ :: st) = some g := hp
    cases hp
    exact lv_bipush hx hb hd rfl (kk ls hl)
  | sipush n =>
    obtain ⟨h1, h2⟩ := mj_and hk
    have e1 := Nat.eq_of_beq_eq_true h1
    subst e1
    have e2 := of_decide_eq_true h2
    subst e2
    have hp : some (pc + 3, L, _ :: st) = some g := hp
    cases hp
    exact lv_sipush hx hb hd rfl (kk ls hl)
  | ldc n =>
    obtain ⟨h1, h2⟩ := mj_and hk
    have e1 := Nat.eq_of_beq_eq_true h1
    subst e1
    simp only [mj_p] at hp
    split at hp
    · rename_i p0
      cases hp
      cases cv with
      | int v => exact lv_ldc hx hb hown (hts _ (mj_wd_in h2)) hd (kk ls hl)
      | _ => cases h2
    · cases hp
  | ldc2_w n =>
    obtain ⟨h1, h2⟩ := mj_and hk
    have e1 := Nat.eq_of_beq_eq_true h1
    subst e1
    simp only [mj_p] at hp
    split at hp
    · rename_i p0
      cases hp
      cases cv with
      | long v => exact lv_ldc2 hx hb hown (hts _ (mj_wd_in h2)) hd (kk ls hl)
      | _ => cases h2
    · cases hp
  | iload_n n =>
    obtain ⟨i, x, rfl, h3, rfl⟩ := mj_ldI_spec hp
    obtain ⟨h1, h2⟩ := mj_and hk
    have e1 := Nat.eq_of_beq_eq_true h1
    subst e1
    have e2 := of_decide_eq_true h2
    cases e2
    exact lv_iload_n hx hb hd rfl (hl.2.2.2 _ _ h3) (kk ls hl)
  | istore_n n =>
    obtain ⟨i, x, r, rfl, rfl, h3, rfl⟩ := mj_stI_spec hp
    obtain ⟨h1, h2⟩ := mj_and hk
    have e1 := Nat.eq_of_beq_eq_true h1
    subst e1
    have e2 := of_decide_eq_true h2
    cases e2
    rw [hl.1] at h3
    exact lv_istore_n hx hb hd rfl hl.has h3 rfl (fun ls' h' => kk ls' (hl.st1 h3 rfl h'))
  | iload n =>
    obtain ⟨i, x, rfl, h3, rfl⟩ := mj_ldI_spec hp
    obtain ⟨h1, h2⟩ := mj_and hk
    have e1 := Nat.eq_of_beq_eq_true h1
    subst e1
    have e2 := of_decide_eq_true h2
    cases e2
    exact lv_iload hx hb hd (hl.2.2.2 _ _ h3) (kk ls hl)
  | istore n =>
    obtain ⟨i, x, r, rfl, rfl, h3, rfl⟩ := mj_stI_spec hp
    obtain ⟨h1, h2⟩ := mj_and hk
    have e1 := Nat.eq_of_beq_eq_true h1
    subst e1
    have e2 := of_decide_eq_true h2
    cases e2
    rw [hl.1] at h3
    exact lv_istore hx hb hd hl.has h3 rfl (fun ls' h' => kk ls' (hl.st1 h3 rfl h'))
  | lload_n n =>
    obtain ⟨i, x, rfl, h3, rfl⟩ := mj_ldL_spec hp
    obtain ⟨h1, h2⟩ := mj_and hk
    have e1 := Nat.eq_of_beq_eq_true h1
    subst e1
    have e2 := of_decide_eq_true h2
    cases e2
    exact lv_lload_n hx hb hd rfl (hl.2.2.2 _ _ h3) (kk ls hl)
  | lstore_n n =>
    obtain ⟨i, x, r, rfl, rfl, h3, rfl⟩ := mj_stL_spec hp
    obtain ⟨h1, h2⟩ := mj_and hk
    have e1 := Nat.eq_of_beq_eq_true h1
    subst e1
    have e2 := of_decide_eq_true h2
    cases e2
    rw [hl.1] at h3
    exact lv_lstore_n hx hb hd rfl hl.has h3 rfl (fun ls' h' => kk ls' (hl.st2 h3 rfl h'))
  | lload n =>
    obtain ⟨i, x, rfl, h3, rfl⟩ := mj_ldL_spec hp
    obtain ⟨h1, h2⟩ := mj_and hk
    have e1 := Nat.eq_of_beq_eq_true h1
    subst e1
    have e2 := of_decide_eq_true h2
    cases e2
    exact lv_lload hx hb hd (hl.2.2.2 _ _ h3) (kk ls hl)
  | lstore n =>
    obtain ⟨i, x, r, rfl, rfl, h3, rfl⟩ := mj_stL_spec hp
    obtain ⟨h1, h2⟩ := mj_and hk
    have e1 := Nat.eq_of_beq_eq_true h1
    subst e1
    have e2 := of_decide_eq_true h2
    cases e2
    rw [hl.1] at h3
    exact lv_lstore hx hb hd hl.has h3 rfl (fun ls' h' => kk ls' (hl.st2 h3 rfl h'))
  | aload_n n =>
    obtain ⟨i, x, rfl, h3, rfl⟩ := mj_ldR_spec hp
    obtain ⟨h1, h2⟩ := mj_and hk
    have e1 := Nat.eq_of_beq_eq_true h1
    subst e1
    have e2 := of_decide_eq_true h2
    cases e2
    exact lv_aload_n hx hb hd rfl (hl.2.2.2 _ _ h3) (kk ls hl)
  | astore_n n =>
    obtain ⟨i, x, r, rfl, rfl, h3, rfl⟩ := mj_stR_spec hp
    obtain ⟨h1, h2⟩ := mj_and hk
    have e1 := Nat.eq_of_beq_eq_true h1
    subst e1
    have e2 := of_decide_eq_true h2
    cases e2
    rw [hl.1] at h3
    exact lv_astore_n hx hb hd rfl hl.has h3 rfl (fun ls' h' => kk ls' (hl.st1 h3 rfl h'))
  | aload n =>
    obtain ⟨i, x, rfl, h3, rfl⟩ := mj_ldR_spec hp
    obtain ⟨h1, h2⟩ := mj_and hk
    have e1 := Nat.eq_of_beq_eq_true h1
    subst e1
    have e2 := of_decide_eq_true h2
    cases e2
    exact lv_aload hx hb hd (hl.2.2.2 _ _ h3) (kk ls hl)
  | astore n =>
    obtain ⟨i, x, r, rfl, rfl, h3, rfl⟩ := mj_stR_spec hp
    obtain ⟨h1, h2⟩ := mj_and hk
    have e1 := Nat.eq_of_beq_eq_true h1
    subst e1
    have e2 := of_decide_eq_true h2
    cases e2
    rw [hl.1] at h3
    exact lv_astore hx hb hd hl.has h3 rfl (fun ls' h' => kk ls' (hl.st1 h3 rfl h'))
  | iinc n z =>
    simp only [mj_p] at hp
    split at hp
    · rename_i i k
      split at hp
      · rename_i x hg
        obtain ⟨h1, h2⟩ := mj_and hk
        obtain ⟨h2, h3⟩ := mj_and h2
        have e1 := Nat.eq_of_beq_eq_true h1
        subst e1
        cases of_decide_eq_true h2
        cases of_decide_eq_true h3
        cases hz : Nat.blt n L.length with
        | false => rw [hz] at hp; cases hp
        | true =>
          rw [hz] at hp
          cases hp
          have hi : n < nL := by rw [← hl.1]; simpa using hz
          have hm : (n, Value.int x) ∈ mj_lv ad L := mj_lv_mem.mpr ⟨.int x, mj_g_spec hg, rfl⟩
          obtain ⟨k0, hk0⟩ := List.getElem?_of_mem hm
          exact lv_iinc hx hb hd hl.has hk0 rfl hi rfl (fun ls' h' => kk ls' (hl.st1 hi rfl h'))
      · cases hp
    · cases hp
  | iadd =>
    obtain ⟨x, y, r, rfl, rfl⟩ := mj_b_spec hp
    have e1 := Nat.eq_of_beq_eq_true hk
    subst e1
    exact lv_iadd hx hb hd (kk ls hl)
  | isub =>
    obtain ⟨x, y, r, rfl, rfl⟩ := mj_b_spec hp
    have e1 := Nat.eq_of_beq_eq_true hk
    subst e1
    exact lv_isub hx hb hd (kk ls hl)
  | imul =>
    obtain ⟨x, y, r, rfl, rfl⟩ := mj_b_spec hp
    have e1 := Nat.eq_of_beq_eq_true hk
    subst e1
    exact lv_imul hx hb hd (kk ls hl)
  | iand =>
    obtain ⟨x, y, r, rfl, rfl⟩ := mj_b_spec hp
    have e1 := Nat.eq_of_beq_eq_true hk
    subst e1
    exact lv_iand hx hb hd (kk ls hl)
  | ior =>
    obtain ⟨x, y, r, rfl, rfl⟩ := mj_b_spec hp
    have e1 := Nat.eq_of_beq_eq_true hk
    subst e1
    exact lv_ior hx hb hd (kk ls hl)
  | ixor =>
    obtain ⟨x, y, r, rfl, rfl⟩ := mj_b_spec hp
    have e1 := Nat.eq_of_beq_eq_true hk
    subst e1
    exact lv_ixor hx hb hd (kk ls hl)
  | ishl =>
    obtain ⟨x, y, r, rfl, rfl⟩ := mj_b_spec hp
    have e1 := Nat.eq_of_beq_eq_true hk
    subst e1
    exact lv_ishl hx hb hd (kk ls hl)
  | ishr =>
    obtain ⟨x, y, r, rfl, rfl⟩ := mj_b_spec hp
    have e1 := Nat.eq_of_beq_eq_true hk
    subst e1
    exact lv_ishr hx hb hd (kk ls hl)
  | ladd =>
    obtain ⟨x, y, r, rfl, rfl⟩ := mj_lb_spec hp
    have e1 := Nat.eq_of_beq_eq_true hk
    subst e1
    exact lv_ladd hx hb hd (kk ls hl)
  | lmul =>
    obtain ⟨x, y, r, rfl, rfl⟩ := mj_lb_spec hp
    have e1 := Nat.eq_of_beq_eq_true hk
    subst e1
    exact lv_lmul hx hb hd (kk ls hl)
  | ineg =>
    have e1 := Nat.eq_of_beq_eq_true hk
    subst e1
    simp only [mj_p] at hp
    split at hp
    · cases hp
      exact lv_ineg hx hb hd (kk ls hl)
    · cases hp
  | i2l =>
    have e1 := Nat.eq_of_beq_eq_true hk
    subst e1
    simp only [mj_p] at hp
    split at hp
    · cases hp
      exact lv_i2l hx hb hd rfl (kk ls hl)
    · cases hp
  | i2c =>
    have e1 := Nat.eq_of_beq_eq_true hk
    subst e1
    simp only [mj_p] at hp
    split at hp
    · cases hp
      exact lv_i2c hx hb hd rfl (kk ls hl)
    · cases hp
  | lcmp =>
    have e1 := Nat.eq_of_beq_eq_true hk
    subst e1
    simp only [mj_p] at hp
    split at hp
    · cases hp
      exact W.lcmp hx hb hd (kk ls hl)
    · cases hp
  | dup =>
    have e1 := Nat.eq_of_beq_eq_true hk
    subst e1
    simp only [mj_p] at hp
    split at hp
    · rename_i a r
      cases hz : Nat.beq a.category 1 with
      | false => rw [hz] at hp; cases hp
      | true =>
        rw [hz] at hp
        cases hp
        exact lv_dup hx hb hd (by rw [mj_tr_cat]; exact Nat.eq_of_beq_eq_true hz) (kk ls hl)
    · cases hp
  | pop =>
    have e1 := Nat.eq_of_beq_eq_true hk
    subst e1
    simp only [mj_p] at hp
    split at hp
    · rename_i a r
      cases hz : Nat.beq a.category 1 with
      | false => rw [hz] at hp; cases hp
      | true =>
        rw [hz] at hp
        cases hp
        exact lv_pop hx hb hd (by rw [mj_tr_cat]; exact Nat.eq_of_beq_eq_true hz) (kk ls hl)
    · cases hp
  | dup2 =>
    have e1 := Nat.eq_of_beq_eq_true hk
    subst e1
    simp only [mj_p] at hp
    split at hp
    · rename_i a b r
      cases hz : (Nat.beq a.category 1 && Nat.beq b.category 1) with
      | false => rw [hz] at hp; cases hp
      | true =>
        rw [hz] at hp
        cases hp
        obtain ⟨z1, z2⟩ := mj_and hz
        exact lv_dup2_11 hx hb hd (by rw [mj_tr_cat]; exact Nat.eq_of_beq_eq_true z1) (by rw [mj_tr_cat]; exact Nat.eq_of_beq_eq_true z2) (kk ls hl)
    · cases hp
  | goto z =>
    obtain ⟨h1, h2⟩ := mj_and hk
    have e1 := Nat.eq_of_beq_eq_true h1
    subst e1
    simp only [mj_p] at hp
    split at hp
    · cases hp
      exact lv_goto hx hb hd (of_decide_eq_true h2) (kk ls hl)
    · cases hp
  | _ => simp [mj_p] at hp
end MP
