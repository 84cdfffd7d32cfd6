/-! THE MACHINE FOLLOWS THE SMALL ONE: cells -/
theorem mj_nx_none {nl : Nat → Nat} {K C : Nat → mj_F → mj_M → Option mj_R} {y : Nat} {r : mj_R} (h : mj_nx nl K C y none = some r) : False := by cases h
theorem mj_nx_go {nl : Nat → Nat} {K C : Nat → mj_F → mj_M → Option mj_R} {y : Nat} {f : mj_F} {mm : mj_M} {r : mj_R} (h : mj_nx nl K C y (mj_go f mm) = some r) : K y f mm = some r := h
theorem mj_nx_if {nl : Nat → Nat} {K C : Nat → mj_F → mj_M → Option mj_R} {y : Nat} {b : Bool} {f : mj_F} {mm : mj_M} {r : mj_R} (h : mj_nx nl K C y (mj_if b f mm) = some r) : b = true ∧ K y f mm = some r := by
  cases b with
  | true => exact ⟨rfl, h⟩
  | false => cases h
theorem mj_nx_br {nl : Nat → Nat} {K C : Nat → mj_F → mj_M → Option mj_R} {y : Nat} {b : Bool} {f g : mj_F} {mm : mj_M} {r : mj_R} (h : mj_nx nl K C y (mj_br b f g mm) = some r) : (b = true ∧ K y f mm = some r) ∨ (b = false ∧ K y g mm = some r) := by
  cases b with
  | true => exact Or.inl ⟨rfl, h⟩
  | false => exact Or.inr ⟨rfl, h⟩
theorem mj_in_vp {i : Int32} {n : Nat} (h : mj_in i n = true) : vp_in i n := by
  unfold mj_in at h
  unfold vp_in
  simpa using h
theorem mj_cif {α : Type} {b : Bool} {x : Option α} {r : α} (h : (bif b then x else none) = some r) : b = true ∧ x = some r := by
  cases b with
  | true => exact ⟨rfl, h⟩
  | false => cases h
theorem mj_nx_cif {nl : Nat → Nat} {K C : Nat → mj_F → mj_M → Option mj_R} {y : Nat} {b : Bool} {x : Option mj_A} {r : mj_R} (h : mj_nx nl K C y (bif b then x else none) = some r) : b = true ∧ mj_nx nl K C y x = some r := by
  cases b with
  | true => exact ⟨rfl, h⟩
  | false => cases h
/-- how a memory lies in the heap at a point of a frame that began at s with the cells sh0 -/
def mj_PT (D : va_G) (cI cC cS : ClassId) (base b fs Ls : Nat) (sh0 : List mj_K) (s : State) (sh : List mj_K) (c : mj_C) (H : Heap) (locs : List Loc) (cells slots : Nat) : Prop :=
  mj_Sh Ls sh ∧ va_P D mj_cl (mj_ws cI cC cS (mj_ad base b fs) sh c) H ∧ va_S (fun q : Nat => base ≤ q) s.heap H locs ∧ cells + sh0.length = sh.length ∧ slots + mj_sl sh0 = mj_sl sh
theorem mj_PT.put {D : va_G} {cI cC cS : ClassId} {base b fs Ls : Nat} {sh0 : List mj_K} {s : State} {sh : List mj_K} {c c' : mj_C} {H H1 : Heap} {locs locs1 : List Loc} {cells slots : Nat} (h : mj_PT D cI cC cS base b fs Ls sh0 s sh c H locs cells slots) {a t n : Nat} {rs rs' : List (Option (Option Nat))} (ha : sh[a]? = some (t, n, rs)) (h2 : 2 ≤ a) (hc : ∀ b, b ≠ a → c' b = c b)
    (hP : va_P D mj_cl ((mj_ws cI cC cS (mj_ad base b fs) sh c).set (a - 2) (mj_ad base b fs a, mj_ce cI cC cS (mj_ad base b fs) (t, n, rs') (c' a))) H1) (hS : va_S (fun q : Nat => base ≤ q) s.heap H1 locs1) : mj_PT D cI cC cS base b fs Ls sh0 s (sh.set a (t, n, rs')) c' H1 locs1 cells slots := by
  obtain ⟨g1, g2, g3, g4, g5⟩ := h
  refine ⟨g1.set h2 _, ?_, hS, by rw [List.length_set]; exact g4, by rw [mj_sl_set ha]; exact g5⟩
  rw [← mj_ws_set ha h2 (t, n, rs') hc]
  exact hP
theorem mj_cl_few : mj_cl.length ≤ 900 := by decide
theorem mj_ci {ci : Nat} {r : vw_C} (h : mj_cl[ci]? = some r) : ci + 3 ≠ 1000 := by
  have h1 := (List.getElem?_eq_some_iff.mp h).1
  have h2 := mj_cl_few
  omega
/-- what a program decides of each kind of object: its words, its names, its types, its first values -/
def mj_okc (ci : Nat) (r : vw_C) : Prop := (∀ w ∈ u_ws r.1 r.2.1 r.2.2, w ∈ mj_TB) ∧ (∀ a, a < r.2.2 → ∀ b, b < r.2.2 → a ≠ b → (r.2.1 a).2.1 ≠ (r.2.1 b).2.1) ∧ (∃ ty : Nat → FieldType, (∀ k, k < r.2.2 → parseFieldDescriptor (r.2.1 k).2.2.1 = some (ty k)) ∧ ∀ ad j, j < r.2.2 → defaultValue (ty j) = vp_V (mj_ob ad (mj_df ci) (fun _ => 0)) j)
theorem mj_ob_at {ad : Nat → Nat} {rs : List (Option (Option Nat))} {f : Nat → Int32} {k : Nat} {o : Option (Option Nat)} (h : rs[k]? = some o) : (mj_ob ad rs f)[k]? = some (mj_rv ad o (f k)) := by
  unfold mj_ob
  rw [List.getElem?_mapIdx, h]
  rfl
theorem mj_ob_set {ad : Nat → Nat} {rs : List (Option (Option Nat))} {f : Nat → Int32} {k : Nat} (o : Option (Option Nat)) (f' : Nat → Int32) (hk : k < rs.length) (hf : ∀ j, j ≠ k → f' j = f j) : (mj_ob ad rs f).set k (mj_rv ad o (f' k)) = mj_ob ad (rs.set k o) f' := by
  apply List.ext_getElem?
  intro i
  unfold mj_ob
  rw [List.getElem?_set, List.getElem?_mapIdx, List.getElem?_mapIdx, List.getElem?_set]
  by_cases hi : k = i
  · subst hi
    rw [if_pos rfl, if_pos rfl, if_pos hk, if_pos (by rw [List.length_mapIdx]; exact hk)]
    rfl
  · rw [if_neg hi, if_neg hi]
    cases rs[i]? with
    | none => rfl
    | some o => show some _ = some _; rw [hf i (fun z => hi z.symm)]
theorem mj_u_self (c : mj_C) (a k : Nat) (x : Int32) : mj_u c a k x a = upd (c a) k x := by
  funext j
  simp [mj_u, upd]
theorem mj_u_ne (c : mj_C) (a k : Nat) (x : Int32) {b : Nat} (h : b ≠ a) : mj_u c a k x b = c b := by
  funext j
  simp [mj_u, h]
theorem mj_cp_self (c : mj_C) (a0 a1 sp dp n : Nat) : mj_cp c a0 a1 sp dp n a1 = va_cpy (c a0) (c a1) sp dp n := by
  funext j
  simp [mj_cp, va_cpy]
theorem mj_cp_ne (c : mj_C) (a0 a1 sp dp n : Nat) {b : Nat} (h : b ≠ a1) : mj_cp c a0 a1 sp dp n b = c b := by
  funext j
  simp [mj_cp, h]
theorem mj_z_self (c : mj_C) (a : Nat) : mj_z c a a = fun _ => 0 := by
  funext j
  simp [mj_z]
theorem mj_z_ne (c : mj_C) (a : Nat) {b : Nat} (h : b ≠ a) : mj_z c a b = c b := by
  funext j
  simp [mj_z, h]
section MM
variable {p : Program} {l : Launch} {e : Env} {R : Room} {s : State} {m : MethodId} {args : Array Value} {below : List Frame} {meth : Method} {co : Code} {H : Heap} {locs : List Loc} {cells slots : Nat} {Q : State → Prop}
variable {D : va_G} {cI cC cS : ClassId} {base b fs Ls : Nat} {sh0 sh : List mj_K} {c : mj_C} {Y : mj_Y} {cc : ByteArray} {nL pc len y : Nat} {lk : List Nat} {cv : Value} {L : List (Option Value)} {st : List Value} {ls : Array Slot} {r : mj_R} {K C : Nat → mj_F → mj_M → Option mj_R}
/-- whatever the small machine does next, the machine comes to Q -/
def mj_KK (p : Program) (l : Launch) (e : Env) (R : Room) (s : State) (m : MethodId) (args : Array Value) (below : List Frame) (meth : Method) (co : Code) (Q : State → Prop) (D : va_G) (cI cC cS : ClassId) (base b fs Ls : Nat) (sh0 : List mj_K) (nL : Nat) (c : mj_C) (y : Nat) (K : Nat → mj_F → mj_M → Option mj_R) (r : mj_R) : Prop :=
  ∀ (g : mj_F) (sh' : List mj_K) (c' : mj_C) (ls' : Array Slot) (H' : Heap) (locs' : List Loc) (cells' slots' : Nat), K y g (sh', c') = some r → c' 0 = c 0 → c' 1 = c 1 → mj_PT D cI cC cS base b fs Ls sh0 s sh' c' H' locs' cells' slots' → mj_LR (mj_ad base b fs) nL g.2.1 ls' → W p l e R s m args below meth co H' locs' cells' slots' Q (F0 m g.1 ls' (g.2.2.map (mj_tr (mj_ad base b fs))))
theorem mj_roX {x0 : Nat → Int32} {q n : Nat} (hz0 : s.heap.size + 2 = base + sh0.length) (h0 : 2 ≤ sh0.length) (hS : va_S (fun q : Nat => base ≤ q) s.heap H locs) (hq : q < base) (h : mj_Xr q n x0 s s.heap) : mj_Xr q n x0 s H := h.kept (hS.2.1 q (by omega) (by omega))
theorem mj_m_if (hx : p.tables.exec = Jvm.exec) (hb : co.code = cc) {d : Jvm.ClassFile.Cond} {z : Int} (hd : decode cc pc = .ok (.ifCond d z, len)) (hk : mj_lnk Y pc (.ifCond d z) len lk cv = true) (hPT : mj_PT D cI cC cS base b fs Ls sh0 s sh c H locs cells slots) (hl : mj_LR (mj_ad base b fs) nL L ls)
    (hK : mj_KK p l e R s m args below meth co Q D cI cC cS base b fs Ls sh0 nL c y K r) (h : mj_nx mj_nl K C y (mj_q mj_df (.ifCond d z) len lk cv pc L st (sh, c)) = some r) : W p l e R s m args below meth co H locs cells slots Q (F0 m pc ls (st.map (mj_tr (mj_ad base b fs)))) := by
  simp only [mj_q] at h
  split at h
  · rename_i t x r0
    obtain ⟨h1, h2⟩ := mj_and hk
    have e1 := Nat.eq_of_beq_eq_true h1
    subst e1
    have h2 := of_decide_eq_true h2
    have hb' := mj_nx_br h
    have kt : mj_t1 d x = true → W p l e R s m args below meth co H locs cells slots Q (F0 m t ls (r0.map (mj_tr (mj_ad base b fs)))) := fun z1 => by
      rcases hb' with ⟨-, hr⟩ | ⟨z2, -⟩
      · exact hK _ _ _ _ _ _ _ _ hr rfl rfl hPT hl
      · rw [z1] at z2; cases z2
    have kf : mj_t1 d x = false → W p l e R s m args below meth co H locs cells slots Q (F0 m (pc + 3) ls (r0.map (mj_tr (mj_ad base b fs)))) := fun z1 => by
      rcases hb' with ⟨z2, -⟩ | ⟨-, hr⟩
      · rw [z1] at z2; cases z2
      · exact hK _ _ _ _ _ _ _ _ hr rfl rfl hPT hl
    cases d with
    | eq => exact lv_if_eq hx hb hd h2 (fun q => kt (decide_eq_true q)) (fun q => kf (decide_eq_false q))
    | ne => exact lv_if_ne hx hb hd h2 (fun q => kt (by simp [mj_t1, q])) (fun q => kf (by simp [mj_t1, q]))
    | lt => exact lv_if_lt hx hb hd h2 (fun q => kt (decide_eq_true q)) (fun q => kf (decide_eq_false q))
    | ge => exact lv_if_ge hx hb hd h2 (fun q => kt (decide_eq_true q)) (fun q => kf (decide_eq_false q))
    | gt => exact lv_if_gt hx hb hd h2 (fun q => kt (decide_eq_true q)) (fun q => kf (decide_eq_false q))
    | le => exact lv_if_le hx hb hd h2 (fun q => kt (decide_eq_true q)) (fun q => kf (decide_eq_false q))
  · exact (mj_nx_none h).elim
theorem mj_m_ic (hx : p.tables.exec = Jvm.exec) (hb : co.code = cc) {d : Jvm.ClassFile.Cond} {z : Int} (hd : decode cc pc = .ok (.if_icmp d z, len)) (hk : mj_lnk Y pc (.if_icmp d z) len lk cv = true) (hPT : mj_PT D cI cC cS base b fs Ls sh0 s sh c H locs cells slots) (hl : mj_LR (mj_ad base b fs) nL L ls)
    (hK : mj_KK p l e R s m args below meth co Q D cI cC cS base b fs Ls sh0 nL c y K r) (h : mj_nx mj_nl K C y (mj_q mj_df (.if_icmp d z) len lk cv pc L st (sh, c)) = some r) : W p l e R s m args below meth co H locs cells slots Q (F0 m pc ls (st.map (mj_tr (mj_ad base b fs)))) := by
  simp only [mj_q] at h
  split at h
  · rename_i t w x r0
    obtain ⟨h1, h2⟩ := mj_and hk
    have e1 := Nat.eq_of_beq_eq_true h1
    subst e1
    have h2 := of_decide_eq_true h2
    have hb' := mj_nx_br h
    have kt : mj_t2 d x w = true → W p l e R s m args below meth co H locs cells slots Q (F0 m t ls (r0.map (mj_tr (mj_ad base b fs)))) := fun z1 => by
      rcases hb' with ⟨-, hr⟩ | ⟨z2, -⟩
      · exact hK _ _ _ _ _ _ _ _ hr rfl rfl hPT hl
      · rw [z1] at z2; cases z2
    have kf : mj_t2 d x w = false → W p l e R s m args below meth co H locs cells slots Q (F0 m (pc + 3) ls (r0.map (mj_tr (mj_ad base b fs)))) := fun z1 => by
      rcases hb' with ⟨z2, -⟩ | ⟨-, hr⟩
      · rw [z1] at z2; cases z2
      · exact hK _ _ _ _ _ _ _ _ hr rfl rfl hPT hl
    cases d with
    | eq => exact lv_icmp_eq hx hb hd h2 (fun q => kt (decide_eq_true q)) (fun q => kf (decide_eq_false q))
    | ne => exact lv_icmp_ne hx hb hd h2 (fun q => kt (by simp [mj_t2, q])) (fun q => kf (by simp [mj_t2, q]))
    | lt => exact lv_icmp_lt hx hb hd h2 (fun q => kt (decide_eq_true q)) (fun q => kf (decide_eq_false q))
    | ge => exact lv_icmp_ge hx hb hd h2 (fun q => kt (decide_eq_true q)) (fun q => kf (decide_eq_false q))
    | gt => exact lv_icmp_gt hx hb hd h2 (fun q => kt (decide_eq_true q)) (fun q => kf (decide_eq_false q))
    | le => exact lv_icmp_le hx hb hd h2 (fun q => kt (decide_eq_true q)) (fun q => kf (decide_eq_false q))
  · exact (mj_nx_none h).elim
theorem mj_m_div (hx : p.tables.exec = Jvm.exec) (hb : co.code = cc) (hd : decode cc pc = .ok (.idiv, len)) (hk : mj_lnk Y pc .idiv len lk cv = true) (hPT : mj_PT D cI cC cS base b fs Ls sh0 s sh c H locs cells slots) (hl : mj_LR (mj_ad base b fs) nL L ls)
    (hK : mj_KK p l e R s m args below meth co Q D cI cC cS base b fs Ls sh0 nL c y K r) (h : mj_nx mj_nl K C y (mj_q mj_df .idiv len lk cv pc L st (sh, c)) = some r) : W p l e R s m args below meth co H locs cells slots Q (F0 m pc ls (st.map (mj_tr (mj_ad base b fs)))) := by
  simp only [mj_q] at h
  have e1 := Nat.eq_of_beq_eq_true hk
  subst e1
  split at h
  · obtain ⟨h1, h2⟩ := mj_nx_if h
    exact lv_idiv hx hb hd (by simpa using h1) (hK _ _ _ _ _ _ _ _ h2 rfl rfl hPT hl)
  · exact (mj_nx_none h).elim
theorem mj_m_rem (hx : p.tables.exec = Jvm.exec) (hb : co.code = cc) (hd : decode cc pc = .ok (.irem, len)) (hk : mj_lnk Y pc .irem len lk cv = true) (hPT : mj_PT D cI cC cS base b fs Ls sh0 s sh c H locs cells slots) (hl : mj_LR (mj_ad base b fs) nL L ls)
    (hK : mj_KK p l e R s m args below meth co Q D cI cC cS base b fs Ls sh0 nL c y K r) (h : mj_nx mj_nl K C y (mj_q mj_df .irem len lk cv pc L st (sh, c)) = some r) : W p l e R s m args below meth co H locs cells slots Q (F0 m pc ls (st.map (mj_tr (mj_ad base b fs)))) := by
  simp only [mj_q] at h
  have e1 := Nat.eq_of_beq_eq_true hk
  subst e1
  split at h
  · obtain ⟨h1, h2⟩ := mj_nx_if h
    exact lv_irem hx hb hd (by simpa using h1) (hK _ _ _ _ _ _ _ _ h2 rfl rfl hPT hl)
  · exact (mj_nx_none h).elim
theorem mj_m_iald (hx : p.tables.exec = Jvm.exec) (hb : co.code = cc) (hU : mj_U D cI cC cS base b fs Ls (c 0) (c 1) s) (hz0 : s.heap.size + 2 = base + sh0.length) (h20 : 2 ≤ sh0.length) (hd : decode cc pc = .ok (.iaload, len)) (hk : mj_lnk Y pc .iaload len lk cv = true) (hPT : mj_PT D cI cC cS base b fs Ls sh0 s sh c H locs cells slots) (hl : mj_LR (mj_ad base b fs) nL L ls)
    (hK : mj_KK p l e R s m args below meth co Q D cI cC cS base b fs Ls sh0 nL c y K r) (h : mj_nx mj_nl K C y (mj_q mj_df .iaload len lk cv pc L st (sh, c)) = some r) : W p l e R s m args below meth co H locs cells slots Q (F0 m pc ls (st.map (mj_tr (mj_ad base b fs)))) := by
  simp only [mj_q] at h
  have e1 := Nat.eq_of_beq_eq_true hk
  subst e1
  split at h
  · rename_i i a r0
    split at h
    · rename_i t n rs hs
      obtain ⟨ht, h⟩ := mj_nx_cif h
      obtain ⟨hi, h⟩ := mj_nx_if h
      have kk := hK _ _ _ ls _ _ _ _ h rfl rfl hPT hl
      rw [Bool.or_eq_true] at ht
      rcases ht with ht | ht
      · have e2 := Nat.eq_of_beq_eq_true ht
        subst e2
        have h2 := hPT.1.two hs (by decide)
        exact va_iald hx hb hU.2.2.1 hPT.2.1 (a - 2) 0 (mj_ws_get hs h2) rfl (mj_in_vp hi) hd kk
      · obtain ⟨ht, ha2⟩ := mj_and ht
        have e2 := Nat.eq_of_beq_eq_true ht
        subst e2
        obtain ⟨u, hu⟩ := hPT.1
        have key : ∀ x, mj_Xr (mj_ad base b fs a) n x s H → x = c a → W p l e R s m args below meth co H locs cells slots Q (F0 m pc ls (Value.int i :: Value.ref (mj_ad base b fs a) :: r0.map (mj_tr (mj_ad base b fs)))) := by
          intro x hX hxe
          obtain ⟨scr, g1, g2, g3, g4, g6, g5⟩ := hX
          have hv := mj_in_vp hi
          have hlt : i.toNatClampNeg < n := Nat.not_le.mp fun q => hv (Or.inr q)
          refine W.iald (v := .int (c a i.toNatClampNeg)) hx hb g1 g2 g3 (fun z => hv (z.elim Or.inl (fun z => Or.inr (Nat.le_trans g4 z)))) (by rw [g5 _ hlt, hxe]) rfl rfl hd kk
        rw [hu] at hs
        rcases a with _ | _ | a
        · simp at hs
          obtain ⟨e3, -⟩ := hs
          subst e3
          exact key (c 0) (mj_roX hz0 h20 hPT.2.2.1 hU.1 hU.2.2.2.1) rfl
        · simp at hs
          obtain ⟨e3, -⟩ := hs
          subst e3
          exact key (c 1) (mj_roX hz0 h20 hPT.2.2.1 hU.2.1 hU.2.2.2.2.1) rfl
        · exact absurd ha2 (by simp)
    · exact (mj_nx_none h).elim
  · exact (mj_nx_none h).elim
end MM
