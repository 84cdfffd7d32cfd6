/-! THE HEAP THAT A MEMORY OF THE SMALL MACHINE STANDS FOR. Cell 0: the script, cell 1: the row of sizes, both only read; the cell k + 2 lies at base + k. -/
def mj_el : String := "SqueezedLines$State"
def mj_ad (base b fs : Nat) : Nat → Nat
  | 0 => b
  | 1 => fs
  | k + 2 => base + k
def mj_tr (ad : Nat → Nat) (v : Value) : Value := match v with
  | .ref a => .ref (ad a)
  | v => v
theorem mj_tr_cat (ad : Nat → Nat) (v : Value) : (mj_tr ad v).category = v.category := by cases v <;> rfl
def mj_rv (ad : Nat → Nat) (r : Option (Option Nat)) (x : Int32) : Value := match r with
  | none => .int x
  | some none => .null
  | some (some i) => .ref (ad i)
def mj_ob (ad : Nat → Nat) (rs : List (Option (Option Nat))) (f : Nat → Int32) : List Value := rs.mapIdx (fun j r => mj_rv ad r (f j))
def mj_rf (ad : Nat → Nat) (rs : List (Option (Option Nat))) (j : Nat) : Option Nat := match rs[j]? with
  | some (some (some i)) => some (ad i)
  | _ => none
def mj_ce (cI cC cS : ClassId) (ad : Nat → Nat) (x : mj_K) (f : Nat → Int32) : va_E := match x.1 with
  | 0 => .inl (cI, x.2.1, .inl f)
  | 1 => .inl (cC, x.2.1, .inl f)
  | 2 => .inl (cS, x.2.1, .inr (.inr (.inr (.inr (mj_rf ad x.2.2)))))
  | t + 3 => .inr (t, mj_ob ad x.2.2 f)
def mj_ws (cI cC cS : ClassId) (ad : Nat → Nat) (sh : List mj_K) (c : mj_C) : va_W := (sh.drop 2).mapIdx (fun i x => (ad (i + 2), mj_ce cI cC cS ad x (c (i + 2))))
theorem mj_ws_at {cI cC cS : ClassId} {ad : Nat → Nat} {sh : List mj_K} {c : mj_C} (i : Nat) : (mj_ws cI cC cS ad sh c)[i]? = (sh[i + 2]?).map (fun x => (ad (i + 2), mj_ce cI cC cS ad x (c (i + 2)))) := by
  unfold mj_ws
  rw [List.getElem?_mapIdx, List.getElem?_drop, Nat.add_comm 2 i]
theorem mj_ws_get {cI cC cS : ClassId} {ad : Nat → Nat} {sh : List mj_K} {c : mj_C} {a : Nat} {x : mj_K} (h : sh[a]? = some x) (h2 : 2 ≤ a) : (mj_ws cI cC cS ad sh c)[a - 2]? = some (ad a, mj_ce cI cC cS ad x (c a)) := by
  rw [mj_ws_at, show a - 2 + 2 = a by omega, h]
  rfl
theorem mj_ws_set {cI cC cS : ClassId} {ad : Nat → Nat} {sh : List mj_K} {c c' : mj_C} {a : Nat} {x : mj_K} (h : sh[a]? = some x) (h2 : 2 ≤ a) (x' : mj_K) (hc : ∀ b, b ≠ a → c' b = c b) : (mj_ws cI cC cS ad sh c).set (a - 2) (ad a, mj_ce cI cC cS ad x' (c' a)) = mj_ws cI cC cS ad (sh.set a x') c' := by
  apply List.ext_getElem?
  intro i
  have hl : a < sh.length := (List.getElem?_eq_some_iff.mp h).1
  rw [mj_ws_at, List.getElem?_set, List.getElem?_set]
  by_cases hi : a = i + 2
  · subst hi
    have e : i + 2 - 2 = i := by omega
    have hw : i < (mj_ws cI cC cS ad sh c).length := by
      unfold mj_ws
      rw [List.length_mapIdx, List.length_drop]
      omega
    rw [e, if_pos rfl, if_pos hw, if_pos rfl, if_pos hl]
    rfl
  · rw [if_neg (by omega), if_neg hi, mj_ws_at, hc (i + 2) (fun z => hi z.symm)]
theorem mj_set_self {sh : List mj_K} {a : Nat} {x : mj_K} (h : sh[a]? = some x) : sh.set a x = sh := by
  apply List.ext_getElem?
  intro i
  rw [List.getElem?_set]
  by_cases hi : a = i
  · subst hi
    rw [if_pos rfl, h, if_pos (List.getElem?_eq_some_iff.mp h).1]
  · rw [if_neg hi]
theorem mj_ws_app {cI cC cS : ClassId} {ad : Nat → Nat} {sh : List mj_K} {c c' : mj_C} (x : mj_K) (h2 : 2 ≤ sh.length) (hc : ∀ b, b < sh.length → c' b = c b) : mj_ws cI cC cS ad (sh ++ [x]) c' = mj_ws cI cC cS ad sh c ++ [(ad sh.length, mj_ce cI cC cS ad x (c' sh.length))] := by
  apply List.ext_getElem?
  intro i
  have hw : (mj_ws cI cC cS ad sh c).length = sh.length - 2 := by
    unfold mj_ws
    rw [List.length_mapIdx, List.length_drop]
  rw [mj_ws_at]
  by_cases hi : i < sh.length - 2
  · rw [List.getElem?_append_left (by omega), List.getElem?_append_left (by omega), mj_ws_at, hc (i + 2) (by omega)]
  · rw [List.getElem?_append_right (by omega), List.getElem?_append_right (by omega), hw]
    by_cases hj : i = sh.length - 2
    · subst hj
      rw [show sh.length - 2 + 2 = sh.length by omega, Nat.sub_self, Nat.sub_self]
      rfl
    · rw [List.getElem?_eq_none (by simp; omega), List.getElem?_eq_none (by simp; omega)]
      rfl
theorem mj_ws_D {cI cC cS : ClassId} {base b fs : Nat} {sh : List mj_K} {c : mj_C} : va_D (fun q : Nat => base ≤ q) (mj_ws cI cC cS (mj_ad base b fs) sh c) := by
  refine ⟨fun i j p q hi hj hpq => ?_, fun k q hk => ?_⟩
  · rw [mj_ws_at] at hi hj
    obtain ⟨x, -, hx⟩ := Option.map_eq_some_iff.mp hi
    obtain ⟨z, -, hz⟩ := Option.map_eq_some_iff.mp hj
    rw [← hx, ← hz] at hpq
    have e : base + i = base + j := hpq
    omega
  · rw [mj_ws_at] at hk
    obtain ⟨x, -, hx⟩ := Option.map_eq_some_iff.mp hk
    rw [← hx]
    exact Nat.le_add_right base k
/-- the slots of all cells -/
def mj_sl (sh : List mj_K) : Nat := (sh.map fun x => x.2.1).sum
theorem mj_sl_app (sh : List mj_K) (x : mj_K) : mj_sl (sh ++ [x]) = mj_sl sh + x.2.1 := by simp [mj_sl]
theorem mj_sl_set {sh : List mj_K} {a t n : Nat} {fs fs' : List (Option (Option Nat))} (h : sh[a]? = some (t, n, fs)) : mj_sl (sh.set a (t, n, fs')) = mj_sl sh := by
  unfold mj_sl
  congr 1
  apply List.ext_getElem?
  intro i
  rw [List.getElem?_map, List.getElem?_map, List.getElem?_set]
  by_cases hi : a = i
  · subst hi
    rw [if_pos rfl, if_pos (List.getElem?_eq_some_iff.mp h).1, h]
    rfl
  · rw [if_neg hi]
/-- the two rows that are only read stand first -/
def mj_Sh (L : Nat) (sh : List mj_K) : Prop := ∃ t, sh = (1000, L, []) :: (1000, 5, []) :: t
theorem mj_Sh.len {L : Nat} {sh : List mj_K} (h : mj_Sh L sh) : 2 ≤ sh.length := by
  obtain ⟨t, rfl⟩ := h
  simp
theorem mj_Sh.two {L : Nat} {sh : List mj_K} (h : mj_Sh L sh) {a t n : Nat} {fs : List (Option (Option Nat))} (ha : sh[a]? = some (t, n, fs)) (ht : t ≠ 1000) : 2 ≤ a := by
  obtain ⟨u, rfl⟩ := h
  rcases a with _ | _ | a
  · simp at ha; exact absurd ha.1.symm ht
  · simp at ha; exact absurd ha.1.symm ht
  · omega
theorem mj_Sh.set {L : Nat} {sh : List mj_K} (h : mj_Sh L sh) {a : Nat} (ha : 2 ≤ a) (x : mj_K) : mj_Sh L (sh.set a x) := by
  obtain ⟨u, rfl⟩ := h
  obtain ⟨k, rfl⟩ : ∃ k, a = k + 2 := ⟨a - 2, by omega⟩
  exact ⟨u.set k x, rfl⟩
theorem mj_Sh.app {L : Nat} {sh : List mj_K} (h : mj_Sh L sh) (x : mj_K) : mj_Sh L (sh ++ [x]) := by
  obtain ⟨u, rfl⟩ := h
  exact ⟨u ++ [x], rfl⟩
/-- a row of ints that is only read -/
def mj_Xr (a n : Nat) (x : Nat → Int32) (U : State) (H : Heap) : Prop := ∃ scr : Cell, H[a]? = some scr ∧ U.isArrayOf scr .int ∧ scr.vm ≠ .unknown ∧ n ≤ scr.slots.size ∧ scr.slots.size.toInt32 = Int32.ofNat n ∧ ∀ j : Nat, j < n → scr.slots[j]? = some (.int (x j))
theorem mj_Xr.kept {b L : Nat} {xs : Nat → Int32} {U : State} {H H1 : Heap} (h : mj_Xr b L xs U H) (hq : H1[b]? = H[b]?) : mj_Xr b L xs U H1 := by
  obtain ⟨scr, h1, h2⟩ := h
  exact ⟨scr, by rw [hq]; exact h1, h2⟩
theorem mj_Xr.moved {b L : Nat} {xs : Nat → Int32} {u U : State} {H : Heap} (hvm : u.vm.Alike U.vm) (h : mj_Xr b L xs u H) : mj_Xr b L xs U H := by
  obtain ⟨scr, h1, h2, h3⟩ := h
  exact ⟨scr, h1, State.isArrayOf_alike hvm h2, h3⟩
def mj_ty (cI cC cS : ClassId) : List (ClassId × FieldType) := [(cI, .int), (cC, .char), (cS, .object mj_el)]
/-- what is so in every state, whatever the memory: tables, the rows that are only read, the static field, the links of nest mates. X: what the rows hold -/
def mj_U (D : va_G) (cI cC cS : ClassId) (base b fs L : Nat) (x0 x1 : Nat → Int32) (U : State) : Prop :=
  b < base ∧ fs < base ∧ va_K D mj_cl (mj_ty cI cC cS) U ∧ mj_Xr b L x0 U U.heap ∧ mj_Xr fs 5 x1 U U.heap ∧ va_Z "SqueezedLines" "FORM_SIZES" "[I" (.ref fs) (fun q : Nat => base ≤ q) U U.heap ∧ (∀ w ∈ mj_nw, va_Nw w U) ∧ va_AO mj_el U
theorem mj_nw_links : ∀ w ∈ mj_nw, ∃ (a : String) (i : Nat) (x : MethodName) (h : String), w = .methodLinkNest a i x h := by
  intro w hw
  simp only [mj_nw, List.mem_cons, List.not_mem_nil, or_false] at hw
  rcases hw with rfl | rfl | rfl | rfl <;> exact ⟨_, _, _, _, rfl⟩
theorem mj_U.moved {D : va_G} {cI cC cS : ClassId} {base b fs L : Nat} {x0 x1 : Nat → Int32} {s U : State} (h : mj_U D cI cC cS base b fs L x0 x1 s) (hW : s.WarmedH U.vm) (hh : ∀ q : Nat, q < base → U.heap[q]? = s.heap[q]?) : mj_U D cI cC cS base b fs L x0 x1 U := by
  obtain ⟨h1, h2, h3, h4, h5, h6, h7, h8⟩ := h
  refine ⟨h1, h2, h3.moved hW.alike, (h4.moved hW.alike).kept (hh b h1), (h5.moved hW.alike).kept (hh fs h2), ?_, fun w hw => ?_, h8.moved hW.alike⟩
  · obtain ⟨cf, kf, fi, f, a, cell, g1, g2, g3, g4, g5, g6, g7, g8⟩ := h6.moved hW.alike
    exact ⟨cf, kf, fi, f, a, cell, g1, g2, g3, g4, by rw [hh a (Nat.not_le.mp g8)]; exact g5, g6, g7, g8⟩
  · obtain ⟨a, i, x, hst, rfl⟩ := mj_nw_links w hw
    exact va_Nw.warmM hW (h7 _ hw)
theorem mj_U.blind {D : va_G} {cI cC cS : ClassId} {base b fs L : Nat} {x0 x1 : Nat → Int32} {U : State} (h : mj_U D cI cC cS base b fs L x0 x1 U) (g : JFrame) (mk : MethodId) (a : Array Value) : mj_U D cI cC cS base b fs L x0 x1 (U.calling g mk a) := by
  obtain ⟨h1, h2, h3, h4, h5, h6, h7, h8⟩ := h
  have hv : U.vm.Alike (U.calling g mk a).vm := Vm.Alike.refl U.vm
  refine ⟨h1, h2, h3.moved hv, h4.moved hv, h5.moved hv, h6.moved hv, fun w hw => ?_, h8.moved hv⟩
  obtain ⟨a', i, x, hst, rfl⟩ := mj_nw_links w hw
  exact va_Nw.same rfl rfl (h7 _ hw)
/-- a state that holds a memory -/
def mj_W (D : va_G) (cI cC cS : ClassId) (base b fs L : Nat) (sh : List mj_K) (c : mj_C) (U : State) : Prop :=
  mj_Sh L sh ∧ U.heap.size + 2 = base + sh.length ∧ va_P D mj_cl (mj_ws cI cC cS (mj_ad base b fs) sh c) U.heap ∧ mj_U D cI cC cS base b fs L (c 0) (c 1) U
theorem mj_W.blind {D : va_G} {cI cC cS : ClassId} {base b fs L : Nat} {sh : List mj_K} {c : mj_C} {U : State} (h : mj_W D cI cC cS base b fs L sh c U) (g : JFrame) (mk : MethodId) (a : Array Value) : mj_W D cI cC cS base b fs L sh c (U.calling g mk a) := ⟨h.1, h.2.1, h.2.2.1, h.2.2.2.blind g mk a⟩
/-- the words that are kept -/
def mj_TB : List Cond := lw_tbl.filter goodWord
def mj_wd (i : Nat) (w : Cond) : Bool := decide (lw_tbl[i]? = some w) && goodWord w
theorem mj_wd_in {i : Nat} {w : Cond} (h : mj_wd i w = true) : w ∈ mj_TB := by
  unfold mj_wd at h
  rw [Bool.and_eq_true, decide_eq_true_eq] at h
  exact List.mem_filter.mpr ⟨List.mem_of_getElem? h.1, h.2⟩
theorem mj_TB_good {w : Cond} (h : w ∈ mj_TB) : (w.onTables && w.keeps) = true ∨ ∃ ty, w = .arrayClass ty := good_of_word (List.mem_filter.mp h).2
/-- the locals -/
def mj_LR (ad : Nat → Nat) (nL : Nat) (L : List (Option Value)) (ls : Array Slot) : Prop := L.length = nL ∧ ls.size = nL ∧ lv_wf ls ∧ ∀ (i : Nat) (v : Value), L[i]? = some (some v) → ls[i]? = some (.val (mj_tr ad v))
def mj_lv (ad : Nat → Nat) (L : List (Option Value)) : List (Nat × Value) := (List.range L.length).filterMap (fun i => match L[i]? with
  | some (some v) => some (i, mj_tr ad v)
  | _ => none)
theorem mj_lv_mem {ad : Nat → Nat} {L : List (Option Value)} {q : Nat × Value} : q ∈ mj_lv ad L ↔ ∃ v, L[q.1]? = some (some v) ∧ q.2 = mj_tr ad v := by
  unfold mj_lv
  rw [List.mem_filterMap]
  constructor
  · rintro ⟨i, -, h⟩
    split at h
    · rename_i v hv
      cases h
      exact ⟨v, hv, rfl⟩
    · cases h
  · rintro ⟨v, h1, h2⟩
    refine ⟨q.1, List.mem_range.mpr (List.getElem?_eq_some_iff.mp h1).1, ?_⟩
    rw [h1]
    obtain ⟨a, b⟩ := q
    dsimp only at h2 ⊢
    rw [h2]
theorem mj_LR.has {ad : Nat → Nat} {nL : Nat} {L : List (Option Value)} {ls : Array Slot} (h : mj_LR ad nL L ls) : lv_has ls nL (mj_lv ad L) := by
  refine ⟨h.2.1, h.2.2.1, fun q hq => ?_⟩
  obtain ⟨v, h1, h2⟩ := mj_lv_mem.mp hq
  rw [h2]
  exact h.2.2.2 _ _ h1
theorem mj_cut_succ (L : List (Option Value)) (j : Nat) : mj_cut L (j + 1) = match L[j]? with
    | some (some (.long _)) => L.set j none
    | some (some (.double _)) => L.set j none
    | _ => L := rfl
theorem mj_cut_len (L : List (Option Value)) (i : Nat) : (mj_cut L i).length = L.length := by
  cases i with
  | zero => rfl
  | succ j =>
    rw [mj_cut_succ]
    split <;> first | rw [List.length_set] | rfl
theorem mj_cut_at {L : List (Option Value)} {i j : Nat} {v : Value} (h : (mj_cut L i)[j]? = some (some v)) : L[j]? = some (some v) ∧ ¬ (j + 1 = i ∧ v.category = 2) := by
  cases i with
  | zero => exact ⟨h, by omega⟩
  | succ k =>
    rw [mj_cut_succ] at h
    split at h
    · rename_i x hx
      rw [List.getElem?_set] at h
      by_cases hk : k = j
      · subst hk
        rw [if_pos rfl] at h
        split at h <;> cases h
      · rw [if_neg hk] at h
        exact ⟨h, by omega⟩
    · rename_i x hx
      rw [List.getElem?_set] at h
      by_cases hk : k = j
      · subst hk
        rw [if_pos rfl] at h
        split at h <;> cases h
      · rw [if_neg hk] at h
        exact ⟨h, by omega⟩
    · rename_i h1 h2
      refine ⟨h, fun hz => ?_⟩
      obtain ⟨e, hc⟩ := hz
      have e2 : j = k := by omega
      subst e2
      cases v with
      | long x => exact h1 x h
      | double x => exact h2 x h
      | _ => simp [Value.category] at hc
theorem mj_LR.st1 {ad : Nat → Nat} {nL : Nat} {L : List (Option Value)} {ls ls' : Array Slot} {i : Nat} {v w : Value} (h : mj_LR ad nL L ls) (hi : i < nL) (hw : mj_tr ad v = w) (h' : lv_has ls' nL ((i, w) :: (mj_lv ad L).filter (fun q => !(q.1 == i) && !(q.1 + 1 == i && q.2.category == 2)))) : mj_LR ad nL (mj_s1 L i v) ls' := by
  refine ⟨by unfold mj_s1; rw [List.length_set, mj_cut_len]; exact h.1, h'.1, h'.2.1, fun j u hj => ?_⟩
  unfold mj_s1 at hj
  rw [List.getElem?_set] at hj
  by_cases hij : i = j
  · subst hij
    rw [if_pos rfl, if_pos (by rw [mj_cut_len, h.1]; exact hi)] at hj
    cases hj
    rw [hw]
    exact h'.2.2 (i, w) List.mem_cons_self
  · rw [if_neg hij] at hj
    obtain ⟨h1, h2⟩ := mj_cut_at hj
    refine h'.2.2 (j, mj_tr ad u) (List.mem_cons_of_mem _ (List.mem_filter.mpr ⟨mj_lv_mem.mpr ⟨u, h1, rfl⟩, ?_⟩))
    dsimp only
    rw [mj_tr_cat]
    simp only [Bool.and_eq_true, Bool.not_eq_true', beq_eq_false_iff_ne, Bool.and_eq_false_imp, beq_iff_eq]
    exact ⟨fun z => hij z.symm, fun z1 z2 => h2 ⟨z1, z2⟩⟩
theorem mj_LR.st2 {ad : Nat → Nat} {nL : Nat} {L : List (Option Value)} {ls ls' : Array Slot} {i : Nat} {v w : Value} (h : mj_LR ad nL L ls) (hi : i + 1 < nL) (hw : mj_tr ad v = w) (h' : lv_has ls' nL ((i, w) :: (mj_lv ad L).filter (fun q => !(q.1 == i) && (!(q.1 == i + 1) && !(q.1 + 1 == i && q.2.category == 2))))) : mj_LR ad nL (mj_s2 L i v) ls' := by
  refine ⟨by unfold mj_s2; rw [List.length_set, List.length_set, mj_cut_len]; exact h.1, h'.1, h'.2.1, fun j u hj => ?_⟩
  unfold mj_s2 at hj
  rw [List.getElem?_set] at hj
  by_cases hi1 : i + 1 = j
  · rw [if_pos hi1] at hj
    split at hj <;> cases hj
  rw [if_neg hi1, List.getElem?_set] at hj
  by_cases hij : i = j
  · subst hij
    rw [if_pos rfl, if_pos (by rw [mj_cut_len, h.1]; omega)] at hj
    cases hj
    rw [hw]
    exact h'.2.2 (i, w) List.mem_cons_self
  · rw [if_neg hij] at hj
    obtain ⟨h1, h2⟩ := mj_cut_at hj
    refine h'.2.2 (j, mj_tr ad u) (List.mem_cons_of_mem _ (List.mem_filter.mpr ⟨mj_lv_mem.mpr ⟨u, h1, rfl⟩, ?_⟩))
    dsimp only
    rw [mj_tr_cat]
    simp only [Bool.and_eq_true, Bool.not_eq_true', beq_eq_false_iff_ne, Bool.and_eq_false_imp, beq_iff_eq]
    exact ⟨fun z => hij z.symm, fun z => hi1 z.symm, fun z1 z2 => h2 ⟨z1, z2⟩⟩
