/-! CALLS, ENDS, AND THE WHOLE: whatever the small machine answers, the machine answers -/
def mj_vm (ad : Nat → Nat) (v : Option Value) : Option Value := v.map (mj_tr ad)
def mj_Qc (D : va_G) (cI cC cS : ClassId) (base b fs Ls : Nat) (q : mj_R) : State → Outcome → State → Prop := fun st oc t => (oc = .returned (mj_vm (mj_ad base b fs) q.1) ∧ mj_W D cI cC cS base b fs Ls q.2.1 q.2.2 t) ∧ va_F (fun z : Nat => base ≤ z) st t
def mj_rm (Y : mj_Y) (mc ms : Nat) : Room := { frames := mj_frs Y, cells := mc, slots := ms, locals := mj_los Y }
def mj_Con (l : Launch) (D : va_G) (cI cC cS : ClassId) (base b fs Ls : Nat) (Y : mj_Y) (as : List Value) (sh : List mj_K) (c : mj_C) (q : mj_R) : Prop :=
  Met l (mj_nam Y) (mj_cod Y :: mj_TB) (mj_rm Y (q.2.1.length - sh.length) (mj_sl q.2.1 - mj_sl sh)) (va_Pc (as.map (mj_tr (mj_ad base b fs))) (mj_W D cI cC cS base b fs Ls sh c)) (fun _ => mj_Qc D cI cC cS base b fs Ls q) (q.2.1.length - sh.length) (mj_sl q.2.1 - mj_sl sh) (fun z : Nat => base ≤ z)
theorem mj_en_len (nL : Nat) (as : List Value) (h : Nat.ble (mj_sum as) nL = true) : (mj_en nL as).length = nL ∧ (lg_sl (as.map id)).length ≤ nL := by
  have h := Nat.le_of_ble_eq_true h
  have e1 : ∀ as : List Value, (as.flatMap fun v => bif Nat.beq v.category 2 then [some v, none] else [some v]).length = mj_sum as := by
    intro as
    induction as with
    | nil => rfl
    | cons v as ih =>
      rw [List.flatMap_cons, List.length_append, ih]
      show _ = v.category + mj_sum as
      cases v <;> rfl
  have e2 : ∀ as : List Value, (lg_sl as).length = mj_sum as := by
    intro as
    unfold lg_sl
    induction as with
    | nil => rfl
    | cons v as ih =>
      rw [List.flatMap_cons, List.length_append, ih]
      show _ = v.category + mj_sum as
      cases v <;> rfl
  refine ⟨?_, by rw [List.map_id, e2]; exact h⟩
  unfold mj_en
  rw [List.length_append, List.length_replicate, e1]
  omega
theorem mj_sum_tr (ad : Nat → Nat) (as : List Value) : mj_sum (as.map (mj_tr ad)) = mj_sum as := by
  unfold mj_sum
  rw [List.map_map]
  congr 1
  apply List.map_congr_left
  intro v _
  exact mj_tr_cat ad v
theorem mj_en_at (ad : Nat → Nat) : ∀ (as : List Value) (i : Nat) (v : Value), (as.flatMap fun v => bif Nat.beq v.category 2 then [some v, none] else [some v])[i]? = some (some v) → (lg_sl (as.map (mj_tr ad)))[i]? = some (.val (mj_tr ad v)) := by
  intro as
  induction as with
  | nil => intro i v h; cases h
  | cons w as ih =>
    intro i v h
    have key : lg_sl ((w :: as).map (mj_tr ad)) = (if w.category = 2 then [Slot.val (mj_tr ad w), Slot.second] else [Slot.val (mj_tr ad w)]) ++ lg_sl (as.map (mj_tr ad)) := by
      unfold lg_sl
      rw [List.map_cons, List.flatMap_cons, mj_tr_cat]
    rw [key]
    rw [List.flatMap_cons] at h
    by_cases hc : w.category = 2
    · rw [if_pos hc]
      rw [hc] at h
      match i, h with
      | 0, h => cases h; rfl
      | 1, h => cases h
      | i + 2, h => exact ih i v h
    · rw [if_neg hc]
      have hb : Nat.beq w.category 2 = false := by
        cases hq : Nat.beq w.category 2 with
        | false => rfl
        | true => exact absurd (Nat.eq_of_beq_eq_true hq) hc
      rw [hb] at h
      match i, h with
      | 0, h => cases h; rfl
      | i + 1, h => exact ih i v h
theorem mj_en_LR (ad : Nat → Nat) (nL : Nat) (as : List Value) (h : Nat.ble (mj_sum as) nL = true) : mj_LR ad nL (mj_en nL as) ((lg_sl (as.map (mj_tr ad)) ++ List.replicate (nL - (lg_sl (as.map (mj_tr ad))).length) Slot.unset).toArray) := by
  have hl : (lg_sl (as.map (mj_tr ad))).length ≤ nL := by
    have := (mj_en_len nL (as.map (mj_tr ad)) (by rw [mj_sum_tr]; exact h)).2
    rwa [List.map_id] at this
  have hE := lv_entry (as.map (mj_tr ad)) hl
  refine ⟨(mj_en_len nL as h).1, hE.1, hE.2.1, fun i v hv => ?_⟩
  unfold mj_en at hv
  rw [List.getElem?_append] at hv
  split at hv
  · have h1 := mj_en_at ad as i v hv
    rw [List.getElem?_toArray, List.getElem?_append_left (List.getElem?_eq_some_iff.mp h1).1]
    exact h1
  · rw [List.getElem?_replicate] at hv
    split at hv <;> cases hv
section MC
variable {p : Program} {l : Launch} {e : Env} {R : Room} {s : State} {m : MethodId} {args : Array Value} {below : List Frame} {meth : Method} {co : Code} {H : Heap} {locs : List Loc} {cells slots : Nat} {Q : State → Prop}
variable {D : va_G} {cI cC cS : ClassId} {base b fs Ls : Nat} {sh0 sh : List mj_K} {c : mj_C} {Y Z : mj_Y} {cc : ByteArray} {nL pc len y : Nat} {lk : List Nat} {cv : Value} {L : List (Option Value)} {st : List Value} {ls : Array Slot} {r q : mj_R} {K C : Nat → mj_F → mj_M → Option mj_R}
/-- a callee's start, from the caller's point -/
theorem mj_PTW (hU : mj_U D cI cC cS base b fs Ls (c 0) (c 1) s) (hz0 : s.heap.size + 2 = base + sh0.length) (h20 : 2 ≤ sh0.length) (hPT : mj_PT D cI cC cS base b fs Ls sh0 s sh c H locs cells slots) (hle : H.size ≤ s.heap.size + cells) {U : State} (hU2 : U.heap = H) (hW : s.WarmedH U.vm) : mj_W D cI cC cS base b fs Ls sh c U := by
  refine ⟨hPT.1, by rw [hU2]; exact mj_size hz0 h20 hPT hle, by rw [hU2]; exact hPT.2.1, hU.moved hW (fun z hz => ?_)⟩
  rw [hU2]
  exact hPT.2.2.1.2.1 z (by omega) (by omega)
/-- behind a call -/
theorem mj_cont {mc ms : Nat} {rest st0 : List Value} (hU : mj_U D cI cC cS base b fs Ls (c 0) (c 1) s) (hz0 : s.heap.size + 2 = base + sh0.length) (h20 : 2 ≤ sh0.length) (hPT : mj_PT D cI cC cS base b fs Ls sh0 s sh c H locs cells slots)
    (hr : va_Run p l e R s m args below meth co H locs cells slots mc ms (F0 m pc ls st0) rest (mj_Qc D cI cC cS base b fs Ls q) (fun z : Nat => base ≤ z)) (hmc : mc + sh.length = q.2.1.length) (hms : ms + mj_sl sh = mj_sl q.2.1)
    (kk : ∀ (H1 : Heap) (locs1 : List Loc), mj_U D cI cC cS base b fs Ls (q.2.2 0) (q.2.2 1) s → mj_PT D cI cC cS base b fs Ls sh0 s q.2.1 q.2.2 H1 locs1 (cells + mc) (slots + ms) → W p l e R s m args below meth co H1 locs1 (cells + mc) (slots + ms) Q (F0 m (pc + 3) ls ((mj_vm (mj_ad base b fs) q.1).toList ++ rest))) : W p l e R s m args below meth co H locs cells slots Q (F0 m pc ls st0) := by
  intro T hT X
  obtain ⟨v, st₀, t, T', L2, h0, X', hL, e1, e2, ⟨⟨hv, hW⟩, hz, hk⟩, stp⟩ := hr T hT X
  obtain ⟨g1, g2, g3, g4, g5⟩ := hPT
  have hv : v = mj_vm (mj_ad base b fs) q.1 := by injection hv
  subst hv
  rw [h0] at hz hk
  obtain ⟨w1, w2, w3, w4⟩ := hW
  have hal : s.vm.Alike t.vm := by rw [← e2]; exact X'.warmed.alike
  have hS1 : va_S (fun z : Nat => base ≤ z) s.heap T'.heap (locs ++ L2) := ⟨Nat.le_trans g3.1 (by rw [e1]; exact hz), fun z h1 h2 => by rw [e1, hk z (Nat.lt_of_lt_of_le h1 g3.1) h2]; exact g3.2.1 z h1 h2, fun z hz => by
    rcases List.mem_append.mp hz with h | h
    · exact g3.2.2 z h
    · exact hL z h⟩
  have hro : ∀ z : Nat, z < base → s.heap[z]? = t.heap[z]? := fun z hz1 => by rw [← e1]; exact (hS1.2.1 z (by omega) (by omega)).symm
  obtain ⟨t2, a1, b1⟩ := kk T'.heap (locs ++ L2) ⟨hU.1, hU.2.1, hU.2.2.1, (w4.2.2.2.1.moved hal.symm).kept (hro b hU.1), (w4.2.2.2.2.1.moved hal.symm).kept (hro fs hU.2.1), hU.2.2.2.2.2⟩ ⟨w1, by rw [e1]; exact w3, hS1, by omega, by omega⟩ T' rfl X'
  exact ⟨t2, stp t2 a1, b1⟩
theorem mj_callee (hM : mj_Con l D cI cC cS base b fs Ls Z st sh c q) : True := trivial
theorem mj_cal_spec {z n : Nat} {k : mj_Y → Bool} (h : mj_cal Y z n k = true) : ∃ Z, mj_yL[z]? = some Z ∧ mj_cod Z ∈ mj_TB ∧ ((mj_nam Z).cls ≠ "java/lang/invoke/MethodHandle" ∧ (mj_nam Z).cls ≠ "java/lang/invoke/VarHandle") ∧ (parseMethodDescriptor (mj_nam Z).desc).map (fun d => d.parameters.length) = some n ∧ mj_frs Z + 1 ≤ mj_frs Y ∧ 8 + (mj_max Z + 11) + mj_los Z ≤ mj_los Y ∧ k Z = true := by
  unfold mj_cal at h
  split at h
  · rename_i Z hZ
    obtain ⟨h1, h2⟩ := mj_and h
    obtain ⟨h1, h3⟩ := mj_and h1
    obtain ⟨h4, h2⟩ := mj_and h2
    obtain ⟨h2, h5⟩ := mj_and h2
    obtain ⟨h2, h6⟩ := mj_and h2
    obtain ⟨h7, h8⟩ := mj_and h3
    exact ⟨Z, hZ, mj_wd_in h1, ⟨of_decide_eq_true h7, of_decide_eq_true h8⟩, of_decide_eq_true h4, by simpa using h2, by simpa using h6, h5⟩
  · cases h
theorem mj_good {Z : mj_Y} (h : mj_cod Z ∈ mj_TB) : GoodIn mj_TB (mj_cod Z :: mj_TB) := fun w hw => by
  rcases List.mem_cons.mp hw with rfl | hw
  · exact ⟨h, mj_TB_good h⟩
  · exact ⟨hw, mj_TB_good hw⟩
theorem mj_good2 {A ws : List Cond} (hA : ∀ w ∈ A, w ∈ mj_TB) (h : GoodIn mj_TB ws) : GoodIn mj_TB (A ++ ws) := fun w hw => by
  rcases List.mem_append.mp hw with hw | hw
  · exact ⟨hA w hw, mj_TB_good (hA w hw)⟩
  · exact h w hw
theorem mj_blind {as : List Value} : FrameBlind (va_Pc as (mj_W D cI cC cS base b fs Ls sh c)) := fun a U g mk h => ⟨h.1, h.2.blind g mk a⟩
/-- what all calls share: the arguments, the rest of the stack -/
theorem mj_sum_rest {rest : List Value} {ad : Nat → Nat} {ls : Array Slot} {st1 : List Value} (h : Nat.ble (mj_sum rest) 8 = true) : 2 * (F0 m pc ls st1).monitorRoom + ((rest.map (mj_tr ad)).map fun v => v.category).sum ≤ 8 := by
  apply lv_room
  have := mj_sum_tr ad rest
  unfold mj_sum at this
  rw [this]
  exact Nat.le_of_ble_eq_true h
theorem mj_room (hRf : mj_frs Y ≤ R.frames) (hRl : mj_los Y ≤ R.locals) (h1 : mj_frs Z + 1 ≤ mj_frs Y) (h2 : 8 + (mj_max Z + 11) + mj_los Z ≤ mj_los Y) (mc ms : Nat) : (mj_rm Z mc ms).frames + 1 ≤ R.frames ∧ 8 + (mj_max Z + 11) + (mj_rm Z mc ms).locals ≤ R.locals := by
  show mj_frs Z + 1 ≤ R.frames ∧ 8 + (mj_max Z + 11) + mj_los Z ≤ R.locals
  omega
end MC
