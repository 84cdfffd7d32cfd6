theorem mj_sel_sw {x l0 : Int32} {L : List (Option Value)} {st : List Value} {mm : mj_M} {d : mj_F × mj_M} {k : mj_F × mj_M → Option mj_R} {r : mj_R} : ∀ (ts : List Nat) (j : Nat), mj_sel (mj_sw x l0 L st mm j ts) (some d) k = some r → (∃ i t, ts[i]? = some t ∧ x = l0 + Int32.ofNat (j + i) ∧ k ((t, L, st), mm) = some r) ∨ ((∀ i, i < ts.length → ¬ x = l0 + Int32.ofNat (j + i)) ∧ k d = some r) := by
  intro ts
  induction ts with
  | nil => intro j h; exact Or.inr ⟨fun i hi => absurd hi (by simp), h⟩
  | cons t ts ih =>
    intro j h
    have h : cond (decide (x = l0 + Int32.ofNat j)) (k ((t, L, st), mm)) (mj_sel (mj_sw x l0 L st mm (j + 1) ts) (some d) k) = some r := h
    by_cases hx : x = l0 + Int32.ofNat j
    · rw [decide_eq_true hx] at h
      exact Or.inl ⟨0, t, rfl, hx, h⟩
    · rw [decide_eq_false hx] at h
      rcases ih (j + 1) h with ⟨i, t', h1, h2, h3⟩ | ⟨h1, h2⟩
      · exact Or.inl ⟨i + 1, t', h1, by rw [h2, Nat.add_assoc, Nat.add_comm 1 i], h3⟩
      · refine Or.inr ⟨fun i hi => ?_, h2⟩
        cases i with
        | zero => exact hx
        | succ i => rw [show j + (i + 1) = j + 1 + i by omega]; exact h1 i (by simpa using hi)
theorem mj_toInt_add {l0 : Int32} {j : Nat} (h1 : -1000 ≤ l0.toInt) (h2 : l0.toInt ≤ 1000) (hj : j ≤ 1000) : (l0 + Int32.ofNat j).toInt = l0.toInt + j := by
  rw [Int32.toInt_add, Int32.toInt_ofNat_of_lt (by omega)]
  exact Int.bmod_eq_of_le (by omega) (by omega)
section MM4
variable {p : Program} {l : Launch} {e : Env} {R : Room} {s : State} {m : MethodId} {args : Array Value} {below : List Frame} {meth : Method} {co : Code} {H : Heap} {locs : List Loc} {cells slots : Nat} {Q : State → Prop}
variable {D : va_G} {cI cC cS : ClassId} {base b fs Ls : Nat} {sh0 sh : List mj_K} {c : mj_C} {Y : mj_Y} {cc : ByteArray} {nL pc len y : Nat} {lk : List Nat} {cv : Value} {L : List (Option Value)} {st : List Value} {ls : Array Slot} {r : mj_R} {K C : Nat → mj_F → mj_M → Option mj_R}
theorem mj_m_tsw (hx : p.tables.exec = Jvm.exec) (hb : co.code = cc) (hown : s.vm.findClass (mj_own Y) = some m.cls) (hts : ∀ w ∈ mj_TB, w.before args s = true) (hU : mj_U D cI cC cS base b fs Ls (c 0) (c 1) s) (hz0 : s.heap.size + 2 = base + sh0.length) (h20 : 2 ≤ sh0.length) {d0 lo hi : Int} {offs : Array Int} (hd : decode cc pc = .ok (.tableswitch d0 lo hi offs, len)) (hk : mj_lnk Y pc (.tableswitch d0 lo hi offs) len lk cv = true) (hPT : mj_PT D cI cC cS base b fs Ls sh0 s sh c H locs cells slots) (hl : mj_LR (mj_ad base b fs) nL L ls) 
    (hK : mj_KK p l e R s m args below meth co Q D cI cC cS base b fs Ls sh0 nL c y K r) (h : mj_nx mj_nl K C y (mj_q mj_df (.tableswitch d0 lo hi offs) len lk cv pc L st (sh, c)) = some r) : W p l e R s m args below meth co H locs cells slots Q (F0 m pc ls (st.map (mj_tr (mj_ad base b fs)))) := by
  simp only [mj_q] at h
  split at h
  · rename_i t ts l0 x r0
    obtain ⟨h1, h2⟩ := mj_and hk
    obtain ⟨h1, h3⟩ := mj_and h1
    obtain ⟨h3, h4⟩ := mj_and h3
    obtain ⟨h5, h6⟩ := mj_and h2
    obtain ⟨h5, h7⟩ := mj_and h5
    have h1 := of_decide_eq_true h1
    have h3 := of_decide_eq_true h3
    have h4 := of_decide_eq_true h4
    have h5 := of_decide_eq_true h5
    have h7 := of_decide_eq_true h7
    have h : mj_sel (mj_sw x l0 L r0 (sh, c) 0 ts) (some ((t, L, r0), (sh, c))) (fun s => K y s.1 s.2) = some r := h
    rcases mj_sel_sw ts 0 h with ⟨i, t', g1, g2, g3⟩ | ⟨g1, g2⟩
    · have hi := (List.getElem?_eq_some_iff.mp g1).1
      rw [Nat.zero_add] at g2
      have e1 : x.toInt = l0.toInt + i := by rw [g2]; exact mj_toInt_add (by omega) (by omega) (by omega)
      have h8 := of_decide_eq_true (List.all_eq_true.mp h6 i (List.mem_range.mpr hi))
      rw [g1] at h8
      obtain ⟨o0, ho, hoe⟩ := Option.map_eq_some_iff.mp h8
      exact lv_tableIn hx hb hd (by omega) (by omega) (by rw [show (x.toInt - lo).toNat = i by omega]; exact ho) hoe (hK _ _ _ ls _ _ _ _ g3 rfl rfl hPT hl)
    · refine lv_tableOut hx hb hd ?_ h1 (hK _ _ _ ls _ _ _ _ g2 rfl rfl hPT hl)
      by_cases q1 : x.toInt < lo
      · exact Or.inl q1
      · refine Or.inr ?_
        by_cases q2 : hi < x.toInt
        · exact q2
        · exfalso
          obtain ⟨j, hj⟩ : ∃ j : Nat, x.toInt = l0.toInt + j := ⟨(x.toInt - l0.toInt).toNat, by omega⟩
          refine g1 j (by omega) ?_
          rw [Nat.zero_add]
          apply Int32.toInt_inj.mp
          rw [mj_toInt_add (by omega) (by omega) (by omega)]
          exact hj
  · exact (mj_nx_none h).elim
theorem mj_m_oini (hx : p.tables.exec = Jvm.exec) (hb : co.code = cc) (hown : s.vm.findClass (mj_own Y) = some m.cls) (hts : ∀ w ∈ mj_TB, w.before args s = true) (hU : mj_U D cI cC cS base b fs Ls (c 0) (c 1) s) (hz0 : s.heap.size + 2 = base + sh0.length) (h20 : 2 ≤ sh0.length) {n : Nat} {lt : List Nat} (hml : co.maxLocals = nL) (hRf : mj_frs Y ≤ R.frames) (hRl : mj_los Y ≤ R.locals) (hd : decode cc pc = .ok (.invokespecial n, len)) (hk : mj_lnk Y pc (.invokespecial n) len (5 :: lt) cv = true) (hPT : mj_PT D cI cC cS base b fs Ls sh0 s sh c H locs cells slots) (hl : mj_LR (mj_ad base b fs) nL L ls) 
    (hK : mj_KK p l e R s m args below meth co Q D cI cC cS base b fs Ls sh0 nL c y K r) (h : mj_nx mj_nl K C y (mj_q mj_df (.invokespecial n) len (5 :: lt) cv pc L st (sh, c)) = some r) : W p l e R s m args below meth co H locs cells slots Q (F0 m pc ls (st.map (mj_tr (mj_ad base b fs)))) := by
  simp only [mj_q] at h
  obtain ⟨h1, hk9⟩ := mj_and hk
  clear hk
  have hk := hk9
  clear hk9
  have e1 := Nat.eq_of_beq_eq_true h1
  subst e1
  match lt, hk with
  | [], hk => exact absurd (of_decide_eq_true hk) (by simp)
  | [_], hk => exact absurd (of_decide_eq_true hk) (by simp)
  | [_, _], hk => exact absurd (of_decide_eq_true hk) (by simp)
  | _ :: _ :: _ :: _ :: _, hk => exact absurd (of_decide_eq_true hk) (by simp)
  | [p1, p2, p3], hk =>
    obtain ⟨h2, h3⟩ := mj_and hk
    obtain ⟨h2, h4⟩ := mj_and h2
    obtain ⟨h3, h5⟩ := mj_and h3
    obtain ⟨h5, h6⟩ := mj_and h5
    have h5 : 1 ≤ mj_frs Y := by simpa using h5
    have h6 : 12 ≤ mj_los Y := by simpa using h6
    split at h
    · rename_i a
      exact W.objInit hx hb hown (hts _ (mj_wd_in h2)) (hts _ (mj_wd_in h4)) (hts _ (mj_wd_in h3)) rfl (hl.2.1.trans hml.symm) rfl hd (by omega) (by show 2 * 0 + 0 + 12 ≤ R.locals; omega) (hK _ _ _ ls _ _ _ _ (mj_nx_go h) rfl rfl hPT hl)
    · exact (mj_nx_none h).elim
theorem mj_m_acpy (hx : p.tables.exec = Jvm.exec) (hb : co.code = cc) (hown : s.vm.findClass (mj_own Y) = some m.cls) (hts : ∀ w ∈ mj_TB, w.before args s = true) (hU : mj_U D cI cC cS base b fs Ls (c 0) (c 1) s) (hz0 : s.heap.size + 2 = base + sh0.length) (h20 : 2 ≤ sh0.length) {n0 : Nat} {lt : List Nat} (hml : co.maxLocals = nL) (hRf : mj_frs Y ≤ R.frames) (hRl : mj_los Y ≤ R.locals) (hd : decode cc pc = .ok (.invokestatic n0, len)) (hk : mj_lnk Y pc (.invokestatic n0) len (6 :: lt) cv = true) (hPT : mj_PT D cI cC cS base b fs Ls sh0 s sh c H locs cells slots) (hl : mj_LR (mj_ad base b fs) nL L ls) 
    (hK : mj_KK p l e R s m args below meth co Q D cI cC cS base b fs Ls sh0 nL c y K r) (h : mj_nx mj_nl K C y (mj_q mj_df (.invokestatic n0) len (6 :: lt) cv pc L st (sh, c)) = some r) : W p l e R s m args below meth co H locs cells slots Q (F0 m pc ls (st.map (mj_tr (mj_ad base b fs)))) := by
  simp only [mj_q] at h
  obtain ⟨h1, hk9⟩ := mj_and hk
  clear hk
  have hk := hk9
  clear hk9
  have e1 := Nat.eq_of_beq_eq_true h1
  subst e1
  match lt, hk with
  | [], hk => exact absurd (of_decide_eq_true hk) (by simp)
  | [_], hk => exact absurd (of_decide_eq_true hk) (by simp)
  | [_, _], hk => exact absurd (of_decide_eq_true hk) (by simp)
  | [_, _, _], hk => exact absurd (of_decide_eq_true hk) (by simp)
  | _ :: _ :: _ :: _ :: _ :: _, hk => exact absurd (of_decide_eq_true hk) (by simp)
  | [p1, p2, p3, p4], hk =>
    obtain ⟨h2, h3⟩ := mj_and hk
    obtain ⟨h2, h4⟩ := mj_and h2
    obtain ⟨h3, h5⟩ := mj_and h3
    obtain ⟨h3, h7⟩ := mj_and h3
    obtain ⟨h5, h6⟩ := mj_and h5
    have h5 : 1 ≤ mj_frs Y := by simpa using h5
    have h6 : 18 ≤ mj_los Y := by simpa using h6
    split at h
    · rename_i n dp a1 sp a0
      split at h
      · rename_i t0 n0' rs0 t1 n1 rs1 hs0 hs1
        obtain ⟨ht, h9⟩ := mj_nx_cif h
        clear h
        have h := h9
        clear h9
        obtain ⟨ht0, ht1⟩ := mj_and ht
        have e2 := Nat.eq_of_beq_eq_true ht0
        subst e2
        have e3 := Nat.eq_of_beq_eq_true ht1
        subst e3
        obtain ⟨hc, h9⟩ := mj_nx_if h
        clear h
        have h := h9
        clear h9
        obtain ⟨q1, q2⟩ := mj_and hc
        obtain ⟨q1, q3⟩ := mj_and q1
        obtain ⟨q3, q4⟩ := mj_and q3
        obtain ⟨q2, q5⟩ := mj_and q2
        have h20a := hPT.1.two hs0 (by decide)
        have h21a := hPT.1.two hs1 (by decide)
        refine va_copyi hx hb (hml.trans hl.2.1.symm) hown (hts _ (mj_wd_in h2)) (hts _ (mj_wd_in h4)) (hts _ (mj_wd_in h3)) (hts _ (mj_wd_in h7)) hU.2.2.1 hPT.2.1 mj_ws_D hPT.2.2.1 (a0 - 2) (a1 - 2) 0 0 (ty := .int) (mj_ws_get hs0 h20a) (mj_ws_get hs1 h21a) rfl rfl rfl (by simpa using q1) (by simpa using q3) (by simpa using q4) (of_decide_eq_true q2) (of_decide_eq_true q5) (fun i hi => rfl) (by omega) (by show 0 + (7 + 11) ≤ R.locals; omega) hd (fun H1 locs1 hP1 _ hS1 => ?_)
        refine hK _ _ _ ls _ _ _ _ h (mj_cp_ne c _ _ _ _ _ (mj_0 h21a)) (mj_cp_ne c _ _ _ _ _ (mj_1 h21a)) ?_ hl
        have hP2 := hPT.put hs1 h21a (rs' := rs1) (c' := mj_cp c a0 a1 sp.toNatClampNeg dp.toNatClampNeg n.toNatClampNeg) (fun b hb => mj_cp_ne c _ _ _ _ _ hb) (by rw [mj_cp_self]; exact hP1) hS1
        rw [mj_set_self hs1] at hP2
        exact hP2
      · exact (mj_nx_none h).elim
    · exact (mj_nx_none h).elim
end MM4
