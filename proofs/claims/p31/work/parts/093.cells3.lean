section MM3
variable {p : Program} {l : Launch} {e : Env} {R : Room} {s : State} {m : MethodId} {args : Array Value} {below : List Frame} {meth : Method} {co : Code} {H : Heap} {locs : List Loc} {cells slots : Nat} {Q : State → Prop}
variable {D : va_G} {cI cC cS : ClassId} {base b fs Ls : Nat} {sh0 sh : List mj_K} {c : mj_C} {Y : mj_Y} {cc : ByteArray} {nL pc len y : Nat} {lk : List Nat} {cv : Value} {L : List (Option Value)} {st : List Value} {ls : Array Slot} {r : mj_R} {K C : Nat → mj_F → mj_M → Option mj_R}
theorem mj_le {g : JFrame} (k : H.size ≤ s.heap.size + cells → W p l e R s m args below meth co H locs cells slots Q g) : W p l e R s m args below meth co H locs cells slots Q g := by
  intro T hT X
  refine k ?_ T hT X
  have h := X.same.2.2.1
  rw [← hT]
  exact h
theorem mj_size (hz0 : s.heap.size + 2 = base + sh0.length) (h20 : 2 ≤ sh0.length) (hPT : mj_PT D cI cC cS base b fs Ls sh0 s sh c H locs cells slots) (hle : H.size ≤ s.heap.size + cells) : H.size + 2 = base + sh.length := by
  obtain ⟨g1, g2, g3, g4, g5⟩ := hPT
  by_cases hc : cells = 0
  · have := g3.1
    omega
  · have hlt : sh.length - 1 < sh.length := by omega
    have h1 := (g2 (sh.length - 1 - 2) _ (mj_ws_get (List.getElem?_eq_getElem hlt) (by omega))).lt
    have e1 : mj_ad base b fs (sh.length - 1) = base + (sh.length - 3) := by
      rw [show sh.length - 1 = (sh.length - 3) + 2 by omega]
      rfl
    dsimp only at h1
    rw [e1] at h1
    omega
theorem mj_fresh {q : Nat} {x : va_E} {H1 : Heap} (hz0 : s.heap.size + 2 = base + sh0.length) (h20 : 2 ≤ sh0.length) (hPT : mj_PT D cI cC cS base b fs Ls sh0 s sh c H locs cells slots) (hP1 : va_P D mj_cl (mj_ws cI cC cS (mj_ad base b fs) sh c ++ [(q, x)]) H1) (hD1 : va_D (fun q : Nat => base ≤ q) (mj_ws cI cC cS (mj_ad base b fs) sh c ++ [(q, x)])) (hle : H1.size ≤ s.heap.size + (cells + 1)) : q = mj_ad base b fs sh.length := by
  obtain ⟨g1, g2, g3, g4, g5⟩ := hPT
  have hw : (mj_ws cI cC cS (mj_ad base b fs) sh c).length = sh.length - 2 := by
    unfold mj_ws
    rw [List.length_mapIdx, List.length_drop]
  have hlast : (mj_ws cI cC cS (mj_ad base b fs) sh c ++ [(q, x)])[sh.length - 2]? = some (q, x) := by
    rw [List.getElem?_append_right (by omega), hw, Nat.sub_self]
    rfl
  have h1 := (hP1 _ _ hlast).lt
  have h2 := hD1.2 _ _ hlast
  dsimp only at h1 h2
  have e1 : mj_ad base b fs sh.length = base + (sh.length - 2) := by
    rw [show sh.length = (sh.length - 2) + 2 by omega]
    rfl
  rw [e1]
  by_cases hq : q < base + (sh.length - 2)
  · exfalso
    have hlt : q - base + 2 < sh.length := by omega
    have h3 := mj_ws_get (cI := cI) (cC := cC) (cS := cS) (ad := mj_ad base b fs) (c := c) (List.getElem?_eq_getElem hlt) (by omega)
    rw [show q - base + 2 - 2 = q - base by omega] at h3
    have h4 : (mj_ws cI cC cS (mj_ad base b fs) sh c ++ [(q, x)])[q - base]? = some (mj_ad base b fs (q - base + 2), mj_ce cI cC cS (mj_ad base b fs) sh[q - base + 2] (c (q - base + 2))) := by
      rw [List.getElem?_append_left (by omega)]
      exact h3
    have h5 := hD1.1 _ _ _ _ h4 hlast (show base + (q - base) = q by omega)
    omega
  · omega
theorem mj_PT.app {q : Nat} {k : mj_K} {H1 : Heap} {locs1 : List Loc} (h20 : 2 ≤ sh0.length) (hPT : mj_PT D cI cC cS base b fs Ls sh0 s sh c H locs cells slots) (hq : q = mj_ad base b fs sh.length) (hP1 : va_P D mj_cl (mj_ws cI cC cS (mj_ad base b fs) sh c ++ [(q, mj_ce cI cC cS (mj_ad base b fs) k (fun _ => 0))]) H1) (hS1 : va_S (fun q : Nat => base ≤ q) s.heap H1 locs1) : mj_PT D cI cC cS base b fs Ls sh0 s (sh ++ [k]) (mj_z c sh.length) H1 locs1 (cells + 1) (slots + k.2.1) := by
  obtain ⟨g1, g2, g3, g4, g5⟩ := hPT
  refine ⟨g1.app k, ?_, hS1, by rw [List.length_append]; simp; omega, by rw [mj_sl_app]; omega⟩
  rw [mj_ws_app k (c := c) g1.len (fun b hb => mj_z_ne c _ (by omega)), mj_z_self, ← hq]
  exact hP1
theorem mj_m_putf (hx : p.tables.exec = Jvm.exec) (hb : co.code = cc) (hown : s.vm.findClass (mj_own Y) = some m.cls) (hts : ∀ w ∈ mj_TB, w.before args s = true) (hU : mj_U D cI cC cS base b fs Ls (c 0) (c 1) s) (hz0 : s.heap.size + 2 = base + sh0.length) (h20 : 2 ≤ sh0.length) {n : Nat} (hokc : ∀ ci q, mj_cl[ci]? = some q → mj_okc ci q) (hnam : (mj_nam Y).name = "<init>" → meth.name = "<init>") (hd : decode cc pc = .ok (.putfield n, len)) (hk : mj_lnk Y pc (.putfield n) len lk cv = true) (hPT : mj_PT D cI cC cS base b fs Ls sh0 s sh c H locs cells slots) (hl : mj_LR (mj_ad base b fs) nL L ls) 
    (hK : mj_KK p l e R s m args below meth co Q D cI cC cS base b fs Ls sh0 nL c y K r) (h : mj_nx mj_nl K C y (mj_q mj_df (.putfield n) len lk cv pc L st (sh, c)) = some r) : W p l e R s m args below meth co H locs cells slots Q (F0 m pc ls (st.map (mj_tr (mj_ad base b fs)))) := by
  simp only [mj_q] at h
  obtain ⟨h1, hk9⟩ := mj_and hk
  clear hk
  have hk := hk9
  clear hk9
  have e1 := Nat.eq_of_beq_eq_true h1
  subst e1
  split at h
  · rename_i ci k fl lt v a r0
    split at h
    · rename_i t nn rs hs
      obtain ⟨ht, h9⟩ := mj_nx_cif h
      clear h
      have h := h9
      clear h9
      have e2 := Nat.eq_of_beq_eq_true ht
      subst e2
      match lt, hk with
      | [], hk => exact absurd (of_decide_eq_true hk) (by simp)
      | _ :: _ :: _, hk => exact absurd (of_decide_eq_true hk) (by simp)
      | [p0], hk =>
        simp only at hk
        split at hk
        · rename_i q hq
          obtain ⟨C, T, N⟩ := q
          obtain ⟨hk9, h6⟩ := mj_and hk
          clear hk
          have hk := hk9
          clear hk9
          obtain ⟨h8, h7⟩ := mj_and h6
          obtain ⟨hk9, h4⟩ := mj_and hk
          clear hk
          have hk := hk9
          clear hk9
          obtain ⟨hk9, h5⟩ := mj_and hk
          clear hk
          have hk := hk9
          clear hk9
          have hkN : k < N := by simpa using hk
          have h5 := of_decide_eq_true h5
          have h2 := hPT.1.two hs (mj_ci hq)
          have hin : ∀ w ∈ u_ws C T N, w ∈ mj_TB := (hokc ci _ hq).1
          have hnm := (hokc ci _ hq).2.1
          obtain ⟨ty, hty, -⟩ := (hokc ci _ hq).2.2
          have hlink := hts _ (mj_wd_in h4)
          have put : ∀ (w : Value) (ft : FieldType), parseFieldDescriptor (T k).2.2.1 = some ft → narrow ft w = w → fits ft w = true → k < rs.length → (∀ (H1 : Heap) (locs1 : List Loc), va_P D mj_cl ((mj_ws cI cC cS (mj_ad base b fs) sh c).set (a - 2) (mj_ad base b fs a, .inr (ci, (mj_ob (mj_ad base b fs) rs (c a)).set k w))) H1 → va_S (fun q : Nat => base ≤ q) s.heap H1 locs1 → W p l e R s m args below meth co H1 locs1 cells slots Q (F0 m (pc + 3) ls (r0.map (mj_tr (mj_ad base b fs))))) → W p l e R s m args below meth co H locs cells slots Q (F0 m pc ls (w :: Value.ref (mj_ad base b fs a) :: r0.map (mj_tr (mj_ad base b fs)))) := by
            intro w ft hft hn hf hkl kk
            have hll : k < (mj_ob (mj_ad base b fs) rs (c a)).length := by
              unfold mj_ob
              rw [List.length_mapIdx]
              exact hkl
            cases hfin : (T k).2.2.2 with
            | false => exact va_put hx hb hts hin ty hty hnm hown hU.2.2.1 hPT.2.1 mj_ws_D hPT.2.2.1 (a - 2) (mj_ws_get hs h2) hq k hkN hlink (fun x hx9 => by rw [← h5]; exact hx9) hfin hft hn hf hll hd (fun H1 locs1 hP1 _ hS1 => kk H1 locs1 hP1 hS1)
            | true =>
              rw [hfin] at h8
              obtain ⟨h9, h10⟩ := mj_and h8
              exact va_putF hx hb hts hin ty hty hnm hown hU.2.2.1 hPT.2.1 mj_ws_D hPT.2.2.1 (a - 2) (mj_ws_get hs h2) hq k hkN hlink (fun x hx9 => by rw [← h5]; exact hx9) hfin (hnam (of_decide_eq_true h9)) (h5.trans (of_decide_eq_true h10)) hft hn hf hll hd (fun H1 locs1 hP1 _ hS1 => kk H1 locs1 hP1 hS1)
          split at h
          · rename_i x hf
            have hkl : k < rs.length := (List.getElem?_eq_some_iff.mp hf).1
            have hft : parseFieldDescriptor (T k).2.2.1 = some .int := by
              revert h7
              cases parseFieldDescriptor (T k).2.2.1 with
              | none => intro z; cases z
              | some ft => cases ft <;> intro z <;> first | rfl | cases z
            refine put (.int x) .int hft rfl rfl hkl (fun H1 locs1 hP1 hS1 => ?_)
            refine hK _ _ _ ls _ _ _ _ (mj_nx_go h) (mj_u_ne c a _ _ (mj_0 h2)) (mj_u_ne c a _ _ (mj_1 h2)) ?_ hl
            have e3 : (mj_ob (mj_ad base b fs) rs (c a)).set k (.int x) = mj_ob (mj_ad base b fs) (rs.set k none) (mj_u c a k x a) := by
              rw [← mj_ob_set (f := c a) none (mj_u c a k x a) hkl (fun j hj => by rw [mj_u_self]; simp [upd, hj]), mj_u_self]
              simp [upd, mj_rv]
            have e4 : rs.set k none = rs := by
              apply List.ext_getElem?
              intro i
              rw [List.getElem?_set]
              by_cases hi : k = i
              · subst hi
                rw [if_pos rfl, if_pos hkl, hf]
              · rw [if_neg hi]
            rw [e3, e4] at hP1
            have hP2 := hPT.put hs h2 (rs' := rs) (c' := mj_u c a k x) (fun b hb => mj_u_ne c a _ _ hb) hP1 hS1
            rw [mj_set_self hs] at hP2
            exact hP2
          · rename_i o0 b0 hf
            have hkl : k < rs.length := (List.getElem?_eq_some_iff.mp hf).1
            have hft : ∃ ft, parseFieldDescriptor (T k).2.2.1 = some ft ∧ narrow ft (.ref (mj_ad base b fs b0)) = .ref (mj_ad base b fs b0) ∧ fits ft (.ref (mj_ad base b fs b0)) = true := by
              revert h7
              cases parseFieldDescriptor (T k).2.2.1 with
              | none => intro z; cases z
              | some ft => cases ft <;> intro z <;> first | exact ⟨_, rfl, rfl, rfl⟩ | cases z
            obtain ⟨ft, hft, hn, hfi⟩ := hft
            refine put (.ref (mj_ad base b fs b0)) ft hft hn hfi hkl (fun H1 locs1 hP1 hS1 => ?_)
            refine hK _ _ _ ls _ _ _ _ (mj_nx_go h) rfl rfl ?_ hl
            have e3 : (mj_ob (mj_ad base b fs) rs (c a)).set k (.ref (mj_ad base b fs b0)) = mj_ob (mj_ad base b fs) (rs.set k (some (some b0))) (c a) := mj_ob_set (some (some b0)) (c a) hkl (fun j hj => rfl)
            rw [e3] at hP1
            exact hPT.put hs h2 (rs' := rs.set k (some (some b0))) (c' := c) (fun b hb => rfl) hP1 hS1
          · exact (mj_nx_none h).elim
        · cases hk
    · exact (mj_nx_none h).elim
  · exact (mj_nx_none h).elim
theorem mj_m_new (hx : p.tables.exec = Jvm.exec) (hb : co.code = cc) (hown : s.vm.findClass (mj_own Y) = some m.cls) (hts : ∀ w ∈ mj_TB, w.before args s = true) (hU : mj_U D cI cC cS base b fs Ls (c 0) (c 1) s) (hz0 : s.heap.size + 2 = base + sh0.length) (h20 : 2 ≤ sh0.length) {n : Nat} (hokc : ∀ ci q, mj_cl[ci]? = some q → mj_okc ci q) (hRc : r.2.1.length ≤ R.cells + sh0.length) (hRs : mj_sl r.2.1 ≤ R.slots + mj_sl sh0) (hmo : ∀ g sh' c', K y g (sh', c') = some r → sh'.length ≤ r.2.1.length ∧ mj_sl sh' ≤ mj_sl r.2.1) (hd : decode cc pc = .ok (.new n, len)) (hk : mj_lnk Y pc (.new n) len lk cv = true) (hPT : mj_PT D cI cC cS base b fs Ls sh0 s sh c H locs cells slots) (hl : mj_LR (mj_ad base b fs) nL L ls) 
    (hK : mj_KK p l e R s m args below meth co Q D cI cC cS base b fs Ls sh0 nL c y K r) (h : mj_nx mj_nl K C y (mj_q mj_df (.new n) len lk cv pc L st (sh, c)) = some r) : W p l e R s m args below meth co H locs cells slots Q (F0 m pc ls (st.map (mj_tr (mj_ad base b fs)))) := by
  simp only [mj_q] at h
  obtain ⟨h1, hk9⟩ := mj_and hk
  clear hk
  have hk := hk9
  clear hk9
  have e1 := Nat.eq_of_beq_eq_true h1
  subst e1
  split at h
  · rename_i ci N lt
    obtain ⟨hn, h9⟩ := mj_nx_cif h
    clear h
    have h := h9
    clear h9
    match lt, hk with
    | [], hk => exact absurd (of_decide_eq_true hk) (by simp)
    | [_], hk => exact absurd (of_decide_eq_true hk) (by simp)
    | [_, _], hk => exact absurd (of_decide_eq_true hk) (by simp)
    | _ :: _ :: _ :: _ :: _, hk => exact absurd (of_decide_eq_true hk) (by simp)
    | [p1, p2, p3], hk =>
      simp only at hk
      split at hk
      · rename_i q hq
        obtain ⟨C0, T, N0⟩ := q
        obtain ⟨h2, hk9⟩ := mj_and hk
        clear hk
        have hk := hk9
        clear hk9
        have e2 := Nat.eq_of_beq_eq_true h2
        have e2 : N0 = N := e2
        subst e2
        obtain ⟨h3, hk9⟩ := mj_and hk
        clear hk
        have hk := hk9
        clear hk9
        obtain ⟨h4, h5⟩ := mj_and hk
        have hin : ∀ w ∈ u_ws C0 T N0, w ∈ mj_TB := (hokc ci _ hq).1
        obtain ⟨ty, hty, hfs⟩ := (hokc ci _ hq).2.2
        have hr := mj_nx_go h
        obtain ⟨hm1, hm2⟩ := hmo _ _ _ hr
        rw [List.length_append] at hm1
        rw [mj_sl_app] at hm2
        obtain ⟨g1, g2, g3, g4, g5⟩ := id hPT
        have hA : ∀ q, s.heap.size ≤ q → base ≤ q := fun q hq => by omega
        refine va_new hx hb hts hin ty hty hown (hts _ (mj_wd_in h3)) (hts _ (mj_wd_in h4)) (hts _ (mj_wd_in h5)) hU.2.2.1 hPT.2.1 mj_ws_D hPT.2.2.1 hA hq (fun j hj => hfs (mj_ad base b fs) j hj) (by simp at hm1; omega) (by simp at hm2; omega) hd (fun q H1 hP1 hD1 hS1 => ?_)
        refine mj_le (fun hle => ?_)
        have hqe := mj_fresh hz0 h20 hPT hP1 hD1 hle
        have hPT1 := hPT.app (k := (ci + 3, N0, mj_df ci)) h20 hqe hP1 hS1
        have kk := hK _ _ _ ls _ _ _ _ hr (mj_z_ne c _ (by have := g1.len; omega)) (mj_z_ne c _ (by have := g1.len; omega)) hPT1 hl
        rw [hqe]
        exact kk
      · cases hk
  · exact (mj_nx_none h).elim
theorem mj_m_newa (hx : p.tables.exec = Jvm.exec) (hb : co.code = cc) (hown : s.vm.findClass (mj_own Y) = some m.cls) (hts : ∀ w ∈ mj_TB, w.before args s = true) (hU : mj_U D cI cC cS base b fs Ls (c 0) (c 1) s) (hz0 : s.heap.size + 2 = base + sh0.length) (h20 : 2 ≤ sh0.length) {at0 : ArrayType} (hRc : r.2.1.length ≤ R.cells + sh0.length) (hRs : mj_sl r.2.1 ≤ R.slots + mj_sl sh0) (hmo : ∀ g sh' c', K y g (sh', c') = some r → sh'.length ≤ r.2.1.length ∧ mj_sl sh' ≤ mj_sl r.2.1) (hd : decode cc pc = .ok (.newarray at0, len)) (hk : mj_lnk Y pc (.newarray at0) len lk cv = true) (hPT : mj_PT D cI cC cS base b fs Ls sh0 s sh c H locs cells slots) (hl : mj_LR (mj_ad base b fs) nL L ls) 
    (hK : mj_KK p l e R s m args below meth co Q D cI cC cS base b fs Ls sh0 nL c y K r) (h : mj_nx mj_nl K C y (mj_q mj_df (.newarray at0) len lk cv pc L st (sh, c)) = some r) : W p l e R s m args below meth co H locs cells slots Q (F0 m pc ls (st.map (mj_tr (mj_ad base b fs)))) := by
  simp only [mj_q] at h
  obtain ⟨h1, hk9⟩ := mj_and hk
  clear hk
  have hk := hk9
  clear hk9
  have e1 := Nat.eq_of_beq_eq_true h1
  subst e1
  split at h
  · rename_i t lt n r0
    obtain ⟨hn, h9⟩ := mj_nx_cif h
    clear h
    have h := h9
    clear h9
    obtain ⟨-, hn⟩ := mj_and hn
    obtain ⟨hn0, hn1⟩ := mj_and hn
    have hn0 : ¬ n < 0 := by simpa using hn0
    have hn1 : n.toNatClampNeg ≤ 1000000 := by simpa using hn1
    have hr := mj_nx_go h
    obtain ⟨hm1, hm2⟩ := hmo _ _ _ hr
    rw [List.length_append] at hm1
    rw [mj_sl_app] at hm2
    obtain ⟨g1, g2, g3, g4, g5⟩ := id hPT
    have hA : ∀ q, s.heap.size ≤ q → base ≤ q := fun q hq => by omega
    have fin : ∀ (ty : FieldType) (cA : ClassId), newarray.typeOf at0 = ty → (Cond.arrayClass (newarray.typeOf at0)).before args s = true → (∀ cA : ClassId, vp_cell cA (n.toNatClampNeg, .inl (fun _ => 0)) = arrV cA n.toNatClampNeg (fun _ => defaultValue ty)) → componentBytes ty ≤ 8 → (∀ cB, va_RA s cB ty → cB = cA) → mj_ce cI cC cS (mj_ad base b fs) (t, n.toNatClampNeg, []) (fun _ => 0) = .inl (cA, n.toNatClampNeg, .inl (fun _ => 0)) → W p l e R s m args below meth co H locs cells slots Q (F0 m pc ls (Value.int n :: r0.map (mj_tr (mj_ad base b fs)))) := by
      intro ty cA hty harr hcell hby huni hce
      have hby2 : n.toNatClampNeg * componentBytes ty ≤ 536870912 := Nat.le_trans (Nat.mul_le_mul hn1 hby) (by decide)
      refine va_newa hx hb harr hty hU.2.2.1 hPT.2.1 mj_ws_D hPT.2.2.1 hA hcell hn0 rfl hby2 (by simp at hm1; omega) (by simp at hm2; omega) hd (fun q cB H1 hK1 hP1 hD1 hS1 => ?_)
      refine mj_le (fun hle => ?_)
      have hcB : cB = cA := huni cB (hK1.2 3 _ rfl).2
      subst hcB
      rw [← hce] at hP1 hD1
      have hqe := mj_fresh hz0 h20 hPT hP1 hD1 hle
      have hPT1 := hPT.app (k := (t, n.toNatClampNeg, [])) h20 hqe hP1 hS1
      have kk := hK _ _ _ ls _ _ _ _ hr (mj_z_ne c _ (by have := g1.len; omega)) (mj_z_ne c _ (by have := g1.len; omega)) hPT1 hl
      rw [hqe]
      exact kk
    match lt, hk with
    | [], hk => exact absurd (of_decide_eq_true hk) (by simp)
    | _ :: _ :: _, hk => exact absurd (of_decide_eq_true hk) (by simp)
    | [p1], hk =>
      cases at0 with
      | int =>
        obtain ⟨h2, h3⟩ := mj_and hk
        have e2 := Nat.eq_of_beq_eq_true h2
        subst e2
        exact fin .int cI rfl (hts _ (mj_wd_in h3)) (fun _ => rfl) (by decide) (fun cB hB => Option.some.inj (hB.symm.trans (hU.2.2.1.2 0 _ rfl).2)) rfl
      | char =>
        obtain ⟨h2, h3⟩ := mj_and hk
        have e2 := Nat.eq_of_beq_eq_true h2
        subst e2
        exact fin .char cC rfl (hts _ (mj_wd_in h3)) (fun _ => rfl) (by decide) (fun cB hB => Option.some.inj (hB.symm.trans (hU.2.2.1.2 1 _ rfl).2)) rfl
      | _ => cases hk
  · exact (mj_nx_none h).elim
theorem mj_m_newq (hx : p.tables.exec = Jvm.exec) (hb : co.code = cc) (hown : s.vm.findClass (mj_own Y) = some m.cls) (hts : ∀ w ∈ mj_TB, w.before args s = true) (hU : mj_U D cI cC cS base b fs Ls (c 0) (c 1) s) (hz0 : s.heap.size + 2 = base + sh0.length) (h20 : 2 ≤ sh0.length) {n0 : Nat} (hRc : r.2.1.length ≤ R.cells + sh0.length) (hRs : mj_sl r.2.1 ≤ R.slots + mj_sl sh0) (hmo : ∀ g sh' c', K y g (sh', c') = some r → sh'.length ≤ r.2.1.length ∧ mj_sl sh' ≤ mj_sl r.2.1) (hd : decode cc pc = .ok (.anewarray n0, len)) (hk : mj_lnk Y pc (.anewarray n0) len lk cv = true) (hPT : mj_PT D cI cC cS base b fs Ls sh0 s sh c H locs cells slots) (hl : mj_LR (mj_ad base b fs) nL L ls) 
    (hK : mj_KK p l e R s m args below meth co Q D cI cC cS base b fs Ls sh0 nL c y K r) (h : mj_nx mj_nl K C y (mj_q mj_df (.anewarray n0) len lk cv pc L st (sh, c)) = some r) : W p l e R s m args below meth co H locs cells slots Q (F0 m pc ls (st.map (mj_tr (mj_ad base b fs)))) := by
  simp only [mj_q] at h
  obtain ⟨h1, hk9⟩ := mj_and hk
  clear hk
  have hk := hk9
  clear hk9
  have e1 := Nat.eq_of_beq_eq_true h1
  subst e1
  split at h
  · rename_i ci lt n r0
    obtain ⟨hn, h9⟩ := mj_nx_cif h
    clear h
    have h := h9
    clear h9
    obtain ⟨hn0, hn1⟩ := mj_and hn
    have hn0 : ¬ n < 0 := by simpa using hn0
    have hn1 : n.toNatClampNeg ≤ 1000000 := by simpa using hn1
    have hr := mj_nx_go h
    obtain ⟨hm1, hm2⟩ := hmo _ _ _ hr
    rw [List.length_append] at hm1
    rw [mj_sl_app] at hm2
    obtain ⟨g1, g2, g3, g4, g5⟩ := id hPT
    have hA : ∀ q, s.heap.size ≤ q → base ≤ q := fun q hq => by omega
    match lt, hk with
    | [], hk => exact absurd (of_decide_eq_true hk) (by simp)
    | [_], hk => exact absurd (of_decide_eq_true hk) (by simp)
    | _ :: _ :: _ :: _, hk => exact absurd (of_decide_eq_true hk) (by simp)
    | [p1, p2], hk =>
      simp only at hk
      split at hk
      · rename_i q hq
        obtain ⟨h2, h3⟩ := mj_and hk
        have hel := of_decide_eq_true h2
        have hlink := hts _ (mj_wd_in h3)
        rw [hel] at hlink
        refine va_newq hx hb hown hlink hU.2.2.2.2.2.2.2 hU.2.2.1 hPT.2.1 mj_ws_D hPT.2.2.1 hA hn0 rfl (by omega) (by simp at hm1; omega) (by simp at hm2; omega) hd (fun q cB H1 hK1 hP1 hD1 hS1 => ?_)
        refine mj_le (fun hle => ?_)
        have hcB : cB = cS := by
          obtain ⟨k1, m1, z1, z2, z3, z4⟩ := (hK1.2 3 _ rfl).2
          obtain ⟨k2, m2, w1, w2, w3, w4⟩ := (hU.2.2.1.2 2 _ rfl).2
          exact Option.some.inj (z4.symm.trans w4)
        subst hcB
        have hce : mj_ce cI cC cB (mj_ad base b fs) (2, n.toNatClampNeg, List.replicate n.toNatClampNeg (some none)) (fun _ => 0) = .inl (cB, n.toNatClampNeg, .inr (.inr (.inr (.inr (fun _ => none))))) := by
          have e3 : mj_rf (mj_ad base b fs) (List.replicate n.toNatClampNeg (some none)) = fun _ => none := by
            funext j
            unfold mj_rf
            rw [List.getElem?_replicate]
            by_cases hj : j < n.toNatClampNeg
            · rw [if_pos hj]
            · rw [if_neg hj]
          show Sum.inl (cB, n.toNatClampNeg, Sum.inr (Sum.inr (Sum.inr (Sum.inr (mj_rf (mj_ad base b fs) (List.replicate n.toNatClampNeg (some none))))))) = _
          rw [e3]
        rw [← hce] at hP1 hD1
        have hqe := mj_fresh hz0 h20 hPT hP1 hD1 hle
        have hPT1 := hPT.app (k := (2, n.toNatClampNeg, List.replicate n.toNatClampNeg (some none))) h20 hqe hP1 hS1
        have kk := hK _ _ _ ls _ _ _ _ hr (mj_z_ne c _ (by have := g1.len; omega)) (mj_z_ne c _ (by have := g1.len; omega)) hPT1 hl
        rw [hqe]
        exact kk
      · cases hk
  · exact (mj_nx_none h).elim
end MM3
