section MM2
variable {p : Program} {l : Launch} {e : Env} {R : Room} {s : State} {m : MethodId} {args : Array Value} {below : List Frame} {meth : Method} {co : Code} {H : Heap} {locs : List Loc} {cells slots : Nat} {Q : State → Prop}
variable {D : va_G} {cI cC cS : ClassId} {base b fs Ls : Nat} {sh0 sh : List mj_K} {c : mj_C} {Y : mj_Y} {cc : ByteArray} {nL pc len y : Nat} {lk : List Nat} {cv : Value} {L : List (Option Value)} {st : List Value} {ls : Array Slot} {r : mj_R} {K C : Nat → mj_F → mj_M → Option mj_R}
theorem mj_0 {a : Nat} (h : 2 ≤ a) : (0 : Nat) ≠ a := by omega
theorem mj_1 {a : Nat} (h : 2 ≤ a) : (1 : Nat) ≠ a := by omega
theorem mj_m_cald (hx : p.tables.exec = Jvm.exec) (hb : co.code = cc) (hown : s.vm.findClass (mj_own Y) = some m.cls) (hts : ∀ w ∈ mj_TB, w.before args s = true) (hU : mj_U D cI cC cS base b fs Ls (c 0) (c 1) s) (hz0 : s.heap.size + 2 = base + sh0.length) (h20 : 2 ≤ sh0.length) (hd : decode cc pc = .ok (.caload, len)) (hk : mj_lnk Y pc (.caload) len lk cv = true) (hPT : mj_PT D cI cC cS base b fs Ls sh0 s sh c H locs cells slots) (hl : mj_LR (mj_ad base b fs) nL L ls) 
    (hK : mj_KK p l e R s m args below meth co Q D cI cC cS base b fs Ls sh0 nL c y K r) (h : mj_nx mj_nl K C y (mj_q mj_df (.caload) len lk cv pc L st (sh, c)) = some r) : W p l e R s m args below meth co H locs cells slots Q (F0 m pc ls (st.map (mj_tr (mj_ad base b fs)))) := by
  simp only [mj_q] at h
  have e1 := Nat.eq_of_beq_eq_true hk
  subst e1
  split at h
  · rename_i i a r0
    split at h
    · rename_i t n rs hs
      obtain ⟨ht, h9⟩ := mj_nx_cif h
      clear h
      have h := h9
      clear h9
      obtain ⟨hi, h9⟩ := mj_nx_if h
      clear h
      have h := h9
      clear h9
      have e2 := Nat.eq_of_beq_eq_true ht
      subst e2
      have h2 := hPT.1.two hs (by decide)
      exact va_cald hx hb hU.2.2.1 hPT.2.1 (a - 2) 1 (mj_ws_get hs h2) rfl (mj_in_vp hi) hd (hK _ _ _ ls _ _ _ _ h rfl rfl hPT hl)
    · exact (mj_nx_none h).elim
  · exact (mj_nx_none h).elim
theorem mj_m_iast (hx : p.tables.exec = Jvm.exec) (hb : co.code = cc) (hown : s.vm.findClass (mj_own Y) = some m.cls) (hts : ∀ w ∈ mj_TB, w.before args s = true) (hU : mj_U D cI cC cS base b fs Ls (c 0) (c 1) s) (hz0 : s.heap.size + 2 = base + sh0.length) (h20 : 2 ≤ sh0.length) (hd : decode cc pc = .ok (.iastore, len)) (hk : mj_lnk Y pc (.iastore) len lk cv = true) (hPT : mj_PT D cI cC cS base b fs Ls sh0 s sh c H locs cells slots) (hl : mj_LR (mj_ad base b fs) nL L ls) 
    (hK : mj_KK p l e R s m args below meth co Q D cI cC cS base b fs Ls sh0 nL c y K r) (h : mj_nx mj_nl K C y (mj_q mj_df (.iastore) len lk cv pc L st (sh, c)) = some r) : W p l e R s m args below meth co H locs cells slots Q (F0 m pc ls (st.map (mj_tr (mj_ad base b fs)))) := by
  simp only [mj_q] at h
  have e1 := Nat.eq_of_beq_eq_true hk
  subst e1
  split at h
  · rename_i x i a r0
    split at h
    · rename_i t n rs hs
      obtain ⟨ht, h9⟩ := mj_nx_cif h
      clear h
      have h := h9
      clear h9
      obtain ⟨hi, h9⟩ := mj_nx_if h
      clear h
      have h := h9
      clear h9
      have e2 := Nat.eq_of_beq_eq_true ht
      subst e2
      have h2 := hPT.1.two hs (by decide)
      refine va_iast hx hb hU.2.2.1 hPT.2.1 mj_ws_D hPT.2.2.1 (a - 2) 0 (mj_ws_get hs h2) rfl (mj_in_vp hi) hd (fun H1 locs1 hP1 _ hS1 => ?_)
      refine hK _ _ _ ls _ _ _ _ h (mj_u_ne c a _ _ (mj_0 h2)) (mj_u_ne c a _ _ (mj_1 h2)) ?_ hl
      have hP2 := hPT.put hs h2 (rs' := rs) (c' := mj_u c a i.toNatClampNeg x) (fun b hb => mj_u_ne c a _ _ hb) (by rw [mj_u_self]; exact hP1) hS1
      rw [mj_set_self hs] at hP2
      exact hP2
    · exact (mj_nx_none h).elim
  · exact (mj_nx_none h).elim
theorem mj_m_cast (hx : p.tables.exec = Jvm.exec) (hb : co.code = cc) (hown : s.vm.findClass (mj_own Y) = some m.cls) (hts : ∀ w ∈ mj_TB, w.before args s = true) (hU : mj_U D cI cC cS base b fs Ls (c 0) (c 1) s) (hz0 : s.heap.size + 2 = base + sh0.length) (h20 : 2 ≤ sh0.length) (hd : decode cc pc = .ok (.castore, len)) (hk : mj_lnk Y pc (.castore) len lk cv = true) (hPT : mj_PT D cI cC cS base b fs Ls sh0 s sh c H locs cells slots) (hl : mj_LR (mj_ad base b fs) nL L ls) 
    (hK : mj_KK p l e R s m args below meth co Q D cI cC cS base b fs Ls sh0 nL c y K r) (h : mj_nx mj_nl K C y (mj_q mj_df (.castore) len lk cv pc L st (sh, c)) = some r) : W p l e R s m args below meth co H locs cells slots Q (F0 m pc ls (st.map (mj_tr (mj_ad base b fs)))) := by
  simp only [mj_q] at h
  have e1 := Nat.eq_of_beq_eq_true hk
  subst e1
  split at h
  · rename_i x i a r0
    split at h
    · rename_i t n rs hs
      obtain ⟨ht, h9⟩ := mj_nx_cif h
      clear h
      have h := h9
      clear h9
      obtain ⟨hi, h9⟩ := mj_nx_if h
      clear h
      have h := h9
      clear h9
      have e2 := Nat.eq_of_beq_eq_true ht
      subst e2
      have h2 := hPT.1.two hs (by decide)
      refine va_cast hx hb hU.2.2.1 hPT.2.1 mj_ws_D hPT.2.2.1 (a - 2) 1 (mj_ws_get hs h2) rfl (mj_in_vp hi) hd (fun H1 locs1 hP1 _ hS1 => ?_)
      refine hK _ _ _ ls _ _ _ _ h (mj_u_ne c a _ _ (mj_0 h2)) (mj_u_ne c a _ _ (mj_1 h2)) ?_ hl
      have hP2 := hPT.put hs h2 (rs' := rs) (c' := mj_u c a i.toNatClampNeg (vp_nar .char x)) (fun b hb => mj_u_ne c a _ _ hb) (by rw [mj_u_self]; exact hP1) hS1
      rw [mj_set_self hs] at hP2
      exact hP2
    · exact (mj_nx_none h).elim
  · exact (mj_nx_none h).elim
theorem mj_m_aald (hx : p.tables.exec = Jvm.exec) (hb : co.code = cc) (hown : s.vm.findClass (mj_own Y) = some m.cls) (hts : ∀ w ∈ mj_TB, w.before args s = true) (hU : mj_U D cI cC cS base b fs Ls (c 0) (c 1) s) (hz0 : s.heap.size + 2 = base + sh0.length) (h20 : 2 ≤ sh0.length) (hd : decode cc pc = .ok (.aaload, len)) (hk : mj_lnk Y pc (.aaload) len lk cv = true) (hPT : mj_PT D cI cC cS base b fs Ls sh0 s sh c H locs cells slots) (hl : mj_LR (mj_ad base b fs) nL L ls) 
    (hK : mj_KK p l e R s m args below meth co Q D cI cC cS base b fs Ls sh0 nL c y K r) (h : mj_nx mj_nl K C y (mj_q mj_df (.aaload) len lk cv pc L st (sh, c)) = some r) : W p l e R s m args below meth co H locs cells slots Q (F0 m pc ls (st.map (mj_tr (mj_ad base b fs)))) := by
  simp only [mj_q] at h
  have e1 := Nat.eq_of_beq_eq_true hk
  subst e1
  split at h
  · rename_i i a r0
    split at h
    · rename_i t n rs hs
      obtain ⟨ht, h9⟩ := mj_nx_cif h
      clear h
      have h := h9
      clear h9
      obtain ⟨ht9, hi⟩ := mj_and ht
      clear ht
      have ht := ht9
      clear ht9
      have e2 := Nat.eq_of_beq_eq_true ht
      subst e2
      have h2 := hPT.1.two hs (by decide)
      split at h
      · rename_i b0 hb0
        have kk := hK _ _ _ ls _ _ _ _ (mj_nx_go h) rfl rfl hPT hl
        refine va_aldq hx hb hU.2.2.1 hPT.2.1 (a - 2) 2 (mj_ws_get hs h2) (C := mj_el) rfl (mj_in_vp hi) hd ?_
        have ev : mj_rf (mj_ad base b fs) rs i.toNatClampNeg = some (mj_ad base b fs b0) := by
          unfold mj_rf
          rw [hb0]
        rw [ev]
        exact kk
      · exact (mj_nx_none h).elim
    · exact (mj_nx_none h).elim
  · exact (mj_nx_none h).elim
theorem mj_rf_set {ad : Nat → Nat} {rs : List (Option (Option Nat))} {k b : Nat} (hk : k < rs.length) : va_up (mj_rf ad rs) k (some (ad b)) = mj_rf ad (rs.set k (some (some b))) := by
  funext j
  unfold va_up mj_rf
  rw [List.getElem?_set]
  by_cases hj : j = k
  · subst hj
    rw [if_pos rfl, if_pos rfl, if_pos hk]
  · rw [if_neg hj, if_neg (fun z => hj z.symm)]
theorem mj_m_aast (hx : p.tables.exec = Jvm.exec) (hb : co.code = cc) (hown : s.vm.findClass (mj_own Y) = some m.cls) (hts : ∀ w ∈ mj_TB, w.before args s = true) (hU : mj_U D cI cC cS base b fs Ls (c 0) (c 1) s) (hz0 : s.heap.size + 2 = base + sh0.length) (h20 : 2 ≤ sh0.length) (hd : decode cc pc = .ok (.aastore, len)) (hk : mj_lnk Y pc (.aastore) len lk cv = true) (hPT : mj_PT D cI cC cS base b fs Ls sh0 s sh c H locs cells slots) (hl : mj_LR (mj_ad base b fs) nL L ls) 
    (hK : mj_KK p l e R s m args below meth co Q D cI cC cS base b fs Ls sh0 nL c y K r) (h : mj_nx mj_nl K C y (mj_q mj_df (.aastore) len lk cv pc L st (sh, c)) = some r) : W p l e R s m args below meth co H locs cells slots Q (F0 m pc ls (st.map (mj_tr (mj_ad base b fs)))) := by
  simp only [mj_q] at h
  split at h
  · rename_i ci lt b0 i a r0
    obtain ⟨h1, hk9⟩ := mj_and hk
    clear hk
    have hk := hk9
    clear hk9
    have e1 := Nat.eq_of_beq_eq_true h1
    subst e1
    split at h
    · rename_i t n rs tb nb rb hs hsb
      obtain ⟨ht, h9⟩ := mj_nx_cif h
      clear h
      have h := h9
      clear h9
      obtain ⟨ht9, hi⟩ := mj_and ht
      clear ht
      have ht := ht9
      clear ht9
      obtain ⟨hlt, ht9⟩ := mj_and ht
      clear ht
      have ht := ht9
      clear ht9
      obtain ⟨ht9, htb⟩ := mj_and ht
      clear ht
      have ht := ht9
      clear ht9
      have e2 := Nat.eq_of_beq_eq_true ht
      subst e2
      have e3 := Nat.eq_of_beq_eq_true htb
      subst e3
      have h2 := hPT.1.two hs (by decide)
      cases lt with
      | cons q lt => exact absurd (of_decide_eq_true hk) (by simp)
      | nil =>
        simp only at hk
        split at hk
        · rename_i q hq
          have hel := of_decide_eq_true hk
          have h2b := hPT.1.two hsb (mj_ci hq)
          have hlen : i.toNatClampNeg < rs.length := by simpa using hlt
          refine va_astq hx hb hU.2.2.1 hPT.2.1 mj_ws_D hPT.2.2.1 (a - 2) 2 (b0 - 2) ci (r := q) (mj_ws_get hs h2) (by rw [hel]; rfl) (mj_ws_get hsb h2b) hq (mj_in_vp hi) hd (fun H1 locs1 hP1 _ hS1 => ?_)
          refine hK _ _ _ ls _ _ _ _ (mj_nx_go h) rfl rfl ?_ hl
          refine hPT.put hs h2 (rs' := rs.set i.toNatClampNeg (some (some b0))) (c' := c) (fun b hb => rfl) ?_ hS1
          have e4 : va_up (mj_rf (mj_ad base b fs) rs) i.toNatClampNeg (some (mj_ad base b fs b0)) = mj_rf (mj_ad base b fs) (rs.set i.toNatClampNeg (some (some b0))) := mj_rf_set hlen
          rw [e4] at hP1
          exact hP1
        · cases hk
    · exact (mj_nx_none h).elim
  · exact (mj_nx_none h).elim
theorem mj_m_alen (hx : p.tables.exec = Jvm.exec) (hb : co.code = cc) (hown : s.vm.findClass (mj_own Y) = some m.cls) (hts : ∀ w ∈ mj_TB, w.before args s = true) (hU : mj_U D cI cC cS base b fs Ls (c 0) (c 1) s) (hz0 : s.heap.size + 2 = base + sh0.length) (h20 : 2 ≤ sh0.length) (hd : decode cc pc = .ok (.arraylength, len)) (hk : mj_lnk Y pc (.arraylength) len lk cv = true) (hPT : mj_PT D cI cC cS base b fs Ls sh0 s sh c H locs cells slots) (hl : mj_LR (mj_ad base b fs) nL L ls) 
    (hK : mj_KK p l e R s m args below meth co Q D cI cC cS base b fs Ls sh0 nL c y K r) (h : mj_nx mj_nl K C y (mj_q mj_df (.arraylength) len lk cv pc L st (sh, c)) = some r) : W p l e R s m args below meth co H locs cells slots Q (F0 m pc ls (st.map (mj_tr (mj_ad base b fs)))) := by
  simp only [mj_q] at h
  have e1 := Nat.eq_of_beq_eq_true hk
  subst e1
  split at h
  · rename_i a r0
    split at h
    · rename_i t n rs hs
      obtain ⟨ht, h9⟩ := mj_nx_cif h
      clear h
      have h := h9
      clear h9
      have kk := hK _ _ _ ls _ _ _ _ (mj_nx_go h) rfl rfl hPT hl
      rw [Bool.or_eq_true, Bool.or_eq_true] at ht
      rcases ht with (ht | ht) | ht
      · have e2 := Nat.eq_of_beq_eq_true ht
        subst e2
        have h2 := hPT.1.two hs (by decide)
        exact va_alen hx hb hU.2.2.1 hPT.2.1 (a - 2) 0 (mj_ws_get hs h2) rfl rfl hd kk
      · have e2 := Nat.eq_of_beq_eq_true ht
        subst e2
        have h2 := hPT.1.two hs (by decide)
        exact va_alen hx hb hU.2.2.1 hPT.2.1 (a - 2) 1 (mj_ws_get hs h2) rfl rfl hd kk
      · obtain ⟨ht9, ha2⟩ := mj_and ht
        clear ht
        have ht := ht9
        clear ht9
        have e2 := Nat.eq_of_beq_eq_true ht
        subst e2
        obtain ⟨u, hu⟩ := hPT.1
        have key : ∀ x, mj_Xr (mj_ad base b fs a) n x s H → W p l e R s m args below meth co H locs cells slots Q (F0 m pc ls (Value.ref (mj_ad base b fs a) :: r0.map (mj_tr (mj_ad base b fs)))) := by
          intro x hX
          obtain ⟨scr, g1, g2, g3, g4, g6, g5⟩ := hX
          exact W.alen (n := Int32.ofNat n) hx hb g1 g2 g6 rfl rfl hd kk
        rw [hu] at hs
        rcases a with _ | _ | a
        · simp at hs
          obtain ⟨e3, -⟩ := hs
          subst e3
          exact key (c 0) (mj_roX hz0 h20 hPT.2.2.1 hU.1 hU.2.2.2.1)
        · simp at hs
          obtain ⟨e3, -⟩ := hs
          subst e3
          exact key (c 1) (mj_roX hz0 h20 hPT.2.2.1 hU.2.1 hU.2.2.2.2.1)
        · exact absurd ha2 (by simp)
    · exact (mj_nx_none h).elim
  · exact (mj_nx_none h).elim
theorem mj_m_getf (hx : p.tables.exec = Jvm.exec) (hb : co.code = cc) (hown : s.vm.findClass (mj_own Y) = some m.cls) (hts : ∀ w ∈ mj_TB, w.before args s = true) (hU : mj_U D cI cC cS base b fs Ls (c 0) (c 1) s) (hz0 : s.heap.size + 2 = base + sh0.length) (h20 : 2 ≤ sh0.length) {n : Nat} (hokc : ∀ ci q, mj_cl[ci]? = some q → mj_okc ci q) (hd : decode cc pc = .ok (.getfield n, len)) (hk : mj_lnk Y pc (.getfield n) len lk cv = true) (hPT : mj_PT D cI cC cS base b fs Ls sh0 s sh c H locs cells slots) (hl : mj_LR (mj_ad base b fs) nL L ls) 
    (hK : mj_KK p l e R s m args below meth co Q D cI cC cS base b fs Ls sh0 nL c y K r) (h : mj_nx mj_nl K C y (mj_q mj_df (.getfield n) len lk cv pc L st (sh, c)) = some r) : W p l e R s m args below meth co H locs cells slots Q (F0 m pc ls (st.map (mj_tr (mj_ad base b fs)))) := by
  simp only [mj_q] at h
  obtain ⟨h1, hk9⟩ := mj_and hk
  clear hk
  have hk := hk9
  clear hk9
  have e1 := Nat.eq_of_beq_eq_true h1
  subst e1
  split at h
  · rename_i ci k lt a r0
    split at h
    · rename_i t nn rs hs
      obtain ⟨ht, h9⟩ := mj_nx_cif h
      clear h
      have h := h9
      clear h9
      have e2 := Nat.eq_of_beq_eq_true ht
      subst e2
      match lt, hk with
      | [], hk => exact absurd (of_decide_eq_true hk) (by simp)
      | _ :: _ :: _, hk => exact absurd (of_decide_eq_true hk) (by simp)
      | [p0], hk =>
        simp only at hk
        split at hk
        · rename_i q hq
          obtain ⟨C, T, N⟩ := q
          obtain ⟨hk9, h4⟩ := mj_and hk
          clear hk
          have hk := hk9
          clear hk9
          obtain ⟨hk9, h5⟩ := mj_and hk
          clear hk
          have hk := hk9
          clear hk9
          have hkN : k < N := by simpa using hk
          have h5 := of_decide_eq_true h5
          have h2 := hPT.1.two hs (mj_ci hq)
          have hin : ∀ w ∈ u_ws C T N, w ∈ mj_TB := (hokc ci _ hq).1
          have hlink := hts _ (mj_wd_in h4)
          split at h
          · rename_i hf
            exact va_get hx hb hts hin hown hU.2.2.1 hPT.2.1 (a - 2) (mj_ws_get hs h2) hq k hkN hlink (fun x hx9 => by rw [← h5]; exact hx9) (mj_ob_at hf) hd (hK _ _ _ ls _ _ _ _ (mj_nx_go h) rfl rfl hPT hl)
          · rename_i b0 hf
            exact va_get hx hb hts hin hown hU.2.2.1 hPT.2.1 (a - 2) (mj_ws_get hs h2) hq k hkN hlink (fun x hx9 => by rw [← h5]; exact hx9) (mj_ob_at hf) hd (hK _ _ _ ls _ _ _ _ (mj_nx_go h) rfl rfl hPT hl)
          · exact (mj_nx_none h).elim
        · cases hk
    · exact (mj_nx_none h).elim
  · exact (mj_nx_none h).elim
theorem mj_m_gets (hx : p.tables.exec = Jvm.exec) (hb : co.code = cc) (hown : s.vm.findClass (mj_own Y) = some m.cls) (hts : ∀ w ∈ mj_TB, w.before args s = true) (hU : mj_U D cI cC cS base b fs Ls (c 0) (c 1) s) (hz0 : s.heap.size + 2 = base + sh0.length) (h20 : 2 ≤ sh0.length) {n : Nat} (hd : decode cc pc = .ok (.getstatic n, len)) (hk : mj_lnk Y pc (.getstatic n) len lk cv = true) (hPT : mj_PT D cI cC cS base b fs Ls sh0 s sh c H locs cells slots) (hl : mj_LR (mj_ad base b fs) nL L ls) 
    (hK : mj_KK p l e R s m args below meth co Q D cI cC cS base b fs Ls sh0 nL c y K r) (h : mj_nx mj_nl K C y (mj_q mj_df (.getstatic n) len lk cv pc L st (sh, c)) = some r) : W p l e R s m args below meth co H locs cells slots Q (F0 m pc ls (st.map (mj_tr (mj_ad base b fs)))) := by
  simp only [mj_q] at h
  obtain ⟨h1, hk9⟩ := mj_and hk
  clear hk
  have hk := hk9
  clear hk9
  have e1 := Nat.eq_of_beq_eq_true h1
  subst e1
  split at h
  · rename_i p0 lt
    cases lt with
    | cons q lt => exact absurd (of_decide_eq_true hk) (by simp)
    | nil => exact va_gets hx hb hU.2.2.2.2.2.1 hPT.2.2.1 hown (hts _ (mj_wd_in hk)) (fun _ h9 => h9) hd (hK _ _ _ ls _ _ _ _ (mj_nx_go h) rfl rfl hPT hl)
  · exact (mj_nx_none h).elim
end MM2
