def w_fs (j : Nat) : Int32 := match j with
  | 0 => 0
  | 1 => 1
  | 2 => 3
  | 3 => 4
  | _ => 8
def w_c0 (xs : Nat → Int32) : mj_C := fun a j => if a = 0 then xs j else if a = 1 then w_fs j else 0
def w_s0 (L : Nat) : List mj_K := [(1000, L, []), (1000, 5, [])]
theorem lw_in {i : Nat} {w : Cond} (h : lw_tbl[i]? = some w) : w ∈ lw_tbl := List.mem_of_getElem? h
/-- the law, out of a run of the small machine -/
theorem w_start {p : Program} {e : Env} {s : State} {m : MethodId} {below : List Frame} {meth : Method} {c : Code} (l : Launch) {b L : Nat} {xs : Nat → Int32} (C0 : lw_At p s m meth c b L xs) (hrun : ∃ r : mj_R, mj_ev mj_df mj_cd mj_nl 103 (0, mj_en 28 [.ref 0], []) (w_s0 L, w_c0 xs) = some r ∧ r.1 = some (.int 1) ∧ r.2.1.length ≤ 600000 ∧ mj_sl r.2.1 ≤ 7302250) : W p l e room_1 s m #[Value.ref b] below meth c s.heap [] 0 0 (lw_Z below #[Value.ref b] s) (entryFrame m ([Value.ref b] : List Value).toArray 28) := by
  obtain ⟨hx, hb, hr, hml, hown, hts, hX, hbl, hlocks, hgv⟩ := C0
  obtain ⟨r, hev, hr1, hrc, hrs⟩ := hrun
  obtain ⟨n, hn⟩ := mj_ev_run _ _ _ hev
  have hs := flat_of_before _ hgv
  have hA : ∀ a : Nat, a < s.heap.size → ¬ s.heap.size ≤ a := fun a h => Nat.not_le.mpr h
  obtain ⟨c0, iS0, hKn0⟩ := u_known (C := RX0) (T := TX0) (N := 5) (n := 5) hts (fun w hw => (List.mem_filter.mp (mj_in0 w hw)).1) (hts (.instantiable RX0 5) (lw_in (i := 101) (by decide +kernel)))
  obtain ⟨c1, iS1, hKn1⟩ := u_known (C := RX1) (T := TX1) (N := 2) (n := 2) hts (fun w hw => (List.mem_filter.mp (mj_in1 w hw)).1) (hts (.instantiable RX1 2) (lw_in (i := 85) (by decide +kernel)))
  obtain ⟨c2, iS2, hKn2⟩ := u_known (C := RX2) (T := TX2) (N := 10) (n := 10) hts (fun w hw => (List.mem_filter.mp (mj_in2 w hw)).1) (hts (.instantiable RX2 10) (lw_in (i := 34) (by decide +kernel)))
  obtain ⟨c3, iS3, hKn3⟩ := u_known (C := RX3) (T := TX3) (N := 7) (n := 7) hts (fun w hw => (List.mem_filter.mp (mj_in3 w hw)).1) (hts (.instantiable RX3 7) (lw_in (i := 26) (by decide +kernel)))
  obtain ⟨dC, dI, hKc⟩ : ∃ (dC : Nat → ClassId) (dI : Nat → Nat → Nat), ∀ (k : Nat) (q : vw_C), mj_cl[k]? = some q → u_Kn s q.1 q.2.1 q.2.2 (dC k) (dI k) := by
    refine ⟨fun k => if k = 0 then c0 else if k = 1 then c1 else if k = 2 then c2 else c3, fun k => if k = 0 then iS0 else if k = 1 then iS1 else if k = 2 then iS2 else iS3, ?_⟩
    intro k q hq
    match k, hq with
    | 0, hq => cases hq; exact hKn0
    | 1, hq => cases hq; exact hKn1
    | 2, hq => cases hq; exact hKn2
    | 3, hq => cases hq; exact hKn3
    | k + 4, hq => exact absurd (List.getElem?_eq_some_iff.mp hq).1 (by simp)
  obtain ⟨cI, kcI, mcI, acI1, acI2, acI3⟩ := Cond.arrayClass_spec (hts (.arrayClass .int) (lw_in (i := 83) (by decide +kernel)))
  obtain ⟨cC, kcC, mcC, acC1, acC2, acC3⟩ := Cond.arrayClass_spec (hts (.arrayClass .char) (lw_in (i := 144) (by decide +kernel)))
  have hAO : va_AO mj_el s := va_AO.of (hts (.arrayOver (.object mj_el)) (lw_in (i := 91) (by decide +kernel)))
  obtain ⟨mS, cS, kS, aS1, aS2, aS3, aS4, aS5⟩ := Cond.arrayOver_spec (va_AO.use (A := #[]) hAO)
  have hK : va_K (dC, dI) mj_cl (mj_ty cI cC cS) s := by
    refine ⟨hKc, fun k q hq => ?_⟩
    match k, hq with
    | 0, hq => cases hq; exact ⟨fun n z => ⟨fun k h => (by cases h), kcI, acI2, mcI, acI3⟩, acI1⟩
    | 1, hq => cases hq; exact ⟨fun n z => ⟨fun k h => (by cases h), kcC, acC2, mcC, acC3⟩, acC1⟩
    | 2, hq => cases hq; exact ⟨fun n z => ⟨fun k h => (by cases h), kS, aS3, mS, aS4⟩, kS, mS, aS3, aS4, aS1, aS5⟩
    | k + 3, hq => exact absurd (List.getElem?_eq_some_iff.mp hq).1 (by simp [mj_ty])
  have hlen : (Term.length (.static "SqueezedLines" "FORM_SIZES" "[I")).eval #[Value.ref b] s none [] s = some (.int (Int32.ofNat 5)) := va_eqt (hs (.eq (.length (.static "SqueezedLines" "FORM_SIZES" "[I")) (.int 5)) (by decide +kernel))
  obtain ⟨fs, hfs, hT⟩ := va_Tof (s := s) (tm := .static "SqueezedLines" "FORM_SIZES" "[I") (ty := .int) (N := 5) (f := fun j => .int (w_fs j)) (A := fun q : Nat => s.heap.size ≤ q) (by decide) (hs (.arrayOf (.static "SqueezedLines" "FORM_SIZES" "[I") .int) (by decide +kernel)) hlen (fun j hj => by
    match j, hj with
    | 0, _ => exact va_eqt (hs (.eq (.elem (.static "SqueezedLines" "FORM_SIZES" "[I") (.int 0)) (.int 0)) (by decide +kernel))
    | 1, _ => exact va_eqt (hs (.eq (.elem (.static "SqueezedLines" "FORM_SIZES" "[I") (.int 1)) (.int 1)) (by decide +kernel))
    | 2, _ => exact va_eqt (hs (.eq (.elem (.static "SqueezedLines" "FORM_SIZES" "[I") (.int 2)) (.int 3)) (by decide +kernel))
    | 3, _ => exact va_eqt (hs (.eq (.elem (.static "SqueezedLines" "FORM_SIZES" "[I") (.int 3)) (.int 4)) (by decide +kernel))
    | 4, _ => exact va_eqt (hs (.eq (.elem (.static "SqueezedLines" "FORM_SIZES" "[I") (.int 4)) (.int 8)) (by decide +kernel))
    | j + 5, hj => exact absurd hj (by simp)) hA
  have hZ := va_Zref (A := fun q : Nat => s.heap.size ≤ q) (hts (.laysStatic "SqueezedLines" "FORM_SIZES" "[I") (lw_in (i := 171) (by decide +kernel))) (hts (.initialized "SqueezedLines") (lw_in (i := 18) (by decide +kernel))) hfs hA
  have hnw : ∀ w ∈ mj_nw, va_Nw w s := by
    intro w hw
    simp only [mj_nw, List.mem_cons, List.not_mem_nil, or_false] at hw
    rcases hw with rfl | rfl | rfl | rfl
    · exact va_Nw.of rfl (hts _ (lw_in (i := 102) (by decide +kernel)))
    · exact va_Nw.of rfl (hts _ (lw_in (i := 233) (by decide +kernel)))
    · exact va_Nw.of rfl (hts _ (lw_in (i := 242) (by decide +kernel)))
    · exact va_Nw.of rfl (hts _ (lw_in (i := 312) (by decide +kernel)))
  obtain ⟨cell, t1, t2, t3, t4, t5, t6, t7⟩ := hT
  obtain ⟨scr, x1, x2, x3, x4, x5⟩ := hX
  have hU : mj_U (dC, dI) cI cC cS s.heap.size b fs L (w_c0 xs 0) (w_c0 xs 1) s := ⟨hbl, Nat.not_le.mp t7, hK, ⟨scr, x1, x2, x3, by omega, by rw [x4], x5⟩, ⟨cell, t1, t2, t3, t4, t5, t6⟩, hZ, hnw, hAO⟩
  rw [lg_entry_eq]
  have hLR := mj_en_LR (mj_ad s.heap.size b fs) 28 [.ref 0] (by decide)
  refine mj_main mj_st n 103 mj_y103 rfl p l e room_1 s m _ below meth c _ (dC, dI) cI cC cS s.heap.size b fs L (w_s0 L) 0 (mj_en 28 [.ref 0]) [] (w_s0 L) (w_c0 xs) s.heap [] 0 0 _ r hn ⟨hx, hb, hml, hown, fun w hw => hts w (List.mem_filter.mp hw).1, fun h => absurd h (by decide), rfl, Nat.le_refl _, by decide, by decide⟩ hU ⟨⟨[], rfl⟩, fun k q h => by simp [mj_ws, w_s0] at h, va_S.rf, by simp, by simp⟩ hLR (Nat.le_trans hrc (Nat.le_add_right _ _)) (Nat.le_trans hrs (Nat.le_add_right _ _)) ?_
  intro ins len lk cv pc st sh c2 H locs cells slots ls hd hk hU2 hPT hv hr2
  obtain ⟨r1, r2⟩ := r
  dsimp only at hr1 hr2 hv hrc hrs
  subst hr1
  subst hr2
  have hfin : ∀ v : Int32, st = [.int v] → v = 1 → ins = .ireturn → len = 1 → W p l e room_1 s m #[Value.ref b] below meth c H locs cells slots (lw_Z below #[Value.ref b] s) (F0 m pc ls (st.map (mj_tr (mj_ad s.heap.size b fs)))) := by
    intro v h1 h2 h3 h4
    subst h1; subst h2; subst h3; subst h4
    refine va_forget (fun q hq => hPT.2.2.1.2.2 q hq) ?_
    have g4 := hPT.2.2.2.1
    have g5 := hPT.2.2.2.2
    refine W.widen (k := 600000) (n := 7302250) (Nat.le_trans (show cells ≤ sh.length by omega) hrc) (Nat.le_trans (show slots ≤ mj_sl sh by omega) hrs) ?_
    exact lw_ret hx hb hr hlocks hd
  unfold mj_retv at hv
  split at hv
  · obtain ⟨h1, h2⟩ := mj_and hk
    exact absurd (of_decide_eq_true h2) (by decide)
  · rename_i v
    split at hv
    · cases hv
      obtain ⟨h1, h2⟩ := mj_and hk
      exact hfin 1 rfl rfl rfl (Nat.eq_of_beq_eq_true h1)
    · cases hv
  · cases hv
  · cases hv
  · cases hv
  · cases hv
