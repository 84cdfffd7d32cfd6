set_option maxHeartbeats 4000000 in
theorem mj_main (hS : mj_St) : ∀ n, mj_Gd n := by
  intro n
  induction n with
  | zero => intro y Y hY p l e R s m args below meth co Q D cI cC cS base b fs Ls sh0 pc L st sh c H locs cells slots ls r h; cases h
  | succ n ih =>
    intro y Y hY p l e R s m args below meth co Q D cI cC cS base b fs Ls sh0 pc L st sh c H locs cells slots ls r h F hU hPT hl hRc hRs hE
    obtain ⟨hx, hb, hml, hown, hts, hnam, hz0, h20, hRf, hRl⟩ := id F
    replace h : mj_nx mj_nl (mj_run mj_df mj_cd mj_nl n) (mj_run mj_df mj_cd mj_nl n) y (mj_step mj_df (mj_cd y) (pc, L, st) (sh, c)) = some r := h
    have hK : mj_KK p l e R s m args below meth co Q D cI cC cS base b fs Ls sh0 (mj_max Y) c y (mj_run mj_df mj_cd mj_nl n) r := by
      intro g sh' c' ls' H' locs' cells' slots' hr h0 h1 hPT' hl'
      obtain ⟨pc', L', st'⟩ := g
      exact ih y Y hY p l e R s m args below meth co Q D cI cC cS base b fs Ls sh0 pc' L' st' sh' c' H' locs' cells' slots' ls' r hr F (by rw [h0, h1]; exact hU) hPT' hl' hRc hRs hE
    have hmo : ∀ g sh' c', mj_run mj_df mj_cd mj_nl n y g (sh', c') = some r → sh'.length ≤ r.2.1.length ∧ mj_sl sh' ≤ mj_sl r.2.1 := fun g sh' c' hr => mj_mono _ _ _ _ _ _ _ _ hr
    have call : ∀ (z : Nat) (Z : mj_Y) (as rest : List Value) (q0 : mj_R) , mj_yL[z]? = some Z → Nat.ble (mj_sum as) (mj_nl z) = true → mj_run mj_df mj_cd mj_nl n z (0, mj_en (mj_nl z) as, []) (sh, c) = some q0 → mj_run mj_df mj_cd mj_nl n y (pc + 3, L, q0.1.toList ++ rest) q0.2 = some r →
        (H.size ≤ s.heap.size + cells → mj_Con l D cI cC cS base b fs Ls Z as sh c q0 → cells + (q0.2.1.length - sh.length) ≤ R.cells ∧ slots + (mj_sl q0.2.1 - mj_sl sh) ≤ R.slots → va_Run p l e R s m args below meth co H locs cells slots (q0.2.1.length - sh.length) (mj_sl q0.2.1 - mj_sl sh) (F0 m pc ls (st.map (mj_tr (mj_ad base b fs)))) (rest.map (mj_tr (mj_ad base b fs))) (mj_Qc D cI cC cS base b fs Ls q0) (fun z : Nat => base ≤ z)) →
        W p l e R s m args below meth co H locs cells slots Q (F0 m pc ls (st.map (mj_tr (mj_ad base b fs)))) := by
      intro z Z as rest q0 hZ hsz hq hr run
      have hm1 := mj_mono _ _ _ _ _ _ _ _ hq
      have hm2 := mj_mono _ _ _ _ _ _ _ _ hr
      dsimp only at hm1
      have hm3 := hm1.1
      have hm4 := hm1.2
      have hm5 := hm2.1
      have hm6 := hm2.2
      have g4 := hPT.2.2.2.1
      have g5 := hPT.2.2.2.2
      refine mj_le (fun hle => ?_)
      refine mj_cont hU hz0 h20 hPT (run hle (mj_con hS hZ ih l D cI cC cS base b fs Ls hsz hq) ⟨by omega, by omega⟩) (by omega) (by omega) (fun H1 locs1 hU1 hPT1 => ?_)
      rw [← mj_vm_app]
      exact ih y Y hY p l e R s m args below meth co Q D cI cC cS base b fs Ls sh0 (pc + 3) L (q0.1.toList ++ rest) q0.2.1 q0.2.2 H1 locs1 _ _ ls r hr F hU1 hPT1 hl hRc hRs hE
    unfold mj_step at h
    dsimp only at h
    cases hat : mj_at (mj_cd y) pc with
    | none => rw [hat] at h; cases h
    | some z =>
      obtain ⟨ins, len, lk, cv⟩ := z
      rw [hat] at h
      have hchk := (hS.1 y Y hY).1 _ (mj_at_mem _ _ _ hat)
      obtain ⟨hd, hk⟩ := mj_and hchk
      replace hd : decode (mj_byt Y) pc = .ok (ins, len) := of_decide_eq_true hd
      replace hk : mj_lnk Y pc ins len lk cv = true := hk
      clear hchk
      replace h : mj_nx mj_nl (mj_run mj_df mj_cd mj_nl n) (mj_run mj_df mj_cd mj_nl n) y (match mj_p ins len lk cv pc L st with
        | some g => mj_go g (sh, c)
        | none => mj_q mj_df ins len lk cv pc L st (sh, c)) = some r := h
      cases hp : mj_p ins len lk cv pc L st with
      | some g =>
        rw [hp] at h
        exact mj_pure hx hb hown hts hd hk hp hl (fun ls' hl' => hK g sh c ls' H locs cells slots (mj_nx_go h) rfl rfl hPT hl')
      | none =>
        rw [hp] at h
        replace h : mj_nx mj_nl (mj_run mj_df mj_cd mj_nl n) (mj_run mj_df mj_cd mj_nl n) y (mj_q mj_df ins len lk cv pc L st (sh, c)) = some r := h
        have hU' := hU
        cases ins with
        | ifCond d z => exact mj_m_if hx hb hd hk hPT hl hK h
        | if_icmp d z => exact mj_m_ic hx hb hd hk hPT hl hK h
        | idiv => exact mj_m_div hx hb hd hk hPT hl hK h
        | irem => exact mj_m_rem hx hb hd hk hPT hl hK h
        | iaload => exact mj_m_iald hx hb hU hz0 h20 hd hk hPT hl hK h
        | caload => exact mj_m_cald hx hb hown hts hU hz0 h20 hd hk hPT hl hK h
        | iastore => exact mj_m_iast hx hb hown hts hU hz0 h20 hd hk hPT hl hK h
        | castore => exact mj_m_cast hx hb hown hts hU hz0 h20 hd hk hPT hl hK h
        | aaload => exact mj_m_aald hx hb hown hts hU hz0 h20 hd hk hPT hl hK h
        | aastore => exact mj_m_aast hx hb hown hts hU hz0 h20 hd hk hPT hl hK h
        | arraylength => exact mj_m_alen hx hb hown hts hU hz0 h20 hd hk hPT hl hK h
        | getfield n => exact mj_m_getf hx hb hown hts hU hz0 h20 hS.2 hd hk hPT hl hK h
        | putfield n => exact mj_m_putf hx hb hown hts hU hz0 h20 hS.2 hnam hd hk hPT hl hK h
        | getstatic n => exact mj_m_gets hx hb hown hts hU hz0 h20 hd hk hPT hl hK h
        | new n => exact mj_m_new hx hb hown hts hU hz0 h20 hS.2 hRc hRs hmo hd hk hPT hl hK h
        | newarray n => exact mj_m_newa hx hb hown hts hU hz0 h20 hRc hRs hmo hd hk hPT hl hK h
        | anewarray n => exact mj_m_newq hx hb hown hts hU hz0 h20 hRc hRs hmo hd hk hPT hl hK h
        | tableswitch d0 lo hi os => exact mj_m_tsw hx hb hown hts hU hz0 h20 hd hk hPT hl hK h
        | invokevirtual n0 =>
          obtain ⟨h1, hk9⟩ := mj_and hk
          clear hk
          have hk := hk9
          clear hk9
          have e1 := Nat.eq_of_beq_eq_true h1
          subst e1
          simp only [mj_q] at h
          split at h
          · rename_i z na ci lt
            match lt, hk with
            | [], hk => exact absurd (of_decide_eq_true hk) (by simp)
            | [_], hk => exact absurd (of_decide_eq_true hk) (by simp)
            | [_, _], hk => exact absurd (of_decide_eq_true hk) (by simp)
            | [_, _, _], hk => exact absurd (of_decide_eq_true hk) (by simp)
            | _ :: _ :: _ :: _ :: _ :: _, hk => exact absurd (of_decide_eq_true hk) (by simp)
            | [p1, p2, p3, p4], hk =>
              simp only at hk
              split at hk
              · rename_i cl0 hcl
                obtain ⟨Z, hZ, hcod, hpl, hpar, hf1, hf2, hk⟩ := mj_cal_spec hk
                obtain ⟨hna, hk9⟩ := mj_and hk
                clear hk
                have hk := hk9
                clear hk9
                obtain ⟨hcls, hk9⟩ := mj_and hk
                clear hk
                have hk := hk9
                clear hk9
                have hcls := of_decide_eq_true hcls
                obtain ⟨k1, k2⟩ := mj_and hk
                obtain ⟨k1, k3⟩ := mj_and k1
                obtain ⟨k2, k4⟩ := mj_and k2
                obtain ⟨c1, c2, c3, c4, q0, c5, c6⟩ := mj_call_spec h
                have hna : 0 < na := by simpa using hna
                unfold mj_isO at c3
                split at c3
                · rename_i a as has
                  split at c3
                  · rename_i t0 n0' rs hs
                    have et := Nat.eq_of_beq_eq_true c3
                    subst et
                    have h2a := hPT.1.two hs (mj_ci hcl)
                    refine call z Z (st.take na).reverse (st.drop na) q0 hZ c4 c5 c6 (fun hle hM hroom => ?_)
                    rw [has] at hM
                    have hlen : (as.map (mj_tr (mj_ad base b fs))).length = na - 1 := by
                      have := congrArg List.length has
                      rw [List.length_reverse, List.length_take] at this
                      simp at this
                      rw [List.length_map]
                      omega
                    exact va_runV (own := mj_own Y) (C := cl0.1) (cc := mj_byt Y) (nL := mj_max Y) (Ts := mj_TB) (n := na - 1) (b := mj_ad base b fs a) (As := as.map (mj_tr (mj_ad base b fs))) ⟨hx, hb, hml, hown, hts⟩ hM (cwV (na - 1) hts (mj_good2 (fun w hw => by
                        simp only [List.mem_cons, List.not_mem_nil, or_false] at hw
                        rcases hw with rfl | rfl | rfl | rfl
                        · exact mj_wd_in k1
                        · exact mj_wd_in k3
                        · exact mj_wd_in k2
                        · exact mj_wd_in k4) (mj_good hcod)) rfl rfl rfl ⟨hcls, hpl.1, hpl.2, hpar⟩ (mj_room hRf hRl hf1 hf2 _ _))
                      ⟨mj_blind, va_recv hU.2.2.1 hPT.2.1 hcl (mj_ws_get hs h2a), fun U hU2 hW => ⟨rfl, mj_PTW hU hz0 h20 hPT hle hU2 hW⟩⟩ rfl hlen hl.2.1 (mj_stackR has) (mj_sum_rest c2) hd hroom
                  · cases c3
                · cases c3
              · cases hk
          · exact (mj_nx_none h).elim
        | invokestatic n0 =>
          obtain ⟨h1, hk2⟩ := mj_and hk
          have e1 := Nat.eq_of_beq_eq_true h1
          subst e1
          simp only [mj_q] at h
          split at h
          · rename_i lt
            match lt, hk2, h with
            | [], hk2, h => exact absurd (of_decide_eq_true hk2) (by simp)
            | [_], hk2, h => exact absurd (of_decide_eq_true hk2) (by simp)
            | [_, _], hk2, h => exact absurd (of_decide_eq_true hk2) (by simp)
            | [_, _, _], hk2, h => exact absurd (of_decide_eq_true hk2) (by simp)
            | [_, _, _, _], hk2, h => exact absurd (of_decide_eq_true hk2) (by simp)
            | _ :: _ :: _ :: _ :: _ :: _ :: _, hk2, h => exact absurd (of_decide_eq_true hk2) (by simp)
            | [z, na, p1, p2, p3], hk2, h =>
              obtain ⟨Z, hZ, hcod, hpl, hpar, hf1, hf2, hk3⟩ := mj_cal_spec hk2
              obtain ⟨k1, k2⟩ := mj_and hk3
              obtain ⟨k1, k3⟩ := mj_and k1
              obtain ⟨c1, c2, c3, c4, q0, c5, c6⟩ := mj_call_spec h
              refine call z Z (st.take na).reverse (st.drop na) q0 hZ c4 c5 c6 (fun hle hM hroom => ?_)
              have hlen : ((st.take na).reverse.map (mj_tr (mj_ad base b fs))).length = na := by
                rw [List.length_map, List.length_reverse, List.length_take]
                omega
              exact va_runS (own := mj_own Y) (cc := mj_byt Y) (nL := mj_max Y) (Ts := mj_TB) (n := na) (As := (st.take na).reverse.map (mj_tr (mj_ad base b fs))) ⟨hx, hb, hml, hown, hts⟩ hM (va_cwS na hts (mj_good2 (fun w hw => by
                  simp only [List.mem_cons, List.not_mem_nil, or_false] at hw
                  rcases hw with rfl | rfl | rfl
                  · exact mj_wd_in k1
                  · exact mj_wd_in k3
                  · exact mj_wd_in k2) (mj_good hcod)) rfl rfl rfl ⟨hpl.1, hpl.2, hpar⟩ (mj_room hRf hRl hf1 hf2 _ _))
                ⟨mj_blind, fun U hU2 hW => ⟨rfl, mj_PTW hU hz0 h20 hPT hle hU2 hW⟩⟩ rfl hlen hl.2.1 (mj_stack st na) (mj_sum_rest c2) hd hroom
          · rename_i lt
            match lt, hk2, h with
            | [], hk2, h => exact absurd (of_decide_eq_true hk2) (by simp)
            | [_], hk2, h => exact absurd (of_decide_eq_true hk2) (by simp)
            | [_, _], hk2, h => exact absurd (of_decide_eq_true hk2) (by simp)
            | [_, _, _], hk2, h => exact absurd (of_decide_eq_true hk2) (by simp)
            | [_, _, _, _], hk2, h => exact absurd (of_decide_eq_true hk2) (by simp)
            | _ :: _ :: _ :: _ :: _ :: _ :: _, hk2, h => exact absurd (of_decide_eq_true hk2) (by simp)
            | [z, na, ni, p2, p3], hk2, h =>
              obtain ⟨Z, hZ, hcod, hpl, hpar, hf1, hf2, hk3⟩ := mj_cal_spec hk2
              obtain ⟨k1, k2⟩ := mj_and hk3
              obtain ⟨k1, k3⟩ := mj_and k1
              have k1 := of_decide_eq_true k1
              obtain ⟨c1, c2, c3, c4, q0, c5, c6⟩ := mj_call_spec h
              refine call z Z (st.take na).reverse (st.drop na) q0 hZ c4 c5 c6 (fun hle hM hroom => ?_)
              have hlen : ((st.take na).reverse.map (mj_tr (mj_ad base b fs))).length = na := by
                rw [List.length_map, List.length_reverse, List.length_take]
                omega
              exact va_runSN (own := mj_own Y) (cc := mj_byt Y) (nL := mj_max Y) (Ts := mj_TB) (n := na) (host := "SqueezedLines") (As := (st.take na).reverse.map (mj_tr (mj_ad base b fs))) ⟨hx, hb, hml, hown, hts⟩ hM ⟨va_cnB na hts (mj_good hcod) rfl rfl rfl (hU.2.2.2.2.2.2.1 _ (List.mem_of_getElem? k1)) (hts _ (mj_wd_in k2)) ⟨hpl.1, hpl.2, hpar⟩ (mj_room hRf hRl hf1 hf2 _ _), hts _ (mj_wd_in k3), trivial⟩
                ⟨mj_blind, fun U hU2 hW => ⟨rfl, mj_PTW hU hz0 h20 hPT hle hU2 hW⟩⟩ rfl hlen hl.2.1 (mj_stack st na) (mj_sum_rest c2) hd hroom
          · rename_i lt
            exact mj_m_acpy hx hb hown hts hU hz0 h20 hml hRf hRl hd hk hPT hl hK h
          · exact (mj_nx_none h).elim
        | invokespecial n0 =>
          obtain ⟨h1, hk2⟩ := mj_and hk
          have e1 := Nat.eq_of_beq_eq_true h1
          subst e1
          simp only [mj_q] at h
          split at h
          · rename_i lt
            match lt, hk2, h with
            | [], hk2, h => exact absurd (of_decide_eq_true hk2) (by simp)
            | [_], hk2, h => exact absurd (of_decide_eq_true hk2) (by simp)
            | [_, _], hk2, h => exact absurd (of_decide_eq_true hk2) (by simp)
            | [_, _, _], hk2, h => exact absurd (of_decide_eq_true hk2) (by simp)
            | [_, _, _, _], hk2, h => exact absurd (of_decide_eq_true hk2) (by simp)
            | _ :: _ :: _ :: _ :: _ :: _ :: _, hk2, h => exact absurd (of_decide_eq_true hk2) (by simp)
            | [z, na, p1, p2, p3], hk2, h =>
              obtain ⟨Z, hZ, hcod, hpl, hpar, hf1, hf2, hk3⟩ := mj_cal_spec hk2
              obtain ⟨hna, hk3⟩ := mj_and hk3
              obtain ⟨hin, hk3⟩ := mj_and hk3
              have hin := of_decide_eq_true hin
              obtain ⟨hret, hk3⟩ := mj_and hk3
              have hret := of_decide_eq_true hret
              obtain ⟨k1, k2⟩ := mj_and hk3
              obtain ⟨k1, k3⟩ := mj_and k1
              have hna : 0 < na := by simpa using hna
              obtain ⟨c1, c2, c3, c4, q0, c5, c6⟩ := mj_call_spec h
              split at c3
              · rename_i a as has
                refine call z Z (st.take na).reverse (st.drop na) q0 hZ c4 c5 c6 (fun hle hM hroom => ?_)
                rw [has] at hM
                have hlen : (as.map (mj_tr (mj_ad base b fs))).length = na - 1 := by
                  have := congrArg List.length has
                  rw [List.length_reverse, List.length_take] at this
                  simp at this
                  rw [List.length_map]
                  omega
                exact va_runI (own := mj_own Y) (bytes := mj_byt Z) (maxL := mj_max Z) (cc := mj_byt Y) (nL := mj_max Y) (Ts := mj_TB) (n := na - 1) (b := mj_ad base b fs a) (As := as.map (mj_tr (mj_ad base b fs))) ⟨hx, hb, hml, hown, hts⟩ hM (cwI (na - 1) hts (mj_good hcod) (by unfold mj_cod; rw [hret]) rfl rfl (hts _ (mj_wd_in k2)) (hts _ (mj_wd_in k1)) (hts _ (mj_wd_in k3)) hin ⟨hpl.1, hpl.2, hpar⟩ (mj_room hRf hRl hf1 hf2 _ _))
                  ⟨mj_blind, fun U hU2 hW => ⟨rfl, mj_PTW hU hz0 h20 hPT hle hU2 hW⟩⟩ rfl hlen hl.2.1 (mj_stackR has) (mj_sum_rest c2) hd hroom
              · cases c3
          · rename_i lt
            match lt, hk2, h with
            | [], hk2, h => exact absurd (of_decide_eq_true hk2) (by simp)
            | [_], hk2, h => exact absurd (of_decide_eq_true hk2) (by simp)
            | [_, _], hk2, h => exact absurd (of_decide_eq_true hk2) (by simp)
            | [_, _, _], hk2, h => exact absurd (of_decide_eq_true hk2) (by simp)
            | [_, _, _, _], hk2, h => exact absurd (of_decide_eq_true hk2) (by simp)
            | _ :: _ :: _ :: _ :: _ :: _ :: _, hk2, h => exact absurd (of_decide_eq_true hk2) (by simp)
            | [z, na, ni, p2, p3], hk2, h =>
              obtain ⟨Z, hZ, hcod, hpl, hpar, hf1, hf2, hk3⟩ := mj_cal_spec hk2
              obtain ⟨hna, hk3⟩ := mj_and hk3
              obtain ⟨hin, hk3⟩ := mj_and hk3
              have hin := of_decide_eq_true hin
              obtain ⟨hret, hk3⟩ := mj_and hk3
              have hret := of_decide_eq_true hret
              obtain ⟨k1, k2⟩ := mj_and hk3
              obtain ⟨k1, k3⟩ := mj_and k1
              have k1 := of_decide_eq_true k1
              have hna : 0 < na := by simpa using hna
              obtain ⟨c1, c2, c3, c4, q0, c5, c6⟩ := mj_call_spec h
              split at c3
              · rename_i a as has
                refine call z Z (st.take na).reverse (st.drop na) q0 hZ c4 c5 c6 (fun hle hM hroom => ?_)
                rw [has] at hM
                have hlen : (as.map (mj_tr (mj_ad base b fs))).length = na - 1 := by
                  have := congrArg List.length has
                  rw [List.length_reverse, List.length_take] at this
                  simp at this
                  rw [List.length_map]
                  omega
                exact va_runIN (own := mj_own Y) (bytes := mj_byt Z) (maxL := mj_max Z) (cc := mj_byt Y) (nL := mj_max Y) (Ts := mj_TB) (n := na - 1) (host := "SqueezedLines") (b := mj_ad base b fs a) (As := as.map (mj_tr (mj_ad base b fs))) ⟨hx, hb, hml, hown, hts⟩ hM ⟨va_cnB (na - 1) hts (mj_good hcod) (by unfold mj_cod; rw [hret]) rfl rfl (hU.2.2.2.2.2.2.1 _ (List.mem_of_getElem? k1)) (hts _ (mj_wd_in k2)) ⟨hpl.1, hpl.2, hpar⟩ (mj_room hRf hRl hf1 hf2 _ _), hin, hts _ (mj_wd_in k3)⟩
                  ⟨mj_blind, fun U hU2 hW => ⟨rfl, mj_PTW hU hz0 h20 hPT hle hU2 hW⟩⟩ rfl hlen hl.2.1 (mj_stackR has) (mj_sum_rest c2) hd hroom
              · cases c3
          · rename_i lt
            exact mj_m_oini hx hb hown hts hU hz0 h20 hml hRf hRl hd hk hPT hl hK h
          · exact (mj_nx_none h).elim
        | ireturn =>
          simp only [mj_q] at h
          split at h
          · cases h
            exact hE _ _ _ _ _ _ _ _ _ _ _ _ _ hd hk hU hPT rfl rfl
          · rename_i v
            replace h : cond (decide (v = 0) || decide (v = 1)) (some (some (Value.int v), (sh, c))) none = some r := h
            obtain ⟨h1, h2⟩ := mj_cif h
            cases h2
            refine hE _ _ _ _ _ _ _ _ _ _ _ _ _ hd hk hU hPT ?_ rfl
            rw [Bool.or_eq_true, decide_eq_true_eq, decide_eq_true_eq] at h1
            show (if v = 0 ∨ v = 1 then _ else _) = _
            rw [if_pos h1]
          · exact (mj_nx_none h).elim
        | lreturn =>
          simp only [mj_q] at h
          split at h
          · cases h
            exact hE _ _ _ _ _ _ _ _ _ _ _ _ _ hd hk hU hPT rfl rfl
          · exact (mj_nx_none h).elim
        | areturn =>
          simp only [mj_q] at h
          split at h
          · cases h
            exact hE _ _ _ _ _ _ _ _ _ _ _ _ _ hd hk hU hPT rfl rfl
          · exact (mj_nx_none h).elim
        | return_ =>
          simp only [mj_q] at h
          split at h
          · cases h
            exact hE _ _ _ _ _ _ _ _ _ _ _ _ _ hd hk hU hPT rfl rfl
          · exact (mj_nx_none h).elim
        | _ => exact (mj_nx_none h).elim
