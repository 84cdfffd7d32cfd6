/-- SqueezedLinesModel.within(III)Z -/
theorem f93 : mj_cd 93 = mj_c93 := rfl
theorem d93_0 : mj_At 93 0 (.iload_n 0) 1 [0] (.null) := ⟨1, (congrArg (fun z => mj_at z 0) f93).trans rfl, rfl⟩
theorem d93_1 : mj_At 93 1 (.iload_n 1) 2 [1] (.null) := ⟨1, (congrArg (fun z => mj_at z 1) f93).trans rfl, rfl⟩
theorem d93_2 : mj_At 93 2 (.if_icmp .lt (12)) 5 [14] (.null) := ⟨3, (congrArg (fun z => mj_at z 2) f93).trans rfl, rfl⟩
theorem d93_5 : mj_At 93 5 (.iload_n 0) 6 [0] (.null) := ⟨1, (congrArg (fun z => mj_at z 5) f93).trans rfl, rfl⟩
theorem d93_6 : mj_At 93 6 (.iload_n 2) 7 [2] (.null) := ⟨1, (congrArg (fun z => mj_at z 6) f93).trans rfl, rfl⟩
theorem d93_7 : mj_At 93 7 (.if_icmp .gt (7)) 10 [14] (.null) := ⟨3, (congrArg (fun z => mj_at z 7) f93).trans rfl, rfl⟩
theorem d93_10 : mj_At 93 10 (.iconst (1)) 11 [] (.int 1) := ⟨1, (congrArg (fun z => mj_at z 10) f93).trans rfl, rfl⟩
theorem d93_11 : mj_At 93 11 (.goto (4)) 14 [15] (.null) := ⟨3, (congrArg (fun z => mj_at z 11) f93).trans rfl, rfl⟩
theorem d93_14 : mj_At 93 14 (.iconst (0)) 15 [] (.int 0) := ⟨1, (congrArg (fun z => mj_at z 14) f93).trans rfl, rfl⟩
theorem d93_15 : mj_At 93 15 (.ireturn) 16 [1] (.null) := ⟨1, (congrArg (fun z => mj_at z 15) f93).trans rfl, rfl⟩
theorem e93_0 {c : mj_C} {x0 : Int32} {x1 : Int32} {x2 : Int32} {L : Nat} {ps : List (Option (Option Nat))}   : mj_EV 93 0 [some (.int x0), some (.int x1), some (.int x2)] [] (w_al L ps) c = (if x0 < x1 then (some (some (.int (nI 0)), (w_al L ps), c)) else (if x2 < x0 then (some (some (.int (nI 0)), (w_al L ps), c)) else (some (some (.int (nI 1)), (w_al L ps), c)))) := (mj_iload_n d93_0 rfl (mj_iload_n d93_1 rfl (mj_iclt d93_2 (mj_iconst d93_14 (mj_zret0 d93_15)) (mj_iload_n d93_5 rfl (mj_iload_n d93_6 rfl (mj_icgt d93_7 (mj_iconst d93_14 (mj_zret0 d93_15)) (mj_iconst d93_10 (mj_goto d93_11 (mj_zret1 d93_15)))))))))
/-- SqueezedLinesModel.copies([II[II)V -/
theorem f94 : mj_cd 94 = mj_c94 := rfl
theorem d94_0 : mj_At 94 0 (.iconst (0)) 1 [] (.int 0) := ⟨1, (congrArg (fun z => mj_at z 0) f94).trans rfl, rfl⟩
theorem d94_1 : mj_At 94 1 (.istore 4) 3 [4] (.null) := ⟨2, (congrArg (fun z => mj_at z 1) f94).trans rfl, rfl⟩
theorem d94_3 : mj_At 94 3 (.iload 4) 5 [4] (.null) := ⟨2, (congrArg (fun z => mj_at z 3) f94).trans rfl, rfl⟩
theorem d94_5 : mj_At 94 5 (.sipush (674)) 8 [] (.int 674) := ⟨3, (congrArg (fun z => mj_at z 5) f94).trans rfl, rfl⟩
theorem d94_8 : mj_At 94 8 (.if_icmp .ge (21)) 11 [29] (.null) := ⟨3, (congrArg (fun z => mj_at z 8) f94).trans rfl, rfl⟩
theorem d94_11 : mj_At 94 11 (.aload_n 2) 12 [2] (.null) := ⟨1, (congrArg (fun z => mj_at z 11) f94).trans rfl, rfl⟩
theorem d94_12 : mj_At 94 12 (.iload_n 3) 13 [3] (.null) := ⟨1, (congrArg (fun z => mj_at z 12) f94).trans rfl, rfl⟩
theorem d94_13 : mj_At 94 13 (.iload 4) 15 [4] (.null) := ⟨2, (congrArg (fun z => mj_at z 13) f94).trans rfl, rfl⟩
theorem d94_15 : mj_At 94 15 (.iadd) 16 [] (.null) := ⟨1, (congrArg (fun z => mj_at z 15) f94).trans rfl, rfl⟩
theorem d94_16 : mj_At 94 16 (.aload_n 0) 17 [0] (.null) := ⟨1, (congrArg (fun z => mj_at z 16) f94).trans rfl, rfl⟩
theorem d94_17 : mj_At 94 17 (.iload_n 1) 18 [1] (.null) := ⟨1, (congrArg (fun z => mj_at z 17) f94).trans rfl, rfl⟩
theorem d94_18 : mj_At 94 18 (.iload 4) 20 [4] (.null) := ⟨2, (congrArg (fun z => mj_at z 18) f94).trans rfl, rfl⟩
theorem d94_20 : mj_At 94 20 (.iadd) 21 [] (.null) := ⟨1, (congrArg (fun z => mj_at z 20) f94).trans rfl, rfl⟩
theorem d94_21 : mj_At 94 21 (.iaload) 22 [] (.null) := ⟨1, (congrArg (fun z => mj_at z 21) f94).trans rfl, rfl⟩
theorem d94_22 : mj_At 94 22 (.iastore) 23 [] (.null) := ⟨1, (congrArg (fun z => mj_at z 22) f94).trans rfl, rfl⟩
theorem d94_23 : mj_At 94 23 (.iinc 4 (1)) 26 [4] (.int 1) := ⟨3, (congrArg (fun z => mj_at z 23) f94).trans rfl, rfl⟩
theorem d94_26 : mj_At 94 26 (.goto (-23)) 29 [3] (.null) := ⟨3, (congrArg (fun z => mj_at z 26) f94).trans rfl, rfl⟩
theorem d94_29 : mj_At 94 29 (.return_) 30 [] (.null) := ⟨1, (congrArg (fun z => mj_at z 29) f94).trans rfl, rfl⟩
theorem e94_0 {c : mj_C} {x1 : Int32} {x3 : Int32} {L : Nat} {ps : List (Option (Option Nat))} {a na : Nat} (ha : (w_al L ps)[a]? = some (0, na, [])) {b nb : Nat} (hb : (w_al L ps)[b]? = some (0, nb, []))  : mj_EV 94 0 [some (.ref a), some (.int x1), some (.ref b), some (.int x3), none] [] (w_al L ps) c = mj_EV 94 3 [some (.ref a), some (.int x1), some (.ref b), some (.int x3), some (.int (nI 0))] [] (w_al L ps) c := (mj_iconst d94_0 (mj_istore [some (.ref a), some (.int x1), some (.ref b), some (.int x3), some (.int (nI 0))] d94_1 rfl rfl rfl))
theorem e94_3 {c : mj_C} {x1 : Int32} {x3 : Int32} {x4 : Int32} {L : Nat} {ps : List (Option (Option Nat))} {a na : Nat} (ha : (w_al L ps)[a]? = some (0, na, [])) {b nb : Nat} (hb : (w_al L ps)[b]? = some (0, nb, []))  : mj_EV 94 3 [some (.ref a), some (.int x1), some (.ref b), some (.int x3), some (.int x4)] [] (w_al L ps) c = (if (nI 674) ≤ x4 then (some (none, (w_al L ps), c)) else (if mj_in (x1 + x4) na = true then (if mj_in (x3 + x4) nb = true then mj_EV 94 3 [some (.ref a), some (.int x1), some (.ref b), some (.int x3), some (.int (x4 + (nI 1)))] [] (w_al L ps) (mj_u c b (x3 + x4).toNatClampNeg (c a (x1 + x4).toNatClampNeg)) else none) else none)) := (mj_iload d94_3 rfl (mj_sipush d94_5 (mj_icge d94_8 (mj_vret d94_29) (mj_aload_n d94_11 rfl (mj_iload_n d94_12 rfl (mj_iload d94_13 rfl (mj_iadd d94_15 (mj_aload_n d94_16 rfl (mj_iload_n d94_17 rfl (mj_iload d94_18 rfl (mj_iadd d94_20 (mj_iald d94_21 ha (mj_iast d94_22 hb (mj_iinc [some (.ref a), some (.int x1), some (.ref b), some (.int x3), some (.int (x4 + (nI 1)))] d94_23 rfl rfl rfl (mj_goto d94_26 rfl)))))))))))))))
/-- SqueezedLinesModel.record()V -/
theorem f95 : mj_cd 95 = mj_c95 := rfl
theorem d95_0 : mj_At 95 0 (.aload_n 0) 1 [0] (.null) := ⟨1, (congrArg (fun z => mj_at z 0) f95).trans rfl, rfl⟩
theorem d95_1 : mj_At 95 1 (.getfield 25) 4 [4, 3, 560] (.null) := ⟨3, (congrArg (fun z => mj_at z 1) f95).trans rfl, rfl⟩
theorem d95_4 : mj_At 95 4 (.bipush (6)) 6 [] (.int 6) := ⟨2, (congrArg (fun z => mj_at z 4) f95).trans rfl, rfl⟩
theorem d95_6 : mj_At 95 6 (.if_icmp .ne (44)) 9 [50] (.null) := ⟨3, (congrArg (fun z => mj_at z 6) f95).trans rfl, rfl⟩
theorem d95_9 : mj_At 95 9 (.iconst (0)) 10 [] (.int 0) := ⟨1, (congrArg (fun z => mj_at z 9) f95).trans rfl, rfl⟩
theorem d95_10 : mj_At 95 10 (.istore_n 1) 11 [1] (.null) := ⟨1, (congrArg (fun z => mj_at z 10) f95).trans rfl, rfl⟩
theorem d95_11 : mj_At 95 11 (.iload_n 1) 12 [1] (.null) := ⟨1, (congrArg (fun z => mj_at z 11) f95).trans rfl, rfl⟩
theorem d95_12 : mj_At 95 12 (.sipush (3370)) 15 [] (.int 3370) := ⟨3, (congrArg (fun z => mj_at z 12) f95).trans rfl, rfl⟩
theorem d95_15 : mj_At 95 15 (.if_icmp .ge (25)) 18 [40] (.null) := ⟨3, (congrArg (fun z => mj_at z 15) f95).trans rfl, rfl⟩
theorem d95_18 : mj_At 95 18 (.aload_n 0) 19 [0] (.null) := ⟨1, (congrArg (fun z => mj_at z 18) f95).trans rfl, rfl⟩
theorem d95_19 : mj_At 95 19 (.getfield 16) 22 [4, 2, 559] (.null) := ⟨3, (congrArg (fun z => mj_at z 19) f95).trans rfl, rfl⟩
theorem d95_22 : mj_At 95 22 (.iload_n 1) 23 [1] (.null) := ⟨1, (congrArg (fun z => mj_at z 22) f95).trans rfl, rfl⟩
theorem d95_23 : mj_At 95 23 (.aload_n 0) 24 [0] (.null) := ⟨1, (congrArg (fun z => mj_at z 23) f95).trans rfl, rfl⟩
theorem d95_24 : mj_At 95 24 (.getfield 16) 27 [4, 2, 559] (.null) := ⟨3, (congrArg (fun z => mj_at z 24) f95).trans rfl, rfl⟩
theorem d95_27 : mj_At 95 27 (.iload_n 1) 28 [1] (.null) := ⟨1, (congrArg (fun z => mj_at z 27) f95).trans rfl, rfl⟩
theorem d95_28 : mj_At 95 28 (.sipush (674)) 31 [] (.int 674) := ⟨3, (congrArg (fun z => mj_at z 28) f95).trans rfl, rfl⟩
theorem d95_31 : mj_At 95 31 (.iadd) 32 [] (.null) := ⟨1, (congrArg (fun z => mj_at z 31) f95).trans rfl, rfl⟩
theorem d95_32 : mj_At 95 32 (.iaload) 33 [] (.null) := ⟨1, (congrArg (fun z => mj_at z 32) f95).trans rfl, rfl⟩
theorem d95_33 : mj_At 95 33 (.iastore) 34 [] (.null) := ⟨1, (congrArg (fun z => mj_at z 33) f95).trans rfl, rfl⟩
theorem d95_34 : mj_At 95 34 (.iinc 1 (1)) 37 [1] (.int 1) := ⟨3, (congrArg (fun z => mj_at z 34) f95).trans rfl, rfl⟩
theorem d95_37 : mj_At 95 37 (.goto (-26)) 40 [11] (.null) := ⟨3, (congrArg (fun z => mj_at z 37) f95).trans rfl, rfl⟩
theorem d95_40 : mj_At 95 40 (.aload_n 0) 41 [0] (.null) := ⟨1, (congrArg (fun z => mj_at z 40) f95).trans rfl, rfl⟩
theorem d95_41 : mj_At 95 41 (.dup) 42 [] (.null) := ⟨1, (congrArg (fun z => mj_at z 41) f95).trans rfl, rfl⟩
theorem d95_42 : mj_At 95 42 (.getfield 25) 45 [4, 3, 560] (.null) := ⟨3, (congrArg (fun z => mj_at z 42) f95).trans rfl, rfl⟩
theorem d95_45 : mj_At 95 45 (.iconst (1)) 46 [] (.int 1) := ⟨1, (congrArg (fun z => mj_at z 45) f95).trans rfl, rfl⟩
theorem d95_46 : mj_At 95 46 (.isub) 47 [] (.null) := ⟨1, (congrArg (fun z => mj_at z 46) f95).trans rfl, rfl⟩
theorem d95_47 : mj_At 95 47 (.putfield 25) 50 [4, 3, 0, 560] (.null) := ⟨3, (congrArg (fun z => mj_at z 47) f95).trans rfl, rfl⟩
theorem d95_50 : mj_At 95 50 (.aload_n 0) 51 [0] (.null) := ⟨1, (congrArg (fun z => mj_at z 50) f95).trans rfl, rfl⟩
theorem d95_51 : mj_At 95 51 (.getfield 7) 54 [4, 0, 557] (.null) := ⟨3, (congrArg (fun z => mj_at z 51) f95).trans rfl, rfl⟩
theorem d95_54 : mj_At 95 54 (.iconst (0)) 55 [] (.int 0) := ⟨1, (congrArg (fun z => mj_at z 54) f95).trans rfl, rfl⟩
theorem d95_55 : mj_At 95 55 (.aload_n 0) 56 [0] (.null) := ⟨1, (congrArg (fun z => mj_at z 55) f95).trans rfl, rfl⟩
theorem d95_56 : mj_At 95 56 (.getfield 16) 59 [4, 2, 559] (.null) := ⟨3, (congrArg (fun z => mj_at z 56) f95).trans rfl, rfl⟩
theorem d95_59 : mj_At 95 59 (.aload_n 0) 60 [0] (.null) := ⟨1, (congrArg (fun z => mj_at z 59) f95).trans rfl, rfl⟩
theorem d95_60 : mj_At 95 60 (.getfield 25) 63 [4, 3, 560] (.null) := ⟨3, (congrArg (fun z => mj_at z 60) f95).trans rfl, rfl⟩
theorem d95_63 : mj_At 95 63 (.sipush (674)) 66 [] (.int 674) := ⟨3, (congrArg (fun z => mj_at z 63) f95).trans rfl, rfl⟩
theorem d95_66 : mj_At 95 66 (.imul) 67 [] (.null) := ⟨1, (congrArg (fun z => mj_at z 66) f95).trans rfl, rfl⟩
theorem d95_67 : mj_At 95 67 (.invokestatic 29) 70 [0, 94, 4, 652, 653, 69] (.null) := ⟨3, (congrArg (fun z => mj_at z 67) f95).trans rfl, rfl⟩
theorem d95_70 : mj_At 95 70 (.aload_n 0) 71 [0] (.null) := ⟨1, (congrArg (fun z => mj_at z 70) f95).trans rfl, rfl⟩
theorem d95_71 : mj_At 95 71 (.dup) 72 [] (.null) := ⟨1, (congrArg (fun z => mj_at z 71) f95).trans rfl, rfl⟩
theorem d95_72 : mj_At 95 72 (.getfield 25) 75 [4, 3, 560] (.null) := ⟨3, (congrArg (fun z => mj_at z 72) f95).trans rfl, rfl⟩
theorem d95_75 : mj_At 95 75 (.iconst (1)) 76 [] (.int 1) := ⟨1, (congrArg (fun z => mj_at z 75) f95).trans rfl, rfl⟩
theorem d95_76 : mj_At 95 76 (.iadd) 77 [] (.null) := ⟨1, (congrArg (fun z => mj_at z 76) f95).trans rfl, rfl⟩
theorem d95_77 : mj_At 95 77 (.putfield 25) 80 [4, 3, 0, 560] (.null) := ⟨3, (congrArg (fun z => mj_at z 77) f95).trans rfl, rfl⟩
theorem d95_80 : mj_At 95 80 (.return_) 81 [] (.null) := ⟨1, (congrArg (fun z => mj_at z 80) f95).trans rfl, rfl⟩
theorem e95_0 {c : mj_C}  {L : Nat} {ps : List (Option (Option Nat))}   : mj_EV 95 0 [some (.ref 52), none] [] (w_al L ps) c = (if (c 52 3) = (nI 6) then mj_EV 95 11 [some (.ref 52), some (.int (nI 0))] [] (w_al L ps) c else (mj_then 95 70 [some (.ref 52), none] [] (mj_EV 94 0 [some (.ref 53), some (.int (nI 0)), some (.ref 55), some (.int ((c 52 3) * (nI 674))), none] [] (w_al L ps) c))) := (mj_aload_n d95_0 rfl (mj_getI d95_1 w_52 rfl (mj_bipush d95_4 (mj_icne d95_6 (mj_aload_n d95_50 rfl (mj_getR d95_51 w_52 rfl (mj_iconst d95_54 (mj_aload_n d95_55 rfl (mj_getR d95_56 w_52 rfl (mj_aload_n d95_59 rfl (mj_getI d95_60 w_52 rfl (mj_sipush d95_63 (mj_imul d95_66 (mj_invS [some (.ref 53), some (.int (nI 0)), some (.ref 55), some (.int ((c 52 3) * (nI 674))), none] [] d95_67 (by decide) rfl rfl rfl rfl)))))))))) (mj_iconst d95_9 (mj_istore_n [some (.ref 52), some (.int (nI 0))] d95_10 rfl rfl rfl))))))
theorem e95_11 {c : mj_C} {x1 : Int32} {L : Nat} {ps : List (Option (Option Nat))}   : mj_EV 95 11 [some (.ref 52), some (.int x1)] [] (w_al L ps) c = (if (nI 3370) ≤ x1 then (mj_then 95 70 [some (.ref 52), some (.int x1)] [] (mj_EV 94 0 [some (.ref 53), some (.int (nI 0)), some (.ref 55), some (.int (((mj_u c 52 3 ((c 52 3) - (nI 1))) 52 3) * (nI 674))), none] [] (w_al L ps) (mj_u c 52 3 ((c 52 3) - (nI 1))))) else (if mj_in (x1 + (nI 674)) 4044 = true then (if mj_in x1 4044 = true then mj_EV 95 11 [some (.ref 52), some (.int (x1 + (nI 1)))] [] (w_al L ps) (mj_u c 55 x1.toNatClampNeg (c 55 (x1 + (nI 674)).toNatClampNeg)) else none) else none)) := (mj_iload_n d95_11 rfl (mj_sipush d95_12 (mj_icge d95_15 (mj_aload_n d95_40 rfl (mj_dupR d95_41 (mj_getI d95_42 w_52 rfl (mj_iconst d95_45 (mj_isub d95_46 (mj_putI d95_47 w_52 rfl (mj_aload_n d95_50 rfl (mj_getR d95_51 w_52 rfl (mj_iconst d95_54 (mj_aload_n d95_55 rfl (mj_getR d95_56 w_52 rfl (mj_aload_n d95_59 rfl (mj_getI d95_60 w_52 rfl (mj_sipush d95_63 (mj_imul d95_66 (mj_invS [some (.ref 53), some (.int (nI 0)), some (.ref 55), some (.int (((mj_u c 52 3 ((c 52 3) - (nI 1))) 52 3) * (nI 674))), none] [] d95_67 (by decide) rfl rfl rfl rfl)))))))))))))))) (mj_aload_n d95_18 rfl (mj_getR d95_19 w_52 rfl (mj_iload_n d95_22 rfl (mj_aload_n d95_23 rfl (mj_getR d95_24 w_52 rfl (mj_iload_n d95_27 rfl (mj_sipush d95_28 (mj_iadd d95_31 (mj_iald d95_32 w_55 (mj_iast d95_33 w_55 (mj_iinc [some (.ref 52), some (.int (x1 + (nI 1)))] d95_34 rfl rfl rfl (mj_goto d95_37 rfl)))))))))))))))
theorem e95_70 {c : mj_C} {o1 : Option Value} {L : Nat} {ps : List (Option (Option Nat))}   : mj_EV 95 70 [some (.ref 52), o1] [] (w_al L ps) c = (some (none, (w_al L ps), (mj_u c 52 3 ((c 52 3) + (nI 1))))) := (mj_aload_n d95_70 rfl (mj_dupR d95_71 (mj_getI d95_72 w_52 rfl (mj_iconst d95_75 (mj_iadd d95_76 (mj_putI d95_77 w_52 rfl (mj_vret d95_80)))))))
/-- SqueezedLinesModel.isPage(I)Z -/
theorem f96 : mj_cd 96 = mj_c96 := rfl
theorem d96_0 : mj_At 96 0 (.iload_n 1) 1 [1] (.null) := ⟨1, (congrArg (fun z => mj_at z 0) f96).trans rfl, rfl⟩
theorem d96_1 : mj_At 96 1 (.iconst (0)) 2 [] (.int 0) := ⟨1, (congrArg (fun z => mj_at z 1) f96).trans rfl, rfl⟩
theorem d96_2 : mj_At 96 2 (.bipush (9)) 4 [] (.int 9) := ⟨2, (congrArg (fun z => mj_at z 2) f96).trans rfl, rfl⟩
theorem d96_4 : mj_At 96 4 (.invokestatic 33) 7 [0, 93, 3, 595, 596, 69] (.null) := ⟨3, (congrArg (fun z => mj_at z 4) f96).trans rfl, rfl⟩
theorem d96_7 : mj_At 96 7 (.ifCond .eq (22)) 10 [29] (.null) := ⟨3, (congrArg (fun z => mj_at z 7) f96).trans rfl, rfl⟩
theorem d96_10 : mj_At 96 10 (.aload_n 0) 11 [0] (.null) := ⟨1, (congrArg (fun z => mj_at z 10) f96).trans rfl, rfl⟩
theorem d96_11 : mj_At 96 11 (.getfield 7) 14 [4, 0, 557] (.null) := ⟨3, (congrArg (fun z => mj_at z 11) f96).trans rfl, rfl⟩
theorem d96_14 : mj_At 96 14 (.bipush (6)) 16 [] (.int 6) := ⟨2, (congrArg (fun z => mj_at z 14) f96).trans rfl, rfl⟩
theorem d96_16 : mj_At 96 16 (.iconst (2)) 17 [] (.int 2) := ⟨1, (congrArg (fun z => mj_at z 16) f96).trans rfl, rfl⟩
theorem d96_17 : mj_At 96 17 (.iload_n 1) 18 [1] (.null) := ⟨1, (congrArg (fun z => mj_at z 17) f96).trans rfl, rfl⟩
theorem d96_18 : mj_At 96 18 (.imul) 19 [] (.null) := ⟨1, (congrArg (fun z => mj_at z 18) f96).trans rfl, rfl⟩
theorem d96_19 : mj_At 96 19 (.iadd) 20 [] (.null) := ⟨1, (congrArg (fun z => mj_at z 19) f96).trans rfl, rfl⟩
theorem d96_20 : mj_At 96 20 (.iaload) 21 [] (.null) := ⟨1, (congrArg (fun z => mj_at z 20) f96).trans rfl, rfl⟩
theorem d96_21 : mj_At 96 21 (.iconst (1)) 22 [] (.int 1) := ⟨1, (congrArg (fun z => mj_at z 21) f96).trans rfl, rfl⟩
theorem d96_22 : mj_At 96 22 (.if_icmp .ne (7)) 25 [29] (.null) := ⟨3, (congrArg (fun z => mj_at z 22) f96).trans rfl, rfl⟩
theorem d96_25 : mj_At 96 25 (.iconst (1)) 26 [] (.int 1) := ⟨1, (congrArg (fun z => mj_at z 25) f96).trans rfl, rfl⟩
theorem d96_26 : mj_At 96 26 (.goto (4)) 29 [30] (.null) := ⟨3, (congrArg (fun z => mj_at z 26) f96).trans rfl, rfl⟩
theorem d96_29 : mj_At 96 29 (.iconst (0)) 30 [] (.int 0) := ⟨1, (congrArg (fun z => mj_at z 29) f96).trans rfl, rfl⟩
theorem d96_30 : mj_At 96 30 (.ireturn) 31 [1] (.null) := ⟨1, (congrArg (fun z => mj_at z 30) f96).trans rfl, rfl⟩
theorem e96_0 {c : mj_C} {x1 : Int32} {L : Nat} {ps : List (Option (Option Nat))}   : mj_EV 96 0 [some (.ref 52), some (.int x1)] [] (w_al L ps) c = (mj_then 96 7 [some (.ref 52), some (.int x1)] [] (mj_EV 93 0 [some (.int x1), some (.int (nI 0)), some (.int (nI 9))] [] (w_al L ps) c)) := (mj_iload_n d96_0 rfl (mj_iconst d96_1 (mj_bipush d96_2 (mj_invS [some (.int x1), some (.int (nI 0)), some (.int (nI 9))] [] d96_4 (by decide) rfl rfl rfl rfl))))
theorem e96_7 {c : mj_C} {x1 : Int32} {z0 : Int32} {L : Nat} {ps : List (Option (Option Nat))}   : mj_EV 96 7 [some (.ref 52), some (.int x1)] [.int z0] (w_al L ps) c = (if z0 = nI 0 then (some (some (.int (nI 0)), (w_al L ps), c)) else (if mj_in ((nI 6) + ((nI 2) * x1)) 674 = true then (if (c 53 ((nI 6) + ((nI 2) * x1)).toNatClampNeg) = (nI 1) then (some (some (.int (nI 1)), (w_al L ps), c)) else (some (some (.int (nI 0)), (w_al L ps), c))) else none)) := (mj_ifeq d96_7 (mj_iconst d96_29 (mj_zret0 d96_30)) (mj_aload_n d96_10 rfl (mj_getR d96_11 w_52 rfl (mj_bipush d96_14 (mj_iconst d96_16 (mj_iload_n d96_17 rfl (mj_imul d96_18 (mj_iadd d96_19 (mj_iald d96_20 w_53 (mj_iconst d96_21 (mj_icne d96_22 (mj_iconst d96_29 (mj_zret0 d96_30)) (mj_iconst d96_25 (mj_goto d96_26 (mj_zret1 d96_30))))))))))))))
/-- SqueezedLinesModel.isOne(I)Z -/
theorem f97 : mj_cd 97 = mj_c97 := rfl
theorem d97_0 : mj_At 97 0 (.iload_n 0) 1 [0] (.null) := ⟨1, (congrArg (fun z => mj_at z 0) f97).trans rfl, rfl⟩
theorem d97_1 : mj_At 97 1 (.iconst (0)) 2 [] (.int 0) := ⟨1, (congrArg (fun z => mj_at z 1) f97).trans rfl, rfl⟩
theorem d97_2 : mj_At 97 2 (.bipush (7)) 4 [] (.int 7) := ⟨2, (congrArg (fun z => mj_at z 2) f97).trans rfl, rfl⟩
theorem d97_4 : mj_At 97 4 (.invokestatic 33) 7 [0, 93, 3, 595, 596, 69] (.null) := ⟨3, (congrArg (fun z => mj_at z 4) f97).trans rfl, rfl⟩
theorem d97_7 : mj_At 97 7 (.ireturn) 8 [1] (.null) := ⟨1, (congrArg (fun z => mj_at z 7) f97).trans rfl, rfl⟩
theorem e97_0 {c : mj_C} {x0 : Int32} {L : Nat} {ps : List (Option (Option Nat))}   : mj_EV 97 0 [some (.int x0)] [] (w_al L ps) c = (mj_then 97 7 [some (.int x0)] [] (mj_EV 93 0 [some (.int x0), some (.int (nI 0)), some (.int (nI 7))] [] (w_al L ps) c)) := (mj_iload_n d97_0 rfl (mj_iconst d97_1 (mj_bipush d97_2 (mj_invS [some (.int x0), some (.int (nI 0)), some (.int (nI 7))] [] d97_4 (by decide) rfl rfl rfl rfl))))
theorem e97_7 {c : mj_C} {x0 : Int32} {z0 : Int32} {L : Nat} {ps : List (Option (Option Nat))}   : mj_EV 97 7 [some (.int x0)] [.int z0] (w_al L ps) c = (if (decide (z0 = nI 0) || decide (z0 = nI 1)) = true then some (some (.int z0), (w_al L ps), c) else none) := (mj_zret d97_7)
/-- SqueezedLinesModel.wordAt(III)I -/
theorem f98 : mj_cd 98 = mj_c98 := rfl
theorem d98_0 : mj_At 98 0 (.bipush (34)) 2 [] (.int 34) := ⟨2, (congrArg (fun z => mj_at z 0) f98).trans rfl, rfl⟩
theorem d98_2 : mj_At 98 2 (.bipush (64)) 4 [] (.int 64) := ⟨2, (congrArg (fun z => mj_at z 2) f98).trans rfl, rfl⟩
theorem d98_4 : mj_At 98 4 (.iload_n 0) 5 [0] (.null) := ⟨1, (congrArg (fun z => mj_at z 4) f98).trans rfl, rfl⟩
theorem d98_5 : mj_At 98 5 (.imul) 6 [] (.null) := ⟨1, (congrArg (fun z => mj_at z 5) f98).trans rfl, rfl⟩
theorem d98_6 : mj_At 98 6 (.iadd) 7 [] (.null) := ⟨1, (congrArg (fun z => mj_at z 6) f98).trans rfl, rfl⟩
theorem d98_7 : mj_At 98 7 (.bipush (8)) 9 [] (.int 8) := ⟨2, (congrArg (fun z => mj_at z 7) f98).trans rfl, rfl⟩
theorem d98_9 : mj_At 98 9 (.iload_n 1) 10 [1] (.null) := ⟨1, (congrArg (fun z => mj_at z 9) f98).trans rfl, rfl⟩
theorem d98_10 : mj_At 98 10 (.imul) 11 [] (.null) := ⟨1, (congrArg (fun z => mj_at z 10) f98).trans rfl, rfl⟩
theorem d98_11 : mj_At 98 11 (.iadd) 12 [] (.null) := ⟨1, (congrArg (fun z => mj_at z 11) f98).trans rfl, rfl⟩
theorem d98_12 : mj_At 98 12 (.iload_n 2) 13 [2] (.null) := ⟨1, (congrArg (fun z => mj_at z 12) f98).trans rfl, rfl⟩
theorem d98_13 : mj_At 98 13 (.iadd) 14 [] (.null) := ⟨1, (congrArg (fun z => mj_at z 13) f98).trans rfl, rfl⟩
theorem d98_14 : mj_At 98 14 (.ireturn) 15 [0] (.null) := ⟨1, (congrArg (fun z => mj_at z 14) f98).trans rfl, rfl⟩
theorem e98_0 {c : mj_C} {x0 : Int32} {x1 : Int32} {x2 : Int32} {L : Nat} {ps : List (Option (Option Nat))}   : mj_EV 98 0 [some (.int x0), some (.int x1), some (.int x2)] [] (w_al L ps) c = (some (some (.int ((((nI 34) + ((nI 64) * x0)) + ((nI 8) * x1)) + x2)), (w_al L ps), c)) := (mj_bipush d98_0 (mj_bipush d98_2 (mj_iload_n d98_4 rfl (mj_imul d98_5 (mj_iadd d98_6 (mj_bipush d98_7 (mj_iload_n d98_9 rfl (mj_imul d98_10 (mj_iadd d98_11 (mj_iload_n d98_12 rfl (mj_iadd d98_13 (mj_iret d98_14))))))))))))
/-- SqueezedLinesModel.word(III)I -/
theorem f99 : mj_cd 99 = mj_c99 := rfl
theorem d99_0 : mj_At 99 0 (.aload_n 0) 1 [0] (.null) := ⟨1, (congrArg (fun z => mj_at z 0) f99).trans rfl, rfl⟩
theorem d99_1 : mj_At 99 1 (.getfield 7) 4 [4, 0, 557] (.null) := ⟨3, (congrArg (fun z => mj_at z 1) f99).trans rfl, rfl⟩
theorem d99_4 : mj_At 99 4 (.iload_n 1) 5 [1] (.null) := ⟨1, (congrArg (fun z => mj_at z 4) f99).trans rfl, rfl⟩
theorem d99_5 : mj_At 99 5 (.iload_n 2) 6 [2] (.null) := ⟨1, (congrArg (fun z => mj_at z 5) f99).trans rfl, rfl⟩
theorem d99_6 : mj_At 99 6 (.iload_n 3) 7 [3] (.null) := ⟨1, (congrArg (fun z => mj_at z 6) f99).trans rfl, rfl⟩
theorem d99_7 : mj_At 99 7 (.invokestatic 37) 10 [0, 98, 3, 639, 640, 69] (.null) := ⟨3, (congrArg (fun z => mj_at z 7) f99).trans rfl, rfl⟩
theorem d99_10 : mj_At 99 10 (.iaload) 11 [] (.null) := ⟨1, (congrArg (fun z => mj_at z 10) f99).trans rfl, rfl⟩
theorem d99_11 : mj_At 99 11 (.ireturn) 12 [0] (.null) := ⟨1, (congrArg (fun z => mj_at z 11) f99).trans rfl, rfl⟩
theorem e99_0 {c : mj_C} {x1 : Int32} {x2 : Int32} {x3 : Int32} {L : Nat} {ps : List (Option (Option Nat))}   : mj_EV 99 0 [some (.ref 52), some (.int x1), some (.int x2), some (.int x3)] [] (w_al L ps) c = (mj_then 99 10 [some (.ref 52), some (.int x1), some (.int x2), some (.int x3)] [.ref 53] (mj_EV 98 0 [some (.int x1), some (.int x2), some (.int x3)] [] (w_al L ps) c)) := (mj_aload_n d99_0 rfl (mj_getR d99_1 w_52 rfl (mj_iload_n d99_4 rfl (mj_iload_n d99_5 rfl (mj_iload_n d99_6 rfl (mj_invS [some (.int x1), some (.int x2), some (.int x3)] [.ref 53] d99_7 (by decide) rfl rfl rfl rfl))))))
theorem e99_10 {c : mj_C} {x1 : Int32} {x2 : Int32} {x3 : Int32} {z1 : Int32} {L : Nat} {ps : List (Option (Option Nat))}   : mj_EV 99 10 [some (.ref 52), some (.int x1), some (.int x2), some (.int x3)] [.int z1, .ref 53] (w_al L ps) c = (if mj_in z1 674 = true then (some (some (.int (c 53 z1.toNatClampNeg)), (w_al L ps), c)) else none) := (mj_iald d99_10 w_53 (mj_iret d99_11))
/-- SqueezedLinesModel.least(II)I -/
theorem f100 : mj_cd 100 = mj_c100 := rfl
theorem d100_0 : mj_At 100 0 (.ldc 41) 2 [634] (.int 65535) := ⟨2, (congrArg (fun z => mj_at z 0) f100).trans rfl, rfl⟩
theorem d100_2 : mj_At 100 2 (.istore_n 3) 3 [3] (.null) := ⟨1, (congrArg (fun z => mj_at z 2) f100).trans rfl, rfl⟩
theorem d100_3 : mj_At 100 3 (.iconst (0)) 4 [] (.int 0) := ⟨1, (congrArg (fun z => mj_at z 3) f100).trans rfl, rfl⟩
theorem d100_4 : mj_At 100 4 (.istore 4) 6 [4] (.null) := ⟨2, (congrArg (fun z => mj_at z 4) f100).trans rfl, rfl⟩
theorem d100_6 : mj_At 100 6 (.iload 4) 8 [4] (.null) := ⟨2, (congrArg (fun z => mj_at z 6) f100).trans rfl, rfl⟩
theorem d100_8 : mj_At 100 8 (.bipush (8)) 10 [] (.int 8) := ⟨2, (congrArg (fun z => mj_at z 8) f100).trans rfl, rfl⟩
theorem d100_10 : mj_At 100 10 (.if_icmp .ge (34)) 13 [44] (.null) := ⟨3, (congrArg (fun z => mj_at z 10) f100).trans rfl, rfl⟩
theorem d100_13 : mj_At 100 13 (.aload_n 0) 14 [0] (.null) := ⟨1, (congrArg (fun z => mj_at z 13) f100).trans rfl, rfl⟩
theorem d100_14 : mj_At 100 14 (.iload_n 1) 15 [1] (.null) := ⟨1, (congrArg (fun z => mj_at z 14) f100).trans rfl, rfl⟩
theorem d100_15 : mj_At 100 15 (.iload_n 2) 16 [2] (.null) := ⟨1, (congrArg (fun z => mj_at z 15) f100).trans rfl, rfl⟩
theorem d100_16 : mj_At 100 16 (.iload 4) 18 [4] (.null) := ⟨2, (congrArg (fun z => mj_at z 16) f100).trans rfl, rfl⟩
theorem d100_18 : mj_At 100 18 (.invokevirtual 42) 21 [1, 99, 4, 4, 635, 637, 32, 69] (.null) := ⟨3, (congrArg (fun z => mj_at z 18) f100).trans rfl, rfl⟩
theorem d100_21 : mj_At 100 21 (.iload_n 3) 22 [3] (.null) := ⟨1, (congrArg (fun z => mj_at z 21) f100).trans rfl, rfl⟩
theorem d100_22 : mj_At 100 22 (.if_icmp .ge (14)) 25 [36] (.null) := ⟨3, (congrArg (fun z => mj_at z 22) f100).trans rfl, rfl⟩
theorem d100_25 : mj_At 100 25 (.aload_n 0) 26 [0] (.null) := ⟨1, (congrArg (fun z => mj_at z 25) f100).trans rfl, rfl⟩
theorem d100_26 : mj_At 100 26 (.iload_n 1) 27 [1] (.null) := ⟨1, (congrArg (fun z => mj_at z 26) f100).trans rfl, rfl⟩
theorem d100_27 : mj_At 100 27 (.iload_n 2) 28 [2] (.null) := ⟨1, (congrArg (fun z => mj_at z 27) f100).trans rfl, rfl⟩
theorem d100_28 : mj_At 100 28 (.iload 4) 30 [4] (.null) := ⟨2, (congrArg (fun z => mj_at z 28) f100).trans rfl, rfl⟩
theorem d100_30 : mj_At 100 30 (.invokevirtual 42) 33 [1, 99, 4, 4, 635, 637, 32, 69] (.null) := ⟨3, (congrArg (fun z => mj_at z 30) f100).trans rfl, rfl⟩
theorem d100_33 : mj_At 100 33 (.goto (4)) 36 [37] (.null) := ⟨3, (congrArg (fun z => mj_at z 33) f100).trans rfl, rfl⟩
theorem d100_36 : mj_At 100 36 (.iload_n 3) 37 [3] (.null) := ⟨1, (congrArg (fun z => mj_at z 36) f100).trans rfl, rfl⟩
theorem d100_37 : mj_At 100 37 (.istore_n 3) 38 [3] (.null) := ⟨1, (congrArg (fun z => mj_at z 37) f100).trans rfl, rfl⟩
theorem d100_38 : mj_At 100 38 (.iinc 4 (1)) 41 [4] (.int 1) := ⟨3, (congrArg (fun z => mj_at z 38) f100).trans rfl, rfl⟩
theorem d100_41 : mj_At 100 41 (.goto (-35)) 44 [6] (.null) := ⟨3, (congrArg (fun z => mj_at z 41) f100).trans rfl, rfl⟩
theorem d100_44 : mj_At 100 44 (.iload_n 3) 45 [3] (.null) := ⟨1, (congrArg (fun z => mj_at z 44) f100).trans rfl, rfl⟩
theorem d100_45 : mj_At 100 45 (.ireturn) 46 [0] (.null) := ⟨1, (congrArg (fun z => mj_at z 45) f100).trans rfl, rfl⟩
theorem e100_0 {c : mj_C} {x1 : Int32} {x2 : Int32} {L : Nat} {ps : List (Option (Option Nat))}   : mj_EV 100 0 [some (.ref 52), some (.int x1), some (.int x2), none, none] [] (w_al L ps) c = mj_EV 100 6 [some (.ref 52), some (.int x1), some (.int x2), some (.int (nI 65535)), some (.int (nI 0))] [] (w_al L ps) c := (mj_ldc d100_0 (mj_istore_n [some (.ref 52), some (.int x1), some (.int x2), some (.int (nI 65535)), none] d100_2 rfl rfl (mj_iconst d100_3 (mj_istore [some (.ref 52), some (.int x1), some (.int x2), some (.int (nI 65535)), some (.int (nI 0))] d100_4 rfl rfl rfl))))
theorem e100_6 {c : mj_C} {x1 : Int32} {x2 : Int32} {x3 : Int32} {x4 : Int32} {L : Nat} {ps : List (Option (Option Nat))}   : mj_EV 100 6 [some (.ref 52), some (.int x1), some (.int x2), some (.int x3), some (.int x4)] [] (w_al L ps) c = (if (nI 8) ≤ x4 then (some (some (.int x3), (w_al L ps), c)) else (mj_then 100 21 [some (.ref 52), some (.int x1), some (.int x2), some (.int x3), some (.int x4)] [] (mj_EV 99 0 [some (.ref 52), some (.int x1), some (.int x2), some (.int x4)] [] (w_al L ps) c))) := (mj_iload d100_6 rfl (mj_bipush d100_8 (mj_icge d100_10 (mj_iload_n d100_44 rfl (mj_iret d100_45)) (mj_aload_n d100_13 rfl (mj_iload_n d100_14 rfl (mj_iload_n d100_15 rfl (mj_iload d100_16 rfl (mj_invV [some (.ref 52), some (.int x1), some (.int x2), some (.int x4)] [] d100_18 rfl rfl rfl w_52 rfl rfl))))))))
theorem e100_21 {c : mj_C} {x1 : Int32} {x2 : Int32} {x3 : Int32} {x4 : Int32} {z0 : Int32} {L : Nat} {ps : List (Option (Option Nat))}   : mj_EV 100 21 [some (.ref 52), some (.int x1), some (.int x2), some (.int x3), some (.int x4)] [.int z0] (w_al L ps) c = (if x3 ≤ z0 then mj_EV 100 6 [some (.ref 52), some (.int x1), some (.int x2), some (.int x3), some (.int (x4 + (nI 1)))] [] (w_al L ps) c else (mj_then 100 33 [some (.ref 52), some (.int x1), some (.int x2), some (.int x3), some (.int x4)] [] (mj_EV 99 0 [some (.ref 52), some (.int x1), some (.int x2), some (.int x4)] [] (w_al L ps) c))) := (mj_iload_n d100_21 rfl (mj_icge d100_22 (mj_iload_n d100_36 rfl (mj_istore_n [some (.ref 52), some (.int x1), some (.int x2), some (.int x3), some (.int x4)] d100_37 rfl rfl (mj_iinc [some (.ref 52), some (.int x1), some (.int x2), some (.int x3), some (.int (x4 + (nI 1)))] d100_38 rfl rfl rfl (mj_goto d100_41 rfl)))) (mj_aload_n d100_25 rfl (mj_iload_n d100_26 rfl (mj_iload_n d100_27 rfl (mj_iload d100_28 rfl (mj_invV [some (.ref 52), some (.int x1), some (.int x2), some (.int x4)] [] d100_30 rfl rfl rfl w_52 rfl rfl)))))))
theorem e100_33 {c : mj_C} {x1 : Int32} {x2 : Int32} {x3 : Int32} {x4 : Int32} {z0 : Int32} {L : Nat} {ps : List (Option (Option Nat))}   : mj_EV 100 33 [some (.ref 52), some (.int x1), some (.int x2), some (.int x3), some (.int x4)] [.int z0] (w_al L ps) c = mj_EV 100 6 [some (.ref 52), some (.int x1), some (.int x2), some (.int z0), some (.int (x4 + (nI 1)))] [] (w_al L ps) c := (mj_goto d100_33 (mj_istore_n [some (.ref 52), some (.int x1), some (.int x2), some (.int z0), some (.int x4)] d100_37 rfl rfl (mj_iinc [some (.ref 52), some (.int x1), some (.int x2), some (.int z0), some (.int (x4 + (nI 1)))] d100_38 rfl rfl rfl (mj_goto d100_41 rfl))))
/-- SqueezedLinesModel.greatest(II)I -/
theorem f101 : mj_cd 101 = mj_c101 := rfl
theorem d101_0 : mj_At 101 0 (.iconst (0)) 1 [] (.int 0) := ⟨1, (congrArg (fun z => mj_at z 0) f101).trans rfl, rfl⟩
theorem d101_1 : mj_At 101 1 (.istore_n 3) 2 [3] (.null) := ⟨1, (congrArg (fun z => mj_at z 1) f101).trans rfl, rfl⟩
theorem d101_2 : mj_At 101 2 (.iconst (0)) 3 [] (.int 0) := ⟨1, (congrArg (fun z => mj_at z 2) f101).trans rfl, rfl⟩
theorem d101_3 : mj_At 101 3 (.istore 4) 5 [4] (.null) := ⟨2, (congrArg (fun z => mj_at z 3) f101).trans rfl, rfl⟩
theorem d101_5 : mj_At 101 5 (.iload 4) 7 [4] (.null) := ⟨2, (congrArg (fun z => mj_at z 5) f101).trans rfl, rfl⟩
theorem d101_7 : mj_At 101 7 (.bipush (8)) 9 [] (.int 8) := ⟨2, (congrArg (fun z => mj_at z 7) f101).trans rfl, rfl⟩
theorem d101_9 : mj_At 101 9 (.if_icmp .ge (34)) 12 [43] (.null) := ⟨3, (congrArg (fun z => mj_at z 9) f101).trans rfl, rfl⟩
theorem d101_12 : mj_At 101 12 (.aload_n 0) 13 [0] (.null) := ⟨1, (congrArg (fun z => mj_at z 12) f101).trans rfl, rfl⟩
theorem d101_13 : mj_At 101 13 (.iload_n 1) 14 [1] (.null) := ⟨1, (congrArg (fun z => mj_at z 13) f101).trans rfl, rfl⟩
theorem d101_14 : mj_At 101 14 (.iload_n 2) 15 [2] (.null) := ⟨1, (congrArg (fun z => mj_at z 14) f101).trans rfl, rfl⟩
theorem d101_15 : mj_At 101 15 (.iload 4) 17 [4] (.null) := ⟨2, (congrArg (fun z => mj_at z 15) f101).trans rfl, rfl⟩
theorem d101_17 : mj_At 101 17 (.invokevirtual 42) 20 [1, 99, 4, 4, 635, 637, 32, 69] (.null) := ⟨3, (congrArg (fun z => mj_at z 17) f101).trans rfl, rfl⟩
theorem d101_20 : mj_At 101 20 (.iload_n 3) 21 [3] (.null) := ⟨1, (congrArg (fun z => mj_at z 20) f101).trans rfl, rfl⟩
theorem d101_21 : mj_At 101 21 (.if_icmp .le (14)) 24 [35] (.null) := ⟨3, (congrArg (fun z => mj_at z 21) f101).trans rfl, rfl⟩
theorem d101_24 : mj_At 101 24 (.aload_n 0) 25 [0] (.null) := ⟨1, (congrArg (fun z => mj_at z 24) f101).trans rfl, rfl⟩
theorem d101_25 : mj_At 101 25 (.iload_n 1) 26 [1] (.null) := ⟨1, (congrArg (fun z => mj_at z 25) f101).trans rfl, rfl⟩
theorem d101_26 : mj_At 101 26 (.iload_n 2) 27 [2] (.null) := ⟨1, (congrArg (fun z => mj_at z 26) f101).trans rfl, rfl⟩
theorem d101_27 : mj_At 101 27 (.iload 4) 29 [4] (.null) := ⟨2, (congrArg (fun z => mj_at z 27) f101).trans rfl, rfl⟩
theorem d101_29 : mj_At 101 29 (.invokevirtual 42) 32 [1, 99, 4, 4, 635, 637, 32, 69] (.null) := ⟨3, (congrArg (fun z => mj_at z 29) f101).trans rfl, rfl⟩
theorem d101_32 : mj_At 101 32 (.goto (4)) 35 [36] (.null) := ⟨3, (congrArg (fun z => mj_at z 32) f101).trans rfl, rfl⟩
theorem d101_35 : mj_At 101 35 (.iload_n 3) 36 [3] (.null) := ⟨1, (congrArg (fun z => mj_at z 35) f101).trans rfl, rfl⟩
theorem d101_36 : mj_At 101 36 (.istore_n 3) 37 [3] (.null) := ⟨1, (congrArg (fun z => mj_at z 36) f101).trans rfl, rfl⟩
theorem d101_37 : mj_At 101 37 (.iinc 4 (1)) 40 [4] (.int 1) := ⟨3, (congrArg (fun z => mj_at z 37) f101).trans rfl, rfl⟩
theorem d101_40 : mj_At 101 40 (.goto (-35)) 43 [5] (.null) := ⟨3, (congrArg (fun z => mj_at z 40) f101).trans rfl, rfl⟩
theorem d101_43 : mj_At 101 43 (.iload_n 3) 44 [3] (.null) := ⟨1, (congrArg (fun z => mj_at z 43) f101).trans rfl, rfl⟩
theorem d101_44 : mj_At 101 44 (.ireturn) 45 [0] (.null) := ⟨1, (congrArg (fun z => mj_at z 44) f101).trans rfl, rfl⟩
theorem e101_0 {c : mj_C} {x1 : Int32} {x2 : Int32} {L : Nat} {ps : List (Option (Option Nat))}   : mj_EV 101 0 [some (.ref 52), some (.int x1), some (.int x2), none, none] [] (w_al L ps) c = mj_EV 101 5 [some (.ref 52), some (.int x1), some (.int x2), some (.int (nI 0)), some (.int (nI 0))] [] (w_al L ps) c := (mj_iconst d101_0 (mj_istore_n [some (.ref 52), some (.int x1), some (.int x2), some (.int (nI 0)), none] d101_1 rfl rfl (mj_iconst d101_2 (mj_istore [some (.ref 52), some (.int x1), some (.int x2), some (.int (nI 0)), some (.int (nI 0))] d101_3 rfl rfl rfl))))
theorem e101_5 {c : mj_C} {x1 : Int32} {x2 : Int32} {x3 : Int32} {x4 : Int32} {L : Nat} {ps : List (Option (Option Nat))}   : mj_EV 101 5 [some (.ref 52), some (.int x1), some (.int x2), some (.int x3), some (.int x4)] [] (w_al L ps) c = (if (nI 8) ≤ x4 then (some (some (.int x3), (w_al L ps), c)) else (mj_then 101 20 [some (.ref 52), some (.int x1), some (.int x2), some (.int x3), some (.int x4)] [] (mj_EV 99 0 [some (.ref 52), some (.int x1), some (.int x2), some (.int x4)] [] (w_al L ps) c))) := (mj_iload d101_5 rfl (mj_bipush d101_7 (mj_icge d101_9 (mj_iload_n d101_43 rfl (mj_iret d101_44)) (mj_aload_n d101_12 rfl (mj_iload_n d101_13 rfl (mj_iload_n d101_14 rfl (mj_iload d101_15 rfl (mj_invV [some (.ref 52), some (.int x1), some (.int x2), some (.int x4)] [] d101_17 rfl rfl rfl w_52 rfl rfl))))))))
theorem e101_20 {c : mj_C} {x1 : Int32} {x2 : Int32} {x3 : Int32} {x4 : Int32} {z0 : Int32} {L : Nat} {ps : List (Option (Option Nat))}   : mj_EV 101 20 [some (.ref 52), some (.int x1), some (.int x2), some (.int x3), some (.int x4)] [.int z0] (w_al L ps) c = (if z0 ≤ x3 then mj_EV 101 5 [some (.ref 52), some (.int x1), some (.int x2), some (.int x3), some (.int (x4 + (nI 1)))] [] (w_al L ps) c else (mj_then 101 32 [some (.ref 52), some (.int x1), some (.int x2), some (.int x3), some (.int x4)] [] (mj_EV 99 0 [some (.ref 52), some (.int x1), some (.int x2), some (.int x4)] [] (w_al L ps) c))) := (mj_iload_n d101_20 rfl (mj_icle d101_21 (mj_iload_n d101_35 rfl (mj_istore_n [some (.ref 52), some (.int x1), some (.int x2), some (.int x3), some (.int x4)] d101_36 rfl rfl (mj_iinc [some (.ref 52), some (.int x1), some (.int x2), some (.int x3), some (.int (x4 + (nI 1)))] d101_37 rfl rfl rfl (mj_goto d101_40 rfl)))) (mj_aload_n d101_24 rfl (mj_iload_n d101_25 rfl (mj_iload_n d101_26 rfl (mj_iload d101_27 rfl (mj_invV [some (.ref 52), some (.int x1), some (.int x2), some (.int x4)] [] d101_29 rfl rfl rfl w_52 rfl rfl)))))))
theorem e101_32 {c : mj_C} {x1 : Int32} {x2 : Int32} {x3 : Int32} {x4 : Int32} {z0 : Int32} {L : Nat} {ps : List (Option (Option Nat))}   : mj_EV 101 32 [some (.ref 52), some (.int x1), some (.int x2), some (.int x3), some (.int x4)] [.int z0] (w_al L ps) c = mj_EV 101 5 [some (.ref 52), some (.int x1), some (.int x2), some (.int z0), some (.int (x4 + (nI 1)))] [] (w_al L ps) c := (mj_goto d101_32 (mj_istore_n [some (.ref 52), some (.int x1), some (.int x2), some (.int z0), some (.int x4)] d101_36 rfl rfl (mj_iinc [some (.ref 52), some (.int x1), some (.int x2), some (.int z0), some (.int (x4 + (nI 1)))] d101_37 rfl rfl rfl (mj_goto d101_40 rfl))))
/-- SqueezedLinesModel.formOf(II)I -/
theorem f102 : mj_cd 102 = mj_c102 := rfl
theorem d102_0 : mj_At 102 0 (.aload_n 0) 1 [0] (.null) := ⟨1, (congrArg (fun z => mj_at z 0) f102).trans rfl, rfl⟩
theorem d102_1 : mj_At 102 1 (.iload_n 1) 2 [1] (.null) := ⟨1, (congrArg (fun z => mj_at z 1) f102).trans rfl, rfl⟩
theorem d102_2 : mj_At 102 2 (.iload_n 2) 3 [2] (.null) := ⟨1, (congrArg (fun z => mj_at z 2) f102).trans rfl, rfl⟩
theorem d102_3 : mj_At 102 3 (.invokevirtual 45) 6 [1, 100, 3, 4, 630, 632, 31, 69] (.null) := ⟨3, (congrArg (fun z => mj_at z 3) f102).trans rfl, rfl⟩
theorem d102_6 : mj_At 102 6 (.istore_n 3) 7 [3] (.null) := ⟨1, (congrArg (fun z => mj_at z 6) f102).trans rfl, rfl⟩
theorem d102_7 : mj_At 102 7 (.aload_n 0) 8 [0] (.null) := ⟨1, (congrArg (fun z => mj_at z 7) f102).trans rfl, rfl⟩
theorem d102_8 : mj_At 102 8 (.iload_n 1) 9 [1] (.null) := ⟨1, (congrArg (fun z => mj_at z 8) f102).trans rfl, rfl⟩
theorem d102_9 : mj_At 102 9 (.iload_n 2) 10 [2] (.null) := ⟨1, (congrArg (fun z => mj_at z 9) f102).trans rfl, rfl⟩
theorem d102_10 : mj_At 102 10 (.invokevirtual 49) 13 [1, 101, 3, 4, 642, 644, 33, 69] (.null) := ⟨3, (congrArg (fun z => mj_at z 10) f102).trans rfl, rfl⟩
theorem d102_13 : mj_At 102 13 (.istore 4) 15 [4] (.null) := ⟨2, (congrArg (fun z => mj_at z 13) f102).trans rfl, rfl⟩
theorem d102_15 : mj_At 102 15 (.iload 4) 17 [4] (.null) := ⟨2, (congrArg (fun z => mj_at z 15) f102).trans rfl, rfl⟩
theorem d102_17 : mj_At 102 17 (.ifCond .ne (5)) 20 [22] (.null) := ⟨3, (congrArg (fun z => mj_at z 17) f102).trans rfl, rfl⟩
theorem d102_20 : mj_At 102 20 (.iconst (0)) 21 [] (.int 0) := ⟨1, (congrArg (fun z => mj_at z 20) f102).trans rfl, rfl⟩
theorem d102_21 : mj_At 102 21 (.ireturn) 22 [0] (.null) := ⟨1, (congrArg (fun z => mj_at z 21) f102).trans rfl, rfl⟩
theorem d102_22 : mj_At 102 22 (.iload_n 3) 23 [3] (.null) := ⟨1, (congrArg (fun z => mj_at z 22) f102).trans rfl, rfl⟩
theorem d102_23 : mj_At 102 23 (.iload 4) 25 [4] (.null) := ⟨2, (congrArg (fun z => mj_at z 23) f102).trans rfl, rfl⟩
theorem d102_25 : mj_At 102 25 (.if_icmp .ne (5)) 28 [30] (.null) := ⟨3, (congrArg (fun z => mj_at z 25) f102).trans rfl, rfl⟩
theorem d102_28 : mj_At 102 28 (.iconst (1)) 29 [] (.int 1) := ⟨1, (congrArg (fun z => mj_at z 28) f102).trans rfl, rfl⟩
theorem d102_29 : mj_At 102 29 (.ireturn) 30 [0] (.null) := ⟨1, (congrArg (fun z => mj_at z 29) f102).trans rfl, rfl⟩
theorem d102_30 : mj_At 102 30 (.iload 4) 32 [4] (.null) := ⟨2, (congrArg (fun z => mj_at z 30) f102).trans rfl, rfl⟩
theorem d102_32 : mj_At 102 32 (.iload_n 3) 33 [3] (.null) := ⟨1, (congrArg (fun z => mj_at z 32) f102).trans rfl, rfl⟩
theorem d102_33 : mj_At 102 33 (.isub) 34 [] (.null) := ⟨1, (congrArg (fun z => mj_at z 33) f102).trans rfl, rfl⟩
theorem d102_34 : mj_At 102 34 (.bipush (15)) 36 [] (.int 15) := ⟨2, (congrArg (fun z => mj_at z 34) f102).trans rfl, rfl⟩
theorem d102_36 : mj_At 102 36 (.if_icmp .gt (7)) 39 [43] (.null) := ⟨3, (congrArg (fun z => mj_at z 36) f102).trans rfl, rfl⟩
theorem d102_39 : mj_At 102 39 (.iconst (2)) 40 [] (.int 2) := ⟨1, (congrArg (fun z => mj_at z 39) f102).trans rfl, rfl⟩
theorem d102_40 : mj_At 102 40 (.goto (16)) 43 [56] (.null) := ⟨3, (congrArg (fun z => mj_at z 40) f102).trans rfl, rfl⟩
theorem d102_43 : mj_At 102 43 (.iload 4) 45 [4] (.null) := ⟨2, (congrArg (fun z => mj_at z 43) f102).trans rfl, rfl⟩
theorem d102_45 : mj_At 102 45 (.sipush (255)) 48 [] (.int 255) := ⟨3, (congrArg (fun z => mj_at z 45) f102).trans rfl, rfl⟩
theorem d102_48 : mj_At 102 48 (.if_icmp .gt (7)) 51 [55] (.null) := ⟨3, (congrArg (fun z => mj_at z 48) f102).trans rfl, rfl⟩
theorem d102_51 : mj_At 102 51 (.iconst (3)) 52 [] (.int 3) := ⟨1, (congrArg (fun z => mj_at z 51) f102).trans rfl, rfl⟩
theorem d102_52 : mj_At 102 52 (.goto (4)) 55 [56] (.null) := ⟨3, (congrArg (fun z => mj_at z 52) f102).trans rfl, rfl⟩
theorem d102_55 : mj_At 102 55 (.iconst (4)) 56 [] (.int 4) := ⟨1, (congrArg (fun z => mj_at z 55) f102).trans rfl, rfl⟩
theorem d102_56 : mj_At 102 56 (.ireturn) 57 [0] (.null) := ⟨1, (congrArg (fun z => mj_at z 56) f102).trans rfl, rfl⟩
theorem e102_0 {c : mj_C} {x1 : Int32} {x2 : Int32} {L : Nat} {ps : List (Option (Option Nat))}   : mj_EV 102 0 [some (.ref 52), some (.int x1), some (.int x2), none, none] [] (w_al L ps) c = (mj_then 102 6 [some (.ref 52), some (.int x1), some (.int x2), none, none] [] (mj_EV 100 0 [some (.ref 52), some (.int x1), some (.int x2), none, none] [] (w_al L ps) c)) := (mj_aload_n d102_0 rfl (mj_iload_n d102_1 rfl (mj_iload_n d102_2 rfl (mj_invV [some (.ref 52), some (.int x1), some (.int x2), none, none] [] d102_3 rfl rfl rfl w_52 rfl rfl))))
theorem e102_6 {c : mj_C} {x1 : Int32} {x2 : Int32} {z0 : Int32} {L : Nat} {ps : List (Option (Option Nat))}   : mj_EV 102 6 [some (.ref 52), some (.int x1), some (.int x2), none, none] [.int z0] (w_al L ps) c = (mj_then 102 13 [some (.ref 52), some (.int x1), some (.int x2), some (.int z0), none] [] (mj_EV 101 0 [some (.ref 52), some (.int x1), some (.int x2), none, none] [] (w_al L ps) c)) := (mj_istore_n [some (.ref 52), some (.int x1), some (.int x2), some (.int z0), none] d102_6 rfl rfl (mj_aload_n d102_7 rfl (mj_iload_n d102_8 rfl (mj_iload_n d102_9 rfl (mj_invV [some (.ref 52), some (.int x1), some (.int x2), none, none] [] d102_10 rfl rfl rfl w_52 rfl rfl)))))
theorem e102_13 {c : mj_C} {x1 : Int32} {x2 : Int32} {x3 : Int32} {z0 : Int32} {L : Nat} {ps : List (Option (Option Nat))}   : mj_EV 102 13 [some (.ref 52), some (.int x1), some (.int x2), some (.int x3), none] [.int z0] (w_al L ps) c = (if z0 = nI 0 then (some (some (.int (nI 0)), (w_al L ps), c)) else (if x3 = z0 then (some (some (.int (nI 1)), (w_al L ps), c)) else (if (nI 15) < (z0 - x3) then (if (nI 255) < z0 then (some (some (.int (nI 4)), (w_al L ps), c)) else (some (some (.int (nI 3)), (w_al L ps), c))) else (some (some (.int (nI 2)), (w_al L ps), c))))) := (mj_istore [some (.ref 52), some (.int x1), some (.int x2), some (.int x3), some (.int z0)] d102_13 rfl rfl (mj_iload d102_15 rfl (mj_ifne d102_17 (mj_iload_n d102_22 rfl (mj_iload d102_23 rfl (mj_icne d102_25 (mj_iload d102_30 rfl (mj_iload_n d102_32 rfl (mj_isub d102_33 (mj_bipush d102_34 (mj_icgt d102_36 (mj_iload d102_43 rfl (mj_sipush d102_45 (mj_icgt d102_48 (mj_iconst d102_55 (mj_iret d102_56)) (mj_iconst d102_51 (mj_goto d102_52 (mj_iret d102_56)))))) (mj_iconst d102_39 (mj_goto d102_40 (mj_iret d102_56)))))))) (mj_iconst d102_28 (mj_iret d102_29))))) (mj_iconst d102_20 (mj_iret d102_21)))))
/-- SqueezedLinesModel.sizeOfForm(I)I -/
theorem f103 : mj_cd 103 = mj_c103 := rfl
theorem d103_0 : mj_At 103 0 (.iload_n 0) 1 [0] (.null) := ⟨1, (congrArg (fun z => mj_at z 0) f103).trans rfl, rfl⟩
theorem d103_1 : mj_At 103 1 (.ifCond .ne (7)) 4 [8] (.null) := ⟨3, (congrArg (fun z => mj_at z 1) f103).trans rfl, rfl⟩
theorem d103_4 : mj_At 103 4 (.iconst (0)) 5 [] (.int 0) := ⟨1, (congrArg (fun z => mj_at z 4) f103).trans rfl, rfl⟩
theorem d103_5 : mj_At 103 5 (.goto (32)) 8 [37] (.null) := ⟨3, (congrArg (fun z => mj_at z 5) f103).trans rfl, rfl⟩
theorem d103_8 : mj_At 103 8 (.iload_n 0) 9 [0] (.null) := ⟨1, (congrArg (fun z => mj_at z 8) f103).trans rfl, rfl⟩
theorem d103_9 : mj_At 103 9 (.iconst (1)) 10 [] (.int 1) := ⟨1, (congrArg (fun z => mj_at z 9) f103).trans rfl, rfl⟩
theorem d103_10 : mj_At 103 10 (.if_icmp .ne (7)) 13 [17] (.null) := ⟨3, (congrArg (fun z => mj_at z 10) f103).trans rfl, rfl⟩
theorem d103_13 : mj_At 103 13 (.iconst (1)) 14 [] (.int 1) := ⟨1, (congrArg (fun z => mj_at z 13) f103).trans rfl, rfl⟩
theorem d103_14 : mj_At 103 14 (.goto (23)) 17 [37] (.null) := ⟨3, (congrArg (fun z => mj_at z 14) f103).trans rfl, rfl⟩
theorem d103_17 : mj_At 103 17 (.iload_n 0) 18 [0] (.null) := ⟨1, (congrArg (fun z => mj_at z 17) f103).trans rfl, rfl⟩
theorem d103_18 : mj_At 103 18 (.iconst (2)) 19 [] (.int 2) := ⟨1, (congrArg (fun z => mj_at z 18) f103).trans rfl, rfl⟩
theorem d103_19 : mj_At 103 19 (.if_icmp .ne (7)) 22 [26] (.null) := ⟨3, (congrArg (fun z => mj_at z 19) f103).trans rfl, rfl⟩
theorem d103_22 : mj_At 103 22 (.iconst (3)) 23 [] (.int 3) := ⟨1, (congrArg (fun z => mj_at z 22) f103).trans rfl, rfl⟩
theorem d103_23 : mj_At 103 23 (.goto (14)) 26 [37] (.null) := ⟨3, (congrArg (fun z => mj_at z 23) f103).trans rfl, rfl⟩
theorem d103_26 : mj_At 103 26 (.iload_n 0) 27 [0] (.null) := ⟨1, (congrArg (fun z => mj_at z 26) f103).trans rfl, rfl⟩
theorem d103_27 : mj_At 103 27 (.iconst (3)) 28 [] (.int 3) := ⟨1, (congrArg (fun z => mj_at z 27) f103).trans rfl, rfl⟩
theorem d103_28 : mj_At 103 28 (.if_icmp .ne (7)) 31 [35] (.null) := ⟨3, (congrArg (fun z => mj_at z 28) f103).trans rfl, rfl⟩
theorem d103_31 : mj_At 103 31 (.iconst (4)) 32 [] (.int 4) := ⟨1, (congrArg (fun z => mj_at z 31) f103).trans rfl, rfl⟩
theorem d103_32 : mj_At 103 32 (.goto (5)) 35 [37] (.null) := ⟨3, (congrArg (fun z => mj_at z 32) f103).trans rfl, rfl⟩
theorem d103_35 : mj_At 103 35 (.bipush (8)) 37 [] (.int 8) := ⟨2, (congrArg (fun z => mj_at z 35) f103).trans rfl, rfl⟩
theorem d103_37 : mj_At 103 37 (.ireturn) 38 [0] (.null) := ⟨1, (congrArg (fun z => mj_at z 37) f103).trans rfl, rfl⟩
theorem e103_0 {c : mj_C} {x0 : Int32} {L : Nat} {ps : List (Option (Option Nat))}   : mj_EV 103 0 [some (.int x0)] [] (w_al L ps) c = (if x0 = nI 0 then (some (some (.int (nI 0)), (w_al L ps), c)) else (if x0 = (nI 1) then (some (some (.int (nI 1)), (w_al L ps), c)) else (if x0 = (nI 2) then (some (some (.int (nI 3)), (w_al L ps), c)) else (if x0 = (nI 3) then (some (some (.int (nI 4)), (w_al L ps), c)) else (some (some (.int (nI 8)), (w_al L ps), c)))))) := (mj_iload_n d103_0 rfl (mj_ifne d103_1 (mj_iload_n d103_8 rfl (mj_iconst d103_9 (mj_icne d103_10 (mj_iload_n d103_17 rfl (mj_iconst d103_18 (mj_icne d103_19 (mj_iload_n d103_26 rfl (mj_iconst d103_27 (mj_icne d103_28 (mj_bipush d103_35 (mj_iret d103_37)) (mj_iconst d103_31 (mj_goto d103_32 (mj_iret d103_37)))))) (mj_iconst d103_22 (mj_goto d103_23 (mj_iret d103_37)))))) (mj_iconst d103_13 (mj_goto d103_14 (mj_iret d103_37)))))) (mj_iconst d103_4 (mj_goto d103_5 (mj_iret d103_37)))))
/-- SqueezedLinesModel.lineSize(II)I -/
theorem f104 : mj_cd 104 = mj_c104 := rfl
theorem d104_0 : mj_At 104 0 (.aload_n 0) 1 [0] (.null) := ⟨1, (congrArg (fun z => mj_at z 0) f104).trans rfl, rfl⟩
theorem d104_1 : mj_At 104 1 (.iload_n 1) 2 [1] (.null) := ⟨1, (congrArg (fun z => mj_at z 1) f104).trans rfl, rfl⟩
theorem d104_2 : mj_At 104 2 (.iload_n 2) 3 [2] (.null) := ⟨1, (congrArg (fun z => mj_at z 2) f104).trans rfl, rfl⟩
theorem d104_3 : mj_At 104 3 (.invokevirtual 52) 6 [1, 102, 3, 4, 626, 628, 30, 69] (.null) := ⟨3, (congrArg (fun z => mj_at z 3) f104).trans rfl, rfl⟩
theorem d104_6 : mj_At 104 6 (.invokestatic 55) 9 [0, 103, 1, 646, 647, 69] (.null) := ⟨3, (congrArg (fun z => mj_at z 6) f104).trans rfl, rfl⟩
theorem d104_9 : mj_At 104 9 (.ireturn) 10 [0] (.null) := ⟨1, (congrArg (fun z => mj_at z 9) f104).trans rfl, rfl⟩
theorem e104_0 {c : mj_C} {x1 : Int32} {x2 : Int32} {L : Nat} {ps : List (Option (Option Nat))}   : mj_EV 104 0 [some (.ref 52), some (.int x1), some (.int x2)] [] (w_al L ps) c = (mj_then 104 6 [some (.ref 52), some (.int x1), some (.int x2)] [] (mj_EV 102 0 [some (.ref 52), some (.int x1), some (.int x2), none, none] [] (w_al L ps) c)) := (mj_aload_n d104_0 rfl (mj_iload_n d104_1 rfl (mj_iload_n d104_2 rfl (mj_invV [some (.ref 52), some (.int x1), some (.int x2), none, none] [] d104_3 rfl rfl rfl w_52 rfl rfl))))
theorem e104_6 {c : mj_C} {x1 : Int32} {x2 : Int32} {z0 : Int32} {L : Nat} {ps : List (Option (Option Nat))}   : mj_EV 104 6 [some (.ref 52), some (.int x1), some (.int x2)] [.int z0] (w_al L ps) c = (mj_then 104 9 [some (.ref 52), some (.int x1), some (.int x2)] [] (mj_EV 103 0 [some (.int z0)] [] (w_al L ps) c)) := (mj_invS [some (.int z0)] [] d104_6 (by decide) rfl rfl rfl rfl)
theorem e104_9 {c : mj_C} {x1 : Int32} {x2 : Int32} {z0 : Int32} {L : Nat} {ps : List (Option (Option Nat))}   : mj_EV 104 9 [some (.ref 52), some (.int x1), some (.int x2)] [.int z0] (w_al L ps) c = (some (some (.int z0), (w_al L ps), c)) := (mj_iret d104_9)
/-- SqueezedLinesModel.slot(I)I -/
theorem f105 : mj_cd 105 = mj_c105 := rfl
theorem d105_0 : mj_At 105 0 (.aload_n 0) 1 [0] (.null) := ⟨1, (congrArg (fun z => mj_at z 0) f105).trans rfl, rfl⟩
theorem d105_1 : mj_At 105 1 (.getfield 7) 4 [4, 0, 557] (.null) := ⟨3, (congrArg (fun z => mj_at z 1) f105).trans rfl, rfl⟩
theorem d105_4 : mj_At 105 4 (.bipush (6)) 6 [] (.int 6) := ⟨2, (congrArg (fun z => mj_at z 4) f105).trans rfl, rfl⟩
theorem d105_6 : mj_At 105 6 (.iconst (2)) 7 [] (.int 2) := ⟨1, (congrArg (fun z => mj_at z 6) f105).trans rfl, rfl⟩
theorem d105_7 : mj_At 105 7 (.iload_n 1) 8 [1] (.null) := ⟨1, (congrArg (fun z => mj_at z 7) f105).trans rfl, rfl⟩
theorem d105_8 : mj_At 105 8 (.imul) 9 [] (.null) := ⟨1, (congrArg (fun z => mj_at z 8) f105).trans rfl, rfl⟩
theorem d105_9 : mj_At 105 9 (.iadd) 10 [] (.null) := ⟨1, (congrArg (fun z => mj_at z 9) f105).trans rfl, rfl⟩
theorem d105_10 : mj_At 105 10 (.iconst (1)) 11 [] (.int 1) := ⟨1, (congrArg (fun z => mj_at z 10) f105).trans rfl, rfl⟩
theorem d105_11 : mj_At 105 11 (.iadd) 12 [] (.null) := ⟨1, (congrArg (fun z => mj_at z 11) f105).trans rfl, rfl⟩
theorem d105_12 : mj_At 105 12 (.iaload) 13 [] (.null) := ⟨1, (congrArg (fun z => mj_at z 12) f105).trans rfl, rfl⟩
theorem d105_13 : mj_At 105 13 (.ireturn) 14 [0] (.null) := ⟨1, (congrArg (fun z => mj_at z 13) f105).trans rfl, rfl⟩
theorem e105_0 {c : mj_C} {x1 : Int32} {L : Nat} {ps : List (Option (Option Nat))}   : mj_EV 105 0 [some (.ref 52), some (.int x1)] [] (w_al L ps) c = (if mj_in (((nI 6) + ((nI 2) * x1)) + (nI 1)) 674 = true then (some (some (.int (c 53 (((nI 6) + ((nI 2) * x1)) + (nI 1)).toNatClampNeg)), (w_al L ps), c)) else none) := (mj_aload_n d105_0 rfl (mj_getR d105_1 w_52 rfl (mj_bipush d105_4 (mj_iconst d105_6 (mj_iload_n d105_7 rfl (mj_imul d105_8 (mj_iadd d105_9 (mj_iconst d105_10 (mj_iadd d105_11 (mj_iald d105_12 w_53 (mj_iret d105_13)))))))))))
/-- SqueezedLinesModel.besideWith(II)I -/
theorem f106 : mj_cd 106 = mj_c106 := rfl
theorem d106_0 : mj_At 106 0 (.iconst (0)) 1 [] (.int 0) := ⟨1, (congrArg (fun z => mj_at z 0) f106).trans rfl, rfl⟩
theorem d106_1 : mj_At 106 1 (.istore_n 3) 2 [3] (.null) := ⟨1, (congrArg (fun z => mj_at z 1) f106).trans rfl, rfl⟩
theorem d106_2 : mj_At 106 2 (.iconst (0)) 3 [] (.int 0) := ⟨1, (congrArg (fun z => mj_at z 2) f106).trans rfl, rfl⟩
theorem d106_3 : mj_At 106 3 (.istore 4) 5 [4] (.null) := ⟨2, (congrArg (fun z => mj_at z 3) f106).trans rfl, rfl⟩
theorem d106_5 : mj_At 106 5 (.iload 4) 7 [4] (.null) := ⟨2, (congrArg (fun z => mj_at z 5) f106).trans rfl, rfl⟩
theorem d106_7 : mj_At 106 7 (.bipush (8)) 9 [] (.int 8) := ⟨2, (congrArg (fun z => mj_at z 7) f106).trans rfl, rfl⟩
theorem d106_9 : mj_At 106 9 (.if_icmp .ge (31)) 12 [40] (.null) := ⟨3, (congrArg (fun z => mj_at z 9) f106).trans rfl, rfl⟩
theorem d106_12 : mj_At 106 12 (.iload_n 3) 13 [3] (.null) := ⟨1, (congrArg (fun z => mj_at z 12) f106).trans rfl, rfl⟩
theorem d106_13 : mj_At 106 13 (.aload_n 0) 14 [0] (.null) := ⟨1, (congrArg (fun z => mj_at z 13) f106).trans rfl, rfl⟩
theorem d106_14 : mj_At 106 14 (.iload_n 1) 15 [1] (.null) := ⟨1, (congrArg (fun z => mj_at z 14) f106).trans rfl, rfl⟩
theorem d106_15 : mj_At 106 15 (.iload 4) 17 [4] (.null) := ⟨2, (congrArg (fun z => mj_at z 15) f106).trans rfl, rfl⟩
theorem d106_17 : mj_At 106 17 (.invokevirtual 59) 20 [1, 104, 3, 4, 622, 624, 29, 69] (.null) := ⟨3, (congrArg (fun z => mj_at z 17) f106).trans rfl, rfl⟩
theorem d106_20 : mj_At 106 20 (.iload_n 2) 21 [2] (.null) := ⟨1, (congrArg (fun z => mj_at z 20) f106).trans rfl, rfl⟩
theorem d106_21 : mj_At 106 21 (.if_icmp .le (10)) 24 [31] (.null) := ⟨3, (congrArg (fun z => mj_at z 21) f106).trans rfl, rfl⟩
theorem d106_24 : mj_At 106 24 (.iconst (1)) 25 [] (.int 1) := ⟨1, (congrArg (fun z => mj_at z 24) f106).trans rfl, rfl⟩
theorem d106_25 : mj_At 106 25 (.iload 4) 27 [4] (.null) := ⟨2, (congrArg (fun z => mj_at z 25) f106).trans rfl, rfl⟩
theorem d106_27 : mj_At 106 27 (.ishl) 28 [] (.null) := ⟨1, (congrArg (fun z => mj_at z 27) f106).trans rfl, rfl⟩
theorem d106_28 : mj_At 106 28 (.goto (4)) 31 [32] (.null) := ⟨3, (congrArg (fun z => mj_at z 28) f106).trans rfl, rfl⟩
theorem d106_31 : mj_At 106 31 (.iconst (0)) 32 [] (.int 0) := ⟨1, (congrArg (fun z => mj_at z 31) f106).trans rfl, rfl⟩
theorem d106_32 : mj_At 106 32 (.ior) 33 [] (.null) := ⟨1, (congrArg (fun z => mj_at z 32) f106).trans rfl, rfl⟩
theorem d106_33 : mj_At 106 33 (.istore_n 3) 34 [3] (.null) := ⟨1, (congrArg (fun z => mj_at z 33) f106).trans rfl, rfl⟩
theorem d106_34 : mj_At 106 34 (.iinc 4 (1)) 37 [4] (.int 1) := ⟨3, (congrArg (fun z => mj_at z 34) f106).trans rfl, rfl⟩
theorem d106_37 : mj_At 106 37 (.goto (-32)) 40 [5] (.null) := ⟨3, (congrArg (fun z => mj_at z 37) f106).trans rfl, rfl⟩
theorem d106_40 : mj_At 106 40 (.iload_n 3) 41 [3] (.null) := ⟨1, (congrArg (fun z => mj_at z 40) f106).trans rfl, rfl⟩
theorem d106_41 : mj_At 106 41 (.ireturn) 42 [0] (.null) := ⟨1, (congrArg (fun z => mj_at z 41) f106).trans rfl, rfl⟩
theorem e106_0 {c : mj_C} {x1 : Int32} {x2 : Int32} {L : Nat} {ps : List (Option (Option Nat))}   : mj_EV 106 0 [some (.ref 52), some (.int x1), some (.int x2), none, none] [] (w_al L ps) c = mj_EV 106 5 [some (.ref 52), some (.int x1), some (.int x2), some (.int (nI 0)), some (.int (nI 0))] [] (w_al L ps) c := (mj_iconst d106_0 (mj_istore_n [some (.ref 52), some (.int x1), some (.int x2), some (.int (nI 0)), none] d106_1 rfl rfl (mj_iconst d106_2 (mj_istore [some (.ref 52), some (.int x1), some (.int x2), some (.int (nI 0)), some (.int (nI 0))] d106_3 rfl rfl rfl))))
theorem e106_5 {c : mj_C} {x1 : Int32} {x2 : Int32} {x3 : Int32} {x4 : Int32} {L : Nat} {ps : List (Option (Option Nat))}   : mj_EV 106 5 [some (.ref 52), some (.int x1), some (.int x2), some (.int x3), some (.int x4)] [] (w_al L ps) c = (if (nI 8) ≤ x4 then (some (some (.int x3), (w_al L ps), c)) else (mj_then 106 20 [some (.ref 52), some (.int x1), some (.int x2), some (.int x3), some (.int x4)] [.int x3] (mj_EV 104 0 [some (.ref 52), some (.int x1), some (.int x4)] [] (w_al L ps) c))) := (mj_iload d106_5 rfl (mj_bipush d106_7 (mj_icge d106_9 (mj_iload_n d106_40 rfl (mj_iret d106_41)) (mj_iload_n d106_12 rfl (mj_aload_n d106_13 rfl (mj_iload_n d106_14 rfl (mj_iload d106_15 rfl (mj_invV [some (.ref 52), some (.int x1), some (.int x4)] [.int x3] d106_17 rfl rfl rfl w_52 rfl rfl))))))))
theorem e106_20 {c : mj_C} {x1 : Int32} {x2 : Int32} {x3 : Int32} {x4 : Int32} {z0 : Int32} {z1 : Int32} {L : Nat} {ps : List (Option (Option Nat))}   : mj_EV 106 20 [some (.ref 52), some (.int x1), some (.int x2), some (.int x3), some (.int x4)] [.int z1, .int z0] (w_al L ps) c = (if z1 ≤ x2 then mj_EV 106 5 [some (.ref 52), some (.int x1), some (.int x2), some (.int (z0 ||| (nI 0))), some (.int (x4 + (nI 1)))] [] (w_al L ps) c else mj_EV 106 5 [some (.ref 52), some (.int x1), some (.int x2), some (.int (z0 ||| ((nI 1) <<< (x4 &&& 31)))), some (.int (x4 + (nI 1)))] [] (w_al L ps) c) := (mj_iload_n d106_20 rfl (mj_icle d106_21 (mj_iconst d106_31 (mj_ior d106_32 (mj_istore_n [some (.ref 52), some (.int x1), some (.int x2), some (.int (z0 ||| (nI 0))), some (.int x4)] d106_33 rfl rfl (mj_iinc [some (.ref 52), some (.int x1), some (.int x2), some (.int (z0 ||| (nI 0))), some (.int (x4 + (nI 1)))] d106_34 rfl rfl rfl (mj_goto d106_37 rfl))))) (mj_iconst d106_24 (mj_iload d106_25 rfl (mj_ishl d106_27 (mj_goto d106_28 (mj_ior d106_32 (mj_istore_n [some (.ref 52), some (.int x1), some (.int x2), some (.int (z0 ||| ((nI 1) <<< (x4 &&& 31)))), some (.int x4)] d106_33 rfl rfl (mj_iinc [some (.ref 52), some (.int x1), some (.int x2), some (.int (z0 ||| ((nI 1) <<< (x4 &&& 31)))), some (.int (x4 + (nI 1)))] d106_34 rfl rfl rfl (mj_goto d106_37 rfl))))))))))
/-- SqueezedLinesModel.beside(I)I -/
theorem f107 : mj_cd 107 = mj_c107 := rfl
theorem d107_0 : mj_At 107 0 (.aload_n 0) 1 [0] (.null) := ⟨1, (congrArg (fun z => mj_at z 0) f107).trans rfl, rfl⟩
theorem d107_1 : mj_At 107 1 (.iload_n 1) 2 [1] (.null) := ⟨1, (congrArg (fun z => mj_at z 1) f107).trans rfl, rfl⟩
theorem d107_2 : mj_At 107 2 (.aload_n 0) 3 [0] (.null) := ⟨1, (congrArg (fun z => mj_at z 2) f107).trans rfl, rfl⟩
theorem d107_3 : mj_At 107 3 (.iload_n 1) 4 [1] (.null) := ⟨1, (congrArg (fun z => mj_at z 3) f107).trans rfl, rfl⟩
theorem d107_4 : mj_At 107 4 (.invokevirtual 62) 7 [1, 105, 2, 4, 610, 612, 26, 69] (.null) := ⟨3, (congrArg (fun z => mj_at z 4) f107).trans rfl, rfl⟩
theorem d107_7 : mj_At 107 7 (.invokevirtual 65) 10 [1, 106, 3, 4, 618, 620, 28, 69] (.null) := ⟨3, (congrArg (fun z => mj_at z 7) f107).trans rfl, rfl⟩
theorem d107_10 : mj_At 107 10 (.ireturn) 11 [0] (.null) := ⟨1, (congrArg (fun z => mj_at z 10) f107).trans rfl, rfl⟩
theorem e107_0 {c : mj_C} {x1 : Int32} {L : Nat} {ps : List (Option (Option Nat))}   : mj_EV 107 0 [some (.ref 52), some (.int x1)] [] (w_al L ps) c = (mj_then 107 7 [some (.ref 52), some (.int x1)] [.int x1, .ref 52] (mj_EV 105 0 [some (.ref 52), some (.int x1)] [] (w_al L ps) c)) := (mj_aload_n d107_0 rfl (mj_iload_n d107_1 rfl (mj_aload_n d107_2 rfl (mj_iload_n d107_3 rfl (mj_invV [some (.ref 52), some (.int x1)] [.int x1, .ref 52] d107_4 rfl rfl rfl w_52 rfl rfl)))))
theorem e107_7 {c : mj_C} {x1 : Int32} {z1 : Int32} {z2 : Int32} {L : Nat} {ps : List (Option (Option Nat))}   : mj_EV 107 7 [some (.ref 52), some (.int x1)] [.int z2, .int z1, .ref 52] (w_al L ps) c = (mj_then 107 10 [some (.ref 52), some (.int x1)] [] (mj_EV 106 0 [some (.ref 52), some (.int z1), some (.int z2), none, none] [] (w_al L ps) c)) := (mj_invV [some (.ref 52), some (.int z1), some (.int z2), none, none] [] d107_7 rfl rfl rfl w_52 rfl rfl)
theorem e107_10 {c : mj_C} {x1 : Int32} {z0 : Int32} {L : Nat} {ps : List (Option (Option Nat))}   : mj_EV 107 10 [some (.ref 52), some (.int x1)] [.int z0] (w_al L ps) c = (some (some (.int z0), (w_al L ps), c)) := (mj_iret d107_10)
/-- SqueezedLinesModel.ones(I)I -/
theorem f108 : mj_cd 108 = mj_c108 := rfl
theorem d108_0 : mj_At 108 0 (.iconst (0)) 1 [] (.int 0) := ⟨1, (congrArg (fun z => mj_at z 0) f108).trans rfl, rfl⟩
theorem d108_1 : mj_At 108 1 (.istore_n 1) 2 [1] (.null) := ⟨1, (congrArg (fun z => mj_at z 1) f108).trans rfl, rfl⟩
theorem d108_2 : mj_At 108 2 (.iconst (0)) 3 [] (.int 0) := ⟨1, (congrArg (fun z => mj_at z 2) f108).trans rfl, rfl⟩
theorem d108_3 : mj_At 108 3 (.istore_n 2) 4 [2] (.null) := ⟨1, (congrArg (fun z => mj_at z 3) f108).trans rfl, rfl⟩
theorem d108_4 : mj_At 108 4 (.iload_n 2) 5 [2] (.null) := ⟨1, (congrArg (fun z => mj_at z 4) f108).trans rfl, rfl⟩
theorem d108_5 : mj_At 108 5 (.bipush (8)) 7 [] (.int 8) := ⟨2, (congrArg (fun z => mj_at z 5) f108).trans rfl, rfl⟩
theorem d108_7 : mj_At 108 7 (.if_icmp .ge (17)) 10 [24] (.null) := ⟨3, (congrArg (fun z => mj_at z 7) f108).trans rfl, rfl⟩
theorem d108_10 : mj_At 108 10 (.iload_n 1) 11 [1] (.null) := ⟨1, (congrArg (fun z => mj_at z 10) f108).trans rfl, rfl⟩
theorem d108_11 : mj_At 108 11 (.iload_n 0) 12 [0] (.null) := ⟨1, (congrArg (fun z => mj_at z 11) f108).trans rfl, rfl⟩
theorem d108_12 : mj_At 108 12 (.iload_n 2) 13 [2] (.null) := ⟨1, (congrArg (fun z => mj_at z 12) f108).trans rfl, rfl⟩
theorem d108_13 : mj_At 108 13 (.ishr) 14 [] (.null) := ⟨1, (congrArg (fun z => mj_at z 13) f108).trans rfl, rfl⟩
theorem d108_14 : mj_At 108 14 (.iconst (1)) 15 [] (.int 1) := ⟨1, (congrArg (fun z => mj_at z 14) f108).trans rfl, rfl⟩
theorem d108_15 : mj_At 108 15 (.iand) 16 [] (.null) := ⟨1, (congrArg (fun z => mj_at z 15) f108).trans rfl, rfl⟩
theorem d108_16 : mj_At 108 16 (.iadd) 17 [] (.null) := ⟨1, (congrArg (fun z => mj_at z 16) f108).trans rfl, rfl⟩
theorem d108_17 : mj_At 108 17 (.istore_n 1) 18 [1] (.null) := ⟨1, (congrArg (fun z => mj_at z 17) f108).trans rfl, rfl⟩
theorem d108_18 : mj_At 108 18 (.iinc 2 (1)) 21 [2] (.int 1) := ⟨3, (congrArg (fun z => mj_at z 18) f108).trans rfl, rfl⟩
theorem d108_21 : mj_At 108 21 (.goto (-17)) 24 [4] (.null) := ⟨3, (congrArg (fun z => mj_at z 21) f108).trans rfl, rfl⟩
theorem d108_24 : mj_At 108 24 (.iload_n 1) 25 [1] (.null) := ⟨1, (congrArg (fun z => mj_at z 24) f108).trans rfl, rfl⟩
theorem d108_25 : mj_At 108 25 (.ireturn) 26 [0] (.null) := ⟨1, (congrArg (fun z => mj_at z 25) f108).trans rfl, rfl⟩
theorem e108_0 {c : mj_C} {x0 : Int32} {L : Nat} {ps : List (Option (Option Nat))}   : mj_EV 108 0 [some (.int x0), none, none] [] (w_al L ps) c = mj_EV 108 4 [some (.int x0), some (.int (nI 0)), some (.int (nI 0))] [] (w_al L ps) c := (mj_iconst d108_0 (mj_istore_n [some (.int x0), some (.int (nI 0)), none] d108_1 rfl rfl (mj_iconst d108_2 (mj_istore_n [some (.int x0), some (.int (nI 0)), some (.int (nI 0))] d108_3 rfl rfl rfl))))
theorem e108_4 {c : mj_C} {x0 : Int32} {x1 : Int32} {x2 : Int32} {L : Nat} {ps : List (Option (Option Nat))}   : mj_EV 108 4 [some (.int x0), some (.int x1), some (.int x2)] [] (w_al L ps) c = (if (nI 8) ≤ x2 then (some (some (.int x1), (w_al L ps), c)) else mj_EV 108 4 [some (.int x0), some (.int (x1 + ((x0 >>> (x2 &&& 31)) &&& (nI 1)))), some (.int (x2 + (nI 1)))] [] (w_al L ps) c) := (mj_iload_n d108_4 rfl (mj_bipush d108_5 (mj_icge d108_7 (mj_iload_n d108_24 rfl (mj_iret d108_25)) (mj_iload_n d108_10 rfl (mj_iload_n d108_11 rfl (mj_iload_n d108_12 rfl (mj_ishr d108_13 (mj_iconst d108_14 (mj_iand d108_15 (mj_iadd d108_16 (mj_istore_n [some (.int x0), some (.int (x1 + ((x0 >>> (x2 &&& 31)) &&& (nI 1)))), some (.int x2)] d108_17 rfl rfl (mj_iinc [some (.int x0), some (.int (x1 + ((x0 >>> (x2 &&& 31)) &&& (nI 1)))), some (.int (x2 + (nI 1)))] d108_18 rfl rfl rfl (mj_goto d108_21 rfl)))))))))))))
/-- SqueezedLinesModel.sizeWith(II)I -/
theorem f109 : mj_cd 109 = mj_c109 := rfl
theorem d109_0 : mj_At 109 0 (.iconst (1)) 1 [] (.int 1) := ⟨1, (congrArg (fun z => mj_at z 0) f109).trans rfl, rfl⟩
theorem d109_1 : mj_At 109 1 (.bipush (8)) 3 [] (.int 8) := ⟨2, (congrArg (fun z => mj_at z 1) f109).trans rfl, rfl⟩
theorem d109_3 : mj_At 109 3 (.iload_n 2) 4 [2] (.null) := ⟨1, (congrArg (fun z => mj_at z 3) f109).trans rfl, rfl⟩
theorem d109_4 : mj_At 109 4 (.imul) 5 [] (.null) := ⟨1, (congrArg (fun z => mj_at z 4) f109).trans rfl, rfl⟩
theorem d109_5 : mj_At 109 5 (.iadd) 6 [] (.null) := ⟨1, (congrArg (fun z => mj_at z 5) f109).trans rfl, rfl⟩
theorem d109_6 : mj_At 109 6 (.bipush (8)) 8 [] (.int 8) := ⟨2, (congrArg (fun z => mj_at z 6) f109).trans rfl, rfl⟩
theorem d109_8 : mj_At 109 8 (.aload_n 0) 9 [0] (.null) := ⟨1, (congrArg (fun z => mj_at z 8) f109).trans rfl, rfl⟩
theorem d109_9 : mj_At 109 9 (.iload_n 1) 10 [1] (.null) := ⟨1, (congrArg (fun z => mj_at z 9) f109).trans rfl, rfl⟩
theorem d109_10 : mj_At 109 10 (.iload_n 2) 11 [2] (.null) := ⟨1, (congrArg (fun z => mj_at z 10) f109).trans rfl, rfl⟩
theorem d109_11 : mj_At 109 11 (.invokevirtual 65) 14 [1, 106, 3, 4, 618, 620, 28, 69] (.null) := ⟨3, (congrArg (fun z => mj_at z 11) f109).trans rfl, rfl⟩
theorem d109_14 : mj_At 109 14 (.invokestatic 68) 17 [0, 108, 1, 649, 650, 69] (.null) := ⟨3, (congrArg (fun z => mj_at z 14) f109).trans rfl, rfl⟩
theorem d109_17 : mj_At 109 17 (.imul) 18 [] (.null) := ⟨1, (congrArg (fun z => mj_at z 17) f109).trans rfl, rfl⟩
theorem d109_18 : mj_At 109 18 (.iadd) 19 [] (.null) := ⟨1, (congrArg (fun z => mj_at z 18) f109).trans rfl, rfl⟩
theorem d109_19 : mj_At 109 19 (.ireturn) 20 [0] (.null) := ⟨1, (congrArg (fun z => mj_at z 19) f109).trans rfl, rfl⟩
theorem e109_0 {c : mj_C} {x1 : Int32} {x2 : Int32} {L : Nat} {ps : List (Option (Option Nat))}   : mj_EV 109 0 [some (.ref 52), some (.int x1), some (.int x2)] [] (w_al L ps) c = (mj_then 109 14 [some (.ref 52), some (.int x1), some (.int x2)] [.int (nI 8), .int ((nI 1) + ((nI 8) * x2))] (mj_EV 106 0 [some (.ref 52), some (.int x1), some (.int x2), none, none] [] (w_al L ps) c)) := (mj_iconst d109_0 (mj_bipush d109_1 (mj_iload_n d109_3 rfl (mj_imul d109_4 (mj_iadd d109_5 (mj_bipush d109_6 (mj_aload_n d109_8 rfl (mj_iload_n d109_9 rfl (mj_iload_n d109_10 rfl (mj_invV [some (.ref 52), some (.int x1), some (.int x2), none, none] [.int (nI 8), .int ((nI 1) + ((nI 8) * x2))] d109_11 rfl rfl rfl w_52 rfl rfl))))))))))
theorem e109_14 {c : mj_C} {x1 : Int32} {x2 : Int32} {z0 : Int32} {z1 : Int32} {z2 : Int32} {L : Nat} {ps : List (Option (Option Nat))}   : mj_EV 109 14 [some (.ref 52), some (.int x1), some (.int x2)] [.int z2, .int z1, .int z0] (w_al L ps) c = (mj_then 109 17 [some (.ref 52), some (.int x1), some (.int x2)] [.int z1, .int z0] (mj_EV 108 0 [some (.int z2), none, none] [] (w_al L ps) c)) := (mj_invS [some (.int z2), none, none] [.int z1, .int z0] d109_14 (by decide) rfl rfl rfl rfl)
theorem e109_17 {c : mj_C} {x1 : Int32} {x2 : Int32} {z0 : Int32} {z1 : Int32} {z2 : Int32} {L : Nat} {ps : List (Option (Option Nat))}   : mj_EV 109 17 [some (.ref 52), some (.int x1), some (.int x2)] [.int z2, .int z1, .int z0] (w_al L ps) c = (some (some (.int (z0 + (z1 * z2))), (w_al L ps), c)) := (mj_imul d109_17 (mj_iadd d109_18 (mj_iret d109_19)))
/-- SqueezedLinesModel.pageSize(I)I -/
theorem f110 : mj_cd 110 = mj_c110 := rfl
theorem d110_0 : mj_At 110 0 (.aload_n 0) 1 [0] (.null) := ⟨1, (congrArg (fun z => mj_at z 0) f110).trans rfl, rfl⟩
theorem d110_1 : mj_At 110 1 (.iload_n 1) 2 [1] (.null) := ⟨1, (congrArg (fun z => mj_at z 1) f110).trans rfl, rfl⟩
theorem d110_2 : mj_At 110 2 (.aload_n 0) 3 [0] (.null) := ⟨1, (congrArg (fun z => mj_at z 2) f110).trans rfl, rfl⟩
theorem d110_3 : mj_At 110 3 (.iload_n 1) 4 [1] (.null) := ⟨1, (congrArg (fun z => mj_at z 3) f110).trans rfl, rfl⟩
theorem d110_4 : mj_At 110 4 (.invokevirtual 62) 7 [1, 105, 2, 4, 610, 612, 26, 69] (.null) := ⟨3, (congrArg (fun z => mj_at z 4) f110).trans rfl, rfl⟩
theorem d110_7 : mj_At 110 7 (.invokevirtual 71) 10 [1, 109, 3, 4, 614, 616, 27, 69] (.null) := ⟨3, (congrArg (fun z => mj_at z 7) f110).trans rfl, rfl⟩
theorem d110_10 : mj_At 110 10 (.ireturn) 11 [0] (.null) := ⟨1, (congrArg (fun z => mj_at z 10) f110).trans rfl, rfl⟩
theorem e110_0 {c : mj_C} {x1 : Int32} {L : Nat} {ps : List (Option (Option Nat))}   : mj_EV 110 0 [some (.ref 52), some (.int x1)] [] (w_al L ps) c = (mj_then 110 7 [some (.ref 52), some (.int x1)] [.int x1, .ref 52] (mj_EV 105 0 [some (.ref 52), some (.int x1)] [] (w_al L ps) c)) := (mj_aload_n d110_0 rfl (mj_iload_n d110_1 rfl (mj_aload_n d110_2 rfl (mj_iload_n d110_3 rfl (mj_invV [some (.ref 52), some (.int x1)] [.int x1, .ref 52] d110_4 rfl rfl rfl w_52 rfl rfl)))))
theorem e110_7 {c : mj_C} {x1 : Int32} {z1 : Int32} {z2 : Int32} {L : Nat} {ps : List (Option (Option Nat))}   : mj_EV 110 7 [some (.ref 52), some (.int x1)] [.int z2, .int z1, .ref 52] (w_al L ps) c = (mj_then 110 10 [some (.ref 52), some (.int x1)] [] (mj_EV 109 0 [some (.ref 52), some (.int z1), some (.int z2)] [] (w_al L ps) c)) := (mj_invV [some (.ref 52), some (.int z1), some (.int z2)] [] d110_7 rfl rfl rfl w_52 rfl rfl)
theorem e110_10 {c : mj_C} {x1 : Int32} {z0 : Int32} {L : Nat} {ps : List (Option (Option Nat))}   : mj_EV 110 10 [some (.ref 52), some (.int x1)] [.int z0] (w_al L ps) c = (some (some (.int z0), (w_al L ps), c)) := (mj_iret d110_10)
/-- SqueezedLinesModel.best(I)I -/
theorem f111 : mj_cd 111 = mj_c111 := rfl
theorem d111_0 : mj_At 111 0 (.bipush (-6)) 2 [] (.int (-6)) := ⟨2, (congrArg (fun z => mj_at z 0) f111).trans rfl, rfl⟩
theorem d111_2 : mj_At 111 2 (.istore_n 2) 3 [2] (.null) := ⟨1, (congrArg (fun z => mj_at z 2) f111).trans rfl, rfl⟩
theorem d111_3 : mj_At 111 3 (.iconst (0)) 4 [] (.int 0) := ⟨1, (congrArg (fun z => mj_at z 3) f111).trans rfl, rfl⟩
theorem d111_4 : mj_At 111 4 (.istore_n 3) 5 [3] (.null) := ⟨1, (congrArg (fun z => mj_at z 4) f111).trans rfl, rfl⟩
theorem d111_5 : mj_At 111 5 (.iload_n 3) 6 [3] (.null) := ⟨1, (congrArg (fun z => mj_at z 5) f111).trans rfl, rfl⟩
theorem d111_6 : mj_At 111 6 (.iconst (4)) 7 [] (.int 4) := ⟨1, (congrArg (fun z => mj_at z 6) f111).trans rfl, rfl⟩
theorem d111_7 : mj_At 111 7 (.if_icmp .gt (75)) 10 [82] (.null) := ⟨3, (congrArg (fun z => mj_at z 7) f111).trans rfl, rfl⟩
theorem d111_10 : mj_At 111 10 (.iload_n 3) 11 [3] (.null) := ⟨1, (congrArg (fun z => mj_at z 10) f111).trans rfl, rfl⟩
theorem d111_11 : mj_At 111 11 (.invokestatic 55) 14 [0, 103, 1, 646, 647, 69] (.null) := ⟨3, (congrArg (fun z => mj_at z 11) f111).trans rfl, rfl⟩
theorem d111_14 : mj_At 111 14 (.istore 4) 16 [4] (.null) := ⟨2, (congrArg (fun z => mj_at z 14) f111).trans rfl, rfl⟩
theorem d111_16 : mj_At 111 16 (.aload_n 0) 17 [0] (.null) := ⟨1, (congrArg (fun z => mj_at z 16) f111).trans rfl, rfl⟩
theorem d111_17 : mj_At 111 17 (.iload_n 1) 18 [1] (.null) := ⟨1, (congrArg (fun z => mj_at z 17) f111).trans rfl, rfl⟩
theorem d111_18 : mj_At 111 18 (.iload 4) 20 [4] (.null) := ⟨2, (congrArg (fun z => mj_at z 18) f111).trans rfl, rfl⟩
theorem d111_20 : mj_At 111 20 (.invokevirtual 65) 23 [1, 106, 3, 4, 618, 620, 28, 69] (.null) := ⟨3, (congrArg (fun z => mj_at z 20) f111).trans rfl, rfl⟩
theorem d111_23 : mj_At 111 23 (.invokestatic 68) 26 [0, 108, 1, 649, 650, 69] (.null) := ⟨3, (congrArg (fun z => mj_at z 23) f111).trans rfl, rfl⟩
theorem d111_26 : mj_At 111 26 (.aload_n 0) 27 [0] (.null) := ⟨1, (congrArg (fun z => mj_at z 26) f111).trans rfl, rfl⟩
theorem d111_27 : mj_At 111 27 (.getfield 7) 30 [4, 0, 557] (.null) := ⟨3, (congrArg (fun z => mj_at z 27) f111).trans rfl, rfl⟩
theorem d111_30 : mj_At 111 30 (.iconst (0)) 31 [] (.int 0) := ⟨1, (congrArg (fun z => mj_at z 30) f111).trans rfl, rfl⟩
theorem d111_31 : mj_At 111 31 (.iaload) 32 [] (.null) := ⟨1, (congrArg (fun z => mj_at z 31) f111).trans rfl, rfl⟩
theorem d111_32 : mj_At 111 32 (.if_icmp .gt (7)) 35 [39] (.null) := ⟨3, (congrArg (fun z => mj_at z 32) f111).trans rfl, rfl⟩
theorem d111_35 : mj_At 111 35 (.iconst (1)) 36 [] (.int 1) := ⟨1, (congrArg (fun z => mj_at z 35) f111).trans rfl, rfl⟩
theorem d111_36 : mj_At 111 36 (.goto (4)) 39 [40] (.null) := ⟨3, (congrArg (fun z => mj_at z 36) f111).trans rfl, rfl⟩
theorem d111_39 : mj_At 111 39 (.iconst (0)) 40 [] (.int 0) := ⟨1, (congrArg (fun z => mj_at z 39) f111).trans rfl, rfl⟩
theorem d111_40 : mj_At 111 40 (.istore 5) 42 [5] (.null) := ⟨2, (congrArg (fun z => mj_at z 40) f111).trans rfl, rfl⟩
theorem d111_42 : mj_At 111 42 (.iload 5) 44 [5] (.null) := ⟨2, (congrArg (fun z => mj_at z 42) f111).trans rfl, rfl⟩
theorem d111_44 : mj_At 111 44 (.ifCond .eq (30)) 47 [74] (.null) := ⟨3, (congrArg (fun z => mj_at z 44) f111).trans rfl, rfl⟩
theorem d111_47 : mj_At 111 47 (.iload_n 2) 48 [2] (.null) := ⟨1, (congrArg (fun z => mj_at z 47) f111).trans rfl, rfl⟩
theorem d111_48 : mj_At 111 48 (.bipush (-6)) 50 [] (.int (-6)) := ⟨2, (congrArg (fun z => mj_at z 48) f111).trans rfl, rfl⟩
theorem d111_50 : mj_At 111 50 (.if_icmp .eq (19)) 53 [69] (.null) := ⟨3, (congrArg (fun z => mj_at z 50) f111).trans rfl, rfl⟩
theorem d111_53 : mj_At 111 53 (.aload_n 0) 54 [0] (.null) := ⟨1, (congrArg (fun z => mj_at z 53) f111).trans rfl, rfl⟩
theorem d111_54 : mj_At 111 54 (.iload_n 1) 55 [1] (.null) := ⟨1, (congrArg (fun z => mj_at z 54) f111).trans rfl, rfl⟩
theorem d111_55 : mj_At 111 55 (.iload 4) 57 [4] (.null) := ⟨2, (congrArg (fun z => mj_at z 55) f111).trans rfl, rfl⟩
theorem d111_57 : mj_At 111 57 (.invokevirtual 71) 60 [1, 109, 3, 4, 614, 616, 27, 69] (.null) := ⟨3, (congrArg (fun z => mj_at z 57) f111).trans rfl, rfl⟩
theorem d111_60 : mj_At 111 60 (.aload_n 0) 61 [0] (.null) := ⟨1, (congrArg (fun z => mj_at z 60) f111).trans rfl, rfl⟩
theorem d111_61 : mj_At 111 61 (.iload_n 1) 62 [1] (.null) := ⟨1, (congrArg (fun z => mj_at z 61) f111).trans rfl, rfl⟩
theorem d111_62 : mj_At 111 62 (.iload_n 2) 63 [2] (.null) := ⟨1, (congrArg (fun z => mj_at z 62) f111).trans rfl, rfl⟩
theorem d111_63 : mj_At 111 63 (.invokevirtual 71) 66 [1, 109, 3, 4, 614, 616, 27, 69] (.null) := ⟨3, (congrArg (fun z => mj_at z 63) f111).trans rfl, rfl⟩
theorem d111_66 : mj_At 111 66 (.if_icmp .ge (8)) 69 [74] (.null) := ⟨3, (congrArg (fun z => mj_at z 66) f111).trans rfl, rfl⟩
theorem d111_69 : mj_At 111 69 (.iload 4) 71 [4] (.null) := ⟨2, (congrArg (fun z => mj_at z 69) f111).trans rfl, rfl⟩
theorem d111_71 : mj_At 111 71 (.goto (4)) 74 [75] (.null) := ⟨3, (congrArg (fun z => mj_at z 71) f111).trans rfl, rfl⟩
theorem d111_74 : mj_At 111 74 (.iload_n 2) 75 [2] (.null) := ⟨1, (congrArg (fun z => mj_at z 74) f111).trans rfl, rfl⟩
theorem d111_75 : mj_At 111 75 (.istore_n 2) 76 [2] (.null) := ⟨1, (congrArg (fun z => mj_at z 75) f111).trans rfl, rfl⟩
theorem d111_76 : mj_At 111 76 (.iinc 3 (1)) 79 [3] (.int 1) := ⟨3, (congrArg (fun z => mj_at z 76) f111).trans rfl, rfl⟩
theorem d111_79 : mj_At 111 79 (.goto (-74)) 82 [5] (.null) := ⟨3, (congrArg (fun z => mj_at z 79) f111).trans rfl, rfl⟩
theorem d111_82 : mj_At 111 82 (.iload_n 2) 83 [2] (.null) := ⟨1, (congrArg (fun z => mj_at z 82) f111).trans rfl, rfl⟩
theorem d111_83 : mj_At 111 83 (.ireturn) 84 [0] (.null) := ⟨1, (congrArg (fun z => mj_at z 83) f111).trans rfl, rfl⟩
theorem e111_0 {c : mj_C} {x1 : Int32} {L : Nat} {ps : List (Option (Option Nat))}   : mj_EV 111 0 [some (.ref 52), some (.int x1), none, none, none, none] [] (w_al L ps) c = mj_EV 111 5 [some (.ref 52), some (.int x1), some (.int (-6)), some (.int (nI 0)), none, none] [] (w_al L ps) c := (mj_bipush d111_0 (mj_istore_n [some (.ref 52), some (.int x1), some (.int (-6)), none, none, none] d111_2 rfl rfl (mj_iconst d111_3 (mj_istore_n [some (.ref 52), some (.int x1), some (.int (-6)), some (.int (nI 0)), none, none] d111_4 rfl rfl rfl))))
theorem e111_5 {c : mj_C} {x1 : Int32} {x2 : Int32} {x3 : Int32} {o4 : Option Value} {o5 : Option Value} {L : Nat} {ps : List (Option (Option Nat))}   : mj_EV 111 5 [some (.ref 52), some (.int x1), some (.int x2), some (.int x3), o4, o5] [] (w_al L ps) c = (if (nI 4) < x3 then (some (some (.int x2), (w_al L ps), c)) else (mj_then 111 14 [some (.ref 52), some (.int x1), some (.int x2), some (.int x3), o4, o5] [] (mj_EV 103 0 [some (.int x3)] [] (w_al L ps) c))) := (mj_iload_n d111_5 rfl (mj_iconst d111_6 (mj_icgt d111_7 (mj_iload_n d111_82 rfl (mj_iret d111_83)) (mj_iload_n d111_10 rfl (mj_invS [some (.int x3)] [] d111_11 (by decide) rfl rfl rfl rfl)))))
theorem e111_14 {c : mj_C} {x1 : Int32} {x2 : Int32} {x3 : Int32} {o4 : Option Value} {o5 : Option Value} {z0 : Int32} {L : Nat} {ps : List (Option (Option Nat))}   : mj_EV 111 14 [some (.ref 52), some (.int x1), some (.int x2), some (.int x3), o4, o5] [.int z0] (w_al L ps) c = (mj_then 111 23 [some (.ref 52), some (.int x1), some (.int x2), some (.int x3), some (.int z0), o5] [] (mj_EV 106 0 [some (.ref 52), some (.int x1), some (.int z0), none, none] [] (w_al L ps) c)) := (mj_istore [some (.ref 52), some (.int x1), some (.int x2), some (.int x3), some (.int z0), o5] d111_14 rfl rfl (mj_aload_n d111_16 rfl (mj_iload_n d111_17 rfl (mj_iload d111_18 rfl (mj_invV [some (.ref 52), some (.int x1), some (.int z0), none, none] [] d111_20 rfl rfl rfl w_52 rfl rfl)))))
theorem e111_23 {c : mj_C} {x1 : Int32} {x2 : Int32} {x3 : Int32} {x4 : Int32} {o5 : Option Value} {z0 : Int32} {L : Nat} {ps : List (Option (Option Nat))}   : mj_EV 111 23 [some (.ref 52), some (.int x1), some (.int x2), some (.int x3), some (.int x4), o5] [.int z0] (w_al L ps) c = (mj_then 111 26 [some (.ref 52), some (.int x1), some (.int x2), some (.int x3), some (.int x4), o5] [] (mj_EV 108 0 [some (.int z0), none, none] [] (w_al L ps) c)) := (mj_invS [some (.int z0), none, none] [] d111_23 (by decide) rfl rfl rfl rfl)
theorem e111_26 {c : mj_C} {x1 : Int32} {x2 : Int32} {x3 : Int32} {x4 : Int32} {o5 : Option Value} {z0 : Int32} {L : Nat} {ps : List (Option (Option Nat))}   : mj_EV 111 26 [some (.ref 52), some (.int x1), some (.int x2), some (.int x3), some (.int x4), o5] [.int z0] (w_al L ps) c = (if mj_in (nI 0) 674 = true then (if (c 53 (nI 0).toNatClampNeg) < z0 then mj_EV 111 40 [some (.ref 52), some (.int x1), some (.int x2), some (.int x3), some (.int x4), o5] [.int (nI 0)] (w_al L ps) c else mj_EV 111 40 [some (.ref 52), some (.int x1), some (.int x2), some (.int x3), some (.int x4), o5] [.int (nI 1)] (w_al L ps) c) else none) := (mj_aload_n d111_26 rfl (mj_getR d111_27 w_52 rfl (mj_iconst d111_30 (mj_iald d111_31 w_53 (mj_icgt d111_32 (mj_iconst d111_39 rfl) (mj_iconst d111_35 (mj_goto d111_36 rfl)))))))
theorem e111_40 {c : mj_C} {x1 : Int32} {x2 : Int32} {x3 : Int32} {x4 : Int32} {o5 : Option Value} {z0 : Int32} {L : Nat} {ps : List (Option (Option Nat))}   : mj_EV 111 40 [some (.ref 52), some (.int x1), some (.int x2), some (.int x3), some (.int x4), o5] [.int z0] (w_al L ps) c = (if z0 = nI 0 then mj_EV 111 5 [some (.ref 52), some (.int x1), some (.int x2), some (.int (x3 + (nI 1))), some (.int x4), some (.int z0)] [] (w_al L ps) c else (if x2 = (-6) then mj_EV 111 5 [some (.ref 52), some (.int x1), some (.int x4), some (.int (x3 + (nI 1))), some (.int x4), some (.int z0)] [] (w_al L ps) c else (mj_then 111 60 [some (.ref 52), some (.int x1), some (.int x2), some (.int x3), some (.int x4), some (.int z0)] [] (mj_EV 109 0 [some (.ref 52), some (.int x1), some (.int x4)] [] (w_al L ps) c)))) := (mj_istore [some (.ref 52), some (.int x1), some (.int x2), some (.int x3), some (.int x4), some (.int z0)] d111_40 rfl rfl (mj_iload d111_42 rfl (mj_ifeq d111_44 (mj_iload_n d111_74 rfl (mj_istore_n [some (.ref 52), some (.int x1), some (.int x2), some (.int x3), some (.int x4), some (.int z0)] d111_75 rfl rfl (mj_iinc [some (.ref 52), some (.int x1), some (.int x2), some (.int (x3 + (nI 1))), some (.int x4), some (.int z0)] d111_76 rfl rfl rfl (mj_goto d111_79 rfl)))) (mj_iload_n d111_47 rfl (mj_bipush d111_48 (mj_iceq d111_50 (mj_iload d111_69 rfl (mj_goto d111_71 (mj_istore_n [some (.ref 52), some (.int x1), some (.int x4), some (.int x3), some (.int x4), some (.int z0)] d111_75 rfl rfl (mj_iinc [some (.ref 52), some (.int x1), some (.int x4), some (.int (x3 + (nI 1))), some (.int x4), some (.int z0)] d111_76 rfl rfl rfl (mj_goto d111_79 rfl))))) (mj_aload_n d111_53 rfl (mj_iload_n d111_54 rfl (mj_iload d111_55 rfl (mj_invV [some (.ref 52), some (.int x1), some (.int x4)] [] d111_57 rfl rfl rfl w_52 rfl rfl))))))))))
theorem e111_60 {c : mj_C} {x1 : Int32} {x2 : Int32} {x3 : Int32} {x4 : Int32} {x5 : Int32} {z0 : Int32} {L : Nat} {ps : List (Option (Option Nat))}   : mj_EV 111 60 [some (.ref 52), some (.int x1), some (.int x2), some (.int x3), some (.int x4), some (.int x5)] [.int z0] (w_al L ps) c = (mj_then 111 66 [some (.ref 52), some (.int x1), some (.int x2), some (.int x3), some (.int x4), some (.int x5)] [.int z0] (mj_EV 109 0 [some (.ref 52), some (.int x1), some (.int x2)] [] (w_al L ps) c)) := (mj_aload_n d111_60 rfl (mj_iload_n d111_61 rfl (mj_iload_n d111_62 rfl (mj_invV [some (.ref 52), some (.int x1), some (.int x2)] [.int z0] d111_63 rfl rfl rfl w_52 rfl rfl))))
theorem e111_66 {c : mj_C} {x1 : Int32} {x2 : Int32} {x3 : Int32} {x4 : Int32} {x5 : Int32} {z0 : Int32} {z1 : Int32} {L : Nat} {ps : List (Option (Option Nat))}   : mj_EV 111 66 [some (.ref 52), some (.int x1), some (.int x2), some (.int x3), some (.int x4), some (.int x5)] [.int z1, .int z0] (w_al L ps) c = (if z1 ≤ z0 then mj_EV 111 5 [some (.ref 52), some (.int x1), some (.int x2), some (.int (x3 + (nI 1))), some (.int x4), some (.int x5)] [] (w_al L ps) c else mj_EV 111 5 [some (.ref 52), some (.int x1), some (.int x4), some (.int (x3 + (nI 1))), some (.int x4), some (.int x5)] [] (w_al L ps) c) := (mj_icge d111_66 (mj_iload_n d111_74 rfl (mj_istore_n [some (.ref 52), some (.int x1), some (.int x2), some (.int x3), some (.int x4), some (.int x5)] d111_75 rfl rfl (mj_iinc [some (.ref 52), some (.int x1), some (.int x2), some (.int (x3 + (nI 1))), some (.int x4), some (.int x5)] d111_76 rfl rfl rfl (mj_goto d111_79 rfl)))) (mj_iload d111_69 rfl (mj_goto d111_71 (mj_istore_n [some (.ref 52), some (.int x1), some (.int x4), some (.int x3), some (.int x4), some (.int x5)] d111_75 rfl rfl (mj_iinc [some (.ref 52), some (.int x1), some (.int x4), some (.int (x3 + (nI 1))), some (.int x4), some (.int x5)] d111_76 rfl rfl rfl (mj_goto d111_79 rfl))))))
/-- SqueezedLinesModel.lays(I)V -/
theorem f112 : mj_cd 112 = mj_c112 := rfl
theorem d112_0 : mj_At 112 0 (.aload_n 0) 1 [0] (.null) := ⟨1, (congrArg (fun z => mj_at z 0) f112).trans rfl, rfl⟩
theorem d112_1 : mj_At 112 1 (.getfield 7) 4 [4, 0, 557] (.null) := ⟨3, (congrArg (fun z => mj_at z 1) f112).trans rfl, rfl⟩
theorem d112_4 : mj_At 112 4 (.bipush (6)) 6 [] (.int 6) := ⟨2, (congrArg (fun z => mj_at z 4) f112).trans rfl, rfl⟩
theorem d112_6 : mj_At 112 6 (.iconst (2)) 7 [] (.int 2) := ⟨1, (congrArg (fun z => mj_at z 6) f112).trans rfl, rfl⟩
theorem d112_7 : mj_At 112 7 (.iload_n 1) 8 [1] (.null) := ⟨1, (congrArg (fun z => mj_at z 7) f112).trans rfl, rfl⟩
theorem d112_8 : mj_At 112 8 (.imul) 9 [] (.null) := ⟨1, (congrArg (fun z => mj_at z 8) f112).trans rfl, rfl⟩
theorem d112_9 : mj_At 112 9 (.iadd) 10 [] (.null) := ⟨1, (congrArg (fun z => mj_at z 9) f112).trans rfl, rfl⟩
theorem d112_10 : mj_At 112 10 (.iconst (1)) 11 [] (.int 1) := ⟨1, (congrArg (fun z => mj_at z 10) f112).trans rfl, rfl⟩
theorem d112_11 : mj_At 112 11 (.iadd) 12 [] (.null) := ⟨1, (congrArg (fun z => mj_at z 11) f112).trans rfl, rfl⟩
theorem d112_12 : mj_At 112 12 (.aload_n 0) 13 [0] (.null) := ⟨1, (congrArg (fun z => mj_at z 12) f112).trans rfl, rfl⟩
theorem d112_13 : mj_At 112 13 (.iload_n 1) 14 [1] (.null) := ⟨1, (congrArg (fun z => mj_at z 13) f112).trans rfl, rfl⟩
theorem d112_14 : mj_At 112 14 (.invokevirtual 74) 17 [1, 111, 2, 4, 671, 673, 38, 69] (.null) := ⟨3, (congrArg (fun z => mj_at z 14) f112).trans rfl, rfl⟩
theorem d112_17 : mj_At 112 17 (.iastore) 18 [] (.null) := ⟨1, (congrArg (fun z => mj_at z 17) f112).trans rfl, rfl⟩
theorem d112_18 : mj_At 112 18 (.return_) 19 [] (.null) := ⟨1, (congrArg (fun z => mj_at z 18) f112).trans rfl, rfl⟩
theorem e112_0 {c : mj_C} {x1 : Int32} {L : Nat} {ps : List (Option (Option Nat))}   : mj_EV 112 0 [some (.ref 52), some (.int x1)] [] (w_al L ps) c = (mj_then 112 17 [some (.ref 52), some (.int x1)] [.int (((nI 6) + ((nI 2) * x1)) + (nI 1)), .ref 53] (mj_EV 111 0 [some (.ref 52), some (.int x1), none, none, none, none] [] (w_al L ps) c)) := (mj_aload_n d112_0 rfl (mj_getR d112_1 w_52 rfl (mj_bipush d112_4 (mj_iconst d112_6 (mj_iload_n d112_7 rfl (mj_imul d112_8 (mj_iadd d112_9 (mj_iconst d112_10 (mj_iadd d112_11 (mj_aload_n d112_12 rfl (mj_iload_n d112_13 rfl (mj_invV [some (.ref 52), some (.int x1), none, none, none, none] [.int (((nI 6) + ((nI 2) * x1)) + (nI 1)), .ref 53] d112_14 rfl rfl rfl w_52 rfl rfl))))))))))))
theorem e112_17 {c : mj_C} {x1 : Int32} {z1 : Int32} {z2 : Int32} {L : Nat} {ps : List (Option (Option Nat))}   : mj_EV 112 17 [some (.ref 52), some (.int x1)] [.int z2, .int z1, .ref 53] (w_al L ps) c = (if mj_in z1 674 = true then (some (none, (w_al L ps), (mj_u c 53 z1.toNatClampNeg z2))) else none) := (mj_iast d112_17 w_53 (mj_vret d112_18))
/-- SqueezedLinesModel.keeps(I)V -/
theorem f113 : mj_cd 113 = mj_c113 := rfl
theorem d113_0 : mj_At 113 0 (.aload_n 0) 1 [0] (.null) := ⟨1, (congrArg (fun z => mj_at z 0) f113).trans rfl, rfl⟩
theorem d113_1 : mj_At 113 1 (.iload_n 1) 2 [1] (.null) := ⟨1, (congrArg (fun z => mj_at z 1) f113).trans rfl, rfl⟩
theorem d113_2 : mj_At 113 2 (.invokevirtual 77) 5 [1, 107, 2, 4, 663, 665, 36, 69] (.null) := ⟨3, (congrArg (fun z => mj_at z 2) f113).trans rfl, rfl⟩
theorem d113_5 : mj_At 113 5 (.invokestatic 68) 8 [0, 108, 1, 649, 650, 69] (.null) := ⟨3, (congrArg (fun z => mj_at z 5) f113).trans rfl, rfl⟩
theorem d113_8 : mj_At 113 8 (.aload_n 0) 9 [0] (.null) := ⟨1, (congrArg (fun z => mj_at z 8) f113).trans rfl, rfl⟩
theorem d113_9 : mj_At 113 9 (.getfield 7) 12 [4, 0, 557] (.null) := ⟨3, (congrArg (fun z => mj_at z 9) f113).trans rfl, rfl⟩
theorem d113_12 : mj_At 113 12 (.iconst (0)) 13 [] (.int 0) := ⟨1, (congrArg (fun z => mj_at z 12) f113).trans rfl, rfl⟩
theorem d113_13 : mj_At 113 13 (.iaload) 14 [] (.null) := ⟨1, (congrArg (fun z => mj_at z 13) f113).trans rfl, rfl⟩
theorem d113_14 : mj_At 113 14 (.if_icmp .le (18)) 17 [32] (.null) := ⟨3, (congrArg (fun z => mj_at z 14) f113).trans rfl, rfl⟩
theorem d113_17 : mj_At 113 17 (.aload_n 0) 18 [0] (.null) := ⟨1, (congrArg (fun z => mj_at z 17) f113).trans rfl, rfl⟩
theorem d113_18 : mj_At 113 18 (.iload_n 1) 19 [1] (.null) := ⟨1, (congrArg (fun z => mj_at z 18) f113).trans rfl, rfl⟩
theorem d113_19 : mj_At 113 19 (.invokevirtual 80) 22 [1, 112, 2, 4, 667, 669, 37, 69] (.null) := ⟨3, (congrArg (fun z => mj_at z 19) f113).trans rfl, rfl⟩
theorem d113_22 : mj_At 113 22 (.aload_n 0) 23 [0] (.null) := ⟨1, (congrArg (fun z => mj_at z 22) f113).trans rfl, rfl⟩
theorem d113_23 : mj_At 113 23 (.getfield 7) 26 [4, 0, 557] (.null) := ⟨3, (congrArg (fun z => mj_at z 23) f113).trans rfl, rfl⟩
theorem d113_26 : mj_At 113 26 (.iconst (5)) 27 [] (.int 5) := ⟨1, (congrArg (fun z => mj_at z 26) f113).trans rfl, rfl⟩
theorem d113_27 : mj_At 113 27 (.dup2) 28 [] (.null) := ⟨1, (congrArg (fun z => mj_at z 27) f113).trans rfl, rfl⟩
theorem d113_28 : mj_At 113 28 (.iaload) 29 [] (.null) := ⟨1, (congrArg (fun z => mj_at z 28) f113).trans rfl, rfl⟩
theorem d113_29 : mj_At 113 29 (.iconst (1)) 30 [] (.int 1) := ⟨1, (congrArg (fun z => mj_at z 29) f113).trans rfl, rfl⟩
theorem d113_30 : mj_At 113 30 (.iadd) 31 [] (.null) := ⟨1, (congrArg (fun z => mj_at z 30) f113).trans rfl, rfl⟩
theorem d113_31 : mj_At 113 31 (.iastore) 32 [] (.null) := ⟨1, (congrArg (fun z => mj_at z 31) f113).trans rfl, rfl⟩
theorem d113_32 : mj_At 113 32 (.return_) 33 [] (.null) := ⟨1, (congrArg (fun z => mj_at z 32) f113).trans rfl, rfl⟩
theorem e113_0 {c : mj_C} {x1 : Int32} {L : Nat} {ps : List (Option (Option Nat))}   : mj_EV 113 0 [some (.ref 52), some (.int x1)] [] (w_al L ps) c = (mj_then 113 5 [some (.ref 52), some (.int x1)] [] (mj_EV 107 0 [some (.ref 52), some (.int x1)] [] (w_al L ps) c)) := (mj_aload_n d113_0 rfl (mj_iload_n d113_1 rfl (mj_invV [some (.ref 52), some (.int x1)] [] d113_2 rfl rfl rfl w_52 rfl rfl)))
theorem e113_5 {c : mj_C} {x1 : Int32} {z0 : Int32} {L : Nat} {ps : List (Option (Option Nat))}   : mj_EV 113 5 [some (.ref 52), some (.int x1)] [.int z0] (w_al L ps) c = (mj_then 113 8 [some (.ref 52), some (.int x1)] [] (mj_EV 108 0 [some (.int z0), none, none] [] (w_al L ps) c)) := (mj_invS [some (.int z0), none, none] [] d113_5 (by decide) rfl rfl rfl rfl)
theorem e113_8 {c : mj_C} {x1 : Int32} {z0 : Int32} {L : Nat} {ps : List (Option (Option Nat))}   : mj_EV 113 8 [some (.ref 52), some (.int x1)] [.int z0] (w_al L ps) c = (if mj_in (nI 0) 674 = true then (if z0 ≤ (c 53 (nI 0).toNatClampNeg) then (some (none, (w_al L ps), c)) else (mj_then 113 22 [some (.ref 52), some (.int x1)] [] (mj_EV 112 0 [some (.ref 52), some (.int x1)] [] (w_al L ps) c))) else none) := (mj_aload_n d113_8 rfl (mj_getR d113_9 w_52 rfl (mj_iconst d113_12 (mj_iald d113_13 w_53 (mj_icle d113_14 (mj_vret d113_32) (mj_aload_n d113_17 rfl (mj_iload_n d113_18 rfl (mj_invV [some (.ref 52), some (.int x1)] [] d113_19 rfl rfl rfl w_52 rfl rfl))))))))
theorem e113_22 {c : mj_C} {x1 : Int32} {L : Nat} {ps : List (Option (Option Nat))}   : mj_EV 113 22 [some (.ref 52), some (.int x1)] [] (w_al L ps) c = (if mj_in (nI 5) 674 = true then (if mj_in (nI 5) 674 = true then (some (none, (w_al L ps), (mj_u c 53 (nI 5).toNatClampNeg ((c 53 (nI 5).toNatClampNeg) + (nI 1))))) else none) else none) := (mj_aload_n d113_22 rfl (mj_getR d113_23 w_52 rfl (mj_iconst d113_26 (mj_dup2 d113_27 (mj_iald d113_28 w_53 (mj_iconst d113_29 (mj_iadd d113_30 (mj_iast d113_31 w_53 (mj_vret d113_32)))))))))
/-- SqueezedLinesModel.sum()I -/
theorem f114 : mj_cd 114 = mj_c114 := rfl
theorem d114_0 : mj_At 114 0 (.iconst (0)) 1 [] (.int 0) := ⟨1, (congrArg (fun z => mj_at z 0) f114).trans rfl, rfl⟩
theorem d114_1 : mj_At 114 1 (.istore_n 1) 2 [1] (.null) := ⟨1, (congrArg (fun z => mj_at z 1) f114).trans rfl, rfl⟩
theorem d114_2 : mj_At 114 2 (.iconst (0)) 3 [] (.int 0) := ⟨1, (congrArg (fun z => mj_at z 2) f114).trans rfl, rfl⟩
theorem d114_3 : mj_At 114 3 (.istore_n 2) 4 [2] (.null) := ⟨1, (congrArg (fun z => mj_at z 3) f114).trans rfl, rfl⟩
theorem d114_4 : mj_At 114 4 (.iload_n 2) 5 [2] (.null) := ⟨1, (congrArg (fun z => mj_at z 4) f114).trans rfl, rfl⟩
theorem d114_5 : mj_At 114 5 (.bipush (10)) 7 [] (.int 10) := ⟨2, (congrArg (fun z => mj_at z 5) f114).trans rfl, rfl⟩
theorem d114_7 : mj_At 114 7 (.if_icmp .ge (29)) 10 [36] (.null) := ⟨3, (congrArg (fun z => mj_at z 7) f114).trans rfl, rfl⟩
theorem d114_10 : mj_At 114 10 (.iload_n 1) 11 [1] (.null) := ⟨1, (congrArg (fun z => mj_at z 10) f114).trans rfl, rfl⟩
theorem d114_11 : mj_At 114 11 (.aload_n 0) 12 [0] (.null) := ⟨1, (congrArg (fun z => mj_at z 11) f114).trans rfl, rfl⟩
theorem d114_12 : mj_At 114 12 (.iload_n 2) 13 [2] (.null) := ⟨1, (congrArg (fun z => mj_at z 12) f114).trans rfl, rfl⟩
theorem d114_13 : mj_At 114 13 (.invokevirtual 84) 16 [1, 96, 2, 4, 602, 604, 24, 69] (.null) := ⟨3, (congrArg (fun z => mj_at z 13) f114).trans rfl, rfl⟩
theorem d114_16 : mj_At 114 16 (.ifCond .eq (11)) 19 [27] (.null) := ⟨3, (congrArg (fun z => mj_at z 16) f114).trans rfl, rfl⟩
theorem d114_19 : mj_At 114 19 (.aload_n 0) 20 [0] (.null) := ⟨1, (congrArg (fun z => mj_at z 19) f114).trans rfl, rfl⟩
theorem d114_20 : mj_At 114 20 (.iload_n 2) 21 [2] (.null) := ⟨1, (congrArg (fun z => mj_at z 20) f114).trans rfl, rfl⟩
theorem d114_21 : mj_At 114 21 (.invokevirtual 88) 24 [1, 110, 2, 4, 606, 608, 25, 69] (.null) := ⟨3, (congrArg (fun z => mj_at z 21) f114).trans rfl, rfl⟩
theorem d114_24 : mj_At 114 24 (.goto (4)) 27 [28] (.null) := ⟨3, (congrArg (fun z => mj_at z 24) f114).trans rfl, rfl⟩
theorem d114_27 : mj_At 114 27 (.iconst (0)) 28 [] (.int 0) := ⟨1, (congrArg (fun z => mj_at z 27) f114).trans rfl, rfl⟩
theorem d114_28 : mj_At 114 28 (.iadd) 29 [] (.null) := ⟨1, (congrArg (fun z => mj_at z 28) f114).trans rfl, rfl⟩
theorem d114_29 : mj_At 114 29 (.istore_n 1) 30 [1] (.null) := ⟨1, (congrArg (fun z => mj_at z 29) f114).trans rfl, rfl⟩
theorem d114_30 : mj_At 114 30 (.iinc 2 (1)) 33 [2] (.int 1) := ⟨3, (congrArg (fun z => mj_at z 30) f114).trans rfl, rfl⟩
theorem d114_33 : mj_At 114 33 (.goto (-29)) 36 [4] (.null) := ⟨3, (congrArg (fun z => mj_at z 33) f114).trans rfl, rfl⟩
theorem d114_36 : mj_At 114 36 (.iload_n 1) 37 [1] (.null) := ⟨1, (congrArg (fun z => mj_at z 36) f114).trans rfl, rfl⟩
theorem d114_37 : mj_At 114 37 (.ireturn) 38 [0] (.null) := ⟨1, (congrArg (fun z => mj_at z 37) f114).trans rfl, rfl⟩
theorem e114_0 {c : mj_C}  {L : Nat} {ps : List (Option (Option Nat))}   : mj_EV 114 0 [some (.ref 52), none, none] [] (w_al L ps) c = mj_EV 114 4 [some (.ref 52), some (.int (nI 0)), some (.int (nI 0))] [] (w_al L ps) c := (mj_iconst d114_0 (mj_istore_n [some (.ref 52), some (.int (nI 0)), none] d114_1 rfl rfl (mj_iconst d114_2 (mj_istore_n [some (.ref 52), some (.int (nI 0)), some (.int (nI 0))] d114_3 rfl rfl rfl))))
theorem e114_4 {c : mj_C} {x1 : Int32} {x2 : Int32} {L : Nat} {ps : List (Option (Option Nat))}   : mj_EV 114 4 [some (.ref 52), some (.int x1), some (.int x2)] [] (w_al L ps) c = (if (nI 10) ≤ x2 then (some (some (.int x1), (w_al L ps), c)) else (mj_then 114 16 [some (.ref 52), some (.int x1), some (.int x2)] [.int x1] (mj_EV 96 0 [some (.ref 52), some (.int x2)] [] (w_al L ps) c))) := (mj_iload_n d114_4 rfl (mj_bipush d114_5 (mj_icge d114_7 (mj_iload_n d114_36 rfl (mj_iret d114_37)) (mj_iload_n d114_10 rfl (mj_aload_n d114_11 rfl (mj_iload_n d114_12 rfl (mj_invV [some (.ref 52), some (.int x2)] [.int x1] d114_13 rfl rfl rfl w_52 rfl rfl)))))))
theorem e114_16 {c : mj_C} {x1 : Int32} {x2 : Int32} {z0 : Int32} {z1 : Int32} {L : Nat} {ps : List (Option (Option Nat))}   : mj_EV 114 16 [some (.ref 52), some (.int x1), some (.int x2)] [.int z1, .int z0] (w_al L ps) c = (if z1 = nI 0 then mj_EV 114 4 [some (.ref 52), some (.int (z0 + (nI 0))), some (.int (x2 + (nI 1)))] [] (w_al L ps) c else (mj_then 114 24 [some (.ref 52), some (.int x1), some (.int x2)] [.int z0] (mj_EV 110 0 [some (.ref 52), some (.int x2)] [] (w_al L ps) c))) := (mj_ifeq d114_16 (mj_iconst d114_27 (mj_iadd d114_28 (mj_istore_n [some (.ref 52), some (.int (z0 + (nI 0))), some (.int x2)] d114_29 rfl rfl (mj_iinc [some (.ref 52), some (.int (z0 + (nI 0))), some (.int (x2 + (nI 1)))] d114_30 rfl rfl rfl (mj_goto d114_33 rfl))))) (mj_aload_n d114_19 rfl (mj_iload_n d114_20 rfl (mj_invV [some (.ref 52), some (.int x2)] [.int z0] d114_21 rfl rfl rfl w_52 rfl rfl))))
theorem e114_24 {c : mj_C} {x1 : Int32} {x2 : Int32} {z0 : Int32} {z1 : Int32} {L : Nat} {ps : List (Option (Option Nat))}   : mj_EV 114 24 [some (.ref 52), some (.int x1), some (.int x2)] [.int z1, .int z0] (w_al L ps) c = mj_EV 114 4 [some (.ref 52), some (.int (z0 + z1)), some (.int (x2 + (nI 1)))] [] (w_al L ps) c := (mj_goto d114_24 (mj_iadd d114_28 (mj_istore_n [some (.ref 52), some (.int (z0 + z1)), some (.int x2)] d114_29 rfl rfl (mj_iinc [some (.ref 52), some (.int (z0 + z1)), some (.int (x2 + (nI 1)))] d114_30 rfl rfl rfl (mj_goto d114_33 rfl)))))
/-- SqueezedLinesModel.pagesMany()I -/
theorem f115 : mj_cd 115 = mj_c115 := rfl
theorem d115_0 : mj_At 115 0 (.iconst (0)) 1 [] (.int 0) := ⟨1, (congrArg (fun z => mj_at z 0) f115).trans rfl, rfl⟩
theorem d115_1 : mj_At 115 1 (.istore_n 1) 2 [1] (.null) := ⟨1, (congrArg (fun z => mj_at z 1) f115).trans rfl, rfl⟩
theorem d115_2 : mj_At 115 2 (.iconst (0)) 3 [] (.int 0) := ⟨1, (congrArg (fun z => mj_at z 2) f115).trans rfl, rfl⟩
theorem d115_3 : mj_At 115 3 (.istore_n 2) 4 [2] (.null) := ⟨1, (congrArg (fun z => mj_at z 3) f115).trans rfl, rfl⟩
theorem d115_4 : mj_At 115 4 (.iload_n 2) 5 [2] (.null) := ⟨1, (congrArg (fun z => mj_at z 4) f115).trans rfl, rfl⟩
theorem d115_5 : mj_At 115 5 (.bipush (10)) 7 [] (.int 10) := ⟨2, (congrArg (fun z => mj_at z 5) f115).trans rfl, rfl⟩
theorem d115_7 : mj_At 115 7 (.if_icmp .ge (25)) 10 [32] (.null) := ⟨3, (congrArg (fun z => mj_at z 7) f115).trans rfl, rfl⟩
theorem d115_10 : mj_At 115 10 (.iload_n 1) 11 [1] (.null) := ⟨1, (congrArg (fun z => mj_at z 10) f115).trans rfl, rfl⟩
theorem d115_11 : mj_At 115 11 (.aload_n 0) 12 [0] (.null) := ⟨1, (congrArg (fun z => mj_at z 11) f115).trans rfl, rfl⟩
theorem d115_12 : mj_At 115 12 (.iload_n 2) 13 [2] (.null) := ⟨1, (congrArg (fun z => mj_at z 12) f115).trans rfl, rfl⟩
theorem d115_13 : mj_At 115 13 (.invokevirtual 84) 16 [1, 96, 2, 4, 602, 604, 24, 69] (.null) := ⟨3, (congrArg (fun z => mj_at z 13) f115).trans rfl, rfl⟩
theorem d115_16 : mj_At 115 16 (.ifCond .eq (7)) 19 [23] (.null) := ⟨3, (congrArg (fun z => mj_at z 16) f115).trans rfl, rfl⟩
theorem d115_19 : mj_At 115 19 (.iconst (1)) 20 [] (.int 1) := ⟨1, (congrArg (fun z => mj_at z 19) f115).trans rfl, rfl⟩
theorem d115_20 : mj_At 115 20 (.goto (4)) 23 [24] (.null) := ⟨3, (congrArg (fun z => mj_at z 20) f115).trans rfl, rfl⟩
theorem d115_23 : mj_At 115 23 (.iconst (0)) 24 [] (.int 0) := ⟨1, (congrArg (fun z => mj_at z 23) f115).trans rfl, rfl⟩
theorem d115_24 : mj_At 115 24 (.iadd) 25 [] (.null) := ⟨1, (congrArg (fun z => mj_at z 24) f115).trans rfl, rfl⟩
theorem d115_25 : mj_At 115 25 (.istore_n 1) 26 [1] (.null) := ⟨1, (congrArg (fun z => mj_at z 25) f115).trans rfl, rfl⟩
theorem d115_26 : mj_At 115 26 (.iinc 2 (1)) 29 [2] (.int 1) := ⟨3, (congrArg (fun z => mj_at z 26) f115).trans rfl, rfl⟩
theorem d115_29 : mj_At 115 29 (.goto (-25)) 32 [4] (.null) := ⟨3, (congrArg (fun z => mj_at z 29) f115).trans rfl, rfl⟩
theorem d115_32 : mj_At 115 32 (.iload_n 1) 33 [1] (.null) := ⟨1, (congrArg (fun z => mj_at z 32) f115).trans rfl, rfl⟩
theorem d115_33 : mj_At 115 33 (.ireturn) 34 [0] (.null) := ⟨1, (congrArg (fun z => mj_at z 33) f115).trans rfl, rfl⟩
theorem e115_0 {c : mj_C}  {L : Nat} {ps : List (Option (Option Nat))}   : mj_EV 115 0 [some (.ref 52), none, none] [] (w_al L ps) c = mj_EV 115 4 [some (.ref 52), some (.int (nI 0)), some (.int (nI 0))] [] (w_al L ps) c := (mj_iconst d115_0 (mj_istore_n [some (.ref 52), some (.int (nI 0)), none] d115_1 rfl rfl (mj_iconst d115_2 (mj_istore_n [some (.ref 52), some (.int (nI 0)), some (.int (nI 0))] d115_3 rfl rfl rfl))))
theorem e115_4 {c : mj_C} {x1 : Int32} {x2 : Int32} {L : Nat} {ps : List (Option (Option Nat))}   : mj_EV 115 4 [some (.ref 52), some (.int x1), some (.int x2)] [] (w_al L ps) c = (if (nI 10) ≤ x2 then (some (some (.int x1), (w_al L ps), c)) else (mj_then 115 16 [some (.ref 52), some (.int x1), some (.int x2)] [.int x1] (mj_EV 96 0 [some (.ref 52), some (.int x2)] [] (w_al L ps) c))) := (mj_iload_n d115_4 rfl (mj_bipush d115_5 (mj_icge d115_7 (mj_iload_n d115_32 rfl (mj_iret d115_33)) (mj_iload_n d115_10 rfl (mj_aload_n d115_11 rfl (mj_iload_n d115_12 rfl (mj_invV [some (.ref 52), some (.int x2)] [.int x1] d115_13 rfl rfl rfl w_52 rfl rfl)))))))
theorem e115_16 {c : mj_C} {x1 : Int32} {x2 : Int32} {z0 : Int32} {z1 : Int32} {L : Nat} {ps : List (Option (Option Nat))}   : mj_EV 115 16 [some (.ref 52), some (.int x1), some (.int x2)] [.int z1, .int z0] (w_al L ps) c = (if z1 = nI 0 then mj_EV 115 4 [some (.ref 52), some (.int (z0 + (nI 0))), some (.int (x2 + (nI 1)))] [] (w_al L ps) c else mj_EV 115 4 [some (.ref 52), some (.int (z0 + (nI 1))), some (.int (x2 + (nI 1)))] [] (w_al L ps) c) := (mj_ifeq d115_16 (mj_iconst d115_23 (mj_iadd d115_24 (mj_istore_n [some (.ref 52), some (.int (z0 + (nI 0))), some (.int x2)] d115_25 rfl rfl (mj_iinc [some (.ref 52), some (.int (z0 + (nI 0))), some (.int (x2 + (nI 1)))] d115_26 rfl rfl rfl (mj_goto d115_29 rfl))))) (mj_iconst d115_19 (mj_goto d115_20 (mj_iadd d115_24 (mj_istore_n [some (.ref 52), some (.int (z0 + (nI 1))), some (.int x2)] d115_25 rfl rfl (mj_iinc [some (.ref 52), some (.int (z0 + (nI 1))), some (.int (x2 + (nI 1)))] d115_26 rfl rfl rfl (mj_goto d115_29 rfl)))))))
/-- SqueezedLinesModel.takes(II)V -/
theorem f116 : mj_cd 116 = mj_c116 := rfl
theorem d116_0 : mj_At 116 0 (.iconst (0)) 1 [] (.int 0) := ⟨1, (congrArg (fun z => mj_at z 0) f116).trans rfl, rfl⟩
theorem d116_1 : mj_At 116 1 (.istore_n 3) 2 [3] (.null) := ⟨1, (congrArg (fun z => mj_at z 1) f116).trans rfl, rfl⟩
theorem d116_2 : mj_At 116 2 (.iload_n 3) 3 [3] (.null) := ⟨1, (congrArg (fun z => mj_at z 2) f116).trans rfl, rfl⟩
theorem d116_3 : mj_At 116 3 (.bipush (8)) 5 [] (.int 8) := ⟨2, (congrArg (fun z => mj_at z 3) f116).trans rfl, rfl⟩
theorem d116_5 : mj_At 116 5 (.if_icmp .ge (22)) 8 [27] (.null) := ⟨3, (congrArg (fun z => mj_at z 5) f116).trans rfl, rfl⟩
theorem d116_8 : mj_At 116 8 (.aload_n 0) 9 [0] (.null) := ⟨1, (congrArg (fun z => mj_at z 8) f116).trans rfl, rfl⟩
theorem d116_9 : mj_At 116 9 (.getfield 22) 12 [4, 6, 563] (.null) := ⟨3, (congrArg (fun z => mj_at z 9) f116).trans rfl, rfl⟩
theorem d116_12 : mj_At 116 12 (.iload_n 3) 13 [3] (.null) := ⟨1, (congrArg (fun z => mj_at z 12) f116).trans rfl, rfl⟩
theorem d116_13 : mj_At 116 13 (.aload_n 0) 14 [0] (.null) := ⟨1, (congrArg (fun z => mj_at z 13) f116).trans rfl, rfl⟩
theorem d116_14 : mj_At 116 14 (.iload_n 1) 15 [1] (.null) := ⟨1, (congrArg (fun z => mj_at z 14) f116).trans rfl, rfl⟩
theorem d116_15 : mj_At 116 15 (.iload_n 2) 16 [2] (.null) := ⟨1, (congrArg (fun z => mj_at z 15) f116).trans rfl, rfl⟩
theorem d116_16 : mj_At 116 16 (.iload_n 3) 17 [3] (.null) := ⟨1, (congrArg (fun z => mj_at z 16) f116).trans rfl, rfl⟩
theorem d116_17 : mj_At 116 17 (.invokevirtual 42) 20 [1, 99, 4, 4, 635, 637, 32, 69] (.null) := ⟨3, (congrArg (fun z => mj_at z 17) f116).trans rfl, rfl⟩
theorem d116_20 : mj_At 116 20 (.iastore) 21 [] (.null) := ⟨1, (congrArg (fun z => mj_at z 20) f116).trans rfl, rfl⟩
theorem d116_21 : mj_At 116 21 (.iinc 3 (1)) 24 [3] (.int 1) := ⟨3, (congrArg (fun z => mj_at z 21) f116).trans rfl, rfl⟩
theorem d116_24 : mj_At 116 24 (.goto (-22)) 27 [2] (.null) := ⟨3, (congrArg (fun z => mj_at z 24) f116).trans rfl, rfl⟩
theorem d116_27 : mj_At 116 27 (.return_) 28 [] (.null) := ⟨1, (congrArg (fun z => mj_at z 27) f116).trans rfl, rfl⟩
theorem e116_0 {c : mj_C} {x1 : Int32} {x2 : Int32} {L : Nat} {ps : List (Option (Option Nat))}   : mj_EV 116 0 [some (.ref 52), some (.int x1), some (.int x2), none] [] (w_al L ps) c = mj_EV 116 2 [some (.ref 52), some (.int x1), some (.int x2), some (.int (nI 0))] [] (w_al L ps) c := (mj_iconst d116_0 (mj_istore_n [some (.ref 52), some (.int x1), some (.int x2), some (.int (nI 0))] d116_1 rfl rfl rfl))
theorem e116_2 {c : mj_C} {x1 : Int32} {x2 : Int32} {x3 : Int32} {L : Nat} {ps : List (Option (Option Nat))}   : mj_EV 116 2 [some (.ref 52), some (.int x1), some (.int x2), some (.int x3)] [] (w_al L ps) c = (if (nI 8) ≤ x3 then (some (none, (w_al L ps), c)) else (mj_then 116 20 [some (.ref 52), some (.int x1), some (.int x2), some (.int x3)] [.int x3, .ref 57] (mj_EV 99 0 [some (.ref 52), some (.int x1), some (.int x2), some (.int x3)] [] (w_al L ps) c))) := (mj_iload_n d116_2 rfl (mj_bipush d116_3 (mj_icge d116_5 (mj_vret d116_27) (mj_aload_n d116_8 rfl (mj_getR d116_9 w_52 rfl (mj_iload_n d116_12 rfl (mj_aload_n d116_13 rfl (mj_iload_n d116_14 rfl (mj_iload_n d116_15 rfl (mj_iload_n d116_16 rfl (mj_invV [some (.ref 52), some (.int x1), some (.int x2), some (.int x3)] [.int x3, .ref 57] d116_17 rfl rfl rfl w_52 rfl rfl)))))))))))
theorem e116_20 {c : mj_C} {x1 : Int32} {x2 : Int32} {x3 : Int32} {z1 : Int32} {z2 : Int32} {L : Nat} {ps : List (Option (Option Nat))}   : mj_EV 116 20 [some (.ref 52), some (.int x1), some (.int x2), some (.int x3)] [.int z2, .int z1, .ref 57] (w_al L ps) c = (if mj_in z1 8 = true then mj_EV 116 2 [some (.ref 52), some (.int x1), some (.int x2), some (.int (x3 + (nI 1)))] [] (w_al L ps) (mj_u c 57 z1.toNatClampNeg z2) else none) := (mj_iast d116_20 w_57 (mj_iinc [some (.ref 52), some (.int x1), some (.int x2), some (.int (x3 + (nI 1)))] d116_21 rfl rfl rfl (mj_goto d116_24 rfl)))
/-- SqueezedLinesModel.puts(II)V -/
theorem f117 : mj_cd 117 = mj_c117 := rfl
theorem d117_0 : mj_At 117 0 (.iconst (0)) 1 [] (.int 0) := ⟨1, (congrArg (fun z => mj_at z 0) f117).trans rfl, rfl⟩
theorem d117_1 : mj_At 117 1 (.istore_n 3) 2 [3] (.null) := ⟨1, (congrArg (fun z => mj_at z 1) f117).trans rfl, rfl⟩
theorem d117_2 : mj_At 117 2 (.iload_n 3) 3 [3] (.null) := ⟨1, (congrArg (fun z => mj_at z 2) f117).trans rfl, rfl⟩
theorem d117_3 : mj_At 117 3 (.bipush (8)) 5 [] (.int 8) := ⟨2, (congrArg (fun z => mj_at z 3) f117).trans rfl, rfl⟩
theorem d117_5 : mj_At 117 5 (.if_icmp .ge (26)) 8 [31] (.null) := ⟨3, (congrArg (fun z => mj_at z 5) f117).trans rfl, rfl⟩
theorem d117_8 : mj_At 117 8 (.aload_n 0) 9 [0] (.null) := ⟨1, (congrArg (fun z => mj_at z 8) f117).trans rfl, rfl⟩
theorem d117_9 : mj_At 117 9 (.getfield 7) 12 [4, 0, 557] (.null) := ⟨3, (congrArg (fun z => mj_at z 9) f117).trans rfl, rfl⟩
theorem d117_12 : mj_At 117 12 (.iload_n 1) 13 [1] (.null) := ⟨1, (congrArg (fun z => mj_at z 12) f117).trans rfl, rfl⟩
theorem d117_13 : mj_At 117 13 (.iload_n 2) 14 [2] (.null) := ⟨1, (congrArg (fun z => mj_at z 13) f117).trans rfl, rfl⟩
theorem d117_14 : mj_At 117 14 (.iload_n 3) 15 [3] (.null) := ⟨1, (congrArg (fun z => mj_at z 14) f117).trans rfl, rfl⟩
theorem d117_15 : mj_At 117 15 (.invokestatic 37) 18 [0, 98, 3, 639, 640, 69] (.null) := ⟨3, (congrArg (fun z => mj_at z 15) f117).trans rfl, rfl⟩
theorem d117_18 : mj_At 117 18 (.aload_n 0) 19 [0] (.null) := ⟨1, (congrArg (fun z => mj_at z 18) f117).trans rfl, rfl⟩
theorem d117_19 : mj_At 117 19 (.getfield 22) 22 [4, 6, 563] (.null) := ⟨3, (congrArg (fun z => mj_at z 19) f117).trans rfl, rfl⟩
theorem d117_22 : mj_At 117 22 (.iload_n 3) 23 [3] (.null) := ⟨1, (congrArg (fun z => mj_at z 22) f117).trans rfl, rfl⟩
theorem d117_23 : mj_At 117 23 (.iaload) 24 [] (.null) := ⟨1, (congrArg (fun z => mj_at z 23) f117).trans rfl, rfl⟩
theorem d117_24 : mj_At 117 24 (.iastore) 25 [] (.null) := ⟨1, (congrArg (fun z => mj_at z 24) f117).trans rfl, rfl⟩
theorem d117_25 : mj_At 117 25 (.iinc 3 (1)) 28 [3] (.int 1) := ⟨3, (congrArg (fun z => mj_at z 25) f117).trans rfl, rfl⟩
theorem d117_28 : mj_At 117 28 (.goto (-26)) 31 [2] (.null) := ⟨3, (congrArg (fun z => mj_at z 28) f117).trans rfl, rfl⟩
theorem d117_31 : mj_At 117 31 (.aload_n 0) 32 [0] (.null) := ⟨1, (congrArg (fun z => mj_at z 31) f117).trans rfl, rfl⟩
theorem d117_32 : mj_At 117 32 (.iload_n 1) 33 [1] (.null) := ⟨1, (congrArg (fun z => mj_at z 32) f117).trans rfl, rfl⟩
theorem d117_33 : mj_At 117 33 (.invokevirtual 91) 36 [1, 113, 2, 4, 659, 661, 35, 69] (.null) := ⟨3, (congrArg (fun z => mj_at z 33) f117).trans rfl, rfl⟩
theorem d117_36 : mj_At 117 36 (.return_) 37 [] (.null) := ⟨1, (congrArg (fun z => mj_at z 36) f117).trans rfl, rfl⟩
theorem e117_0 {c : mj_C} {x1 : Int32} {x2 : Int32} {L : Nat} {ps : List (Option (Option Nat))}   : mj_EV 117 0 [some (.ref 52), some (.int x1), some (.int x2), none] [] (w_al L ps) c = mj_EV 117 2 [some (.ref 52), some (.int x1), some (.int x2), some (.int (nI 0))] [] (w_al L ps) c := (mj_iconst d117_0 (mj_istore_n [some (.ref 52), some (.int x1), some (.int x2), some (.int (nI 0))] d117_1 rfl rfl rfl))
theorem e117_2 {c : mj_C} {x1 : Int32} {x2 : Int32} {x3 : Int32} {L : Nat} {ps : List (Option (Option Nat))}   : mj_EV 117 2 [some (.ref 52), some (.int x1), some (.int x2), some (.int x3)] [] (w_al L ps) c = (if (nI 8) ≤ x3 then (mj_then 117 36 [some (.ref 52), some (.int x1), some (.int x2), some (.int x3)] [] (mj_EV 113 0 [some (.ref 52), some (.int x1)] [] (w_al L ps) c)) else (mj_then 117 18 [some (.ref 52), some (.int x1), some (.int x2), some (.int x3)] [.ref 53] (mj_EV 98 0 [some (.int x1), some (.int x2), some (.int x3)] [] (w_al L ps) c))) := (mj_iload_n d117_2 rfl (mj_bipush d117_3 (mj_icge d117_5 (mj_aload_n d117_31 rfl (mj_iload_n d117_32 rfl (mj_invV [some (.ref 52), some (.int x1)] [] d117_33 rfl rfl rfl w_52 rfl rfl))) (mj_aload_n d117_8 rfl (mj_getR d117_9 w_52 rfl (mj_iload_n d117_12 rfl (mj_iload_n d117_13 rfl (mj_iload_n d117_14 rfl (mj_invS [some (.int x1), some (.int x2), some (.int x3)] [.ref 53] d117_15 (by decide) rfl rfl rfl rfl)))))))))
theorem e117_18 {c : mj_C} {x1 : Int32} {x2 : Int32} {x3 : Int32} {z1 : Int32} {L : Nat} {ps : List (Option (Option Nat))}   : mj_EV 117 18 [some (.ref 52), some (.int x1), some (.int x2), some (.int x3)] [.int z1, .ref 53] (w_al L ps) c = (if mj_in x3 8 = true then (if mj_in z1 674 = true then mj_EV 117 2 [some (.ref 52), some (.int x1), some (.int x2), some (.int (x3 + (nI 1)))] [] (w_al L ps) (mj_u c 53 z1.toNatClampNeg (c 57 x3.toNatClampNeg)) else none) else none) := (mj_aload_n d117_18 rfl (mj_getR d117_19 w_52 rfl (mj_iload_n d117_22 rfl (mj_iald d117_23 w_57 (mj_iast d117_24 w_53 (mj_iinc [some (.ref 52), some (.int x1), some (.int x2), some (.int (x3 + (nI 1)))] d117_25 rfl rfl rfl (mj_goto d117_28 rfl)))))))
theorem e117_36 {c : mj_C} {x1 : Int32} {x2 : Int32} {x3 : Int32} {L : Nat} {ps : List (Option (Option Nat))}   : mj_EV 117 36 [some (.ref 52), some (.int x1), some (.int x2), some (.int x3)] [] (w_al L ps) c = (some (none, (w_al L ps), c)) := (mj_vret d117_36)
/-- SqueezedLinesModel.sumThen(II)I -/
theorem f118 : mj_cd 118 = mj_c118 := rfl
theorem d118_0 : mj_At 118 0 (.aload_n 0) 1 [0] (.null) := ⟨1, (congrArg (fun z => mj_at z 0) f118).trans rfl, rfl⟩
theorem d118_1 : mj_At 118 1 (.getfield 7) 4 [4, 0, 557] (.null) := ⟨3, (congrArg (fun z => mj_at z 1) f118).trans rfl, rfl⟩
theorem d118_4 : mj_At 118 4 (.iconst (0)) 5 [] (.int 0) := ⟨1, (congrArg (fun z => mj_at z 4) f118).trans rfl, rfl⟩
theorem d118_5 : mj_At 118 5 (.aload_n 0) 6 [0] (.null) := ⟨1, (congrArg (fun z => mj_at z 5) f118).trans rfl, rfl⟩
theorem d118_6 : mj_At 118 6 (.getfield 13) 9 [4, 1, 558] (.null) := ⟨3, (congrArg (fun z => mj_at z 6) f118).trans rfl, rfl⟩
theorem d118_9 : mj_At 118 9 (.iconst (0)) 10 [] (.int 0) := ⟨1, (congrArg (fun z => mj_at z 9) f118).trans rfl, rfl⟩
theorem d118_10 : mj_At 118 10 (.invokestatic 29) 13 [0, 94, 4, 652, 653, 69] (.null) := ⟨3, (congrArg (fun z => mj_at z 10) f118).trans rfl, rfl⟩
theorem d118_13 : mj_At 118 13 (.aload_n 0) 14 [0] (.null) := ⟨1, (congrArg (fun z => mj_at z 13) f118).trans rfl, rfl⟩
theorem d118_14 : mj_At 118 14 (.iload_n 1) 15 [1] (.null) := ⟨1, (congrArg (fun z => mj_at z 14) f118).trans rfl, rfl⟩
theorem d118_15 : mj_At 118 15 (.iload_n 2) 16 [2] (.null) := ⟨1, (congrArg (fun z => mj_at z 15) f118).trans rfl, rfl⟩
theorem d118_16 : mj_At 118 16 (.invokevirtual 94) 19 [1, 117, 3, 4, 734, 736, 47, 69] (.null) := ⟨3, (congrArg (fun z => mj_at z 16) f118).trans rfl, rfl⟩
theorem d118_19 : mj_At 118 19 (.aload_n 0) 20 [0] (.null) := ⟨1, (congrArg (fun z => mj_at z 19) f118).trans rfl, rfl⟩
theorem d118_20 : mj_At 118 20 (.invokevirtual 98) 23 [1, 114, 1, 4, 598, 600, 23, 69] (.null) := ⟨3, (congrArg (fun z => mj_at z 20) f118).trans rfl, rfl⟩
theorem d118_23 : mj_At 118 23 (.istore_n 3) 24 [3] (.null) := ⟨1, (congrArg (fun z => mj_at z 23) f118).trans rfl, rfl⟩
theorem d118_24 : mj_At 118 24 (.aload_n 0) 25 [0] (.null) := ⟨1, (congrArg (fun z => mj_at z 24) f118).trans rfl, rfl⟩
theorem d118_25 : mj_At 118 25 (.getfield 13) 28 [4, 1, 558] (.null) := ⟨3, (congrArg (fun z => mj_at z 25) f118).trans rfl, rfl⟩
theorem d118_28 : mj_At 118 28 (.iconst (0)) 29 [] (.int 0) := ⟨1, (congrArg (fun z => mj_at z 28) f118).trans rfl, rfl⟩
theorem d118_29 : mj_At 118 29 (.aload_n 0) 30 [0] (.null) := ⟨1, (congrArg (fun z => mj_at z 29) f118).trans rfl, rfl⟩
theorem d118_30 : mj_At 118 30 (.getfield 7) 33 [4, 0, 557] (.null) := ⟨3, (congrArg (fun z => mj_at z 30) f118).trans rfl, rfl⟩
theorem d118_33 : mj_At 118 33 (.iconst (0)) 34 [] (.int 0) := ⟨1, (congrArg (fun z => mj_at z 33) f118).trans rfl, rfl⟩
theorem d118_34 : mj_At 118 34 (.invokestatic 29) 37 [0, 94, 4, 652, 653, 69] (.null) := ⟨3, (congrArg (fun z => mj_at z 34) f118).trans rfl, rfl⟩
theorem d118_37 : mj_At 118 37 (.iload_n 3) 38 [3] (.null) := ⟨1, (congrArg (fun z => mj_at z 37) f118).trans rfl, rfl⟩
theorem d118_38 : mj_At 118 38 (.ireturn) 39 [0] (.null) := ⟨1, (congrArg (fun z => mj_at z 38) f118).trans rfl, rfl⟩
theorem e118_0 {c : mj_C} {x1 : Int32} {x2 : Int32} {L : Nat} {ps : List (Option (Option Nat))}   : mj_EV 118 0 [some (.ref 52), some (.int x1), some (.int x2), none] [] (w_al L ps) c = (mj_then 118 13 [some (.ref 52), some (.int x1), some (.int x2), none] [] (mj_EV 94 0 [some (.ref 53), some (.int (nI 0)), some (.ref 54), some (.int (nI 0)), none] [] (w_al L ps) c)) := (mj_aload_n d118_0 rfl (mj_getR d118_1 w_52 rfl (mj_iconst d118_4 (mj_aload_n d118_5 rfl (mj_getR d118_6 w_52 rfl (mj_iconst d118_9 (mj_invS [some (.ref 53), some (.int (nI 0)), some (.ref 54), some (.int (nI 0)), none] [] d118_10 (by decide) rfl rfl rfl rfl)))))))
theorem e118_13 {c : mj_C} {x1 : Int32} {x2 : Int32} {L : Nat} {ps : List (Option (Option Nat))}   : mj_EV 118 13 [some (.ref 52), some (.int x1), some (.int x2), none] [] (w_al L ps) c = (mj_then 118 19 [some (.ref 52), some (.int x1), some (.int x2), none] [] (mj_EV 117 0 [some (.ref 52), some (.int x1), some (.int x2), none] [] (w_al L ps) c)) := (mj_aload_n d118_13 rfl (mj_iload_n d118_14 rfl (mj_iload_n d118_15 rfl (mj_invV [some (.ref 52), some (.int x1), some (.int x2), none] [] d118_16 rfl rfl rfl w_52 rfl rfl))))
theorem e118_19 {c : mj_C} {x1 : Int32} {x2 : Int32} {L : Nat} {ps : List (Option (Option Nat))}   : mj_EV 118 19 [some (.ref 52), some (.int x1), some (.int x2), none] [] (w_al L ps) c = (mj_then 118 23 [some (.ref 52), some (.int x1), some (.int x2), none] [] (mj_EV 114 0 [some (.ref 52), none, none] [] (w_al L ps) c)) := (mj_aload_n d118_19 rfl (mj_invV [some (.ref 52), none, none] [] d118_20 rfl rfl rfl w_52 rfl rfl))
theorem e118_23 {c : mj_C} {x1 : Int32} {x2 : Int32} {z0 : Int32} {L : Nat} {ps : List (Option (Option Nat))}   : mj_EV 118 23 [some (.ref 52), some (.int x1), some (.int x2), none] [.int z0] (w_al L ps) c = (mj_then 118 37 [some (.ref 52), some (.int x1), some (.int x2), some (.int z0)] [] (mj_EV 94 0 [some (.ref 54), some (.int (nI 0)), some (.ref 53), some (.int (nI 0)), none] [] (w_al L ps) c)) := (mj_istore_n [some (.ref 52), some (.int x1), some (.int x2), some (.int z0)] d118_23 rfl rfl (mj_aload_n d118_24 rfl (mj_getR d118_25 w_52 rfl (mj_iconst d118_28 (mj_aload_n d118_29 rfl (mj_getR d118_30 w_52 rfl (mj_iconst d118_33 (mj_invS [some (.ref 54), some (.int (nI 0)), some (.ref 53), some (.int (nI 0)), none] [] d118_34 (by decide) rfl rfl rfl rfl))))))))
theorem e118_37 {c : mj_C} {x1 : Int32} {x2 : Int32} {x3 : Int32} {L : Nat} {ps : List (Option (Option Nat))}   : mj_EV 118 37 [some (.ref 52), some (.int x1), some (.int x2), some (.int x3)] [] (w_al L ps) c = (some (some (.int x3), (w_al L ps), c)) := (mj_iload_n d118_37 rfl (mj_iret d118_38))
/-- SqueezedLinesModel.isTooMuch(II)Z -/
theorem f119 : mj_cd 119 = mj_c119 := rfl
theorem d119_0 : mj_At 119 0 (.iload_n 2) 1 [2] (.null) := ⟨1, (congrArg (fun z => mj_at z 0) f119).trans rfl, rfl⟩
theorem d119_1 : mj_At 119 1 (.iload_n 1) 2 [1] (.null) := ⟨1, (congrArg (fun z => mj_at z 1) f119).trans rfl, rfl⟩
theorem d119_2 : mj_At 119 2 (.if_icmp .le (17)) 5 [19] (.null) := ⟨3, (congrArg (fun z => mj_at z 2) f119).trans rfl, rfl⟩
theorem d119_5 : mj_At 119 5 (.iload_n 2) 6 [2] (.null) := ⟨1, (congrArg (fun z => mj_at z 5) f119).trans rfl, rfl⟩
theorem d119_6 : mj_At 119 6 (.aload_n 0) 7 [0] (.null) := ⟨1, (congrArg (fun z => mj_at z 6) f119).trans rfl, rfl⟩
theorem d119_7 : mj_At 119 7 (.getfield 7) 10 [4, 0, 557] (.null) := ⟨3, (congrArg (fun z => mj_at z 7) f119).trans rfl, rfl⟩
theorem d119_10 : mj_At 119 10 (.iconst (1)) 11 [] (.int 1) := ⟨1, (congrArg (fun z => mj_at z 10) f119).trans rfl, rfl⟩
theorem d119_11 : mj_At 119 11 (.iaload) 12 [] (.null) := ⟨1, (congrArg (fun z => mj_at z 11) f119).trans rfl, rfl⟩
theorem d119_12 : mj_At 119 12 (.if_icmp .le (7)) 15 [19] (.null) := ⟨3, (congrArg (fun z => mj_at z 12) f119).trans rfl, rfl⟩
theorem d119_15 : mj_At 119 15 (.iconst (1)) 16 [] (.int 1) := ⟨1, (congrArg (fun z => mj_at z 15) f119).trans rfl, rfl⟩
theorem d119_16 : mj_At 119 16 (.goto (4)) 19 [20] (.null) := ⟨3, (congrArg (fun z => mj_at z 16) f119).trans rfl, rfl⟩
theorem d119_19 : mj_At 119 19 (.iconst (0)) 20 [] (.int 0) := ⟨1, (congrArg (fun z => mj_at z 19) f119).trans rfl, rfl⟩
theorem d119_20 : mj_At 119 20 (.ireturn) 21 [1] (.null) := ⟨1, (congrArg (fun z => mj_at z 20) f119).trans rfl, rfl⟩
theorem e119_0 {c : mj_C} {x1 : Int32} {x2 : Int32} {L : Nat} {ps : List (Option (Option Nat))}   : mj_EV 119 0 [some (.ref 52), some (.int x1), some (.int x2)] [] (w_al L ps) c = (if x2 ≤ x1 then (some (some (.int (nI 0)), (w_al L ps), c)) else (if mj_in (nI 1) 674 = true then (if x2 ≤ (c 53 (nI 1).toNatClampNeg) then (some (some (.int (nI 0)), (w_al L ps), c)) else (some (some (.int (nI 1)), (w_al L ps), c))) else none)) := (mj_iload_n d119_0 rfl (mj_iload_n d119_1 rfl (mj_icle d119_2 (mj_iconst d119_19 (mj_zret0 d119_20)) (mj_iload_n d119_5 rfl (mj_aload_n d119_6 rfl (mj_getR d119_7 w_52 rfl (mj_iconst d119_10 (mj_iald d119_11 w_53 (mj_icle d119_12 (mj_iconst d119_19 (mj_zret0 d119_20)) (mj_iconst d119_15 (mj_goto d119_16 (mj_zret1 d119_20))))))))))))
/-- SqueezedLinesModel.mayPut(II)Z -/
theorem f120 : mj_cd 120 = mj_c120 := rfl
theorem d120_0 : mj_At 120 0 (.aload_n 0) 1 [0] (.null) := ⟨1, (congrArg (fun z => mj_at z 0) f120).trans rfl, rfl⟩
theorem d120_1 : mj_At 120 1 (.aload_n 0) 2 [0] (.null) := ⟨1, (congrArg (fun z => mj_at z 1) f120).trans rfl, rfl⟩
theorem d120_2 : mj_At 120 2 (.invokevirtual 98) 5 [1, 114, 1, 4, 598, 600, 23, 69] (.null) := ⟨3, (congrArg (fun z => mj_at z 2) f120).trans rfl, rfl⟩
theorem d120_5 : mj_At 120 5 (.aload_n 0) 6 [0] (.null) := ⟨1, (congrArg (fun z => mj_at z 5) f120).trans rfl, rfl⟩
theorem d120_6 : mj_At 120 6 (.iload_n 1) 7 [1] (.null) := ⟨1, (congrArg (fun z => mj_at z 6) f120).trans rfl, rfl⟩
theorem d120_7 : mj_At 120 7 (.iload_n 2) 8 [2] (.null) := ⟨1, (congrArg (fun z => mj_at z 7) f120).trans rfl, rfl⟩
theorem d120_8 : mj_At 120 8 (.invokevirtual 102) 11 [1, 118, 3, 4, 730, 732, 46, 69] (.null) := ⟨3, (congrArg (fun z => mj_at z 8) f120).trans rfl, rfl⟩
theorem d120_11 : mj_At 120 11 (.invokevirtual 105) 14 [1, 119, 3, 4, 675, 677, 39, 69] (.null) := ⟨3, (congrArg (fun z => mj_at z 11) f120).trans rfl, rfl⟩
theorem d120_14 : mj_At 120 14 (.ifCond .ne (7)) 17 [21] (.null) := ⟨3, (congrArg (fun z => mj_at z 14) f120).trans rfl, rfl⟩
theorem d120_17 : mj_At 120 17 (.iconst (1)) 18 [] (.int 1) := ⟨1, (congrArg (fun z => mj_at z 17) f120).trans rfl, rfl⟩
theorem d120_18 : mj_At 120 18 (.goto (4)) 21 [22] (.null) := ⟨3, (congrArg (fun z => mj_at z 18) f120).trans rfl, rfl⟩
theorem d120_21 : mj_At 120 21 (.iconst (0)) 22 [] (.int 0) := ⟨1, (congrArg (fun z => mj_at z 21) f120).trans rfl, rfl⟩
theorem d120_22 : mj_At 120 22 (.ireturn) 23 [1] (.null) := ⟨1, (congrArg (fun z => mj_at z 22) f120).trans rfl, rfl⟩
theorem e120_0 {c : mj_C} {x1 : Int32} {x2 : Int32} {L : Nat} {ps : List (Option (Option Nat))}   : mj_EV 120 0 [some (.ref 52), some (.int x1), some (.int x2)] [] (w_al L ps) c = (mj_then 120 5 [some (.ref 52), some (.int x1), some (.int x2)] [.ref 52] (mj_EV 114 0 [some (.ref 52), none, none] [] (w_al L ps) c)) := (mj_aload_n d120_0 rfl (mj_aload_n d120_1 rfl (mj_invV [some (.ref 52), none, none] [.ref 52] d120_2 rfl rfl rfl w_52 rfl rfl)))
theorem e120_5 {c : mj_C} {x1 : Int32} {x2 : Int32} {z1 : Int32} {L : Nat} {ps : List (Option (Option Nat))}   : mj_EV 120 5 [some (.ref 52), some (.int x1), some (.int x2)] [.int z1, .ref 52] (w_al L ps) c = (mj_then 120 11 [some (.ref 52), some (.int x1), some (.int x2)] [.int z1, .ref 52] (mj_EV 118 0 [some (.ref 52), some (.int x1), some (.int x2), none] [] (w_al L ps) c)) := (mj_aload_n d120_5 rfl (mj_iload_n d120_6 rfl (mj_iload_n d120_7 rfl (mj_invV [some (.ref 52), some (.int x1), some (.int x2), none] [.int z1, .ref 52] d120_8 rfl rfl rfl w_52 rfl rfl))))
theorem e120_11 {c : mj_C} {x1 : Int32} {x2 : Int32} {z1 : Int32} {z2 : Int32} {L : Nat} {ps : List (Option (Option Nat))}   : mj_EV 120 11 [some (.ref 52), some (.int x1), some (.int x2)] [.int z2, .int z1, .ref 52] (w_al L ps) c = (mj_then 120 14 [some (.ref 52), some (.int x1), some (.int x2)] [] (mj_EV 119 0 [some (.ref 52), some (.int z1), some (.int z2)] [] (w_al L ps) c)) := (mj_invV [some (.ref 52), some (.int z1), some (.int z2)] [] d120_11 rfl rfl rfl w_52 rfl rfl)
theorem e120_14 {c : mj_C} {x1 : Int32} {x2 : Int32} {z0 : Int32} {L : Nat} {ps : List (Option (Option Nat))}   : mj_EV 120 14 [some (.ref 52), some (.int x1), some (.int x2)] [.int z0] (w_al L ps) c = (if z0 = nI 0 then (some (some (.int (nI 1)), (w_al L ps), c)) else (some (some (.int (nI 0)), (w_al L ps), c))) := (mj_ifne d120_14 (mj_iconst d120_21 (mj_zret0 d120_22)) (mj_iconst d120_17 (mj_goto d120_18 (mj_zret1 d120_22))))
/-- SqueezedLinesModel.changes(II)I -/
theorem f121 : mj_cd 121 = mj_c121 := rfl
theorem d121_0 : mj_At 121 0 (.aload_n 0) 1 [0] (.null) := ⟨1, (congrArg (fun z => mj_at z 0) f121).trans rfl, rfl⟩
theorem d121_1 : mj_At 121 1 (.iload_n 1) 2 [1] (.null) := ⟨1, (congrArg (fun z => mj_at z 1) f121).trans rfl, rfl⟩
theorem d121_2 : mj_At 121 2 (.iload_n 2) 3 [2] (.null) := ⟨1, (congrArg (fun z => mj_at z 2) f121).trans rfl, rfl⟩
theorem d121_3 : mj_At 121 3 (.invokevirtual 109) 6 [1, 120, 3, 4, 726, 728, 45, 69] (.null) := ⟨3, (congrArg (fun z => mj_at z 3) f121).trans rfl, rfl⟩
theorem d121_6 : mj_At 121 6 (.ifCond .ne (6)) 9 [12] (.null) := ⟨3, (congrArg (fun z => mj_at z 6) f121).trans rfl, rfl⟩
theorem d121_9 : mj_At 121 9 (.bipush (-4)) 11 [] (.int (-4)) := ⟨2, (congrArg (fun z => mj_at z 9) f121).trans rfl, rfl⟩
theorem d121_11 : mj_At 121 11 (.ireturn) 12 [0] (.null) := ⟨1, (congrArg (fun z => mj_at z 11) f121).trans rfl, rfl⟩
theorem d121_12 : mj_At 121 12 (.aload_n 0) 13 [0] (.null) := ⟨1, (congrArg (fun z => mj_at z 12) f121).trans rfl, rfl⟩
theorem d121_13 : mj_At 121 13 (.invokevirtual 112) 16 [1, 95, 1, 4, 679, 681, 40, 69] (.null) := ⟨3, (congrArg (fun z => mj_at z 13) f121).trans rfl, rfl⟩
theorem d121_16 : mj_At 121 16 (.aload_n 0) 17 [0] (.null) := ⟨1, (congrArg (fun z => mj_at z 16) f121).trans rfl, rfl⟩
theorem d121_17 : mj_At 121 17 (.iload_n 1) 18 [1] (.null) := ⟨1, (congrArg (fun z => mj_at z 17) f121).trans rfl, rfl⟩
theorem d121_18 : mj_At 121 18 (.iload_n 2) 19 [2] (.null) := ⟨1, (congrArg (fun z => mj_at z 18) f121).trans rfl, rfl⟩
theorem d121_19 : mj_At 121 19 (.invokevirtual 94) 22 [1, 117, 3, 4, 734, 736, 47, 69] (.null) := ⟨3, (congrArg (fun z => mj_at z 19) f121).trans rfl, rfl⟩
theorem d121_22 : mj_At 121 22 (.aload_n 0) 23 [0] (.null) := ⟨1, (congrArg (fun z => mj_at z 22) f121).trans rfl, rfl⟩
theorem d121_23 : mj_At 121 23 (.iload_n 1) 24 [1] (.null) := ⟨1, (congrArg (fun z => mj_at z 23) f121).trans rfl, rfl⟩
theorem d121_24 : mj_At 121 24 (.iload_n 2) 25 [2] (.null) := ⟨1, (congrArg (fun z => mj_at z 24) f121).trans rfl, rfl⟩
theorem d121_25 : mj_At 121 25 (.invokevirtual 52) 28 [1, 102, 3, 4, 626, 628, 30, 69] (.null) := ⟨3, (congrArg (fun z => mj_at z 25) f121).trans rfl, rfl⟩
theorem d121_28 : mj_At 121 28 (.ireturn) 29 [0] (.null) := ⟨1, (congrArg (fun z => mj_at z 28) f121).trans rfl, rfl⟩
theorem e121_0 {c : mj_C} {x1 : Int32} {x2 : Int32} {L : Nat} {ps : List (Option (Option Nat))}   : mj_EV 121 0 [some (.ref 52), some (.int x1), some (.int x2)] [] (w_al L ps) c = (mj_then 121 6 [some (.ref 52), some (.int x1), some (.int x2)] [] (mj_EV 120 0 [some (.ref 52), some (.int x1), some (.int x2)] [] (w_al L ps) c)) := (mj_aload_n d121_0 rfl (mj_iload_n d121_1 rfl (mj_iload_n d121_2 rfl (mj_invV [some (.ref 52), some (.int x1), some (.int x2)] [] d121_3 rfl rfl rfl w_52 rfl rfl))))
theorem e121_6 {c : mj_C} {x1 : Int32} {x2 : Int32} {z0 : Int32} {L : Nat} {ps : List (Option (Option Nat))}   : mj_EV 121 6 [some (.ref 52), some (.int x1), some (.int x2)] [.int z0] (w_al L ps) c = (if z0 = nI 0 then (some (some (.int (-4)), (w_al L ps), c)) else (mj_then 121 16 [some (.ref 52), some (.int x1), some (.int x2)] [] (mj_EV 95 0 [some (.ref 52), none] [] (w_al L ps) c))) := (mj_ifne d121_6 (mj_aload_n d121_12 rfl (mj_invV [some (.ref 52), none] [] d121_13 rfl rfl rfl w_52 rfl rfl)) (mj_bipush d121_9 (mj_iret d121_11)))
theorem e121_16 {c : mj_C} {x1 : Int32} {x2 : Int32} {L : Nat} {ps : List (Option (Option Nat))}   : mj_EV 121 16 [some (.ref 52), some (.int x1), some (.int x2)] [] (w_al L ps) c = (mj_then 121 22 [some (.ref 52), some (.int x1), some (.int x2)] [] (mj_EV 117 0 [some (.ref 52), some (.int x1), some (.int x2), none] [] (w_al L ps) c)) := (mj_aload_n d121_16 rfl (mj_iload_n d121_17 rfl (mj_iload_n d121_18 rfl (mj_invV [some (.ref 52), some (.int x1), some (.int x2), none] [] d121_19 rfl rfl rfl w_52 rfl rfl))))
theorem e121_22 {c : mj_C} {x1 : Int32} {x2 : Int32} {L : Nat} {ps : List (Option (Option Nat))}   : mj_EV 121 22 [some (.ref 52), some (.int x1), some (.int x2)] [] (w_al L ps) c = (mj_then 121 28 [some (.ref 52), some (.int x1), some (.int x2)] [] (mj_EV 102 0 [some (.ref 52), some (.int x1), some (.int x2), none, none] [] (w_al L ps) c)) := (mj_aload_n d121_22 rfl (mj_iload_n d121_23 rfl (mj_iload_n d121_24 rfl (mj_invV [some (.ref 52), some (.int x1), some (.int x2), none, none] [] d121_25 rfl rfl rfl w_52 rfl rfl))))
theorem e121_28 {c : mj_C} {x1 : Int32} {x2 : Int32} {z0 : Int32} {L : Nat} {ps : List (Option (Option Nat))}   : mj_EV 121 28 [some (.ref 52), some (.int x1), some (.int x2)] [.int z0] (w_al L ps) c = (some (some (.int z0), (w_al L ps), c)) := (mj_iret d121_28)
/-- SqueezedLinesModel.setsRoom(I)V -/
theorem f122 : mj_cd 122 = mj_c122 := rfl
theorem d122_0 : mj_At 122 0 (.aload_n 0) 1 [0] (.null) := ⟨1, (congrArg (fun z => mj_at z 0) f122).trans rfl, rfl⟩
theorem d122_1 : mj_At 122 1 (.getfield 7) 4 [4, 0, 557] (.null) := ⟨3, (congrArg (fun z => mj_at z 1) f122).trans rfl, rfl⟩
theorem d122_4 : mj_At 122 4 (.iconst (0)) 5 [] (.int 0) := ⟨1, (congrArg (fun z => mj_at z 4) f122).trans rfl, rfl⟩
theorem d122_5 : mj_At 122 5 (.iload_n 1) 6 [1] (.null) := ⟨1, (congrArg (fun z => mj_at z 5) f122).trans rfl, rfl⟩
theorem d122_6 : mj_At 122 6 (.iastore) 7 [] (.null) := ⟨1, (congrArg (fun z => mj_at z 6) f122).trans rfl, rfl⟩
theorem d122_7 : mj_At 122 7 (.iconst (0)) 8 [] (.int 0) := ⟨1, (congrArg (fun z => mj_at z 7) f122).trans rfl, rfl⟩
theorem d122_8 : mj_At 122 8 (.istore_n 2) 9 [2] (.null) := ⟨1, (congrArg (fun z => mj_at z 8) f122).trans rfl, rfl⟩
theorem d122_9 : mj_At 122 9 (.iload_n 2) 10 [2] (.null) := ⟨1, (congrArg (fun z => mj_at z 9) f122).trans rfl, rfl⟩
theorem d122_10 : mj_At 122 10 (.bipush (10)) 12 [] (.int 10) := ⟨2, (congrArg (fun z => mj_at z 10) f122).trans rfl, rfl⟩
theorem d122_12 : mj_At 122 12 (.if_icmp .ge (22)) 15 [34] (.null) := ⟨3, (congrArg (fun z => mj_at z 12) f122).trans rfl, rfl⟩
theorem d122_15 : mj_At 122 15 (.aload_n 0) 16 [0] (.null) := ⟨1, (congrArg (fun z => mj_at z 15) f122).trans rfl, rfl⟩
theorem d122_16 : mj_At 122 16 (.iload_n 2) 17 [2] (.null) := ⟨1, (congrArg (fun z => mj_at z 16) f122).trans rfl, rfl⟩
theorem d122_17 : mj_At 122 17 (.invokevirtual 84) 20 [1, 96, 2, 4, 602, 604, 24, 69] (.null) := ⟨3, (congrArg (fun z => mj_at z 17) f122).trans rfl, rfl⟩
theorem d122_20 : mj_At 122 20 (.ifCond .eq (8)) 23 [28] (.null) := ⟨3, (congrArg (fun z => mj_at z 20) f122).trans rfl, rfl⟩
theorem d122_23 : mj_At 122 23 (.aload_n 0) 24 [0] (.null) := ⟨1, (congrArg (fun z => mj_at z 23) f122).trans rfl, rfl⟩
theorem d122_24 : mj_At 122 24 (.iload_n 2) 25 [2] (.null) := ⟨1, (congrArg (fun z => mj_at z 24) f122).trans rfl, rfl⟩
theorem d122_25 : mj_At 122 25 (.invokevirtual 91) 28 [1, 113, 2, 4, 659, 661, 35, 69] (.null) := ⟨3, (congrArg (fun z => mj_at z 25) f122).trans rfl, rfl⟩
theorem d122_28 : mj_At 122 28 (.iinc 2 (1)) 31 [2] (.int 1) := ⟨3, (congrArg (fun z => mj_at z 28) f122).trans rfl, rfl⟩
theorem d122_31 : mj_At 122 31 (.goto (-22)) 34 [9] (.null) := ⟨3, (congrArg (fun z => mj_at z 31) f122).trans rfl, rfl⟩
theorem d122_34 : mj_At 122 34 (.return_) 35 [] (.null) := ⟨1, (congrArg (fun z => mj_at z 34) f122).trans rfl, rfl⟩
theorem e122_0 {c : mj_C} {x1 : Int32} {L : Nat} {ps : List (Option (Option Nat))}   : mj_EV 122 0 [some (.ref 52), some (.int x1), none] [] (w_al L ps) c = (if mj_in (nI 0) 674 = true then mj_EV 122 9 [some (.ref 52), some (.int x1), some (.int (nI 0))] [] (w_al L ps) (mj_u c 53 (nI 0).toNatClampNeg x1) else none) := (mj_aload_n d122_0 rfl (mj_getR d122_1 w_52 rfl (mj_iconst d122_4 (mj_iload_n d122_5 rfl (mj_iast d122_6 w_53 (mj_iconst d122_7 (mj_istore_n [some (.ref 52), some (.int x1), some (.int (nI 0))] d122_8 rfl rfl rfl)))))))
theorem e122_9 {c : mj_C} {x1 : Int32} {x2 : Int32} {L : Nat} {ps : List (Option (Option Nat))}   : mj_EV 122 9 [some (.ref 52), some (.int x1), some (.int x2)] [] (w_al L ps) c = (if (nI 10) ≤ x2 then (some (none, (w_al L ps), c)) else (mj_then 122 20 [some (.ref 52), some (.int x1), some (.int x2)] [] (mj_EV 96 0 [some (.ref 52), some (.int x2)] [] (w_al L ps) c))) := (mj_iload_n d122_9 rfl (mj_bipush d122_10 (mj_icge d122_12 (mj_vret d122_34) (mj_aload_n d122_15 rfl (mj_iload_n d122_16 rfl (mj_invV [some (.ref 52), some (.int x2)] [] d122_17 rfl rfl rfl w_52 rfl rfl))))))
theorem e122_20 {c : mj_C} {x1 : Int32} {x2 : Int32} {z0 : Int32} {L : Nat} {ps : List (Option (Option Nat))}   : mj_EV 122 20 [some (.ref 52), some (.int x1), some (.int x2)] [.int z0] (w_al L ps) c = (if z0 = nI 0 then mj_EV 122 28 [some (.ref 52), some (.int x1), some (.int x2)] [] (w_al L ps) c else (mj_then 122 28 [some (.ref 52), some (.int x1), some (.int x2)] [] (mj_EV 113 0 [some (.ref 52), some (.int x2)] [] (w_al L ps) c))) := (mj_ifeq d122_20 rfl (mj_aload_n d122_23 rfl (mj_iload_n d122_24 rfl (mj_invV [some (.ref 52), some (.int x2)] [] d122_25 rfl rfl rfl w_52 rfl rfl))))
theorem e122_28 {c : mj_C} {x1 : Int32} {x2 : Int32} {L : Nat} {ps : List (Option (Option Nat))}   : mj_EV 122 28 [some (.ref 52), some (.int x1), some (.int x2)] [] (w_al L ps) c = mj_EV 122 9 [some (.ref 52), some (.int x1), some (.int (x2 + (nI 1)))] [] (w_al L ps) c := (mj_iinc [some (.ref 52), some (.int x1), some (.int (x2 + (nI 1)))] d122_28 rfl rfl rfl (mj_goto d122_31 rfl))
/-- SqueezedLinesModel.setRoom(I)I -/
theorem f123 : mj_cd 123 = mj_c123 := rfl
theorem d123_0 : mj_At 123 0 (.iload_n 1) 1 [1] (.null) := ⟨1, (congrArg (fun z => mj_at z 0) f123).trans rfl, rfl⟩
theorem d123_1 : mj_At 123 1 (.iconst (0)) 2 [] (.int 0) := ⟨1, (congrArg (fun z => mj_at z 1) f123).trans rfl, rfl⟩
theorem d123_2 : mj_At 123 2 (.bipush (8)) 4 [] (.int 8) := ⟨2, (congrArg (fun z => mj_at z 2) f123).trans rfl, rfl⟩
theorem d123_4 : mj_At 123 4 (.invokestatic 33) 7 [0, 93, 3, 595, 596, 69] (.null) := ⟨3, (congrArg (fun z => mj_at z 4) f123).trans rfl, rfl⟩
theorem d123_7 : mj_At 123 7 (.ifCond .ne (6)) 10 [13] (.null) := ⟨3, (congrArg (fun z => mj_at z 7) f123).trans rfl, rfl⟩
theorem d123_10 : mj_At 123 10 (.bipush (-2)) 12 [] (.int (-2)) := ⟨2, (congrArg (fun z => mj_at z 10) f123).trans rfl, rfl⟩
theorem d123_12 : mj_At 123 12 (.ireturn) 13 [0] (.null) := ⟨1, (congrArg (fun z => mj_at z 12) f123).trans rfl, rfl⟩
theorem d123_13 : mj_At 123 13 (.aload_n 0) 14 [0] (.null) := ⟨1, (congrArg (fun z => mj_at z 13) f123).trans rfl, rfl⟩
theorem d123_14 : mj_At 123 14 (.getfield 7) 17 [4, 0, 557] (.null) := ⟨3, (congrArg (fun z => mj_at z 14) f123).trans rfl, rfl⟩
theorem d123_17 : mj_At 123 17 (.iconst (0)) 18 [] (.int 0) := ⟨1, (congrArg (fun z => mj_at z 17) f123).trans rfl, rfl⟩
theorem d123_18 : mj_At 123 18 (.iaload) 19 [] (.null) := ⟨1, (congrArg (fun z => mj_at z 18) f123).trans rfl, rfl⟩
theorem d123_19 : mj_At 123 19 (.istore_n 2) 20 [2] (.null) := ⟨1, (congrArg (fun z => mj_at z 19) f123).trans rfl, rfl⟩
theorem d123_20 : mj_At 123 20 (.aload_n 0) 21 [0] (.null) := ⟨1, (congrArg (fun z => mj_at z 20) f123).trans rfl, rfl⟩
theorem d123_21 : mj_At 123 21 (.invokevirtual 98) 24 [1, 114, 1, 4, 598, 600, 23, 69] (.null) := ⟨3, (congrArg (fun z => mj_at z 21) f123).trans rfl, rfl⟩
theorem d123_24 : mj_At 123 24 (.istore_n 3) 25 [3] (.null) := ⟨1, (congrArg (fun z => mj_at z 24) f123).trans rfl, rfl⟩
theorem d123_25 : mj_At 123 25 (.aload_n 0) 26 [0] (.null) := ⟨1, (congrArg (fun z => mj_at z 25) f123).trans rfl, rfl⟩
theorem d123_26 : mj_At 123 26 (.getfield 7) 29 [4, 0, 557] (.null) := ⟨3, (congrArg (fun z => mj_at z 26) f123).trans rfl, rfl⟩
theorem d123_29 : mj_At 123 29 (.iconst (0)) 30 [] (.int 0) := ⟨1, (congrArg (fun z => mj_at z 29) f123).trans rfl, rfl⟩
theorem d123_30 : mj_At 123 30 (.aload_n 0) 31 [0] (.null) := ⟨1, (congrArg (fun z => mj_at z 30) f123).trans rfl, rfl⟩
theorem d123_31 : mj_At 123 31 (.getfield 13) 34 [4, 1, 558] (.null) := ⟨3, (congrArg (fun z => mj_at z 31) f123).trans rfl, rfl⟩
theorem d123_34 : mj_At 123 34 (.iconst (0)) 35 [] (.int 0) := ⟨1, (congrArg (fun z => mj_at z 34) f123).trans rfl, rfl⟩
theorem d123_35 : mj_At 123 35 (.invokestatic 29) 38 [0, 94, 4, 652, 653, 69] (.null) := ⟨3, (congrArg (fun z => mj_at z 35) f123).trans rfl, rfl⟩
theorem d123_38 : mj_At 123 38 (.aload_n 0) 39 [0] (.null) := ⟨1, (congrArg (fun z => mj_at z 38) f123).trans rfl, rfl⟩
theorem d123_39 : mj_At 123 39 (.iload_n 1) 40 [1] (.null) := ⟨1, (congrArg (fun z => mj_at z 39) f123).trans rfl, rfl⟩
theorem d123_40 : mj_At 123 40 (.invokevirtual 115) 43 [1, 122, 2, 4, 655, 657, 34, 69] (.null) := ⟨3, (congrArg (fun z => mj_at z 40) f123).trans rfl, rfl⟩
theorem d123_43 : mj_At 123 43 (.aload_n 0) 44 [0] (.null) := ⟨1, (congrArg (fun z => mj_at z 43) f123).trans rfl, rfl⟩
theorem d123_44 : mj_At 123 44 (.invokevirtual 98) 47 [1, 114, 1, 4, 598, 600, 23, 69] (.null) := ⟨3, (congrArg (fun z => mj_at z 44) f123).trans rfl, rfl⟩
theorem d123_47 : mj_At 123 47 (.istore 4) 49 [4] (.null) := ⟨2, (congrArg (fun z => mj_at z 47) f123).trans rfl, rfl⟩
theorem d123_49 : mj_At 123 49 (.aload_n 0) 50 [0] (.null) := ⟨1, (congrArg (fun z => mj_at z 49) f123).trans rfl, rfl⟩
theorem d123_50 : mj_At 123 50 (.getfield 13) 53 [4, 1, 558] (.null) := ⟨3, (congrArg (fun z => mj_at z 50) f123).trans rfl, rfl⟩
theorem d123_53 : mj_At 123 53 (.iconst (0)) 54 [] (.int 0) := ⟨1, (congrArg (fun z => mj_at z 53) f123).trans rfl, rfl⟩
theorem d123_54 : mj_At 123 54 (.aload_n 0) 55 [0] (.null) := ⟨1, (congrArg (fun z => mj_at z 54) f123).trans rfl, rfl⟩
theorem d123_55 : mj_At 123 55 (.getfield 7) 58 [4, 0, 557] (.null) := ⟨3, (congrArg (fun z => mj_at z 55) f123).trans rfl, rfl⟩
theorem d123_58 : mj_At 123 58 (.iconst (0)) 59 [] (.int 0) := ⟨1, (congrArg (fun z => mj_at z 58) f123).trans rfl, rfl⟩
theorem d123_59 : mj_At 123 59 (.invokestatic 29) 62 [0, 94, 4, 652, 653, 69] (.null) := ⟨3, (congrArg (fun z => mj_at z 59) f123).trans rfl, rfl⟩
theorem d123_62 : mj_At 123 62 (.aload_n 0) 63 [0] (.null) := ⟨1, (congrArg (fun z => mj_at z 62) f123).trans rfl, rfl⟩
theorem d123_63 : mj_At 123 63 (.iload_n 3) 64 [3] (.null) := ⟨1, (congrArg (fun z => mj_at z 63) f123).trans rfl, rfl⟩
theorem d123_64 : mj_At 123 64 (.iload 4) 66 [4] (.null) := ⟨2, (congrArg (fun z => mj_at z 64) f123).trans rfl, rfl⟩
theorem d123_66 : mj_At 123 66 (.invokevirtual 105) 69 [1, 119, 3, 4, 675, 677, 39, 69] (.null) := ⟨3, (congrArg (fun z => mj_at z 66) f123).trans rfl, rfl⟩
theorem d123_69 : mj_At 123 69 (.ifCond .eq (6)) 72 [75] (.null) := ⟨3, (congrArg (fun z => mj_at z 69) f123).trans rfl, rfl⟩
theorem d123_72 : mj_At 123 72 (.bipush (-4)) 74 [] (.int (-4)) := ⟨2, (congrArg (fun z => mj_at z 72) f123).trans rfl, rfl⟩
theorem d123_74 : mj_At 123 74 (.ireturn) 75 [0] (.null) := ⟨1, (congrArg (fun z => mj_at z 74) f123).trans rfl, rfl⟩
theorem d123_75 : mj_At 123 75 (.aload_n 0) 76 [0] (.null) := ⟨1, (congrArg (fun z => mj_at z 75) f123).trans rfl, rfl⟩
theorem d123_76 : mj_At 123 76 (.invokevirtual 112) 79 [1, 95, 1, 4, 679, 681, 40, 69] (.null) := ⟨3, (congrArg (fun z => mj_at z 76) f123).trans rfl, rfl⟩
theorem d123_79 : mj_At 123 79 (.aload_n 0) 80 [0] (.null) := ⟨1, (congrArg (fun z => mj_at z 79) f123).trans rfl, rfl⟩
theorem d123_80 : mj_At 123 80 (.iload_n 1) 81 [1] (.null) := ⟨1, (congrArg (fun z => mj_at z 80) f123).trans rfl, rfl⟩
theorem d123_81 : mj_At 123 81 (.invokevirtual 115) 84 [1, 122, 2, 4, 655, 657, 34, 69] (.null) := ⟨3, (congrArg (fun z => mj_at z 81) f123).trans rfl, rfl⟩
theorem d123_84 : mj_At 123 84 (.iload_n 2) 85 [2] (.null) := ⟨1, (congrArg (fun z => mj_at z 84) f123).trans rfl, rfl⟩
theorem d123_85 : mj_At 123 85 (.ireturn) 86 [0] (.null) := ⟨1, (congrArg (fun z => mj_at z 85) f123).trans rfl, rfl⟩
theorem e123_0 {c : mj_C} {x1 : Int32} {L : Nat} {ps : List (Option (Option Nat))}   : mj_EV 123 0 [some (.ref 52), some (.int x1), none, none, none] [] (w_al L ps) c = (mj_then 123 7 [some (.ref 52), some (.int x1), none, none, none] [] (mj_EV 93 0 [some (.int x1), some (.int (nI 0)), some (.int (nI 8))] [] (w_al L ps) c)) := (mj_iload_n d123_0 rfl (mj_iconst d123_1 (mj_bipush d123_2 (mj_invS [some (.int x1), some (.int (nI 0)), some (.int (nI 8))] [] d123_4 (by decide) rfl rfl rfl rfl))))
theorem e123_7 {c : mj_C} {x1 : Int32} {z0 : Int32} {L : Nat} {ps : List (Option (Option Nat))}   : mj_EV 123 7 [some (.ref 52), some (.int x1), none, none, none] [.int z0] (w_al L ps) c = (if z0 = nI 0 then (some (some (.int (-2)), (w_al L ps), c)) else (if mj_in (nI 0) 674 = true then (mj_then 123 24 [some (.ref 52), some (.int x1), some (.int (c 53 (nI 0).toNatClampNeg)), none, none] [] (mj_EV 114 0 [some (.ref 52), none, none] [] (w_al L ps) c)) else none)) := (mj_ifne d123_7 (mj_aload_n d123_13 rfl (mj_getR d123_14 w_52 rfl (mj_iconst d123_17 (mj_iald d123_18 w_53 (mj_istore_n [some (.ref 52), some (.int x1), some (.int (c 53 (nI 0).toNatClampNeg)), none, none] d123_19 rfl rfl (mj_aload_n d123_20 rfl (mj_invV [some (.ref 52), none, none] [] d123_21 rfl rfl rfl w_52 rfl rfl))))))) (mj_bipush d123_10 (mj_iret d123_12)))
theorem e123_24 {c : mj_C} {x1 : Int32} {x2 : Int32} {z0 : Int32} {L : Nat} {ps : List (Option (Option Nat))}   : mj_EV 123 24 [some (.ref 52), some (.int x1), some (.int x2), none, none] [.int z0] (w_al L ps) c = (mj_then 123 38 [some (.ref 52), some (.int x1), some (.int x2), some (.int z0), none] [] (mj_EV 94 0 [some (.ref 53), some (.int (nI 0)), some (.ref 54), some (.int (nI 0)), none] [] (w_al L ps) c)) := (mj_istore_n [some (.ref 52), some (.int x1), some (.int x2), some (.int z0), none] d123_24 rfl rfl (mj_aload_n d123_25 rfl (mj_getR d123_26 w_52 rfl (mj_iconst d123_29 (mj_aload_n d123_30 rfl (mj_getR d123_31 w_52 rfl (mj_iconst d123_34 (mj_invS [some (.ref 53), some (.int (nI 0)), some (.ref 54), some (.int (nI 0)), none] [] d123_35 (by decide) rfl rfl rfl rfl))))))))
theorem e123_38 {c : mj_C} {x1 : Int32} {x2 : Int32} {x3 : Int32} {L : Nat} {ps : List (Option (Option Nat))}   : mj_EV 123 38 [some (.ref 52), some (.int x1), some (.int x2), some (.int x3), none] [] (w_al L ps) c = (mj_then 123 43 [some (.ref 52), some (.int x1), some (.int x2), some (.int x3), none] [] (mj_EV 122 0 [some (.ref 52), some (.int x1), none] [] (w_al L ps) c)) := (mj_aload_n d123_38 rfl (mj_iload_n d123_39 rfl (mj_invV [some (.ref 52), some (.int x1), none] [] d123_40 rfl rfl rfl w_52 rfl rfl)))
theorem e123_43 {c : mj_C} {x1 : Int32} {x2 : Int32} {x3 : Int32} {L : Nat} {ps : List (Option (Option Nat))}   : mj_EV 123 43 [some (.ref 52), some (.int x1), some (.int x2), some (.int x3), none] [] (w_al L ps) c = (mj_then 123 47 [some (.ref 52), some (.int x1), some (.int x2), some (.int x3), none] [] (mj_EV 114 0 [some (.ref 52), none, none] [] (w_al L ps) c)) := (mj_aload_n d123_43 rfl (mj_invV [some (.ref 52), none, none] [] d123_44 rfl rfl rfl w_52 rfl rfl))
theorem e123_47 {c : mj_C} {x1 : Int32} {x2 : Int32} {x3 : Int32} {z0 : Int32} {L : Nat} {ps : List (Option (Option Nat))}   : mj_EV 123 47 [some (.ref 52), some (.int x1), some (.int x2), some (.int x3), none] [.int z0] (w_al L ps) c = (mj_then 123 62 [some (.ref 52), some (.int x1), some (.int x2), some (.int x3), some (.int z0)] [] (mj_EV 94 0 [some (.ref 54), some (.int (nI 0)), some (.ref 53), some (.int (nI 0)), none] [] (w_al L ps) c)) := (mj_istore [some (.ref 52), some (.int x1), some (.int x2), some (.int x3), some (.int z0)] d123_47 rfl rfl (mj_aload_n d123_49 rfl (mj_getR d123_50 w_52 rfl (mj_iconst d123_53 (mj_aload_n d123_54 rfl (mj_getR d123_55 w_52 rfl (mj_iconst d123_58 (mj_invS [some (.ref 54), some (.int (nI 0)), some (.ref 53), some (.int (nI 0)), none] [] d123_59 (by decide) rfl rfl rfl rfl))))))))
theorem e123_62 {c : mj_C} {x1 : Int32} {x2 : Int32} {x3 : Int32} {x4 : Int32} {L : Nat} {ps : List (Option (Option Nat))}   : mj_EV 123 62 [some (.ref 52), some (.int x1), some (.int x2), some (.int x3), some (.int x4)] [] (w_al L ps) c = (mj_then 123 69 [some (.ref 52), some (.int x1), some (.int x2), some (.int x3), some (.int x4)] [] (mj_EV 119 0 [some (.ref 52), some (.int x3), some (.int x4)] [] (w_al L ps) c)) := (mj_aload_n d123_62 rfl (mj_iload_n d123_63 rfl (mj_iload d123_64 rfl (mj_invV [some (.ref 52), some (.int x3), some (.int x4)] [] d123_66 rfl rfl rfl w_52 rfl rfl))))
theorem e123_69 {c : mj_C} {x1 : Int32} {x2 : Int32} {x3 : Int32} {x4 : Int32} {z0 : Int32} {L : Nat} {ps : List (Option (Option Nat))}   : mj_EV 123 69 [some (.ref 52), some (.int x1), some (.int x2), some (.int x3), some (.int x4)] [.int z0] (w_al L ps) c = (if z0 = nI 0 then (mj_then 123 79 [some (.ref 52), some (.int x1), some (.int x2), some (.int x3), some (.int x4)] [] (mj_EV 95 0 [some (.ref 52), none] [] (w_al L ps) c)) else (some (some (.int (-4)), (w_al L ps), c))) := (mj_ifeq d123_69 (mj_aload_n d123_75 rfl (mj_invV [some (.ref 52), none] [] d123_76 rfl rfl rfl w_52 rfl rfl)) (mj_bipush d123_72 (mj_iret d123_74)))
theorem e123_79 {c : mj_C} {x1 : Int32} {x2 : Int32} {x3 : Int32} {x4 : Int32} {L : Nat} {ps : List (Option (Option Nat))}   : mj_EV 123 79 [some (.ref 52), some (.int x1), some (.int x2), some (.int x3), some (.int x4)] [] (w_al L ps) c = (mj_then 123 84 [some (.ref 52), some (.int x1), some (.int x2), some (.int x3), some (.int x4)] [] (mj_EV 122 0 [some (.ref 52), some (.int x1), none] [] (w_al L ps) c)) := (mj_aload_n d123_79 rfl (mj_iload_n d123_80 rfl (mj_invV [some (.ref 52), some (.int x1), none] [] d123_81 rfl rfl rfl w_52 rfl rfl)))
theorem e123_84 {c : mj_C} {x1 : Int32} {x2 : Int32} {x3 : Int32} {x4 : Int32} {L : Nat} {ps : List (Option (Option Nat))}   : mj_EV 123 84 [some (.ref 52), some (.int x1), some (.int x2), some (.int x3), some (.int x4)] [] (w_al L ps) c = (some (some (.int x2), (w_al L ps), c)) := (mj_iload_n d123_84 rfl (mj_iret d123_85))
/-- SqueezedLinesModel.setBound(I)I -/
theorem f124 : mj_cd 124 = mj_c124 := rfl
theorem d124_0 : mj_At 124 0 (.iload_n 1) 1 [1] (.null) := ⟨1, (congrArg (fun z => mj_at z 0) f124).trans rfl, rfl⟩
theorem d124_1 : mj_At 124 1 (.bipush (20)) 3 [] (.int 20) := ⟨2, (congrArg (fun z => mj_at z 1) f124).trans rfl, rfl⟩
theorem d124_3 : mj_At 124 3 (.sipush (999)) 6 [] (.int 999) := ⟨3, (congrArg (fun z => mj_at z 3) f124).trans rfl, rfl⟩
theorem d124_6 : mj_At 124 6 (.invokestatic 33) 9 [0, 93, 3, 595, 596, 69] (.null) := ⟨3, (congrArg (fun z => mj_at z 6) f124).trans rfl, rfl⟩
theorem d124_9 : mj_At 124 9 (.ifCond .ne (6)) 12 [15] (.null) := ⟨3, (congrArg (fun z => mj_at z 9) f124).trans rfl, rfl⟩
theorem d124_12 : mj_At 124 12 (.bipush (-2)) 14 [] (.int (-2)) := ⟨2, (congrArg (fun z => mj_at z 12) f124).trans rfl, rfl⟩
theorem d124_14 : mj_At 124 14 (.ireturn) 15 [0] (.null) := ⟨1, (congrArg (fun z => mj_at z 14) f124).trans rfl, rfl⟩
theorem d124_15 : mj_At 124 15 (.aload_n 0) 16 [0] (.null) := ⟨1, (congrArg (fun z => mj_at z 15) f124).trans rfl, rfl⟩
theorem d124_16 : mj_At 124 16 (.invokevirtual 112) 19 [1, 95, 1, 4, 679, 681, 40, 69] (.null) := ⟨3, (congrArg (fun z => mj_at z 16) f124).trans rfl, rfl⟩
theorem d124_19 : mj_At 124 19 (.aload_n 0) 20 [0] (.null) := ⟨1, (congrArg (fun z => mj_at z 19) f124).trans rfl, rfl⟩
theorem d124_20 : mj_At 124 20 (.getfield 7) 23 [4, 0, 557] (.null) := ⟨3, (congrArg (fun z => mj_at z 20) f124).trans rfl, rfl⟩
theorem d124_23 : mj_At 124 23 (.iconst (1)) 24 [] (.int 1) := ⟨1, (congrArg (fun z => mj_at z 23) f124).trans rfl, rfl⟩
theorem d124_24 : mj_At 124 24 (.iaload) 25 [] (.null) := ⟨1, (congrArg (fun z => mj_at z 24) f124).trans rfl, rfl⟩
theorem d124_25 : mj_At 124 25 (.istore_n 2) 26 [2] (.null) := ⟨1, (congrArg (fun z => mj_at z 25) f124).trans rfl, rfl⟩
theorem d124_26 : mj_At 124 26 (.aload_n 0) 27 [0] (.null) := ⟨1, (congrArg (fun z => mj_at z 26) f124).trans rfl, rfl⟩
theorem d124_27 : mj_At 124 27 (.getfield 7) 30 [4, 0, 557] (.null) := ⟨3, (congrArg (fun z => mj_at z 27) f124).trans rfl, rfl⟩
theorem d124_30 : mj_At 124 30 (.iconst (1)) 31 [] (.int 1) := ⟨1, (congrArg (fun z => mj_at z 30) f124).trans rfl, rfl⟩
theorem d124_31 : mj_At 124 31 (.iload_n 1) 32 [1] (.null) := ⟨1, (congrArg (fun z => mj_at z 31) f124).trans rfl, rfl⟩
theorem d124_32 : mj_At 124 32 (.iastore) 33 [] (.null) := ⟨1, (congrArg (fun z => mj_at z 32) f124).trans rfl, rfl⟩
theorem d124_33 : mj_At 124 33 (.iload_n 2) 34 [2] (.null) := ⟨1, (congrArg (fun z => mj_at z 33) f124).trans rfl, rfl⟩
theorem d124_34 : mj_At 124 34 (.ireturn) 35 [0] (.null) := ⟨1, (congrArg (fun z => mj_at z 34) f124).trans rfl, rfl⟩
theorem e124_0 {c : mj_C} {x1 : Int32} {L : Nat} {ps : List (Option (Option Nat))}   : mj_EV 124 0 [some (.ref 52), some (.int x1), none] [] (w_al L ps) c = (mj_then 124 9 [some (.ref 52), some (.int x1), none] [] (mj_EV 93 0 [some (.int x1), some (.int (nI 20)), some (.int (nI 999))] [] (w_al L ps) c)) := (mj_iload_n d124_0 rfl (mj_bipush d124_1 (mj_sipush d124_3 (mj_invS [some (.int x1), some (.int (nI 20)), some (.int (nI 999))] [] d124_6 (by decide) rfl rfl rfl rfl))))
theorem e124_9 {c : mj_C} {x1 : Int32} {z0 : Int32} {L : Nat} {ps : List (Option (Option Nat))}   : mj_EV 124 9 [some (.ref 52), some (.int x1), none] [.int z0] (w_al L ps) c = (if z0 = nI 0 then (some (some (.int (-2)), (w_al L ps), c)) else (mj_then 124 19 [some (.ref 52), some (.int x1), none] [] (mj_EV 95 0 [some (.ref 52), none] [] (w_al L ps) c))) := (mj_ifne d124_9 (mj_aload_n d124_15 rfl (mj_invV [some (.ref 52), none] [] d124_16 rfl rfl rfl w_52 rfl rfl)) (mj_bipush d124_12 (mj_iret d124_14)))
theorem e124_19 {c : mj_C} {x1 : Int32} {L : Nat} {ps : List (Option (Option Nat))}   : mj_EV 124 19 [some (.ref 52), some (.int x1), none] [] (w_al L ps) c = (if mj_in (nI 1) 674 = true then (if mj_in (nI 1) 674 = true then (some (some (.int (c 53 (nI 1).toNatClampNeg)), (w_al L ps), (mj_u c 53 (nI 1).toNatClampNeg x1))) else none) else none) := (mj_aload_n d124_19 rfl (mj_getR d124_20 w_52 rfl (mj_iconst d124_23 (mj_iald d124_24 w_53 (mj_istore_n [some (.ref 52), some (.int x1), some (.int (c 53 (nI 1).toNatClampNeg))] d124_25 rfl rfl (mj_aload_n d124_26 rfl (mj_getR d124_27 w_52 rfl (mj_iconst d124_30 (mj_iload_n d124_31 rfl (mj_iast d124_32 w_53 (mj_iload_n d124_33 rfl (mj_iret d124_34))))))))))))
/-- SqueezedLinesModel.newPage()I -/
theorem f125 : mj_cd 125 = mj_c125 := rfl
theorem d125_0 : mj_At 125 0 (.iconst (0)) 1 [] (.int 0) := ⟨1, (congrArg (fun z => mj_at z 0) f125).trans rfl, rfl⟩
theorem d125_1 : mj_At 125 1 (.istore_n 1) 2 [1] (.null) := ⟨1, (congrArg (fun z => mj_at z 1) f125).trans rfl, rfl⟩
theorem d125_2 : mj_At 125 2 (.iload_n 1) 3 [1] (.null) := ⟨1, (congrArg (fun z => mj_at z 2) f125).trans rfl, rfl⟩
theorem d125_3 : mj_At 125 3 (.bipush (10)) 5 [] (.int 10) := ⟨2, (congrArg (fun z => mj_at z 3) f125).trans rfl, rfl⟩
theorem d125_5 : mj_At 125 5 (.if_icmp .ge (17)) 8 [22] (.null) := ⟨3, (congrArg (fun z => mj_at z 5) f125).trans rfl, rfl⟩
theorem d125_8 : mj_At 125 8 (.aload_n 0) 9 [0] (.null) := ⟨1, (congrArg (fun z => mj_at z 8) f125).trans rfl, rfl⟩
theorem d125_9 : mj_At 125 9 (.iload_n 1) 10 [1] (.null) := ⟨1, (congrArg (fun z => mj_at z 9) f125).trans rfl, rfl⟩
theorem d125_10 : mj_At 125 10 (.invokevirtual 84) 13 [1, 96, 2, 4, 602, 604, 24, 69] (.null) := ⟨3, (congrArg (fun z => mj_at z 10) f125).trans rfl, rfl⟩
theorem d125_13 : mj_At 125 13 (.ifCond .eq (9)) 16 [22] (.null) := ⟨3, (congrArg (fun z => mj_at z 13) f125).trans rfl, rfl⟩
theorem d125_16 : mj_At 125 16 (.iinc 1 (1)) 19 [1] (.int 1) := ⟨3, (congrArg (fun z => mj_at z 16) f125).trans rfl, rfl⟩
theorem d125_19 : mj_At 125 19 (.goto (-17)) 22 [2] (.null) := ⟨3, (congrArg (fun z => mj_at z 19) f125).trans rfl, rfl⟩
theorem d125_22 : mj_At 125 22 (.iload_n 1) 23 [1] (.null) := ⟨1, (congrArg (fun z => mj_at z 22) f125).trans rfl, rfl⟩
theorem d125_23 : mj_At 125 23 (.bipush (10)) 25 [] (.int 10) := ⟨2, (congrArg (fun z => mj_at z 23) f125).trans rfl, rfl⟩
theorem d125_25 : mj_At 125 25 (.if_icmp .eq (18)) 28 [43] (.null) := ⟨3, (congrArg (fun z => mj_at z 25) f125).trans rfl, rfl⟩
theorem d125_28 : mj_At 125 28 (.aload_n 0) 29 [0] (.null) := ⟨1, (congrArg (fun z => mj_at z 28) f125).trans rfl, rfl⟩
theorem d125_29 : mj_At 125 29 (.invokevirtual 98) 32 [1, 114, 1, 4, 598, 600, 23, 69] (.null) := ⟨3, (congrArg (fun z => mj_at z 29) f125).trans rfl, rfl⟩
theorem d125_32 : mj_At 125 32 (.iconst (1)) 33 [] (.int 1) := ⟨1, (congrArg (fun z => mj_at z 32) f125).trans rfl, rfl⟩
theorem d125_33 : mj_At 125 33 (.iadd) 34 [] (.null) := ⟨1, (congrArg (fun z => mj_at z 33) f125).trans rfl, rfl⟩
theorem d125_34 : mj_At 125 34 (.aload_n 0) 35 [0] (.null) := ⟨1, (congrArg (fun z => mj_at z 34) f125).trans rfl, rfl⟩
theorem d125_35 : mj_At 125 35 (.getfield 7) 38 [4, 0, 557] (.null) := ⟨3, (congrArg (fun z => mj_at z 35) f125).trans rfl, rfl⟩
theorem d125_38 : mj_At 125 38 (.iconst (1)) 39 [] (.int 1) := ⟨1, (congrArg (fun z => mj_at z 38) f125).trans rfl, rfl⟩
theorem d125_39 : mj_At 125 39 (.iaload) 40 [] (.null) := ⟨1, (congrArg (fun z => mj_at z 39) f125).trans rfl, rfl⟩
theorem d125_40 : mj_At 125 40 (.if_icmp .le (6)) 43 [46] (.null) := ⟨3, (congrArg (fun z => mj_at z 40) f125).trans rfl, rfl⟩
theorem d125_43 : mj_At 125 43 (.bipush (-4)) 45 [] (.int (-4)) := ⟨2, (congrArg (fun z => mj_at z 43) f125).trans rfl, rfl⟩
theorem d125_45 : mj_At 125 45 (.ireturn) 46 [0] (.null) := ⟨1, (congrArg (fun z => mj_at z 45) f125).trans rfl, rfl⟩
theorem d125_46 : mj_At 125 46 (.aload_n 0) 47 [0] (.null) := ⟨1, (congrArg (fun z => mj_at z 46) f125).trans rfl, rfl⟩
theorem d125_47 : mj_At 125 47 (.invokevirtual 112) 50 [1, 95, 1, 4, 679, 681, 40, 69] (.null) := ⟨3, (congrArg (fun z => mj_at z 47) f125).trans rfl, rfl⟩
theorem d125_50 : mj_At 125 50 (.aload_n 0) 51 [0] (.null) := ⟨1, (congrArg (fun z => mj_at z 50) f125).trans rfl, rfl⟩
theorem d125_51 : mj_At 125 51 (.getfield 7) 54 [4, 0, 557] (.null) := ⟨3, (congrArg (fun z => mj_at z 51) f125).trans rfl, rfl⟩
theorem d125_54 : mj_At 125 54 (.bipush (6)) 56 [] (.int 6) := ⟨2, (congrArg (fun z => mj_at z 54) f125).trans rfl, rfl⟩
theorem d125_56 : mj_At 125 56 (.iconst (2)) 57 [] (.int 2) := ⟨1, (congrArg (fun z => mj_at z 56) f125).trans rfl, rfl⟩
theorem d125_57 : mj_At 125 57 (.iload_n 1) 58 [1] (.null) := ⟨1, (congrArg (fun z => mj_at z 57) f125).trans rfl, rfl⟩
theorem d125_58 : mj_At 125 58 (.imul) 59 [] (.null) := ⟨1, (congrArg (fun z => mj_at z 58) f125).trans rfl, rfl⟩
theorem d125_59 : mj_At 125 59 (.iadd) 60 [] (.null) := ⟨1, (congrArg (fun z => mj_at z 59) f125).trans rfl, rfl⟩
theorem d125_60 : mj_At 125 60 (.iconst (1)) 61 [] (.int 1) := ⟨1, (congrArg (fun z => mj_at z 60) f125).trans rfl, rfl⟩
theorem d125_61 : mj_At 125 61 (.iastore) 62 [] (.null) := ⟨1, (congrArg (fun z => mj_at z 61) f125).trans rfl, rfl⟩
theorem d125_62 : mj_At 125 62 (.aload_n 0) 63 [0] (.null) := ⟨1, (congrArg (fun z => mj_at z 62) f125).trans rfl, rfl⟩
theorem d125_63 : mj_At 125 63 (.getfield 7) 66 [4, 0, 557] (.null) := ⟨3, (congrArg (fun z => mj_at z 63) f125).trans rfl, rfl⟩
theorem d125_66 : mj_At 125 66 (.bipush (6)) 68 [] (.int 6) := ⟨2, (congrArg (fun z => mj_at z 66) f125).trans rfl, rfl⟩
theorem d125_68 : mj_At 125 68 (.iconst (2)) 69 [] (.int 2) := ⟨1, (congrArg (fun z => mj_at z 68) f125).trans rfl, rfl⟩
theorem d125_69 : mj_At 125 69 (.iload_n 1) 70 [1] (.null) := ⟨1, (congrArg (fun z => mj_at z 69) f125).trans rfl, rfl⟩
theorem d125_70 : mj_At 125 70 (.imul) 71 [] (.null) := ⟨1, (congrArg (fun z => mj_at z 70) f125).trans rfl, rfl⟩
theorem d125_71 : mj_At 125 71 (.iadd) 72 [] (.null) := ⟨1, (congrArg (fun z => mj_at z 71) f125).trans rfl, rfl⟩
theorem d125_72 : mj_At 125 72 (.iconst (1)) 73 [] (.int 1) := ⟨1, (congrArg (fun z => mj_at z 72) f125).trans rfl, rfl⟩
theorem d125_73 : mj_At 125 73 (.iadd) 74 [] (.null) := ⟨1, (congrArg (fun z => mj_at z 73) f125).trans rfl, rfl⟩
theorem d125_74 : mj_At 125 74 (.iconst (0)) 75 [] (.int 0) := ⟨1, (congrArg (fun z => mj_at z 74) f125).trans rfl, rfl⟩
theorem d125_75 : mj_At 125 75 (.iastore) 76 [] (.null) := ⟨1, (congrArg (fun z => mj_at z 75) f125).trans rfl, rfl⟩
theorem d125_76 : mj_At 125 76 (.iload_n 1) 77 [1] (.null) := ⟨1, (congrArg (fun z => mj_at z 76) f125).trans rfl, rfl⟩
theorem d125_77 : mj_At 125 77 (.ireturn) 78 [0] (.null) := ⟨1, (congrArg (fun z => mj_at z 77) f125).trans rfl, rfl⟩
theorem e125_0 {c : mj_C}  {L : Nat} {ps : List (Option (Option Nat))}   : mj_EV 125 0 [some (.ref 52), none] [] (w_al L ps) c = mj_EV 125 2 [some (.ref 52), some (.int (nI 0))] [] (w_al L ps) c := (mj_iconst d125_0 (mj_istore_n [some (.ref 52), some (.int (nI 0))] d125_1 rfl rfl rfl))
theorem e125_2 {c : mj_C} {x1 : Int32} {L : Nat} {ps : List (Option (Option Nat))}   : mj_EV 125 2 [some (.ref 52), some (.int x1)] [] (w_al L ps) c = (if (nI 10) ≤ x1 then (if x1 = (nI 10) then (some (some (.int (-4)), (w_al L ps), c)) else (mj_then 125 32 [some (.ref 52), some (.int x1)] [] (mj_EV 114 0 [some (.ref 52), none, none] [] (w_al L ps) c))) else (mj_then 125 13 [some (.ref 52), some (.int x1)] [] (mj_EV 96 0 [some (.ref 52), some (.int x1)] [] (w_al L ps) c))) := (mj_iload_n d125_2 rfl (mj_bipush d125_3 (mj_icge d125_5 (mj_iload_n d125_22 rfl (mj_bipush d125_23 (mj_iceq d125_25 (mj_bipush d125_43 (mj_iret d125_45)) (mj_aload_n d125_28 rfl (mj_invV [some (.ref 52), none, none] [] d125_29 rfl rfl rfl w_52 rfl rfl))))) (mj_aload_n d125_8 rfl (mj_iload_n d125_9 rfl (mj_invV [some (.ref 52), some (.int x1)] [] d125_10 rfl rfl rfl w_52 rfl rfl))))))
theorem e125_13 {c : mj_C} {x1 : Int32} {z0 : Int32} {L : Nat} {ps : List (Option (Option Nat))}   : mj_EV 125 13 [some (.ref 52), some (.int x1)] [.int z0] (w_al L ps) c = (if z0 = nI 0 then (if x1 = (nI 10) then (some (some (.int (-4)), (w_al L ps), c)) else (mj_then 125 32 [some (.ref 52), some (.int x1)] [] (mj_EV 114 0 [some (.ref 52), none, none] [] (w_al L ps) c))) else mj_EV 125 2 [some (.ref 52), some (.int (x1 + (nI 1)))] [] (w_al L ps) c) := (mj_ifeq d125_13 (mj_iload_n d125_22 rfl (mj_bipush d125_23 (mj_iceq d125_25 (mj_bipush d125_43 (mj_iret d125_45)) (mj_aload_n d125_28 rfl (mj_invV [some (.ref 52), none, none] [] d125_29 rfl rfl rfl w_52 rfl rfl))))) (mj_iinc [some (.ref 52), some (.int (x1 + (nI 1)))] d125_16 rfl rfl rfl (mj_goto d125_19 rfl)))
theorem e125_32 {c : mj_C} {x1 : Int32} {z0 : Int32} {L : Nat} {ps : List (Option (Option Nat))}   : mj_EV 125 32 [some (.ref 52), some (.int x1)] [.int z0] (w_al L ps) c = (if mj_in (nI 1) 674 = true then (if (z0 + (nI 1)) ≤ (c 53 (nI 1).toNatClampNeg) then (mj_then 125 50 [some (.ref 52), some (.int x1)] [] (mj_EV 95 0 [some (.ref 52), none] [] (w_al L ps) c)) else (some (some (.int (-4)), (w_al L ps), c))) else none) := (mj_iconst d125_32 (mj_iadd d125_33 (mj_aload_n d125_34 rfl (mj_getR d125_35 w_52 rfl (mj_iconst d125_38 (mj_iald d125_39 w_53 (mj_icle d125_40 (mj_aload_n d125_46 rfl (mj_invV [some (.ref 52), none] [] d125_47 rfl rfl rfl w_52 rfl rfl)) (mj_bipush d125_43 (mj_iret d125_45)))))))))
theorem e125_50 {c : mj_C} {x1 : Int32} {L : Nat} {ps : List (Option (Option Nat))}   : mj_EV 125 50 [some (.ref 52), some (.int x1)] [] (w_al L ps) c = (if mj_in ((nI 6) + ((nI 2) * x1)) 674 = true then (if mj_in (((nI 6) + ((nI 2) * x1)) + (nI 1)) 674 = true then (some (some (.int x1), (w_al L ps), (mj_u (mj_u c 53 ((nI 6) + ((nI 2) * x1)).toNatClampNeg (nI 1)) 53 (((nI 6) + ((nI 2) * x1)) + (nI 1)).toNatClampNeg (nI 0)))) else none) else none) := (mj_aload_n d125_50 rfl (mj_getR d125_51 w_52 rfl (mj_bipush d125_54 (mj_iconst d125_56 (mj_iload_n d125_57 rfl (mj_imul d125_58 (mj_iadd d125_59 (mj_iconst d125_60 (mj_iast d125_61 w_53 (mj_aload_n d125_62 rfl (mj_getR d125_63 w_52 rfl (mj_bipush d125_66 (mj_iconst d125_68 (mj_iload_n d125_69 rfl (mj_imul d125_70 (mj_iadd d125_71 (mj_iconst d125_72 (mj_iadd d125_73 (mj_iconst d125_74 (mj_iast d125_75 w_53 (mj_iload_n d125_76 rfl (mj_iret d125_77))))))))))))))))))))))
/-- SqueezedLinesModel.free(I)I -/
theorem f126 : mj_cd 126 = mj_c126 := rfl
theorem d126_0 : mj_At 126 0 (.aload_n 0) 1 [0] (.null) := ⟨1, (congrArg (fun z => mj_at z 0) f126).trans rfl, rfl⟩
theorem d126_1 : mj_At 126 1 (.iload_n 1) 2 [1] (.null) := ⟨1, (congrArg (fun z => mj_at z 1) f126).trans rfl, rfl⟩
theorem d126_2 : mj_At 126 2 (.invokevirtual 84) 5 [1, 96, 2, 4, 602, 604, 24, 69] (.null) := ⟨3, (congrArg (fun z => mj_at z 2) f126).trans rfl, rfl⟩
theorem d126_5 : mj_At 126 5 (.ifCond .ne (5)) 8 [10] (.null) := ⟨3, (congrArg (fun z => mj_at z 5) f126).trans rfl, rfl⟩
theorem d126_8 : mj_At 126 8 (.iconst (-1)) 9 [] (.int (-1)) := ⟨1, (congrArg (fun z => mj_at z 8) f126).trans rfl, rfl⟩
theorem d126_9 : mj_At 126 9 (.ireturn) 10 [0] (.null) := ⟨1, (congrArg (fun z => mj_at z 9) f126).trans rfl, rfl⟩
theorem d126_10 : mj_At 126 10 (.aload_n 0) 11 [0] (.null) := ⟨1, (congrArg (fun z => mj_at z 10) f126).trans rfl, rfl⟩
theorem d126_11 : mj_At 126 11 (.invokevirtual 112) 14 [1, 95, 1, 4, 679, 681, 40, 69] (.null) := ⟨3, (congrArg (fun z => mj_at z 11) f126).trans rfl, rfl⟩
theorem d126_14 : mj_At 126 14 (.aload_n 0) 15 [0] (.null) := ⟨1, (congrArg (fun z => mj_at z 14) f126).trans rfl, rfl⟩
theorem d126_15 : mj_At 126 15 (.iload_n 1) 16 [1] (.null) := ⟨1, (congrArg (fun z => mj_at z 15) f126).trans rfl, rfl⟩
theorem d126_16 : mj_At 126 16 (.invokevirtual 88) 19 [1, 110, 2, 4, 606, 608, 25, 69] (.null) := ⟨3, (congrArg (fun z => mj_at z 16) f126).trans rfl, rfl⟩
theorem d126_19 : mj_At 126 19 (.istore_n 2) 20 [2] (.null) := ⟨1, (congrArg (fun z => mj_at z 19) f126).trans rfl, rfl⟩
theorem d126_20 : mj_At 126 20 (.aload_n 0) 21 [0] (.null) := ⟨1, (congrArg (fun z => mj_at z 20) f126).trans rfl, rfl⟩
theorem d126_21 : mj_At 126 21 (.getfield 7) 24 [4, 0, 557] (.null) := ⟨3, (congrArg (fun z => mj_at z 21) f126).trans rfl, rfl⟩
theorem d126_24 : mj_At 126 24 (.bipush (6)) 26 [] (.int 6) := ⟨2, (congrArg (fun z => mj_at z 24) f126).trans rfl, rfl⟩
theorem d126_26 : mj_At 126 26 (.iconst (2)) 27 [] (.int 2) := ⟨1, (congrArg (fun z => mj_at z 26) f126).trans rfl, rfl⟩
theorem d126_27 : mj_At 126 27 (.iload_n 1) 28 [1] (.null) := ⟨1, (congrArg (fun z => mj_at z 27) f126).trans rfl, rfl⟩
theorem d126_28 : mj_At 126 28 (.imul) 29 [] (.null) := ⟨1, (congrArg (fun z => mj_at z 28) f126).trans rfl, rfl⟩
theorem d126_29 : mj_At 126 29 (.iadd) 30 [] (.null) := ⟨1, (congrArg (fun z => mj_at z 29) f126).trans rfl, rfl⟩
theorem d126_30 : mj_At 126 30 (.iconst (0)) 31 [] (.int 0) := ⟨1, (congrArg (fun z => mj_at z 30) f126).trans rfl, rfl⟩
theorem d126_31 : mj_At 126 31 (.iastore) 32 [] (.null) := ⟨1, (congrArg (fun z => mj_at z 31) f126).trans rfl, rfl⟩
theorem d126_32 : mj_At 126 32 (.aload_n 0) 33 [0] (.null) := ⟨1, (congrArg (fun z => mj_at z 32) f126).trans rfl, rfl⟩
theorem d126_33 : mj_At 126 33 (.getfield 7) 36 [4, 0, 557] (.null) := ⟨3, (congrArg (fun z => mj_at z 33) f126).trans rfl, rfl⟩
theorem d126_36 : mj_At 126 36 (.bipush (6)) 38 [] (.int 6) := ⟨2, (congrArg (fun z => mj_at z 36) f126).trans rfl, rfl⟩
theorem d126_38 : mj_At 126 38 (.iconst (2)) 39 [] (.int 2) := ⟨1, (congrArg (fun z => mj_at z 38) f126).trans rfl, rfl⟩
theorem d126_39 : mj_At 126 39 (.iload_n 1) 40 [1] (.null) := ⟨1, (congrArg (fun z => mj_at z 39) f126).trans rfl, rfl⟩
theorem d126_40 : mj_At 126 40 (.imul) 41 [] (.null) := ⟨1, (congrArg (fun z => mj_at z 40) f126).trans rfl, rfl⟩
theorem d126_41 : mj_At 126 41 (.iadd) 42 [] (.null) := ⟨1, (congrArg (fun z => mj_at z 41) f126).trans rfl, rfl⟩
theorem d126_42 : mj_At 126 42 (.iconst (1)) 43 [] (.int 1) := ⟨1, (congrArg (fun z => mj_at z 42) f126).trans rfl, rfl⟩
theorem d126_43 : mj_At 126 43 (.iadd) 44 [] (.null) := ⟨1, (congrArg (fun z => mj_at z 43) f126).trans rfl, rfl⟩
theorem d126_44 : mj_At 126 44 (.iconst (0)) 45 [] (.int 0) := ⟨1, (congrArg (fun z => mj_at z 44) f126).trans rfl, rfl⟩
theorem d126_45 : mj_At 126 45 (.iastore) 46 [] (.null) := ⟨1, (congrArg (fun z => mj_at z 45) f126).trans rfl, rfl⟩
theorem d126_46 : mj_At 126 46 (.iconst (0)) 47 [] (.int 0) := ⟨1, (congrArg (fun z => mj_at z 46) f126).trans rfl, rfl⟩
theorem d126_47 : mj_At 126 47 (.istore_n 3) 48 [3] (.null) := ⟨1, (congrArg (fun z => mj_at z 47) f126).trans rfl, rfl⟩
theorem d126_48 : mj_At 126 48 (.iload_n 3) 49 [3] (.null) := ⟨1, (congrArg (fun z => mj_at z 48) f126).trans rfl, rfl⟩
theorem d126_49 : mj_At 126 49 (.bipush (64)) 51 [] (.int 64) := ⟨2, (congrArg (fun z => mj_at z 49) f126).trans rfl, rfl⟩
theorem d126_51 : mj_At 126 51 (.if_icmp .ge (24)) 54 [75] (.null) := ⟨3, (congrArg (fun z => mj_at z 51) f126).trans rfl, rfl⟩
theorem d126_54 : mj_At 126 54 (.aload_n 0) 55 [0] (.null) := ⟨1, (congrArg (fun z => mj_at z 54) f126).trans rfl, rfl⟩
theorem d126_55 : mj_At 126 55 (.getfield 7) 58 [4, 0, 557] (.null) := ⟨3, (congrArg (fun z => mj_at z 55) f126).trans rfl, rfl⟩
theorem d126_58 : mj_At 126 58 (.bipush (34)) 60 [] (.int 34) := ⟨2, (congrArg (fun z => mj_at z 58) f126).trans rfl, rfl⟩
theorem d126_60 : mj_At 126 60 (.bipush (64)) 62 [] (.int 64) := ⟨2, (congrArg (fun z => mj_at z 60) f126).trans rfl, rfl⟩
theorem d126_62 : mj_At 126 62 (.iload_n 1) 63 [1] (.null) := ⟨1, (congrArg (fun z => mj_at z 62) f126).trans rfl, rfl⟩
theorem d126_63 : mj_At 126 63 (.imul) 64 [] (.null) := ⟨1, (congrArg (fun z => mj_at z 63) f126).trans rfl, rfl⟩
theorem d126_64 : mj_At 126 64 (.iadd) 65 [] (.null) := ⟨1, (congrArg (fun z => mj_at z 64) f126).trans rfl, rfl⟩
theorem d126_65 : mj_At 126 65 (.iload_n 3) 66 [3] (.null) := ⟨1, (congrArg (fun z => mj_at z 65) f126).trans rfl, rfl⟩
theorem d126_66 : mj_At 126 66 (.iadd) 67 [] (.null) := ⟨1, (congrArg (fun z => mj_at z 66) f126).trans rfl, rfl⟩
theorem d126_67 : mj_At 126 67 (.iconst (0)) 68 [] (.int 0) := ⟨1, (congrArg (fun z => mj_at z 67) f126).trans rfl, rfl⟩
theorem d126_68 : mj_At 126 68 (.iastore) 69 [] (.null) := ⟨1, (congrArg (fun z => mj_at z 68) f126).trans rfl, rfl⟩
theorem d126_69 : mj_At 126 69 (.iinc 3 (1)) 72 [3] (.int 1) := ⟨3, (congrArg (fun z => mj_at z 69) f126).trans rfl, rfl⟩
theorem d126_72 : mj_At 126 72 (.goto (-24)) 75 [48] (.null) := ⟨3, (congrArg (fun z => mj_at z 72) f126).trans rfl, rfl⟩
theorem d126_75 : mj_At 126 75 (.bipush (26)) 77 [] (.int 26) := ⟨2, (congrArg (fun z => mj_at z 75) f126).trans rfl, rfl⟩
theorem d126_77 : mj_At 126 77 (.iconst (2)) 78 [] (.int 2) := ⟨1, (congrArg (fun z => mj_at z 77) f126).trans rfl, rfl⟩
theorem d126_78 : mj_At 126 78 (.iload_n 1) 79 [1] (.null) := ⟨1, (congrArg (fun z => mj_at z 78) f126).trans rfl, rfl⟩
theorem d126_79 : mj_At 126 79 (.iconst (4)) 80 [] (.int 4) := ⟨1, (congrArg (fun z => mj_at z 79) f126).trans rfl, rfl⟩
theorem d126_80 : mj_At 126 80 (.irem) 81 [] (.null) := ⟨1, (congrArg (fun z => mj_at z 80) f126).trans rfl, rfl⟩
theorem d126_81 : mj_At 126 81 (.imul) 82 [] (.null) := ⟨1, (congrArg (fun z => mj_at z 81) f126).trans rfl, rfl⟩
theorem d126_82 : mj_At 126 82 (.iadd) 83 [] (.null) := ⟨1, (congrArg (fun z => mj_at z 82) f126).trans rfl, rfl⟩
theorem d126_83 : mj_At 126 83 (.istore_n 3) 84 [3] (.null) := ⟨1, (congrArg (fun z => mj_at z 83) f126).trans rfl, rfl⟩
theorem d126_84 : mj_At 126 84 (.aload_n 0) 85 [0] (.null) := ⟨1, (congrArg (fun z => mj_at z 84) f126).trans rfl, rfl⟩
theorem d126_85 : mj_At 126 85 (.getfield 7) 88 [4, 0, 557] (.null) := ⟨3, (congrArg (fun z => mj_at z 85) f126).trans rfl, rfl⟩
theorem d126_88 : mj_At 126 88 (.iload_n 3) 89 [3] (.null) := ⟨1, (congrArg (fun z => mj_at z 88) f126).trans rfl, rfl⟩
theorem d126_89 : mj_At 126 89 (.iaload) 90 [] (.null) := ⟨1, (congrArg (fun z => mj_at z 89) f126).trans rfl, rfl⟩
theorem d126_90 : mj_At 126 90 (.iload_n 1) 91 [1] (.null) := ⟨1, (congrArg (fun z => mj_at z 90) f126).trans rfl, rfl⟩
theorem d126_91 : mj_At 126 91 (.if_icmp .ne (20)) 94 [111] (.null) := ⟨3, (congrArg (fun z => mj_at z 91) f126).trans rfl, rfl⟩
theorem d126_94 : mj_At 126 94 (.aload_n 0) 95 [0] (.null) := ⟨1, (congrArg (fun z => mj_at z 94) f126).trans rfl, rfl⟩
theorem d126_95 : mj_At 126 95 (.getfield 7) 98 [4, 0, 557] (.null) := ⟨3, (congrArg (fun z => mj_at z 95) f126).trans rfl, rfl⟩
theorem d126_98 : mj_At 126 98 (.iload_n 3) 99 [3] (.null) := ⟨1, (congrArg (fun z => mj_at z 98) f126).trans rfl, rfl⟩
theorem d126_99 : mj_At 126 99 (.bipush (-6)) 101 [] (.int (-6)) := ⟨2, (congrArg (fun z => mj_at z 99) f126).trans rfl, rfl⟩
theorem d126_101 : mj_At 126 101 (.iastore) 102 [] (.null) := ⟨1, (congrArg (fun z => mj_at z 101) f126).trans rfl, rfl⟩
theorem d126_102 : mj_At 126 102 (.aload_n 0) 103 [0] (.null) := ⟨1, (congrArg (fun z => mj_at z 102) f126).trans rfl, rfl⟩
theorem d126_103 : mj_At 126 103 (.getfield 7) 106 [4, 0, 557] (.null) := ⟨3, (congrArg (fun z => mj_at z 103) f126).trans rfl, rfl⟩
theorem d126_106 : mj_At 126 106 (.iload_n 3) 107 [3] (.null) := ⟨1, (congrArg (fun z => mj_at z 106) f126).trans rfl, rfl⟩
theorem d126_107 : mj_At 126 107 (.iconst (1)) 108 [] (.int 1) := ⟨1, (congrArg (fun z => mj_at z 107) f126).trans rfl, rfl⟩
theorem d126_108 : mj_At 126 108 (.iadd) 109 [] (.null) := ⟨1, (congrArg (fun z => mj_at z 108) f126).trans rfl, rfl⟩
theorem d126_109 : mj_At 126 109 (.iconst (0)) 110 [] (.int 0) := ⟨1, (congrArg (fun z => mj_at z 109) f126).trans rfl, rfl⟩
theorem d126_110 : mj_At 126 110 (.iastore) 111 [] (.null) := ⟨1, (congrArg (fun z => mj_at z 110) f126).trans rfl, rfl⟩
theorem d126_111 : mj_At 126 111 (.iload_n 2) 112 [2] (.null) := ⟨1, (congrArg (fun z => mj_at z 111) f126).trans rfl, rfl⟩
theorem d126_112 : mj_At 126 112 (.ireturn) 113 [0] (.null) := ⟨1, (congrArg (fun z => mj_at z 112) f126).trans rfl, rfl⟩
theorem e126_0 {c : mj_C} {x1 : Int32} {L : Nat} {ps : List (Option (Option Nat))}   : mj_EV 126 0 [some (.ref 52), some (.int x1), none, none] [] (w_al L ps) c = (mj_then 126 5 [some (.ref 52), some (.int x1), none, none] [] (mj_EV 96 0 [some (.ref 52), some (.int x1)] [] (w_al L ps) c)) := (mj_aload_n d126_0 rfl (mj_iload_n d126_1 rfl (mj_invV [some (.ref 52), some (.int x1)] [] d126_2 rfl rfl rfl w_52 rfl rfl)))
theorem e126_5 {c : mj_C} {x1 : Int32} {z0 : Int32} {L : Nat} {ps : List (Option (Option Nat))}   : mj_EV 126 5 [some (.ref 52), some (.int x1), none, none] [.int z0] (w_al L ps) c = (if z0 = nI 0 then (some (some (.int (-1)), (w_al L ps), c)) else (mj_then 126 14 [some (.ref 52), some (.int x1), none, none] [] (mj_EV 95 0 [some (.ref 52), none] [] (w_al L ps) c))) := (mj_ifne d126_5 (mj_aload_n d126_10 rfl (mj_invV [some (.ref 52), none] [] d126_11 rfl rfl rfl w_52 rfl rfl)) (mj_iconst d126_8 (mj_iret d126_9)))
theorem e126_14 {c : mj_C} {x1 : Int32} {L : Nat} {ps : List (Option (Option Nat))}   : mj_EV 126 14 [some (.ref 52), some (.int x1), none, none] [] (w_al L ps) c = (mj_then 126 19 [some (.ref 52), some (.int x1), none, none] [] (mj_EV 110 0 [some (.ref 52), some (.int x1)] [] (w_al L ps) c)) := (mj_aload_n d126_14 rfl (mj_iload_n d126_15 rfl (mj_invV [some (.ref 52), some (.int x1)] [] d126_16 rfl rfl rfl w_52 rfl rfl)))
theorem e126_19 {c : mj_C} {x1 : Int32} {z0 : Int32} {L : Nat} {ps : List (Option (Option Nat))}   : mj_EV 126 19 [some (.ref 52), some (.int x1), none, none] [.int z0] (w_al L ps) c = (if mj_in ((nI 6) + ((nI 2) * x1)) 674 = true then (if mj_in (((nI 6) + ((nI 2) * x1)) + (nI 1)) 674 = true then mj_EV 126 48 [some (.ref 52), some (.int x1), some (.int z0), some (.int (nI 0))] [] (w_al L ps) (mj_u (mj_u c 53 ((nI 6) + ((nI 2) * x1)).toNatClampNeg (nI 0)) 53 (((nI 6) + ((nI 2) * x1)) + (nI 1)).toNatClampNeg (nI 0)) else none) else none) := (mj_istore_n [some (.ref 52), some (.int x1), some (.int z0), none] d126_19 rfl rfl (mj_aload_n d126_20 rfl (mj_getR d126_21 w_52 rfl (mj_bipush d126_24 (mj_iconst d126_26 (mj_iload_n d126_27 rfl (mj_imul d126_28 (mj_iadd d126_29 (mj_iconst d126_30 (mj_iast d126_31 w_53 (mj_aload_n d126_32 rfl (mj_getR d126_33 w_52 rfl (mj_bipush d126_36 (mj_iconst d126_38 (mj_iload_n d126_39 rfl (mj_imul d126_40 (mj_iadd d126_41 (mj_iconst d126_42 (mj_iadd d126_43 (mj_iconst d126_44 (mj_iast d126_45 w_53 (mj_iconst d126_46 (mj_istore_n [some (.ref 52), some (.int x1), some (.int z0), some (.int (nI 0))] d126_47 rfl rfl rfl)))))))))))))))))))))))
theorem e126_48 {c : mj_C} {x1 : Int32} {x2 : Int32} {x3 : Int32} {L : Nat} {ps : List (Option (Option Nat))}   : mj_EV 126 48 [some (.ref 52), some (.int x1), some (.int x2), some (.int x3)] [] (w_al L ps) c = (if (nI 64) ≤ x3 then (if (!decide ((nI 4) = nI 0)) = true then (if mj_in ((nI 26) + ((nI 2) * (x1 - x1 / (nI 4) * (nI 4)))) 674 = true then (if (c 53 ((nI 26) + ((nI 2) * (x1 - x1 / (nI 4) * (nI 4)))).toNatClampNeg) = x1 then (if mj_in ((nI 26) + ((nI 2) * (x1 - x1 / (nI 4) * (nI 4)))) 674 = true then (if mj_in (((nI 26) + ((nI 2) * (x1 - x1 / (nI 4) * (nI 4)))) + (nI 1)) 674 = true then (some (some (.int x2), (w_al L ps), (mj_u (mj_u c 53 ((nI 26) + ((nI 2) * (x1 - x1 / (nI 4) * (nI 4)))).toNatClampNeg (-6)) 53 (((nI 26) + ((nI 2) * (x1 - x1 / (nI 4) * (nI 4)))) + (nI 1)).toNatClampNeg (nI 0)))) else none) else none) else (some (some (.int x2), (w_al L ps), c))) else none) else none) else (if mj_in (((nI 34) + ((nI 64) * x1)) + x3) 674 = true then mj_EV 126 48 [some (.ref 52), some (.int x1), some (.int x2), some (.int (x3 + (nI 1)))] [] (w_al L ps) (mj_u c 53 (((nI 34) + ((nI 64) * x1)) + x3).toNatClampNeg (nI 0)) else none)) := (mj_iload_n d126_48 rfl (mj_bipush d126_49 (mj_icge d126_51 (mj_bipush d126_75 (mj_iconst d126_77 (mj_iload_n d126_78 rfl (mj_iconst d126_79 (mj_irem d126_80 (mj_imul d126_81 (mj_iadd d126_82 (mj_istore_n [some (.ref 52), some (.int x1), some (.int x2), some (.int ((nI 26) + ((nI 2) * (x1 - x1 / (nI 4) * (nI 4)))))] d126_83 rfl rfl (mj_aload_n d126_84 rfl (mj_getR d126_85 w_52 rfl (mj_iload_n d126_88 rfl (mj_iald d126_89 w_53 (mj_iload_n d126_90 rfl (mj_icne d126_91 (mj_iload_n d126_111 rfl (mj_iret d126_112)) (mj_aload_n d126_94 rfl (mj_getR d126_95 w_52 rfl (mj_iload_n d126_98 rfl (mj_bipush d126_99 (mj_iast d126_101 w_53 (mj_aload_n d126_102 rfl (mj_getR d126_103 w_52 rfl (mj_iload_n d126_106 rfl (mj_iconst d126_107 (mj_iadd d126_108 (mj_iconst d126_109 (mj_iast d126_110 w_53 (mj_iload_n d126_111 rfl (mj_iret d126_112)))))))))))))))))))))))))))) (mj_aload_n d126_54 rfl (mj_getR d126_55 w_52 rfl (mj_bipush d126_58 (mj_bipush d126_60 (mj_iload_n d126_62 rfl (mj_imul d126_63 (mj_iadd d126_64 (mj_iload_n d126_65 rfl (mj_iadd d126_66 (mj_iconst d126_67 (mj_iast d126_68 w_53 (mj_iinc [some (.ref 52), some (.int x1), some (.int x2), some (.int (x3 + (nI 1)))] d126_69 rfl rfl rfl (mj_goto d126_72 rfl))))))))))))))))
/-- SqueezedLinesModel.layAnew(I)I -/
theorem f127 : mj_cd 127 = mj_c127 := rfl
theorem d127_0 : mj_At 127 0 (.aload_n 0) 1 [0] (.null) := ⟨1, (congrArg (fun z => mj_at z 0) f127).trans rfl, rfl⟩
theorem d127_1 : mj_At 127 1 (.iload_n 1) 2 [1] (.null) := ⟨1, (congrArg (fun z => mj_at z 1) f127).trans rfl, rfl⟩
theorem d127_2 : mj_At 127 2 (.invokevirtual 84) 5 [1, 96, 2, 4, 602, 604, 24, 69] (.null) := ⟨3, (congrArg (fun z => mj_at z 2) f127).trans rfl, rfl⟩
theorem d127_5 : mj_At 127 5 (.ifCond .ne (5)) 8 [10] (.null) := ⟨3, (congrArg (fun z => mj_at z 5) f127).trans rfl, rfl⟩
theorem d127_8 : mj_At 127 8 (.iconst (-1)) 9 [] (.int (-1)) := ⟨1, (congrArg (fun z => mj_at z 8) f127).trans rfl, rfl⟩
theorem d127_9 : mj_At 127 9 (.ireturn) 10 [0] (.null) := ⟨1, (congrArg (fun z => mj_at z 9) f127).trans rfl, rfl⟩
theorem d127_10 : mj_At 127 10 (.aload_n 0) 11 [0] (.null) := ⟨1, (congrArg (fun z => mj_at z 10) f127).trans rfl, rfl⟩
theorem d127_11 : mj_At 127 11 (.invokevirtual 112) 14 [1, 95, 1, 4, 679, 681, 40, 69] (.null) := ⟨3, (congrArg (fun z => mj_at z 11) f127).trans rfl, rfl⟩
theorem d127_14 : mj_At 127 14 (.aload_n 0) 15 [0] (.null) := ⟨1, (congrArg (fun z => mj_at z 14) f127).trans rfl, rfl⟩
theorem d127_15 : mj_At 127 15 (.iload_n 1) 16 [1] (.null) := ⟨1, (congrArg (fun z => mj_at z 15) f127).trans rfl, rfl⟩
theorem d127_16 : mj_At 127 16 (.invokevirtual 62) 19 [1, 105, 2, 4, 610, 612, 26, 69] (.null) := ⟨3, (congrArg (fun z => mj_at z 16) f127).trans rfl, rfl⟩
theorem d127_19 : mj_At 127 19 (.istore_n 2) 20 [2] (.null) := ⟨1, (congrArg (fun z => mj_at z 19) f127).trans rfl, rfl⟩
theorem d127_20 : mj_At 127 20 (.aload_n 0) 21 [0] (.null) := ⟨1, (congrArg (fun z => mj_at z 20) f127).trans rfl, rfl⟩
theorem d127_21 : mj_At 127 21 (.iload_n 1) 22 [1] (.null) := ⟨1, (congrArg (fun z => mj_at z 21) f127).trans rfl, rfl⟩
theorem d127_22 : mj_At 127 22 (.invokevirtual 80) 25 [1, 112, 2, 4, 667, 669, 37, 69] (.null) := ⟨3, (congrArg (fun z => mj_at z 22) f127).trans rfl, rfl⟩
theorem d127_25 : mj_At 127 25 (.iload_n 2) 26 [2] (.null) := ⟨1, (congrArg (fun z => mj_at z 25) f127).trans rfl, rfl⟩
theorem d127_26 : mj_At 127 26 (.ireturn) 27 [0] (.null) := ⟨1, (congrArg (fun z => mj_at z 26) f127).trans rfl, rfl⟩
theorem e127_0 {c : mj_C} {x1 : Int32} {L : Nat} {ps : List (Option (Option Nat))}   : mj_EV 127 0 [some (.ref 52), some (.int x1), none] [] (w_al L ps) c = (mj_then 127 5 [some (.ref 52), some (.int x1), none] [] (mj_EV 96 0 [some (.ref 52), some (.int x1)] [] (w_al L ps) c)) := (mj_aload_n d127_0 rfl (mj_iload_n d127_1 rfl (mj_invV [some (.ref 52), some (.int x1)] [] d127_2 rfl rfl rfl w_52 rfl rfl)))
theorem e127_5 {c : mj_C} {x1 : Int32} {z0 : Int32} {L : Nat} {ps : List (Option (Option Nat))}   : mj_EV 127 5 [some (.ref 52), some (.int x1), none] [.int z0] (w_al L ps) c = (if z0 = nI 0 then (some (some (.int (-1)), (w_al L ps), c)) else (mj_then 127 14 [some (.ref 52), some (.int x1), none] [] (mj_EV 95 0 [some (.ref 52), none] [] (w_al L ps) c))) := (mj_ifne d127_5 (mj_aload_n d127_10 rfl (mj_invV [some (.ref 52), none] [] d127_11 rfl rfl rfl w_52 rfl rfl)) (mj_iconst d127_8 (mj_iret d127_9)))
theorem e127_14 {c : mj_C} {x1 : Int32} {L : Nat} {ps : List (Option (Option Nat))}   : mj_EV 127 14 [some (.ref 52), some (.int x1), none] [] (w_al L ps) c = (mj_then 127 19 [some (.ref 52), some (.int x1), none] [] (mj_EV 105 0 [some (.ref 52), some (.int x1)] [] (w_al L ps) c)) := (mj_aload_n d127_14 rfl (mj_iload_n d127_15 rfl (mj_invV [some (.ref 52), some (.int x1)] [] d127_16 rfl rfl rfl w_52 rfl rfl)))
theorem e127_19 {c : mj_C} {x1 : Int32} {z0 : Int32} {L : Nat} {ps : List (Option (Option Nat))}   : mj_EV 127 19 [some (.ref 52), some (.int x1), none] [.int z0] (w_al L ps) c = (mj_then 127 25 [some (.ref 52), some (.int x1), some (.int z0)] [] (mj_EV 112 0 [some (.ref 52), some (.int x1)] [] (w_al L ps) c)) := (mj_istore_n [some (.ref 52), some (.int x1), some (.int z0)] d127_19 rfl rfl (mj_aload_n d127_20 rfl (mj_iload_n d127_21 rfl (mj_invV [some (.ref 52), some (.int x1)] [] d127_22 rfl rfl rfl w_52 rfl rfl))))
theorem e127_25 {c : mj_C} {x1 : Int32} {x2 : Int32} {L : Nat} {ps : List (Option (Option Nat))}   : mj_EV 127 25 [some (.ref 52), some (.int x1), some (.int x2)] [] (w_al L ps) c = (some (some (.int x2), (w_al L ps), c)) := (mj_iload_n d127_25 rfl (mj_iret d127_26))
/-- SqueezedLinesModel.laysAll()V -/
theorem f128 : mj_cd 128 = mj_c128 := rfl
theorem d128_0 : mj_At 128 0 (.iconst (0)) 1 [] (.int 0) := ⟨1, (congrArg (fun z => mj_at z 0) f128).trans rfl, rfl⟩
theorem d128_1 : mj_At 128 1 (.istore_n 1) 2 [1] (.null) := ⟨1, (congrArg (fun z => mj_at z 1) f128).trans rfl, rfl⟩
theorem d128_2 : mj_At 128 2 (.iload_n 1) 3 [1] (.null) := ⟨1, (congrArg (fun z => mj_at z 2) f128).trans rfl, rfl⟩
theorem d128_3 : mj_At 128 3 (.bipush (10)) 5 [] (.int 10) := ⟨2, (congrArg (fun z => mj_at z 3) f128).trans rfl, rfl⟩
theorem d128_5 : mj_At 128 5 (.if_icmp .ge (22)) 8 [27] (.null) := ⟨3, (congrArg (fun z => mj_at z 5) f128).trans rfl, rfl⟩
theorem d128_8 : mj_At 128 8 (.aload_n 0) 9 [0] (.null) := ⟨1, (congrArg (fun z => mj_at z 8) f128).trans rfl, rfl⟩
theorem d128_9 : mj_At 128 9 (.iload_n 1) 10 [1] (.null) := ⟨1, (congrArg (fun z => mj_at z 9) f128).trans rfl, rfl⟩
theorem d128_10 : mj_At 128 10 (.invokevirtual 84) 13 [1, 96, 2, 4, 602, 604, 24, 69] (.null) := ⟨3, (congrArg (fun z => mj_at z 10) f128).trans rfl, rfl⟩
theorem d128_13 : mj_At 128 13 (.ifCond .eq (8)) 16 [21] (.null) := ⟨3, (congrArg (fun z => mj_at z 13) f128).trans rfl, rfl⟩
theorem d128_16 : mj_At 128 16 (.aload_n 0) 17 [0] (.null) := ⟨1, (congrArg (fun z => mj_at z 16) f128).trans rfl, rfl⟩
theorem d128_17 : mj_At 128 17 (.iload_n 1) 18 [1] (.null) := ⟨1, (congrArg (fun z => mj_at z 17) f128).trans rfl, rfl⟩
theorem d128_18 : mj_At 128 18 (.invokevirtual 80) 21 [1, 112, 2, 4, 667, 669, 37, 69] (.null) := ⟨3, (congrArg (fun z => mj_at z 18) f128).trans rfl, rfl⟩
theorem d128_21 : mj_At 128 21 (.iinc 1 (1)) 24 [1] (.int 1) := ⟨3, (congrArg (fun z => mj_at z 21) f128).trans rfl, rfl⟩
theorem d128_24 : mj_At 128 24 (.goto (-22)) 27 [2] (.null) := ⟨3, (congrArg (fun z => mj_at z 24) f128).trans rfl, rfl⟩
theorem d128_27 : mj_At 128 27 (.return_) 28 [] (.null) := ⟨1, (congrArg (fun z => mj_at z 27) f128).trans rfl, rfl⟩
theorem e128_0 {c : mj_C}  {L : Nat} {ps : List (Option (Option Nat))}   : mj_EV 128 0 [some (.ref 52), none] [] (w_al L ps) c = mj_EV 128 2 [some (.ref 52), some (.int (nI 0))] [] (w_al L ps) c := (mj_iconst d128_0 (mj_istore_n [some (.ref 52), some (.int (nI 0))] d128_1 rfl rfl rfl))
theorem e128_2 {c : mj_C} {x1 : Int32} {L : Nat} {ps : List (Option (Option Nat))}   : mj_EV 128 2 [some (.ref 52), some (.int x1)] [] (w_al L ps) c = (if (nI 10) ≤ x1 then (some (none, (w_al L ps), c)) else (mj_then 128 13 [some (.ref 52), some (.int x1)] [] (mj_EV 96 0 [some (.ref 52), some (.int x1)] [] (w_al L ps) c))) := (mj_iload_n d128_2 rfl (mj_bipush d128_3 (mj_icge d128_5 (mj_vret d128_27) (mj_aload_n d128_8 rfl (mj_iload_n d128_9 rfl (mj_invV [some (.ref 52), some (.int x1)] [] d128_10 rfl rfl rfl w_52 rfl rfl))))))
theorem e128_13 {c : mj_C} {x1 : Int32} {z0 : Int32} {L : Nat} {ps : List (Option (Option Nat))}   : mj_EV 128 13 [some (.ref 52), some (.int x1)] [.int z0] (w_al L ps) c = (if z0 = nI 0 then mj_EV 128 21 [some (.ref 52), some (.int x1)] [] (w_al L ps) c else (mj_then 128 21 [some (.ref 52), some (.int x1)] [] (mj_EV 112 0 [some (.ref 52), some (.int x1)] [] (w_al L ps) c))) := (mj_ifeq d128_13 rfl (mj_aload_n d128_16 rfl (mj_iload_n d128_17 rfl (mj_invV [some (.ref 52), some (.int x1)] [] d128_18 rfl rfl rfl w_52 rfl rfl))))
theorem e128_21 {c : mj_C} {x1 : Int32} {L : Nat} {ps : List (Option (Option Nat))}   : mj_EV 128 21 [some (.ref 52), some (.int x1)] [] (w_al L ps) c = mj_EV 128 2 [some (.ref 52), some (.int (x1 + (nI 1)))] [] (w_al L ps) c := (mj_iinc [some (.ref 52), some (.int (x1 + (nI 1)))] d128_21 rfl rfl rfl (mj_goto d128_24 rfl))
/-- SqueezedLinesModel.layAllAnew()I -/
theorem f129 : mj_cd 129 = mj_c129 := rfl
theorem d129_0 : mj_At 129 0 (.aload_n 0) 1 [0] (.null) := ⟨1, (congrArg (fun z => mj_at z 0) f129).trans rfl, rfl⟩
theorem d129_1 : mj_At 129 1 (.invokevirtual 112) 4 [1, 95, 1, 4, 679, 681, 40, 69] (.null) := ⟨3, (congrArg (fun z => mj_at z 1) f129).trans rfl, rfl⟩
theorem d129_4 : mj_At 129 4 (.aload_n 0) 5 [0] (.null) := ⟨1, (congrArg (fun z => mj_at z 4) f129).trans rfl, rfl⟩
theorem d129_5 : mj_At 129 5 (.invokevirtual 98) 8 [1, 114, 1, 4, 598, 600, 23, 69] (.null) := ⟨3, (congrArg (fun z => mj_at z 5) f129).trans rfl, rfl⟩
theorem d129_8 : mj_At 129 8 (.istore_n 1) 9 [1] (.null) := ⟨1, (congrArg (fun z => mj_at z 8) f129).trans rfl, rfl⟩
theorem d129_9 : mj_At 129 9 (.aload_n 0) 10 [0] (.null) := ⟨1, (congrArg (fun z => mj_at z 9) f129).trans rfl, rfl⟩
theorem d129_10 : mj_At 129 10 (.invokevirtual 118) 13 [1, 128, 1, 4, 703, 705, 41, 69] (.null) := ⟨3, (congrArg (fun z => mj_at z 10) f129).trans rfl, rfl⟩
theorem d129_13 : mj_At 129 13 (.iload_n 1) 14 [1] (.null) := ⟨1, (congrArg (fun z => mj_at z 13) f129).trans rfl, rfl⟩
theorem d129_14 : mj_At 129 14 (.aload_n 0) 15 [0] (.null) := ⟨1, (congrArg (fun z => mj_at z 14) f129).trans rfl, rfl⟩
theorem d129_15 : mj_At 129 15 (.invokevirtual 98) 18 [1, 114, 1, 4, 598, 600, 23, 69] (.null) := ⟨3, (congrArg (fun z => mj_at z 15) f129).trans rfl, rfl⟩
theorem d129_18 : mj_At 129 18 (.isub) 19 [] (.null) := ⟨1, (congrArg (fun z => mj_at z 18) f129).trans rfl, rfl⟩
theorem d129_19 : mj_At 129 19 (.ireturn) 20 [0] (.null) := ⟨1, (congrArg (fun z => mj_at z 19) f129).trans rfl, rfl⟩
theorem e129_0 {c : mj_C}  {L : Nat} {ps : List (Option (Option Nat))}   : mj_EV 129 0 [some (.ref 52), none] [] (w_al L ps) c = (mj_then 129 4 [some (.ref 52), none] [] (mj_EV 95 0 [some (.ref 52), none] [] (w_al L ps) c)) := (mj_aload_n d129_0 rfl (mj_invV [some (.ref 52), none] [] d129_1 rfl rfl rfl w_52 rfl rfl))
theorem e129_4 {c : mj_C}  {L : Nat} {ps : List (Option (Option Nat))}   : mj_EV 129 4 [some (.ref 52), none] [] (w_al L ps) c = (mj_then 129 8 [some (.ref 52), none] [] (mj_EV 114 0 [some (.ref 52), none, none] [] (w_al L ps) c)) := (mj_aload_n d129_4 rfl (mj_invV [some (.ref 52), none, none] [] d129_5 rfl rfl rfl w_52 rfl rfl))
theorem e129_8 {c : mj_C} {z0 : Int32} {L : Nat} {ps : List (Option (Option Nat))}   : mj_EV 129 8 [some (.ref 52), none] [.int z0] (w_al L ps) c = (mj_then 129 13 [some (.ref 52), some (.int z0)] [] (mj_EV 128 0 [some (.ref 52), none] [] (w_al L ps) c)) := (mj_istore_n [some (.ref 52), some (.int z0)] d129_8 rfl rfl (mj_aload_n d129_9 rfl (mj_invV [some (.ref 52), none] [] d129_10 rfl rfl rfl w_52 rfl rfl)))
theorem e129_13 {c : mj_C} {x1 : Int32} {L : Nat} {ps : List (Option (Option Nat))}   : mj_EV 129 13 [some (.ref 52), some (.int x1)] [] (w_al L ps) c = (mj_then 129 18 [some (.ref 52), some (.int x1)] [.int x1] (mj_EV 114 0 [some (.ref 52), none, none] [] (w_al L ps) c)) := (mj_iload_n d129_13 rfl (mj_aload_n d129_14 rfl (mj_invV [some (.ref 52), none, none] [.int x1] d129_15 rfl rfl rfl w_52 rfl rfl)))
theorem e129_18 {c : mj_C} {x1 : Int32} {z0 : Int32} {z1 : Int32} {L : Nat} {ps : List (Option (Option Nat))}   : mj_EV 129 18 [some (.ref 52), some (.int x1)] [.int z1, .int z0] (w_al L ps) c = (some (some (.int (z0 - z1)), (w_al L ps), c)) := (mj_isub d129_18 (mj_iret d129_19))
/-- SqueezedLinesModel.isLine(II)Z -/
theorem f130 : mj_cd 130 = mj_c130 := rfl
theorem d130_0 : mj_At 130 0 (.aload_n 0) 1 [0] (.null) := ⟨1, (congrArg (fun z => mj_at z 0) f130).trans rfl, rfl⟩
theorem d130_1 : mj_At 130 1 (.iload_n 1) 2 [1] (.null) := ⟨1, (congrArg (fun z => mj_at z 1) f130).trans rfl, rfl⟩
theorem d130_2 : mj_At 130 2 (.invokevirtual 84) 5 [1, 96, 2, 4, 602, 604, 24, 69] (.null) := ⟨3, (congrArg (fun z => mj_at z 2) f130).trans rfl, rfl⟩
theorem d130_5 : mj_At 130 5 (.ifCond .eq (14)) 8 [19] (.null) := ⟨3, (congrArg (fun z => mj_at z 5) f130).trans rfl, rfl⟩
theorem d130_8 : mj_At 130 8 (.iload_n 2) 9 [2] (.null) := ⟨1, (congrArg (fun z => mj_at z 8) f130).trans rfl, rfl⟩
theorem d130_9 : mj_At 130 9 (.invokestatic 121) 12 [0, 97, 1, 715, 716, 69] (.null) := ⟨3, (congrArg (fun z => mj_at z 9) f130).trans rfl, rfl⟩
theorem d130_12 : mj_At 130 12 (.ifCond .eq (7)) 15 [19] (.null) := ⟨3, (congrArg (fun z => mj_at z 12) f130).trans rfl, rfl⟩
theorem d130_15 : mj_At 130 15 (.iconst (1)) 16 [] (.int 1) := ⟨1, (congrArg (fun z => mj_at z 15) f130).trans rfl, rfl⟩
theorem d130_16 : mj_At 130 16 (.goto (4)) 19 [20] (.null) := ⟨3, (congrArg (fun z => mj_at z 16) f130).trans rfl, rfl⟩
theorem d130_19 : mj_At 130 19 (.iconst (0)) 20 [] (.int 0) := ⟨1, (congrArg (fun z => mj_at z 19) f130).trans rfl, rfl⟩
theorem d130_20 : mj_At 130 20 (.ireturn) 21 [1] (.null) := ⟨1, (congrArg (fun z => mj_at z 20) f130).trans rfl, rfl⟩
theorem e130_0 {c : mj_C} {x1 : Int32} {x2 : Int32} {L : Nat} {ps : List (Option (Option Nat))}   : mj_EV 130 0 [some (.ref 52), some (.int x1), some (.int x2)] [] (w_al L ps) c = (mj_then 130 5 [some (.ref 52), some (.int x1), some (.int x2)] [] (mj_EV 96 0 [some (.ref 52), some (.int x1)] [] (w_al L ps) c)) := (mj_aload_n d130_0 rfl (mj_iload_n d130_1 rfl (mj_invV [some (.ref 52), some (.int x1)] [] d130_2 rfl rfl rfl w_52 rfl rfl)))
theorem e130_5 {c : mj_C} {x1 : Int32} {x2 : Int32} {z0 : Int32} {L : Nat} {ps : List (Option (Option Nat))}   : mj_EV 130 5 [some (.ref 52), some (.int x1), some (.int x2)] [.int z0] (w_al L ps) c = (if z0 = nI 0 then (some (some (.int (nI 0)), (w_al L ps), c)) else (mj_then 130 12 [some (.ref 52), some (.int x1), some (.int x2)] [] (mj_EV 97 0 [some (.int x2)] [] (w_al L ps) c))) := (mj_ifeq d130_5 (mj_iconst d130_19 (mj_zret0 d130_20)) (mj_iload_n d130_8 rfl (mj_invS [some (.int x2)] [] d130_9 (by decide) rfl rfl rfl rfl)))
theorem e130_12 {c : mj_C} {x1 : Int32} {x2 : Int32} {z0 : Int32} {L : Nat} {ps : List (Option (Option Nat))}   : mj_EV 130 12 [some (.ref 52), some (.int x1), some (.int x2)] [.int z0] (w_al L ps) c = (if z0 = nI 0 then (some (some (.int (nI 0)), (w_al L ps), c)) else (some (some (.int (nI 1)), (w_al L ps), c))) := (mj_ifeq d130_12 (mj_iconst d130_19 (mj_zret0 d130_20)) (mj_iconst d130_15 (mj_goto d130_16 (mj_zret1 d130_20))))
/-- SqueezedLinesModel.write(IIII)I -/
theorem f131 : mj_cd 131 = mj_c131 := rfl
theorem d131_0 : mj_At 131 0 (.aload_n 0) 1 [0] (.null) := ⟨1, (congrArg (fun z => mj_at z 0) f131).trans rfl, rfl⟩
theorem d131_1 : mj_At 131 1 (.iload_n 1) 2 [1] (.null) := ⟨1, (congrArg (fun z => mj_at z 1) f131).trans rfl, rfl⟩
theorem d131_2 : mj_At 131 2 (.iload_n 2) 3 [2] (.null) := ⟨1, (congrArg (fun z => mj_at z 2) f131).trans rfl, rfl⟩
theorem d131_3 : mj_At 131 3 (.invokevirtual 124) 6 [1, 130, 3, 4, 711, 713, 42, 69] (.null) := ⟨3, (congrArg (fun z => mj_at z 3) f131).trans rfl, rfl⟩
theorem d131_6 : mj_At 131 6 (.ifCond .eq (10)) 9 [16] (.null) := ⟨3, (congrArg (fun z => mj_at z 6) f131).trans rfl, rfl⟩
theorem d131_9 : mj_At 131 9 (.iload_n 3) 10 [3] (.null) := ⟨1, (congrArg (fun z => mj_at z 9) f131).trans rfl, rfl⟩
theorem d131_10 : mj_At 131 10 (.invokestatic 121) 13 [0, 97, 1, 715, 716, 69] (.null) := ⟨3, (congrArg (fun z => mj_at z 10) f131).trans rfl, rfl⟩
theorem d131_13 : mj_At 131 13 (.ifCond .ne (5)) 16 [18] (.null) := ⟨3, (congrArg (fun z => mj_at z 13) f131).trans rfl, rfl⟩
theorem d131_16 : mj_At 131 16 (.iconst (-1)) 17 [] (.int (-1)) := ⟨1, (congrArg (fun z => mj_at z 16) f131).trans rfl, rfl⟩
theorem d131_17 : mj_At 131 17 (.ireturn) 18 [0] (.null) := ⟨1, (congrArg (fun z => mj_at z 17) f131).trans rfl, rfl⟩
theorem d131_18 : mj_At 131 18 (.iload 4) 20 [4] (.null) := ⟨2, (congrArg (fun z => mj_at z 18) f131).trans rfl, rfl⟩
theorem d131_20 : mj_At 131 20 (.iconst (0)) 21 [] (.int 0) := ⟨1, (congrArg (fun z => mj_at z 20) f131).trans rfl, rfl⟩
theorem d131_21 : mj_At 131 21 (.ldc 41) 23 [634] (.int 65535) := ⟨2, (congrArg (fun z => mj_at z 21) f131).trans rfl, rfl⟩
theorem d131_23 : mj_At 131 23 (.invokestatic 33) 26 [0, 93, 3, 595, 596, 69] (.null) := ⟨3, (congrArg (fun z => mj_at z 23) f131).trans rfl, rfl⟩
theorem d131_26 : mj_At 131 26 (.ifCond .ne (6)) 29 [32] (.null) := ⟨3, (congrArg (fun z => mj_at z 26) f131).trans rfl, rfl⟩
theorem d131_29 : mj_At 131 29 (.bipush (-2)) 31 [] (.int (-2)) := ⟨2, (congrArg (fun z => mj_at z 29) f131).trans rfl, rfl⟩
theorem d131_31 : mj_At 131 31 (.ireturn) 32 [0] (.null) := ⟨1, (congrArg (fun z => mj_at z 31) f131).trans rfl, rfl⟩
theorem d131_32 : mj_At 131 32 (.aload_n 0) 33 [0] (.null) := ⟨1, (congrArg (fun z => mj_at z 32) f131).trans rfl, rfl⟩
theorem d131_33 : mj_At 131 33 (.iload_n 1) 34 [1] (.null) := ⟨1, (congrArg (fun z => mj_at z 33) f131).trans rfl, rfl⟩
theorem d131_34 : mj_At 131 34 (.iload_n 2) 35 [2] (.null) := ⟨1, (congrArg (fun z => mj_at z 34) f131).trans rfl, rfl⟩
theorem d131_35 : mj_At 131 35 (.invokevirtual 127) 38 [1, 116, 3, 4, 718, 720, 43, 69] (.null) := ⟨3, (congrArg (fun z => mj_at z 35) f131).trans rfl, rfl⟩
theorem d131_38 : mj_At 131 38 (.aload_n 0) 39 [0] (.null) := ⟨1, (congrArg (fun z => mj_at z 38) f131).trans rfl, rfl⟩
theorem d131_39 : mj_At 131 39 (.getfield 22) 42 [4, 6, 563] (.null) := ⟨3, (congrArg (fun z => mj_at z 39) f131).trans rfl, rfl⟩
theorem d131_42 : mj_At 131 42 (.iload_n 3) 43 [3] (.null) := ⟨1, (congrArg (fun z => mj_at z 42) f131).trans rfl, rfl⟩
theorem d131_43 : mj_At 131 43 (.iload 4) 45 [4] (.null) := ⟨2, (congrArg (fun z => mj_at z 43) f131).trans rfl, rfl⟩
theorem d131_45 : mj_At 131 45 (.iastore) 46 [] (.null) := ⟨1, (congrArg (fun z => mj_at z 45) f131).trans rfl, rfl⟩
theorem d131_46 : mj_At 131 46 (.aload_n 0) 47 [0] (.null) := ⟨1, (congrArg (fun z => mj_at z 46) f131).trans rfl, rfl⟩
theorem d131_47 : mj_At 131 47 (.iload_n 1) 48 [1] (.null) := ⟨1, (congrArg (fun z => mj_at z 47) f131).trans rfl, rfl⟩
theorem d131_48 : mj_At 131 48 (.iload_n 2) 49 [2] (.null) := ⟨1, (congrArg (fun z => mj_at z 48) f131).trans rfl, rfl⟩
theorem d131_49 : mj_At 131 49 (.invokevirtual 130) 52 [1, 121, 3, 4, 722, 724, 44, 69] (.null) := ⟨3, (congrArg (fun z => mj_at z 49) f131).trans rfl, rfl⟩
theorem d131_52 : mj_At 131 52 (.ireturn) 53 [0] (.null) := ⟨1, (congrArg (fun z => mj_at z 52) f131).trans rfl, rfl⟩
theorem e131_0 {c : mj_C} {x1 : Int32} {x2 : Int32} {x3 : Int32} {x4 : Int32} {L : Nat} {ps : List (Option (Option Nat))}   : mj_EV 131 0 [some (.ref 52), some (.int x1), some (.int x2), some (.int x3), some (.int x4)] [] (w_al L ps) c = (mj_then 131 6 [some (.ref 52), some (.int x1), some (.int x2), some (.int x3), some (.int x4)] [] (mj_EV 130 0 [some (.ref 52), some (.int x1), some (.int x2)] [] (w_al L ps) c)) := (mj_aload_n d131_0 rfl (mj_iload_n d131_1 rfl (mj_iload_n d131_2 rfl (mj_invV [some (.ref 52), some (.int x1), some (.int x2)] [] d131_3 rfl rfl rfl w_52 rfl rfl))))
theorem e131_6 {c : mj_C} {x1 : Int32} {x2 : Int32} {x3 : Int32} {x4 : Int32} {z0 : Int32} {L : Nat} {ps : List (Option (Option Nat))}   : mj_EV 131 6 [some (.ref 52), some (.int x1), some (.int x2), some (.int x3), some (.int x4)] [.int z0] (w_al L ps) c = (if z0 = nI 0 then (some (some (.int (-1)), (w_al L ps), c)) else (mj_then 131 13 [some (.ref 52), some (.int x1), some (.int x2), some (.int x3), some (.int x4)] [] (mj_EV 97 0 [some (.int x3)] [] (w_al L ps) c))) := (mj_ifeq d131_6 (mj_iconst d131_16 (mj_iret d131_17)) (mj_iload_n d131_9 rfl (mj_invS [some (.int x3)] [] d131_10 (by decide) rfl rfl rfl rfl)))
theorem e131_13 {c : mj_C} {x1 : Int32} {x2 : Int32} {x3 : Int32} {x4 : Int32} {z0 : Int32} {L : Nat} {ps : List (Option (Option Nat))}   : mj_EV 131 13 [some (.ref 52), some (.int x1), some (.int x2), some (.int x3), some (.int x4)] [.int z0] (w_al L ps) c = (if z0 = nI 0 then (some (some (.int (-1)), (w_al L ps), c)) else (mj_then 131 26 [some (.ref 52), some (.int x1), some (.int x2), some (.int x3), some (.int x4)] [] (mj_EV 93 0 [some (.int x4), some (.int (nI 0)), some (.int (nI 65535))] [] (w_al L ps) c))) := (mj_ifne d131_13 (mj_iload d131_18 rfl (mj_iconst d131_20 (mj_ldc d131_21 (mj_invS [some (.int x4), some (.int (nI 0)), some (.int (nI 65535))] [] d131_23 (by decide) rfl rfl rfl rfl)))) (mj_iconst d131_16 (mj_iret d131_17)))
theorem e131_26 {c : mj_C} {x1 : Int32} {x2 : Int32} {x3 : Int32} {x4 : Int32} {z0 : Int32} {L : Nat} {ps : List (Option (Option Nat))}   : mj_EV 131 26 [some (.ref 52), some (.int x1), some (.int x2), some (.int x3), some (.int x4)] [.int z0] (w_al L ps) c = (if z0 = nI 0 then (some (some (.int (-2)), (w_al L ps), c)) else (mj_then 131 38 [some (.ref 52), some (.int x1), some (.int x2), some (.int x3), some (.int x4)] [] (mj_EV 116 0 [some (.ref 52), some (.int x1), some (.int x2), none] [] (w_al L ps) c))) := (mj_ifne d131_26 (mj_aload_n d131_32 rfl (mj_iload_n d131_33 rfl (mj_iload_n d131_34 rfl (mj_invV [some (.ref 52), some (.int x1), some (.int x2), none] [] d131_35 rfl rfl rfl w_52 rfl rfl)))) (mj_bipush d131_29 (mj_iret d131_31)))
theorem e131_38 {c : mj_C} {x1 : Int32} {x2 : Int32} {x3 : Int32} {x4 : Int32} {L : Nat} {ps : List (Option (Option Nat))}   : mj_EV 131 38 [some (.ref 52), some (.int x1), some (.int x2), some (.int x3), some (.int x4)] [] (w_al L ps) c = (if mj_in x3 8 = true then (mj_then 131 52 [some (.ref 52), some (.int x1), some (.int x2), some (.int x3), some (.int x4)] [] (mj_EV 121 0 [some (.ref 52), some (.int x1), some (.int x2)] [] (w_al L ps) (mj_u c 57 x3.toNatClampNeg x4))) else none) := (mj_aload_n d131_38 rfl (mj_getR d131_39 w_52 rfl (mj_iload_n d131_42 rfl (mj_iload d131_43 rfl (mj_iast d131_45 w_57 (mj_aload_n d131_46 rfl (mj_iload_n d131_47 rfl (mj_iload_n d131_48 rfl (mj_invV [some (.ref 52), some (.int x1), some (.int x2)] [] d131_49 rfl rfl rfl w_52 rfl rfl)))))))))
theorem e131_52 {c : mj_C} {x1 : Int32} {x2 : Int32} {x3 : Int32} {x4 : Int32} {z0 : Int32} {L : Nat} {ps : List (Option (Option Nat))}   : mj_EV 131 52 [some (.ref 52), some (.int x1), some (.int x2), some (.int x3), some (.int x4)] [.int z0] (w_al L ps) c = (some (some (.int z0), (w_al L ps), c)) := (mj_iret d131_52)
/-- SqueezedLinesModel.fill(III)I -/
theorem f132 : mj_cd 132 = mj_c132 := rfl
theorem d132_0 : mj_At 132 0 (.aload_n 0) 1 [0] (.null) := ⟨1, (congrArg (fun z => mj_at z 0) f132).trans rfl, rfl⟩
theorem d132_1 : mj_At 132 1 (.iload_n 1) 2 [1] (.null) := ⟨1, (congrArg (fun z => mj_at z 1) f132).trans rfl, rfl⟩
theorem d132_2 : mj_At 132 2 (.iload_n 2) 3 [2] (.null) := ⟨1, (congrArg (fun z => mj_at z 2) f132).trans rfl, rfl⟩
theorem d132_3 : mj_At 132 3 (.invokevirtual 124) 6 [1, 130, 3, 4, 711, 713, 42, 69] (.null) := ⟨3, (congrArg (fun z => mj_at z 3) f132).trans rfl, rfl⟩
theorem d132_6 : mj_At 132 6 (.ifCond .ne (5)) 9 [11] (.null) := ⟨3, (congrArg (fun z => mj_at z 6) f132).trans rfl, rfl⟩
theorem d132_9 : mj_At 132 9 (.iconst (-1)) 10 [] (.int (-1)) := ⟨1, (congrArg (fun z => mj_at z 9) f132).trans rfl, rfl⟩
theorem d132_10 : mj_At 132 10 (.ireturn) 11 [0] (.null) := ⟨1, (congrArg (fun z => mj_at z 10) f132).trans rfl, rfl⟩
theorem d132_11 : mj_At 132 11 (.iload_n 3) 12 [3] (.null) := ⟨1, (congrArg (fun z => mj_at z 11) f132).trans rfl, rfl⟩
theorem d132_12 : mj_At 132 12 (.iconst (0)) 13 [] (.int 0) := ⟨1, (congrArg (fun z => mj_at z 12) f132).trans rfl, rfl⟩
theorem d132_13 : mj_At 132 13 (.ldc 41) 15 [634] (.int 65535) := ⟨2, (congrArg (fun z => mj_at z 13) f132).trans rfl, rfl⟩
theorem d132_15 : mj_At 132 15 (.invokestatic 33) 18 [0, 93, 3, 595, 596, 69] (.null) := ⟨3, (congrArg (fun z => mj_at z 15) f132).trans rfl, rfl⟩
theorem d132_18 : mj_At 132 18 (.ifCond .ne (6)) 21 [24] (.null) := ⟨3, (congrArg (fun z => mj_at z 18) f132).trans rfl, rfl⟩
theorem d132_21 : mj_At 132 21 (.bipush (-2)) 23 [] (.int (-2)) := ⟨2, (congrArg (fun z => mj_at z 21) f132).trans rfl, rfl⟩
theorem d132_23 : mj_At 132 23 (.ireturn) 24 [0] (.null) := ⟨1, (congrArg (fun z => mj_at z 23) f132).trans rfl, rfl⟩
theorem d132_24 : mj_At 132 24 (.iconst (0)) 25 [] (.int 0) := ⟨1, (congrArg (fun z => mj_at z 24) f132).trans rfl, rfl⟩
theorem d132_25 : mj_At 132 25 (.istore 4) 27 [4] (.null) := ⟨2, (congrArg (fun z => mj_at z 25) f132).trans rfl, rfl⟩
theorem d132_27 : mj_At 132 27 (.iload 4) 29 [4] (.null) := ⟨2, (congrArg (fun z => mj_at z 27) f132).trans rfl, rfl⟩
theorem d132_29 : mj_At 132 29 (.bipush (8)) 31 [] (.int 8) := ⟨2, (congrArg (fun z => mj_at z 29) f132).trans rfl, rfl⟩
theorem d132_31 : mj_At 132 31 (.if_icmp .ge (17)) 34 [48] (.null) := ⟨3, (congrArg (fun z => mj_at z 31) f132).trans rfl, rfl⟩
theorem d132_34 : mj_At 132 34 (.aload_n 0) 35 [0] (.null) := ⟨1, (congrArg (fun z => mj_at z 34) f132).trans rfl, rfl⟩
theorem d132_35 : mj_At 132 35 (.getfield 22) 38 [4, 6, 563] (.null) := ⟨3, (congrArg (fun z => mj_at z 35) f132).trans rfl, rfl⟩
theorem d132_38 : mj_At 132 38 (.iload 4) 40 [4] (.null) := ⟨2, (congrArg (fun z => mj_at z 38) f132).trans rfl, rfl⟩
theorem d132_40 : mj_At 132 40 (.iload_n 3) 41 [3] (.null) := ⟨1, (congrArg (fun z => mj_at z 40) f132).trans rfl, rfl⟩
theorem d132_41 : mj_At 132 41 (.iastore) 42 [] (.null) := ⟨1, (congrArg (fun z => mj_at z 41) f132).trans rfl, rfl⟩
theorem d132_42 : mj_At 132 42 (.iinc 4 (1)) 45 [4] (.int 1) := ⟨3, (congrArg (fun z => mj_at z 42) f132).trans rfl, rfl⟩
theorem d132_45 : mj_At 132 45 (.goto (-18)) 48 [27] (.null) := ⟨3, (congrArg (fun z => mj_at z 45) f132).trans rfl, rfl⟩
theorem d132_48 : mj_At 132 48 (.aload_n 0) 49 [0] (.null) := ⟨1, (congrArg (fun z => mj_at z 48) f132).trans rfl, rfl⟩
theorem d132_49 : mj_At 132 49 (.iload_n 1) 50 [1] (.null) := ⟨1, (congrArg (fun z => mj_at z 49) f132).trans rfl, rfl⟩
theorem d132_50 : mj_At 132 50 (.iload_n 2) 51 [2] (.null) := ⟨1, (congrArg (fun z => mj_at z 50) f132).trans rfl, rfl⟩
theorem d132_51 : mj_At 132 51 (.invokevirtual 130) 54 [1, 121, 3, 4, 722, 724, 44, 69] (.null) := ⟨3, (congrArg (fun z => mj_at z 51) f132).trans rfl, rfl⟩
theorem d132_54 : mj_At 132 54 (.ireturn) 55 [0] (.null) := ⟨1, (congrArg (fun z => mj_at z 54) f132).trans rfl, rfl⟩
theorem e132_0 {c : mj_C} {x1 : Int32} {x2 : Int32} {x3 : Int32} {L : Nat} {ps : List (Option (Option Nat))}   : mj_EV 132 0 [some (.ref 52), some (.int x1), some (.int x2), some (.int x3), none] [] (w_al L ps) c = (mj_then 132 6 [some (.ref 52), some (.int x1), some (.int x2), some (.int x3), none] [] (mj_EV 130 0 [some (.ref 52), some (.int x1), some (.int x2)] [] (w_al L ps) c)) := (mj_aload_n d132_0 rfl (mj_iload_n d132_1 rfl (mj_iload_n d132_2 rfl (mj_invV [some (.ref 52), some (.int x1), some (.int x2)] [] d132_3 rfl rfl rfl w_52 rfl rfl))))
theorem e132_6 {c : mj_C} {x1 : Int32} {x2 : Int32} {x3 : Int32} {z0 : Int32} {L : Nat} {ps : List (Option (Option Nat))}   : mj_EV 132 6 [some (.ref 52), some (.int x1), some (.int x2), some (.int x3), none] [.int z0] (w_al L ps) c = (if z0 = nI 0 then (some (some (.int (-1)), (w_al L ps), c)) else (mj_then 132 18 [some (.ref 52), some (.int x1), some (.int x2), some (.int x3), none] [] (mj_EV 93 0 [some (.int x3), some (.int (nI 0)), some (.int (nI 65535))] [] (w_al L ps) c))) := (mj_ifne d132_6 (mj_iload_n d132_11 rfl (mj_iconst d132_12 (mj_ldc d132_13 (mj_invS [some (.int x3), some (.int (nI 0)), some (.int (nI 65535))] [] d132_15 (by decide) rfl rfl rfl rfl)))) (mj_iconst d132_9 (mj_iret d132_10)))
theorem e132_18 {c : mj_C} {x1 : Int32} {x2 : Int32} {x3 : Int32} {z0 : Int32} {L : Nat} {ps : List (Option (Option Nat))}   : mj_EV 132 18 [some (.ref 52), some (.int x1), some (.int x2), some (.int x3), none] [.int z0] (w_al L ps) c = (if z0 = nI 0 then (some (some (.int (-2)), (w_al L ps), c)) else mj_EV 132 27 [some (.ref 52), some (.int x1), some (.int x2), some (.int x3), some (.int (nI 0))] [] (w_al L ps) c) := (mj_ifne d132_18 (mj_iconst d132_24 (mj_istore [some (.ref 52), some (.int x1), some (.int x2), some (.int x3), some (.int (nI 0))] d132_25 rfl rfl rfl)) (mj_bipush d132_21 (mj_iret d132_23)))
theorem e132_27 {c : mj_C} {x1 : Int32} {x2 : Int32} {x3 : Int32} {x4 : Int32} {L : Nat} {ps : List (Option (Option Nat))}   : mj_EV 132 27 [some (.ref 52), some (.int x1), some (.int x2), some (.int x3), some (.int x4)] [] (w_al L ps) c = (if (nI 8) ≤ x4 then (mj_then 132 54 [some (.ref 52), some (.int x1), some (.int x2), some (.int x3), some (.int x4)] [] (mj_EV 121 0 [some (.ref 52), some (.int x1), some (.int x2)] [] (w_al L ps) c)) else (if mj_in x4 8 = true then mj_EV 132 27 [some (.ref 52), some (.int x1), some (.int x2), some (.int x3), some (.int (x4 + (nI 1)))] [] (w_al L ps) (mj_u c 57 x4.toNatClampNeg x3) else none)) := (mj_iload d132_27 rfl (mj_bipush d132_29 (mj_icge d132_31 (mj_aload_n d132_48 rfl (mj_iload_n d132_49 rfl (mj_iload_n d132_50 rfl (mj_invV [some (.ref 52), some (.int x1), some (.int x2)] [] d132_51 rfl rfl rfl w_52 rfl rfl)))) (mj_aload_n d132_34 rfl (mj_getR d132_35 w_52 rfl (mj_iload d132_38 rfl (mj_iload_n d132_40 rfl (mj_iast d132_41 w_57 (mj_iinc [some (.ref 52), some (.int x1), some (.int x2), some (.int x3), some (.int (x4 + (nI 1)))] d132_42 rfl rfl rfl (mj_goto d132_45 rfl))))))))))
theorem e132_54 {c : mj_C} {x1 : Int32} {x2 : Int32} {x3 : Int32} {x4 : Int32} {z0 : Int32} {L : Nat} {ps : List (Option (Option Nat))}   : mj_EV 132 54 [some (.ref 52), some (.int x1), some (.int x2), some (.int x3), some (.int x4)] [.int z0] (w_al L ps) c = (some (some (.int z0), (w_al L ps), c)) := (mj_iret d132_54)
/-- SqueezedLinesModel.add(III)I -/
theorem f133 : mj_cd 133 = mj_c133 := rfl
theorem d133_0 : mj_At 133 0 (.aload_n 0) 1 [0] (.null) := ⟨1, (congrArg (fun z => mj_at z 0) f133).trans rfl, rfl⟩
theorem d133_1 : mj_At 133 1 (.iload_n 1) 2 [1] (.null) := ⟨1, (congrArg (fun z => mj_at z 1) f133).trans rfl, rfl⟩
theorem d133_2 : mj_At 133 2 (.iload_n 2) 3 [2] (.null) := ⟨1, (congrArg (fun z => mj_at z 2) f133).trans rfl, rfl⟩
theorem d133_3 : mj_At 133 3 (.invokevirtual 124) 6 [1, 130, 3, 4, 711, 713, 42, 69] (.null) := ⟨3, (congrArg (fun z => mj_at z 3) f133).trans rfl, rfl⟩
theorem d133_6 : mj_At 133 6 (.ifCond .ne (5)) 9 [11] (.null) := ⟨3, (congrArg (fun z => mj_at z 6) f133).trans rfl, rfl⟩
theorem d133_9 : mj_At 133 9 (.iconst (-1)) 10 [] (.int (-1)) := ⟨1, (congrArg (fun z => mj_at z 9) f133).trans rfl, rfl⟩
theorem d133_10 : mj_At 133 10 (.ireturn) 11 [0] (.null) := ⟨1, (congrArg (fun z => mj_at z 10) f133).trans rfl, rfl⟩
theorem d133_11 : mj_At 133 11 (.iload_n 3) 12 [3] (.null) := ⟨1, (congrArg (fun z => mj_at z 11) f133).trans rfl, rfl⟩
theorem d133_12 : mj_At 133 12 (.ldc 133) 14 [746] (.int (-65535)) := ⟨2, (congrArg (fun z => mj_at z 12) f133).trans rfl, rfl⟩
theorem d133_14 : mj_At 133 14 (.ldc 41) 16 [634] (.int 65535) := ⟨2, (congrArg (fun z => mj_at z 14) f133).trans rfl, rfl⟩
theorem d133_16 : mj_At 133 16 (.invokestatic 33) 19 [0, 93, 3, 595, 596, 69] (.null) := ⟨3, (congrArg (fun z => mj_at z 16) f133).trans rfl, rfl⟩
theorem d133_19 : mj_At 133 19 (.ifCond .ne (6)) 22 [25] (.null) := ⟨3, (congrArg (fun z => mj_at z 19) f133).trans rfl, rfl⟩
theorem d133_22 : mj_At 133 22 (.bipush (-2)) 24 [] (.int (-2)) := ⟨2, (congrArg (fun z => mj_at z 22) f133).trans rfl, rfl⟩
theorem d133_24 : mj_At 133 24 (.ireturn) 25 [0] (.null) := ⟨1, (congrArg (fun z => mj_at z 24) f133).trans rfl, rfl⟩
theorem d133_25 : mj_At 133 25 (.aload_n 0) 26 [0] (.null) := ⟨1, (congrArg (fun z => mj_at z 25) f133).trans rfl, rfl⟩
theorem d133_26 : mj_At 133 26 (.iload_n 1) 27 [1] (.null) := ⟨1, (congrArg (fun z => mj_at z 26) f133).trans rfl, rfl⟩
theorem d133_27 : mj_At 133 27 (.iload_n 2) 28 [2] (.null) := ⟨1, (congrArg (fun z => mj_at z 27) f133).trans rfl, rfl⟩
theorem d133_28 : mj_At 133 28 (.invokevirtual 127) 31 [1, 116, 3, 4, 718, 720, 43, 69] (.null) := ⟨3, (congrArg (fun z => mj_at z 28) f133).trans rfl, rfl⟩
theorem d133_31 : mj_At 133 31 (.iconst (0)) 32 [] (.int 0) := ⟨1, (congrArg (fun z => mj_at z 31) f133).trans rfl, rfl⟩
theorem d133_32 : mj_At 133 32 (.istore 4) 34 [4] (.null) := ⟨2, (congrArg (fun z => mj_at z 32) f133).trans rfl, rfl⟩
theorem d133_34 : mj_At 133 34 (.iload 4) 36 [4] (.null) := ⟨2, (congrArg (fun z => mj_at z 34) f133).trans rfl, rfl⟩
theorem d133_36 : mj_At 133 36 (.bipush (8)) 38 [] (.int 8) := ⟨2, (congrArg (fun z => mj_at z 36) f133).trans rfl, rfl⟩
theorem d133_38 : mj_At 133 38 (.if_icmp .ge (28)) 41 [66] (.null) := ⟨3, (congrArg (fun z => mj_at z 38) f133).trans rfl, rfl⟩
theorem d133_41 : mj_At 133 41 (.aload_n 0) 42 [0] (.null) := ⟨1, (congrArg (fun z => mj_at z 41) f133).trans rfl, rfl⟩
theorem d133_42 : mj_At 133 42 (.getfield 22) 45 [4, 6, 563] (.null) := ⟨3, (congrArg (fun z => mj_at z 42) f133).trans rfl, rfl⟩
theorem d133_45 : mj_At 133 45 (.iload 4) 47 [4] (.null) := ⟨2, (congrArg (fun z => mj_at z 45) f133).trans rfl, rfl⟩
theorem d133_47 : mj_At 133 47 (.aload_n 0) 48 [0] (.null) := ⟨1, (congrArg (fun z => mj_at z 47) f133).trans rfl, rfl⟩
theorem d133_48 : mj_At 133 48 (.getfield 22) 51 [4, 6, 563] (.null) := ⟨3, (congrArg (fun z => mj_at z 48) f133).trans rfl, rfl⟩
theorem d133_51 : mj_At 133 51 (.iload 4) 53 [4] (.null) := ⟨2, (congrArg (fun z => mj_at z 51) f133).trans rfl, rfl⟩
theorem d133_53 : mj_At 133 53 (.iaload) 54 [] (.null) := ⟨1, (congrArg (fun z => mj_at z 53) f133).trans rfl, rfl⟩
theorem d133_54 : mj_At 133 54 (.iload_n 3) 55 [3] (.null) := ⟨1, (congrArg (fun z => mj_at z 54) f133).trans rfl, rfl⟩
theorem d133_55 : mj_At 133 55 (.iadd) 56 [] (.null) := ⟨1, (congrArg (fun z => mj_at z 55) f133).trans rfl, rfl⟩
theorem d133_56 : mj_At 133 56 (.ldc 41) 58 [634] (.int 65535) := ⟨2, (congrArg (fun z => mj_at z 56) f133).trans rfl, rfl⟩
theorem d133_58 : mj_At 133 58 (.iand) 59 [] (.null) := ⟨1, (congrArg (fun z => mj_at z 58) f133).trans rfl, rfl⟩
theorem d133_59 : mj_At 133 59 (.iastore) 60 [] (.null) := ⟨1, (congrArg (fun z => mj_at z 59) f133).trans rfl, rfl⟩
theorem d133_60 : mj_At 133 60 (.iinc 4 (1)) 63 [4] (.int 1) := ⟨3, (congrArg (fun z => mj_at z 60) f133).trans rfl, rfl⟩
theorem d133_63 : mj_At 133 63 (.goto (-29)) 66 [34] (.null) := ⟨3, (congrArg (fun z => mj_at z 63) f133).trans rfl, rfl⟩
theorem d133_66 : mj_At 133 66 (.aload_n 0) 67 [0] (.null) := ⟨1, (congrArg (fun z => mj_at z 66) f133).trans rfl, rfl⟩
theorem d133_67 : mj_At 133 67 (.iload_n 1) 68 [1] (.null) := ⟨1, (congrArg (fun z => mj_at z 67) f133).trans rfl, rfl⟩
theorem d133_68 : mj_At 133 68 (.iload_n 2) 69 [2] (.null) := ⟨1, (congrArg (fun z => mj_at z 68) f133).trans rfl, rfl⟩
theorem d133_69 : mj_At 133 69 (.invokevirtual 130) 72 [1, 121, 3, 4, 722, 724, 44, 69] (.null) := ⟨3, (congrArg (fun z => mj_at z 69) f133).trans rfl, rfl⟩
theorem d133_72 : mj_At 133 72 (.ireturn) 73 [0] (.null) := ⟨1, (congrArg (fun z => mj_at z 72) f133).trans rfl, rfl⟩
theorem e133_0 {c : mj_C} {x1 : Int32} {x2 : Int32} {x3 : Int32} {L : Nat} {ps : List (Option (Option Nat))}   : mj_EV 133 0 [some (.ref 52), some (.int x1), some (.int x2), some (.int x3), none] [] (w_al L ps) c = (mj_then 133 6 [some (.ref 52), some (.int x1), some (.int x2), some (.int x3), none] [] (mj_EV 130 0 [some (.ref 52), some (.int x1), some (.int x2)] [] (w_al L ps) c)) := (mj_aload_n d133_0 rfl (mj_iload_n d133_1 rfl (mj_iload_n d133_2 rfl (mj_invV [some (.ref 52), some (.int x1), some (.int x2)] [] d133_3 rfl rfl rfl w_52 rfl rfl))))
theorem e133_6 {c : mj_C} {x1 : Int32} {x2 : Int32} {x3 : Int32} {z0 : Int32} {L : Nat} {ps : List (Option (Option Nat))}   : mj_EV 133 6 [some (.ref 52), some (.int x1), some (.int x2), some (.int x3), none] [.int z0] (w_al L ps) c = (if z0 = nI 0 then (some (some (.int (-1)), (w_al L ps), c)) else (mj_then 133 19 [some (.ref 52), some (.int x1), some (.int x2), some (.int x3), none] [] (mj_EV 93 0 [some (.int x3), some (.int (-65535)), some (.int (nI 65535))] [] (w_al L ps) c))) := (mj_ifne d133_6 (mj_iload_n d133_11 rfl (mj_ldc d133_12 (mj_ldc d133_14 (mj_invS [some (.int x3), some (.int (-65535)), some (.int (nI 65535))] [] d133_16 (by decide) rfl rfl rfl rfl)))) (mj_iconst d133_9 (mj_iret d133_10)))
theorem e133_19 {c : mj_C} {x1 : Int32} {x2 : Int32} {x3 : Int32} {z0 : Int32} {L : Nat} {ps : List (Option (Option Nat))}   : mj_EV 133 19 [some (.ref 52), some (.int x1), some (.int x2), some (.int x3), none] [.int z0] (w_al L ps) c = (if z0 = nI 0 then (some (some (.int (-2)), (w_al L ps), c)) else (mj_then 133 31 [some (.ref 52), some (.int x1), some (.int x2), some (.int x3), none] [] (mj_EV 116 0 [some (.ref 52), some (.int x1), some (.int x2), none] [] (w_al L ps) c))) := (mj_ifne d133_19 (mj_aload_n d133_25 rfl (mj_iload_n d133_26 rfl (mj_iload_n d133_27 rfl (mj_invV [some (.ref 52), some (.int x1), some (.int x2), none] [] d133_28 rfl rfl rfl w_52 rfl rfl)))) (mj_bipush d133_22 (mj_iret d133_24)))
theorem e133_31 {c : mj_C} {x1 : Int32} {x2 : Int32} {x3 : Int32} {L : Nat} {ps : List (Option (Option Nat))}   : mj_EV 133 31 [some (.ref 52), some (.int x1), some (.int x2), some (.int x3), none] [] (w_al L ps) c = mj_EV 133 34 [some (.ref 52), some (.int x1), some (.int x2), some (.int x3), some (.int (nI 0))] [] (w_al L ps) c := (mj_iconst d133_31 (mj_istore [some (.ref 52), some (.int x1), some (.int x2), some (.int x3), some (.int (nI 0))] d133_32 rfl rfl rfl))
theorem e133_34 {c : mj_C} {x1 : Int32} {x2 : Int32} {x3 : Int32} {x4 : Int32} {L : Nat} {ps : List (Option (Option Nat))}   : mj_EV 133 34 [some (.ref 52), some (.int x1), some (.int x2), some (.int x3), some (.int x4)] [] (w_al L ps) c = (if (nI 8) ≤ x4 then (mj_then 133 72 [some (.ref 52), some (.int x1), some (.int x2), some (.int x3), some (.int x4)] [] (mj_EV 121 0 [some (.ref 52), some (.int x1), some (.int x2)] [] (w_al L ps) c)) else (if mj_in x4 8 = true then (if mj_in x4 8 = true then mj_EV 133 34 [some (.ref 52), some (.int x1), some (.int x2), some (.int x3), some (.int (x4 + (nI 1)))] [] (w_al L ps) (mj_u c 57 x4.toNatClampNeg (((c 57 x4.toNatClampNeg) + x3) &&& (nI 65535))) else none) else none)) := (mj_iload d133_34 rfl (mj_bipush d133_36 (mj_icge d133_38 (mj_aload_n d133_66 rfl (mj_iload_n d133_67 rfl (mj_iload_n d133_68 rfl (mj_invV [some (.ref 52), some (.int x1), some (.int x2)] [] d133_69 rfl rfl rfl w_52 rfl rfl)))) (mj_aload_n d133_41 rfl (mj_getR d133_42 w_52 rfl (mj_iload d133_45 rfl (mj_aload_n d133_47 rfl (mj_getR d133_48 w_52 rfl (mj_iload d133_51 rfl (mj_iald d133_53 w_57 (mj_iload_n d133_54 rfl (mj_iadd d133_55 (mj_ldc d133_56 (mj_iand d133_58 (mj_iast d133_59 w_57 (mj_iinc [some (.ref 52), some (.int x1), some (.int x2), some (.int x3), some (.int (x4 + (nI 1)))] d133_60 rfl rfl rfl (mj_goto d133_63 rfl)))))))))))))))))
theorem e133_72 {c : mj_C} {x1 : Int32} {x2 : Int32} {x3 : Int32} {x4 : Int32} {z0 : Int32} {L : Nat} {ps : List (Option (Option Nat))}   : mj_EV 133 72 [some (.ref 52), some (.int x1), some (.int x2), some (.int x3), some (.int x4)] [.int z0] (w_al L ps) c = (some (some (.int z0), (w_al L ps), c)) := (mj_iret d133_72)
/-- SqueezedLinesModel.copy(IIII)I -/
theorem f134 : mj_cd 134 = mj_c134 := rfl
theorem d134_0 : mj_At 134 0 (.aload_n 0) 1 [0] (.null) := ⟨1, (congrArg (fun z => mj_at z 0) f134).trans rfl, rfl⟩
theorem d134_1 : mj_At 134 1 (.iload_n 1) 2 [1] (.null) := ⟨1, (congrArg (fun z => mj_at z 1) f134).trans rfl, rfl⟩
theorem d134_2 : mj_At 134 2 (.iload_n 2) 3 [2] (.null) := ⟨1, (congrArg (fun z => mj_at z 2) f134).trans rfl, rfl⟩
theorem d134_3 : mj_At 134 3 (.invokevirtual 124) 6 [1, 130, 3, 4, 711, 713, 42, 69] (.null) := ⟨3, (congrArg (fun z => mj_at z 3) f134).trans rfl, rfl⟩
theorem d134_6 : mj_At 134 6 (.ifCond .eq (13)) 9 [19] (.null) := ⟨3, (congrArg (fun z => mj_at z 6) f134).trans rfl, rfl⟩
theorem d134_9 : mj_At 134 9 (.aload_n 0) 10 [0] (.null) := ⟨1, (congrArg (fun z => mj_at z 9) f134).trans rfl, rfl⟩
theorem d134_10 : mj_At 134 10 (.iload_n 3) 11 [3] (.null) := ⟨1, (congrArg (fun z => mj_at z 10) f134).trans rfl, rfl⟩
theorem d134_11 : mj_At 134 11 (.iload 4) 13 [4] (.null) := ⟨2, (congrArg (fun z => mj_at z 11) f134).trans rfl, rfl⟩
theorem d134_13 : mj_At 134 13 (.invokevirtual 124) 16 [1, 130, 3, 4, 711, 713, 42, 69] (.null) := ⟨3, (congrArg (fun z => mj_at z 13) f134).trans rfl, rfl⟩
theorem d134_16 : mj_At 134 16 (.ifCond .ne (5)) 19 [21] (.null) := ⟨3, (congrArg (fun z => mj_at z 16) f134).trans rfl, rfl⟩
theorem d134_19 : mj_At 134 19 (.iconst (-1)) 20 [] (.int (-1)) := ⟨1, (congrArg (fun z => mj_at z 19) f134).trans rfl, rfl⟩
theorem d134_20 : mj_At 134 20 (.ireturn) 21 [0] (.null) := ⟨1, (congrArg (fun z => mj_at z 20) f134).trans rfl, rfl⟩
theorem d134_21 : mj_At 134 21 (.aload_n 0) 22 [0] (.null) := ⟨1, (congrArg (fun z => mj_at z 21) f134).trans rfl, rfl⟩
theorem d134_22 : mj_At 134 22 (.iload_n 1) 23 [1] (.null) := ⟨1, (congrArg (fun z => mj_at z 22) f134).trans rfl, rfl⟩
theorem d134_23 : mj_At 134 23 (.iload_n 2) 24 [2] (.null) := ⟨1, (congrArg (fun z => mj_at z 23) f134).trans rfl, rfl⟩
theorem d134_24 : mj_At 134 24 (.invokevirtual 127) 27 [1, 116, 3, 4, 718, 720, 43, 69] (.null) := ⟨3, (congrArg (fun z => mj_at z 24) f134).trans rfl, rfl⟩
theorem d134_27 : mj_At 134 27 (.aload_n 0) 28 [0] (.null) := ⟨1, (congrArg (fun z => mj_at z 27) f134).trans rfl, rfl⟩
theorem d134_28 : mj_At 134 28 (.iload_n 3) 29 [3] (.null) := ⟨1, (congrArg (fun z => mj_at z 28) f134).trans rfl, rfl⟩
theorem d134_29 : mj_At 134 29 (.iload 4) 31 [4] (.null) := ⟨2, (congrArg (fun z => mj_at z 29) f134).trans rfl, rfl⟩
theorem d134_31 : mj_At 134 31 (.invokevirtual 130) 34 [1, 121, 3, 4, 722, 724, 44, 69] (.null) := ⟨3, (congrArg (fun z => mj_at z 31) f134).trans rfl, rfl⟩
theorem d134_34 : mj_At 134 34 (.ireturn) 35 [0] (.null) := ⟨1, (congrArg (fun z => mj_at z 34) f134).trans rfl, rfl⟩
theorem e134_0 {c : mj_C} {x1 : Int32} {x2 : Int32} {x3 : Int32} {x4 : Int32} {L : Nat} {ps : List (Option (Option Nat))}   : mj_EV 134 0 [some (.ref 52), some (.int x1), some (.int x2), some (.int x3), some (.int x4)] [] (w_al L ps) c = (mj_then 134 6 [some (.ref 52), some (.int x1), some (.int x2), some (.int x3), some (.int x4)] [] (mj_EV 130 0 [some (.ref 52), some (.int x1), some (.int x2)] [] (w_al L ps) c)) := (mj_aload_n d134_0 rfl (mj_iload_n d134_1 rfl (mj_iload_n d134_2 rfl (mj_invV [some (.ref 52), some (.int x1), some (.int x2)] [] d134_3 rfl rfl rfl w_52 rfl rfl))))
theorem e134_6 {c : mj_C} {x1 : Int32} {x2 : Int32} {x3 : Int32} {x4 : Int32} {z0 : Int32} {L : Nat} {ps : List (Option (Option Nat))}   : mj_EV 134 6 [some (.ref 52), some (.int x1), some (.int x2), some (.int x3), some (.int x4)] [.int z0] (w_al L ps) c = (if z0 = nI 0 then (some (some (.int (-1)), (w_al L ps), c)) else (mj_then 134 16 [some (.ref 52), some (.int x1), some (.int x2), some (.int x3), some (.int x4)] [] (mj_EV 130 0 [some (.ref 52), some (.int x3), some (.int x4)] [] (w_al L ps) c))) := (mj_ifeq d134_6 (mj_iconst d134_19 (mj_iret d134_20)) (mj_aload_n d134_9 rfl (mj_iload_n d134_10 rfl (mj_iload d134_11 rfl (mj_invV [some (.ref 52), some (.int x3), some (.int x4)] [] d134_13 rfl rfl rfl w_52 rfl rfl)))))
theorem e134_16 {c : mj_C} {x1 : Int32} {x2 : Int32} {x3 : Int32} {x4 : Int32} {z0 : Int32} {L : Nat} {ps : List (Option (Option Nat))}   : mj_EV 134 16 [some (.ref 52), some (.int x1), some (.int x2), some (.int x3), some (.int x4)] [.int z0] (w_al L ps) c = (if z0 = nI 0 then (some (some (.int (-1)), (w_al L ps), c)) else (mj_then 134 27 [some (.ref 52), some (.int x1), some (.int x2), some (.int x3), some (.int x4)] [] (mj_EV 116 0 [some (.ref 52), some (.int x1), some (.int x2), none] [] (w_al L ps) c))) := (mj_ifne d134_16 (mj_aload_n d134_21 rfl (mj_iload_n d134_22 rfl (mj_iload_n d134_23 rfl (mj_invV [some (.ref 52), some (.int x1), some (.int x2), none] [] d134_24 rfl rfl rfl w_52 rfl rfl)))) (mj_iconst d134_19 (mj_iret d134_20)))
theorem e134_27 {c : mj_C} {x1 : Int32} {x2 : Int32} {x3 : Int32} {x4 : Int32} {L : Nat} {ps : List (Option (Option Nat))}   : mj_EV 134 27 [some (.ref 52), some (.int x1), some (.int x2), some (.int x3), some (.int x4)] [] (w_al L ps) c = (mj_then 134 34 [some (.ref 52), some (.int x1), some (.int x2), some (.int x3), some (.int x4)] [] (mj_EV 121 0 [some (.ref 52), some (.int x3), some (.int x4)] [] (w_al L ps) c)) := (mj_aload_n d134_27 rfl (mj_iload_n d134_28 rfl (mj_iload d134_29 rfl (mj_invV [some (.ref 52), some (.int x3), some (.int x4)] [] d134_31 rfl rfl rfl w_52 rfl rfl))))
theorem e134_34 {c : mj_C} {x1 : Int32} {x2 : Int32} {x3 : Int32} {x4 : Int32} {z0 : Int32} {L : Nat} {ps : List (Option (Option Nat))}   : mj_EV 134 34 [some (.ref 52), some (.int x1), some (.int x2), some (.int x3), some (.int x4)] [.int z0] (w_al L ps) c = (some (some (.int z0), (w_al L ps), c)) := (mj_iret d134_34)
/-- SqueezedLinesModel.look(III)I -/
theorem f135 : mj_cd 135 = mj_c135 := rfl
theorem d135_0 : mj_At 135 0 (.aload_n 0) 1 [0] (.null) := ⟨1, (congrArg (fun z => mj_at z 0) f135).trans rfl, rfl⟩
theorem d135_1 : mj_At 135 1 (.iload_n 1) 2 [1] (.null) := ⟨1, (congrArg (fun z => mj_at z 1) f135).trans rfl, rfl⟩
theorem d135_2 : mj_At 135 2 (.iload_n 2) 3 [2] (.null) := ⟨1, (congrArg (fun z => mj_at z 2) f135).trans rfl, rfl⟩
theorem d135_3 : mj_At 135 3 (.invokevirtual 124) 6 [1, 130, 3, 4, 711, 713, 42, 69] (.null) := ⟨3, (congrArg (fun z => mj_at z 3) f135).trans rfl, rfl⟩
theorem d135_6 : mj_At 135 6 (.ifCond .eq (10)) 9 [16] (.null) := ⟨3, (congrArg (fun z => mj_at z 6) f135).trans rfl, rfl⟩
theorem d135_9 : mj_At 135 9 (.iload_n 3) 10 [3] (.null) := ⟨1, (congrArg (fun z => mj_at z 9) f135).trans rfl, rfl⟩
theorem d135_10 : mj_At 135 10 (.invokestatic 121) 13 [0, 97, 1, 715, 716, 69] (.null) := ⟨3, (congrArg (fun z => mj_at z 10) f135).trans rfl, rfl⟩
theorem d135_13 : mj_At 135 13 (.ifCond .ne (5)) 16 [18] (.null) := ⟨3, (congrArg (fun z => mj_at z 13) f135).trans rfl, rfl⟩
theorem d135_16 : mj_At 135 16 (.iconst (-1)) 17 [] (.int (-1)) := ⟨1, (congrArg (fun z => mj_at z 16) f135).trans rfl, rfl⟩
theorem d135_17 : mj_At 135 17 (.ireturn) 18 [0] (.null) := ⟨1, (congrArg (fun z => mj_at z 17) f135).trans rfl, rfl⟩
theorem d135_18 : mj_At 135 18 (.aload_n 0) 19 [0] (.null) := ⟨1, (congrArg (fun z => mj_at z 18) f135).trans rfl, rfl⟩
theorem d135_19 : mj_At 135 19 (.invokevirtual 112) 22 [1, 95, 1, 4, 679, 681, 40, 69] (.null) := ⟨3, (congrArg (fun z => mj_at z 19) f135).trans rfl, rfl⟩
theorem d135_22 : mj_At 135 22 (.bipush (26)) 24 [] (.int 26) := ⟨2, (congrArg (fun z => mj_at z 22) f135).trans rfl, rfl⟩
theorem d135_24 : mj_At 135 24 (.iconst (2)) 25 [] (.int 2) := ⟨1, (congrArg (fun z => mj_at z 24) f135).trans rfl, rfl⟩
theorem d135_25 : mj_At 135 25 (.iload_n 1) 26 [1] (.null) := ⟨1, (congrArg (fun z => mj_at z 25) f135).trans rfl, rfl⟩
theorem d135_26 : mj_At 135 26 (.iconst (4)) 27 [] (.int 4) := ⟨1, (congrArg (fun z => mj_at z 26) f135).trans rfl, rfl⟩
theorem d135_27 : mj_At 135 27 (.irem) 28 [] (.null) := ⟨1, (congrArg (fun z => mj_at z 27) f135).trans rfl, rfl⟩
theorem d135_28 : mj_At 135 28 (.imul) 29 [] (.null) := ⟨1, (congrArg (fun z => mj_at z 28) f135).trans rfl, rfl⟩
theorem d135_29 : mj_At 135 29 (.iadd) 30 [] (.null) := ⟨1, (congrArg (fun z => mj_at z 29) f135).trans rfl, rfl⟩
theorem d135_30 : mj_At 135 30 (.istore 4) 32 [4] (.null) := ⟨2, (congrArg (fun z => mj_at z 30) f135).trans rfl, rfl⟩
theorem d135_32 : mj_At 135 32 (.aload_n 0) 33 [0] (.null) := ⟨1, (congrArg (fun z => mj_at z 32) f135).trans rfl, rfl⟩
theorem d135_33 : mj_At 135 33 (.iload_n 1) 34 [1] (.null) := ⟨1, (congrArg (fun z => mj_at z 33) f135).trans rfl, rfl⟩
theorem d135_34 : mj_At 135 34 (.invokevirtual 77) 37 [1, 107, 2, 4, 663, 665, 36, 69] (.null) := ⟨3, (congrArg (fun z => mj_at z 34) f135).trans rfl, rfl⟩
theorem d135_37 : mj_At 135 37 (.istore 5) 39 [5] (.null) := ⟨2, (congrArg (fun z => mj_at z 37) f135).trans rfl, rfl⟩
theorem d135_39 : mj_At 135 39 (.aload_n 0) 40 [0] (.null) := ⟨1, (congrArg (fun z => mj_at z 39) f135).trans rfl, rfl⟩
theorem d135_40 : mj_At 135 40 (.getfield 7) 43 [4, 0, 557] (.null) := ⟨3, (congrArg (fun z => mj_at z 40) f135).trans rfl, rfl⟩
theorem d135_43 : mj_At 135 43 (.iload 4) 45 [4] (.null) := ⟨2, (congrArg (fun z => mj_at z 43) f135).trans rfl, rfl⟩
theorem d135_45 : mj_At 135 45 (.iaload) 46 [] (.null) := ⟨1, (congrArg (fun z => mj_at z 45) f135).trans rfl, rfl⟩
theorem d135_46 : mj_At 135 46 (.iload_n 1) 47 [1] (.null) := ⟨1, (congrArg (fun z => mj_at z 46) f135).trans rfl, rfl⟩
theorem d135_47 : mj_At 135 47 (.if_icmp .ne (29)) 50 [76] (.null) := ⟨3, (congrArg (fun z => mj_at z 47) f135).trans rfl, rfl⟩
theorem d135_50 : mj_At 135 50 (.aload_n 0) 51 [0] (.null) := ⟨1, (congrArg (fun z => mj_at z 50) f135).trans rfl, rfl⟩
theorem d135_51 : mj_At 135 51 (.getfield 7) 54 [4, 0, 557] (.null) := ⟨3, (congrArg (fun z => mj_at z 51) f135).trans rfl, rfl⟩
theorem d135_54 : mj_At 135 54 (.iload 4) 56 [4] (.null) := ⟨2, (congrArg (fun z => mj_at z 54) f135).trans rfl, rfl⟩
theorem d135_56 : mj_At 135 56 (.iconst (1)) 57 [] (.int 1) := ⟨1, (congrArg (fun z => mj_at z 56) f135).trans rfl, rfl⟩
theorem d135_57 : mj_At 135 57 (.iadd) 58 [] (.null) := ⟨1, (congrArg (fun z => mj_at z 57) f135).trans rfl, rfl⟩
theorem d135_58 : mj_At 135 58 (.iaload) 59 [] (.null) := ⟨1, (congrArg (fun z => mj_at z 58) f135).trans rfl, rfl⟩
theorem d135_59 : mj_At 135 59 (.iload_n 2) 60 [2] (.null) := ⟨1, (congrArg (fun z => mj_at z 59) f135).trans rfl, rfl⟩
theorem d135_60 : mj_At 135 60 (.ishr) 61 [] (.null) := ⟨1, (congrArg (fun z => mj_at z 60) f135).trans rfl, rfl⟩
theorem d135_61 : mj_At 135 61 (.iconst (1)) 62 [] (.int 1) := ⟨1, (congrArg (fun z => mj_at z 61) f135).trans rfl, rfl⟩
theorem d135_62 : mj_At 135 62 (.iand) 63 [] (.null) := ⟨1, (congrArg (fun z => mj_at z 62) f135).trans rfl, rfl⟩
theorem d135_63 : mj_At 135 63 (.iload 5) 65 [5] (.null) := ⟨2, (congrArg (fun z => mj_at z 63) f135).trans rfl, rfl⟩
theorem d135_65 : mj_At 135 65 (.iload_n 2) 66 [2] (.null) := ⟨1, (congrArg (fun z => mj_at z 65) f135).trans rfl, rfl⟩
theorem d135_66 : mj_At 135 66 (.ishr) 67 [] (.null) := ⟨1, (congrArg (fun z => mj_at z 66) f135).trans rfl, rfl⟩
theorem d135_67 : mj_At 135 67 (.iconst (1)) 68 [] (.int 1) := ⟨1, (congrArg (fun z => mj_at z 67) f135).trans rfl, rfl⟩
theorem d135_68 : mj_At 135 68 (.iand) 69 [] (.null) := ⟨1, (congrArg (fun z => mj_at z 68) f135).trans rfl, rfl⟩
theorem d135_69 : mj_At 135 69 (.if_icmp .ne (7)) 72 [76] (.null) := ⟨3, (congrArg (fun z => mj_at z 69) f135).trans rfl, rfl⟩
theorem d135_72 : mj_At 135 72 (.iconst (1)) 73 [] (.int 1) := ⟨1, (congrArg (fun z => mj_at z 72) f135).trans rfl, rfl⟩
theorem d135_73 : mj_At 135 73 (.goto (4)) 76 [77] (.null) := ⟨3, (congrArg (fun z => mj_at z 73) f135).trans rfl, rfl⟩
theorem d135_76 : mj_At 135 76 (.iconst (0)) 77 [] (.int 0) := ⟨1, (congrArg (fun z => mj_at z 76) f135).trans rfl, rfl⟩
theorem d135_77 : mj_At 135 77 (.istore 6) 79 [6] (.null) := ⟨2, (congrArg (fun z => mj_at z 77) f135).trans rfl, rfl⟩
theorem d135_79 : mj_At 135 79 (.iload 6) 81 [6] (.null) := ⟨2, (congrArg (fun z => mj_at z 79) f135).trans rfl, rfl⟩
theorem d135_81 : mj_At 135 81 (.ifCond .eq (26)) 84 [107] (.null) := ⟨3, (congrArg (fun z => mj_at z 81) f135).trans rfl, rfl⟩
theorem d135_84 : mj_At 135 84 (.aload_n 0) 85 [0] (.null) := ⟨1, (congrArg (fun z => mj_at z 84) f135).trans rfl, rfl⟩
theorem d135_85 : mj_At 135 85 (.getfield 7) 88 [4, 0, 557] (.null) := ⟨3, (congrArg (fun z => mj_at z 85) f135).trans rfl, rfl⟩
theorem d135_88 : mj_At 135 88 (.iconst (2)) 89 [] (.int 2) := ⟨1, (congrArg (fun z => mj_at z 88) f135).trans rfl, rfl⟩
theorem d135_89 : mj_At 135 89 (.dup2) 90 [] (.null) := ⟨1, (congrArg (fun z => mj_at z 89) f135).trans rfl, rfl⟩
theorem d135_90 : mj_At 135 90 (.iaload) 91 [] (.null) := ⟨1, (congrArg (fun z => mj_at z 90) f135).trans rfl, rfl⟩
theorem d135_91 : mj_At 135 91 (.iconst (1)) 92 [] (.int 1) := ⟨1, (congrArg (fun z => mj_at z 91) f135).trans rfl, rfl⟩
theorem d135_92 : mj_At 135 92 (.iadd) 93 [] (.null) := ⟨1, (congrArg (fun z => mj_at z 92) f135).trans rfl, rfl⟩
theorem d135_93 : mj_At 135 93 (.iastore) 94 [] (.null) := ⟨1, (congrArg (fun z => mj_at z 93) f135).trans rfl, rfl⟩
theorem d135_94 : mj_At 135 94 (.aload_n 0) 95 [0] (.null) := ⟨1, (congrArg (fun z => mj_at z 94) f135).trans rfl, rfl⟩
theorem d135_95 : mj_At 135 95 (.getfield 7) 98 [4, 0, 557] (.null) := ⟨3, (congrArg (fun z => mj_at z 95) f135).trans rfl, rfl⟩
theorem d135_98 : mj_At 135 98 (.iconst (4)) 99 [] (.int 4) := ⟨1, (congrArg (fun z => mj_at z 98) f135).trans rfl, rfl⟩
theorem d135_99 : mj_At 135 99 (.dup2) 100 [] (.null) := ⟨1, (congrArg (fun z => mj_at z 99) f135).trans rfl, rfl⟩
theorem d135_100 : mj_At 135 100 (.iaload) 101 [] (.null) := ⟨1, (congrArg (fun z => mj_at z 100) f135).trans rfl, rfl⟩
theorem d135_101 : mj_At 135 101 (.iconst (1)) 102 [] (.int 1) := ⟨1, (congrArg (fun z => mj_at z 101) f135).trans rfl, rfl⟩
theorem d135_102 : mj_At 135 102 (.iadd) 103 [] (.null) := ⟨1, (congrArg (fun z => mj_at z 102) f135).trans rfl, rfl⟩
theorem d135_103 : mj_At 135 103 (.iastore) 104 [] (.null) := ⟨1, (congrArg (fun z => mj_at z 103) f135).trans rfl, rfl⟩
theorem d135_104 : mj_At 135 104 (.goto (42)) 107 [146] (.null) := ⟨3, (congrArg (fun z => mj_at z 104) f135).trans rfl, rfl⟩
theorem d135_107 : mj_At 135 107 (.aload_n 0) 108 [0] (.null) := ⟨1, (congrArg (fun z => mj_at z 107) f135).trans rfl, rfl⟩
theorem d135_108 : mj_At 135 108 (.getfield 7) 111 [4, 0, 557] (.null) := ⟨3, (congrArg (fun z => mj_at z 108) f135).trans rfl, rfl⟩
theorem d135_111 : mj_At 135 111 (.iconst (3)) 112 [] (.int 3) := ⟨1, (congrArg (fun z => mj_at z 111) f135).trans rfl, rfl⟩
theorem d135_112 : mj_At 135 112 (.dup2) 113 [] (.null) := ⟨1, (congrArg (fun z => mj_at z 112) f135).trans rfl, rfl⟩
theorem d135_113 : mj_At 135 113 (.iaload) 114 [] (.null) := ⟨1, (congrArg (fun z => mj_at z 113) f135).trans rfl, rfl⟩
theorem d135_114 : mj_At 135 114 (.iconst (1)) 115 [] (.int 1) := ⟨1, (congrArg (fun z => mj_at z 114) f135).trans rfl, rfl⟩
theorem d135_115 : mj_At 135 115 (.iadd) 116 [] (.null) := ⟨1, (congrArg (fun z => mj_at z 115) f135).trans rfl, rfl⟩
theorem d135_116 : mj_At 135 116 (.iastore) 117 [] (.null) := ⟨1, (congrArg (fun z => mj_at z 116) f135).trans rfl, rfl⟩
theorem d135_117 : mj_At 135 117 (.aload_n 0) 118 [0] (.null) := ⟨1, (congrArg (fun z => mj_at z 117) f135).trans rfl, rfl⟩
theorem d135_118 : mj_At 135 118 (.getfield 7) 121 [4, 0, 557] (.null) := ⟨3, (congrArg (fun z => mj_at z 118) f135).trans rfl, rfl⟩
theorem d135_121 : mj_At 135 121 (.iconst (4)) 122 [] (.int 4) := ⟨1, (congrArg (fun z => mj_at z 121) f135).trans rfl, rfl⟩
theorem d135_122 : mj_At 135 122 (.dup2) 123 [] (.null) := ⟨1, (congrArg (fun z => mj_at z 122) f135).trans rfl, rfl⟩
theorem d135_123 : mj_At 135 123 (.iaload) 124 [] (.null) := ⟨1, (congrArg (fun z => mj_at z 123) f135).trans rfl, rfl⟩
theorem d135_124 : mj_At 135 124 (.iconst (2)) 125 [] (.int 2) := ⟨1, (congrArg (fun z => mj_at z 124) f135).trans rfl, rfl⟩
theorem d135_125 : mj_At 135 125 (.iadd) 126 [] (.null) := ⟨1, (congrArg (fun z => mj_at z 125) f135).trans rfl, rfl⟩
theorem d135_126 : mj_At 135 126 (.iastore) 127 [] (.null) := ⟨1, (congrArg (fun z => mj_at z 126) f135).trans rfl, rfl⟩
theorem d135_127 : mj_At 135 127 (.aload_n 0) 128 [0] (.null) := ⟨1, (congrArg (fun z => mj_at z 127) f135).trans rfl, rfl⟩
theorem d135_128 : mj_At 135 128 (.getfield 7) 131 [4, 0, 557] (.null) := ⟨3, (congrArg (fun z => mj_at z 128) f135).trans rfl, rfl⟩
theorem d135_131 : mj_At 135 131 (.iload 4) 133 [4] (.null) := ⟨2, (congrArg (fun z => mj_at z 131) f135).trans rfl, rfl⟩
theorem d135_133 : mj_At 135 133 (.iload_n 1) 134 [1] (.null) := ⟨1, (congrArg (fun z => mj_at z 133) f135).trans rfl, rfl⟩
theorem d135_134 : mj_At 135 134 (.iastore) 135 [] (.null) := ⟨1, (congrArg (fun z => mj_at z 134) f135).trans rfl, rfl⟩
theorem d135_135 : mj_At 135 135 (.aload_n 0) 136 [0] (.null) := ⟨1, (congrArg (fun z => mj_at z 135) f135).trans rfl, rfl⟩
theorem d135_136 : mj_At 135 136 (.getfield 7) 139 [4, 0, 557] (.null) := ⟨3, (congrArg (fun z => mj_at z 136) f135).trans rfl, rfl⟩
theorem d135_139 : mj_At 135 139 (.iload 4) 141 [4] (.null) := ⟨2, (congrArg (fun z => mj_at z 139) f135).trans rfl, rfl⟩
theorem d135_141 : mj_At 135 141 (.iconst (1)) 142 [] (.int 1) := ⟨1, (congrArg (fun z => mj_at z 141) f135).trans rfl, rfl⟩
theorem d135_142 : mj_At 135 142 (.iadd) 143 [] (.null) := ⟨1, (congrArg (fun z => mj_at z 142) f135).trans rfl, rfl⟩
theorem d135_143 : mj_At 135 143 (.iload 5) 145 [5] (.null) := ⟨2, (congrArg (fun z => mj_at z 143) f135).trans rfl, rfl⟩
theorem d135_145 : mj_At 135 145 (.iastore) 146 [] (.null) := ⟨1, (congrArg (fun z => mj_at z 145) f135).trans rfl, rfl⟩
theorem d135_146 : mj_At 135 146 (.aload_n 0) 147 [0] (.null) := ⟨1, (congrArg (fun z => mj_at z 146) f135).trans rfl, rfl⟩
theorem d135_147 : mj_At 135 147 (.iload_n 1) 148 [1] (.null) := ⟨1, (congrArg (fun z => mj_at z 147) f135).trans rfl, rfl⟩
theorem d135_148 : mj_At 135 148 (.iload_n 2) 149 [2] (.null) := ⟨1, (congrArg (fun z => mj_at z 148) f135).trans rfl, rfl⟩
theorem d135_149 : mj_At 135 149 (.iload_n 3) 150 [3] (.null) := ⟨1, (congrArg (fun z => mj_at z 149) f135).trans rfl, rfl⟩
theorem d135_150 : mj_At 135 150 (.invokevirtual 42) 153 [1, 99, 4, 4, 635, 637, 32, 69] (.null) := ⟨3, (congrArg (fun z => mj_at z 150) f135).trans rfl, rfl⟩
theorem d135_153 : mj_At 135 153 (.ireturn) 154 [0] (.null) := ⟨1, (congrArg (fun z => mj_at z 153) f135).trans rfl, rfl⟩
theorem e135_0 {c : mj_C} {x1 : Int32} {x2 : Int32} {x3 : Int32} {L : Nat} {ps : List (Option (Option Nat))}   : mj_EV 135 0 [some (.ref 52), some (.int x1), some (.int x2), some (.int x3), none, none, none] [] (w_al L ps) c = (mj_then 135 6 [some (.ref 52), some (.int x1), some (.int x2), some (.int x3), none, none, none] [] (mj_EV 130 0 [some (.ref 52), some (.int x1), some (.int x2)] [] (w_al L ps) c)) := (mj_aload_n d135_0 rfl (mj_iload_n d135_1 rfl (mj_iload_n d135_2 rfl (mj_invV [some (.ref 52), some (.int x1), some (.int x2)] [] d135_3 rfl rfl rfl w_52 rfl rfl))))
theorem e135_6 {c : mj_C} {x1 : Int32} {x2 : Int32} {x3 : Int32} {z0 : Int32} {L : Nat} {ps : List (Option (Option Nat))}   : mj_EV 135 6 [some (.ref 52), some (.int x1), some (.int x2), some (.int x3), none, none, none] [.int z0] (w_al L ps) c = (if z0 = nI 0 then (some (some (.int (-1)), (w_al L ps), c)) else (mj_then 135 13 [some (.ref 52), some (.int x1), some (.int x2), some (.int x3), none, none, none] [] (mj_EV 97 0 [some (.int x3)] [] (w_al L ps) c))) := (mj_ifeq d135_6 (mj_iconst d135_16 (mj_iret d135_17)) (mj_iload_n d135_9 rfl (mj_invS [some (.int x3)] [] d135_10 (by decide) rfl rfl rfl rfl)))
theorem e135_13 {c : mj_C} {x1 : Int32} {x2 : Int32} {x3 : Int32} {z0 : Int32} {L : Nat} {ps : List (Option (Option Nat))}   : mj_EV 135 13 [some (.ref 52), some (.int x1), some (.int x2), some (.int x3), none, none, none] [.int z0] (w_al L ps) c = (if z0 = nI 0 then (some (some (.int (-1)), (w_al L ps), c)) else (mj_then 135 22 [some (.ref 52), some (.int x1), some (.int x2), some (.int x3), none, none, none] [] (mj_EV 95 0 [some (.ref 52), none] [] (w_al L ps) c))) := (mj_ifne d135_13 (mj_aload_n d135_18 rfl (mj_invV [some (.ref 52), none] [] d135_19 rfl rfl rfl w_52 rfl rfl)) (mj_iconst d135_16 (mj_iret d135_17)))
theorem e135_22 {c : mj_C} {x1 : Int32} {x2 : Int32} {x3 : Int32} {L : Nat} {ps : List (Option (Option Nat))}   : mj_EV 135 22 [some (.ref 52), some (.int x1), some (.int x2), some (.int x3), none, none, none] [] (w_al L ps) c = (if (!decide ((nI 4) = nI 0)) = true then (mj_then 135 37 [some (.ref 52), some (.int x1), some (.int x2), some (.int x3), some (.int ((nI 26) + ((nI 2) * (x1 - x1 / (nI 4) * (nI 4))))), none, none] [] (mj_EV 107 0 [some (.ref 52), some (.int x1)] [] (w_al L ps) c)) else none) := (mj_bipush d135_22 (mj_iconst d135_24 (mj_iload_n d135_25 rfl (mj_iconst d135_26 (mj_irem d135_27 (mj_imul d135_28 (mj_iadd d135_29 (mj_istore [some (.ref 52), some (.int x1), some (.int x2), some (.int x3), some (.int ((nI 26) + ((nI 2) * (x1 - x1 / (nI 4) * (nI 4))))), none, none] d135_30 rfl rfl (mj_aload_n d135_32 rfl (mj_iload_n d135_33 rfl (mj_invV [some (.ref 52), some (.int x1)] [] d135_34 rfl rfl rfl w_52 rfl rfl)))))))))))
theorem e135_37 {c : mj_C} {x1 : Int32} {x2 : Int32} {x3 : Int32} {x4 : Int32} {z0 : Int32} {L : Nat} {ps : List (Option (Option Nat))}   : mj_EV 135 37 [some (.ref 52), some (.int x1), some (.int x2), some (.int x3), some (.int x4), none, none] [.int z0] (w_al L ps) c = (if mj_in x4 674 = true then (if (c 53 x4.toNatClampNeg) = x1 then (if mj_in (x4 + (nI 1)) 674 = true then (if (((c 53 (x4 + (nI 1)).toNatClampNeg) >>> (x2 &&& 31)) &&& (nI 1)) = ((z0 >>> (x2 &&& 31)) &&& (nI 1)) then mj_EV 135 77 [some (.ref 52), some (.int x1), some (.int x2), some (.int x3), some (.int x4), some (.int z0), none] [.int (nI 1)] (w_al L ps) c else mj_EV 135 76 [some (.ref 52), some (.int x1), some (.int x2), some (.int x3), some (.int x4), some (.int z0), none] [] (w_al L ps) c) else none) else mj_EV 135 76 [some (.ref 52), some (.int x1), some (.int x2), some (.int x3), some (.int x4), some (.int z0), none] [] (w_al L ps) c) else none) := (mj_istore [some (.ref 52), some (.int x1), some (.int x2), some (.int x3), some (.int x4), some (.int z0), none] d135_37 rfl rfl (mj_aload_n d135_39 rfl (mj_getR d135_40 w_52 rfl (mj_iload d135_43 rfl (mj_iald d135_45 w_53 (mj_iload_n d135_46 rfl (mj_icne d135_47 rfl (mj_aload_n d135_50 rfl (mj_getR d135_51 w_52 rfl (mj_iload d135_54 rfl (mj_iconst d135_56 (mj_iadd d135_57 (mj_iald d135_58 w_53 (mj_iload_n d135_59 rfl (mj_ishr d135_60 (mj_iconst d135_61 (mj_iand d135_62 (mj_iload d135_63 rfl (mj_iload_n d135_65 rfl (mj_ishr d135_66 (mj_iconst d135_67 (mj_iand d135_68 (mj_icne d135_69 rfl (mj_iconst d135_72 (mj_goto d135_73 rfl)))))))))))))))))))))))))
theorem e135_76 {c : mj_C} {x1 : Int32} {x2 : Int32} {x3 : Int32} {x4 : Int32} {x5 : Int32} {L : Nat} {ps : List (Option (Option Nat))}   : mj_EV 135 76 [some (.ref 52), some (.int x1), some (.int x2), some (.int x3), some (.int x4), some (.int x5), none] [] (w_al L ps) c = mj_EV 135 77 [some (.ref 52), some (.int x1), some (.int x2), some (.int x3), some (.int x4), some (.int x5), none] [.int (nI 0)] (w_al L ps) c := (mj_iconst d135_76 rfl)
theorem e135_77 {c : mj_C} {x1 : Int32} {x2 : Int32} {x3 : Int32} {x4 : Int32} {x5 : Int32} {z0 : Int32} {L : Nat} {ps : List (Option (Option Nat))}   : mj_EV 135 77 [some (.ref 52), some (.int x1), some (.int x2), some (.int x3), some (.int x4), some (.int x5), none] [.int z0] (w_al L ps) c = (if z0 = nI 0 then (if mj_in (nI 3) 674 = true then (if mj_in (nI 3) 674 = true then (if mj_in (nI 4) 674 = true then (if mj_in (nI 4) 674 = true then (if mj_in x4 674 = true then (if mj_in (x4 + (nI 1)) 674 = true then (mj_then 135 153 [some (.ref 52), some (.int x1), some (.int x2), some (.int x3), some (.int x4), some (.int x5), some (.int z0)] [] (mj_EV 99 0 [some (.ref 52), some (.int x1), some (.int x2), some (.int x3)] [] (w_al L ps) (mj_u (mj_u (mj_u (mj_u c 53 (nI 3).toNatClampNeg ((c 53 (nI 3).toNatClampNeg) + (nI 1))) 53 (nI 4).toNatClampNeg (((mj_u c 53 (nI 3).toNatClampNeg ((c 53 (nI 3).toNatClampNeg) + (nI 1))) 53 (nI 4).toNatClampNeg) + (nI 2))) 53 x4.toNatClampNeg x1) 53 (x4 + (nI 1)).toNatClampNeg x5))) else none) else none) else none) else none) else none) else none) else (if mj_in (nI 2) 674 = true then (if mj_in (nI 2) 674 = true then (if mj_in (nI 4) 674 = true then (if mj_in (nI 4) 674 = true then (mj_then 135 153 [some (.ref 52), some (.int x1), some (.int x2), some (.int x3), some (.int x4), some (.int x5), some (.int z0)] [] (mj_EV 99 0 [some (.ref 52), some (.int x1), some (.int x2), some (.int x3)] [] (w_al L ps) (mj_u (mj_u c 53 (nI 2).toNatClampNeg ((c 53 (nI 2).toNatClampNeg) + (nI 1))) 53 (nI 4).toNatClampNeg (((mj_u c 53 (nI 2).toNatClampNeg ((c 53 (nI 2).toNatClampNeg) + (nI 1))) 53 (nI 4).toNatClampNeg) + (nI 1))))) else none) else none) else none) else none)) := (mj_istore [some (.ref 52), some (.int x1), some (.int x2), some (.int x3), some (.int x4), some (.int x5), some (.int z0)] d135_77 rfl rfl (mj_iload d135_79 rfl (mj_ifeq d135_81 (mj_aload_n d135_107 rfl (mj_getR d135_108 w_52 rfl (mj_iconst d135_111 (mj_dup2 d135_112 (mj_iald d135_113 w_53 (mj_iconst d135_114 (mj_iadd d135_115 (mj_iast d135_116 w_53 (mj_aload_n d135_117 rfl (mj_getR d135_118 w_52 rfl (mj_iconst d135_121 (mj_dup2 d135_122 (mj_iald d135_123 w_53 (mj_iconst d135_124 (mj_iadd d135_125 (mj_iast d135_126 w_53 (mj_aload_n d135_127 rfl (mj_getR d135_128 w_52 rfl (mj_iload d135_131 rfl (mj_iload_n d135_133 rfl (mj_iast d135_134 w_53 (mj_aload_n d135_135 rfl (mj_getR d135_136 w_52 rfl (mj_iload d135_139 rfl (mj_iconst d135_141 (mj_iadd d135_142 (mj_iload d135_143 rfl (mj_iast d135_145 w_53 (mj_aload_n d135_146 rfl (mj_iload_n d135_147 rfl (mj_iload_n d135_148 rfl (mj_iload_n d135_149 rfl (mj_invV [some (.ref 52), some (.int x1), some (.int x2), some (.int x3)] [] d135_150 rfl rfl rfl w_52 rfl rfl))))))))))))))))))))))))))))))))) (mj_aload_n d135_84 rfl (mj_getR d135_85 w_52 rfl (mj_iconst d135_88 (mj_dup2 d135_89 (mj_iald d135_90 w_53 (mj_iconst d135_91 (mj_iadd d135_92 (mj_iast d135_93 w_53 (mj_aload_n d135_94 rfl (mj_getR d135_95 w_52 rfl (mj_iconst d135_98 (mj_dup2 d135_99 (mj_iald d135_100 w_53 (mj_iconst d135_101 (mj_iadd d135_102 (mj_iast d135_103 w_53 (mj_goto d135_104 (mj_aload_n d135_146 rfl (mj_iload_n d135_147 rfl (mj_iload_n d135_148 rfl (mj_iload_n d135_149 rfl (mj_invV [some (.ref 52), some (.int x1), some (.int x2), some (.int x3)] [] d135_150 rfl rfl rfl w_52 rfl rfl)))))))))))))))))))))))))
theorem e135_153 {c : mj_C} {x1 : Int32} {x2 : Int32} {x3 : Int32} {x4 : Int32} {x5 : Int32} {x6 : Int32} {z0 : Int32} {L : Nat} {ps : List (Option (Option Nat))}   : mj_EV 135 153 [some (.ref 52), some (.int x1), some (.int x2), some (.int x3), some (.int x4), some (.int x5), some (.int x6)] [.int z0] (w_al L ps) c = (some (some (.int z0), (w_al L ps), c)) := (mj_iret d135_153)
/-- SqueezedLinesModel.besideMany()I -/
theorem f136 : mj_cd 136 = mj_c136 := rfl
theorem d136_0 : mj_At 136 0 (.iconst (0)) 1 [] (.int 0) := ⟨1, (congrArg (fun z => mj_at z 0) f136).trans rfl, rfl⟩
theorem d136_1 : mj_At 136 1 (.istore_n 1) 2 [1] (.null) := ⟨1, (congrArg (fun z => mj_at z 1) f136).trans rfl, rfl⟩
theorem d136_2 : mj_At 136 2 (.iconst (0)) 3 [] (.int 0) := ⟨1, (congrArg (fun z => mj_at z 2) f136).trans rfl, rfl⟩
theorem d136_3 : mj_At 136 3 (.istore_n 2) 4 [2] (.null) := ⟨1, (congrArg (fun z => mj_at z 3) f136).trans rfl, rfl⟩
theorem d136_4 : mj_At 136 4 (.iload_n 2) 5 [2] (.null) := ⟨1, (congrArg (fun z => mj_at z 4) f136).trans rfl, rfl⟩
theorem d136_5 : mj_At 136 5 (.bipush (10)) 7 [] (.int 10) := ⟨2, (congrArg (fun z => mj_at z 5) f136).trans rfl, rfl⟩
theorem d136_7 : mj_At 136 7 (.if_icmp .ge (32)) 10 [39] (.null) := ⟨3, (congrArg (fun z => mj_at z 7) f136).trans rfl, rfl⟩
theorem d136_10 : mj_At 136 10 (.iload_n 1) 11 [1] (.null) := ⟨1, (congrArg (fun z => mj_at z 10) f136).trans rfl, rfl⟩
theorem d136_11 : mj_At 136 11 (.aload_n 0) 12 [0] (.null) := ⟨1, (congrArg (fun z => mj_at z 11) f136).trans rfl, rfl⟩
theorem d136_12 : mj_At 136 12 (.iload_n 2) 13 [2] (.null) := ⟨1, (congrArg (fun z => mj_at z 12) f136).trans rfl, rfl⟩
theorem d136_13 : mj_At 136 13 (.invokevirtual 84) 16 [1, 96, 2, 4, 602, 604, 24, 69] (.null) := ⟨3, (congrArg (fun z => mj_at z 13) f136).trans rfl, rfl⟩
theorem d136_16 : mj_At 136 16 (.ifCond .eq (14)) 19 [30] (.null) := ⟨3, (congrArg (fun z => mj_at z 16) f136).trans rfl, rfl⟩
theorem d136_19 : mj_At 136 19 (.aload_n 0) 20 [0] (.null) := ⟨1, (congrArg (fun z => mj_at z 19) f136).trans rfl, rfl⟩
theorem d136_20 : mj_At 136 20 (.iload_n 2) 21 [2] (.null) := ⟨1, (congrArg (fun z => mj_at z 20) f136).trans rfl, rfl⟩
theorem d136_21 : mj_At 136 21 (.invokevirtual 77) 24 [1, 107, 2, 4, 663, 665, 36, 69] (.null) := ⟨3, (congrArg (fun z => mj_at z 21) f136).trans rfl, rfl⟩
theorem d136_24 : mj_At 136 24 (.invokestatic 68) 27 [0, 108, 1, 649, 650, 69] (.null) := ⟨3, (congrArg (fun z => mj_at z 24) f136).trans rfl, rfl⟩
theorem d136_27 : mj_At 136 27 (.goto (4)) 30 [31] (.null) := ⟨3, (congrArg (fun z => mj_at z 27) f136).trans rfl, rfl⟩
theorem d136_30 : mj_At 136 30 (.iconst (0)) 31 [] (.int 0) := ⟨1, (congrArg (fun z => mj_at z 30) f136).trans rfl, rfl⟩
theorem d136_31 : mj_At 136 31 (.iadd) 32 [] (.null) := ⟨1, (congrArg (fun z => mj_at z 31) f136).trans rfl, rfl⟩
theorem d136_32 : mj_At 136 32 (.istore_n 1) 33 [1] (.null) := ⟨1, (congrArg (fun z => mj_at z 32) f136).trans rfl, rfl⟩
theorem d136_33 : mj_At 136 33 (.iinc 2 (1)) 36 [2] (.int 1) := ⟨3, (congrArg (fun z => mj_at z 33) f136).trans rfl, rfl⟩
theorem d136_36 : mj_At 136 36 (.goto (-32)) 39 [4] (.null) := ⟨3, (congrArg (fun z => mj_at z 36) f136).trans rfl, rfl⟩
theorem d136_39 : mj_At 136 39 (.iload_n 1) 40 [1] (.null) := ⟨1, (congrArg (fun z => mj_at z 39) f136).trans rfl, rfl⟩
theorem d136_40 : mj_At 136 40 (.ireturn) 41 [0] (.null) := ⟨1, (congrArg (fun z => mj_at z 40) f136).trans rfl, rfl⟩
theorem e136_0 {c : mj_C}  {L : Nat} {ps : List (Option (Option Nat))}   : mj_EV 136 0 [some (.ref 52), none, none] [] (w_al L ps) c = mj_EV 136 4 [some (.ref 52), some (.int (nI 0)), some (.int (nI 0))] [] (w_al L ps) c := (mj_iconst d136_0 (mj_istore_n [some (.ref 52), some (.int (nI 0)), none] d136_1 rfl rfl (mj_iconst d136_2 (mj_istore_n [some (.ref 52), some (.int (nI 0)), some (.int (nI 0))] d136_3 rfl rfl rfl))))
theorem e136_4 {c : mj_C} {x1 : Int32} {x2 : Int32} {L : Nat} {ps : List (Option (Option Nat))}   : mj_EV 136 4 [some (.ref 52), some (.int x1), some (.int x2)] [] (w_al L ps) c = (if (nI 10) ≤ x2 then (some (some (.int x1), (w_al L ps), c)) else (mj_then 136 16 [some (.ref 52), some (.int x1), some (.int x2)] [.int x1] (mj_EV 96 0 [some (.ref 52), some (.int x2)] [] (w_al L ps) c))) := (mj_iload_n d136_4 rfl (mj_bipush d136_5 (mj_icge d136_7 (mj_iload_n d136_39 rfl (mj_iret d136_40)) (mj_iload_n d136_10 rfl (mj_aload_n d136_11 rfl (mj_iload_n d136_12 rfl (mj_invV [some (.ref 52), some (.int x2)] [.int x1] d136_13 rfl rfl rfl w_52 rfl rfl)))))))
theorem e136_16 {c : mj_C} {x1 : Int32} {x2 : Int32} {z0 : Int32} {z1 : Int32} {L : Nat} {ps : List (Option (Option Nat))}   : mj_EV 136 16 [some (.ref 52), some (.int x1), some (.int x2)] [.int z1, .int z0] (w_al L ps) c = (if z1 = nI 0 then mj_EV 136 4 [some (.ref 52), some (.int (z0 + (nI 0))), some (.int (x2 + (nI 1)))] [] (w_al L ps) c else (mj_then 136 24 [some (.ref 52), some (.int x1), some (.int x2)] [.int z0] (mj_EV 107 0 [some (.ref 52), some (.int x2)] [] (w_al L ps) c))) := (mj_ifeq d136_16 (mj_iconst d136_30 (mj_iadd d136_31 (mj_istore_n [some (.ref 52), some (.int (z0 + (nI 0))), some (.int x2)] d136_32 rfl rfl (mj_iinc [some (.ref 52), some (.int (z0 + (nI 0))), some (.int (x2 + (nI 1)))] d136_33 rfl rfl rfl (mj_goto d136_36 rfl))))) (mj_aload_n d136_19 rfl (mj_iload_n d136_20 rfl (mj_invV [some (.ref 52), some (.int x2)] [.int z0] d136_21 rfl rfl rfl w_52 rfl rfl))))
theorem e136_24 {c : mj_C} {x1 : Int32} {x2 : Int32} {z0 : Int32} {z1 : Int32} {L : Nat} {ps : List (Option (Option Nat))}   : mj_EV 136 24 [some (.ref 52), some (.int x1), some (.int x2)] [.int z1, .int z0] (w_al L ps) c = (mj_then 136 27 [some (.ref 52), some (.int x1), some (.int x2)] [.int z0] (mj_EV 108 0 [some (.int z1), none, none] [] (w_al L ps) c)) := (mj_invS [some (.int z1), none, none] [.int z0] d136_24 (by decide) rfl rfl rfl rfl)
theorem e136_27 {c : mj_C} {x1 : Int32} {x2 : Int32} {z0 : Int32} {z1 : Int32} {L : Nat} {ps : List (Option (Option Nat))}   : mj_EV 136 27 [some (.ref 52), some (.int x1), some (.int x2)] [.int z1, .int z0] (w_al L ps) c = mj_EV 136 4 [some (.ref 52), some (.int (z0 + z1)), some (.int (x2 + (nI 1)))] [] (w_al L ps) c := (mj_goto d136_27 (mj_iadd d136_31 (mj_istore_n [some (.ref 52), some (.int (z0 + z1)), some (.int x2)] d136_32 rfl rfl (mj_iinc [some (.ref 52), some (.int (z0 + z1)), some (.int (x2 + (nI 1)))] d136_33 rfl rfl rfl (mj_goto d136_36 rfl)))))
/-- SqueezedLinesModel.countOf(I)I -/
theorem f137 : mj_cd 137 = mj_c137 := rfl
theorem d137_0 : mj_At 137 0 (.iload_n 1) 1 [1] (.null) := ⟨1, (congrArg (fun z => mj_at z 0) f137).trans rfl, rfl⟩
theorem d137_1 : mj_At 137 1 (.tableswitch (64) (0) (4) #[35, 40, 45, 52, 59]) 36 [65, 36, 41, 46, 53, 60] (.int 0) := ⟨35, (congrArg (fun z => mj_at z 1) f137).trans rfl, rfl⟩
theorem d137_36 : mj_At 137 36 (.aload_n 0) 37 [0] (.null) := ⟨1, (congrArg (fun z => mj_at z 36) f137).trans rfl, rfl⟩
theorem d137_37 : mj_At 137 37 (.invokevirtual 134) 40 [1, 115, 1, 4, 763, 765, 49, 69] (.null) := ⟨3, (congrArg (fun z => mj_at z 37) f137).trans rfl, rfl⟩
theorem d137_40 : mj_At 137 40 (.ireturn) 41 [0] (.null) := ⟨1, (congrArg (fun z => mj_at z 40) f137).trans rfl, rfl⟩
theorem d137_41 : mj_At 137 41 (.aload_n 0) 42 [0] (.null) := ⟨1, (congrArg (fun z => mj_at z 41) f137).trans rfl, rfl⟩
theorem d137_42 : mj_At 137 42 (.invokevirtual 98) 45 [1, 114, 1, 4, 598, 600, 23, 69] (.null) := ⟨3, (congrArg (fun z => mj_at z 42) f137).trans rfl, rfl⟩
theorem d137_45 : mj_At 137 45 (.ireturn) 46 [0] (.null) := ⟨1, (congrArg (fun z => mj_at z 45) f137).trans rfl, rfl⟩
theorem d137_46 : mj_At 137 46 (.aload_n 0) 47 [0] (.null) := ⟨1, (congrArg (fun z => mj_at z 46) f137).trans rfl, rfl⟩
theorem d137_47 : mj_At 137 47 (.getfield 7) 50 [4, 0, 557] (.null) := ⟨3, (congrArg (fun z => mj_at z 47) f137).trans rfl, rfl⟩
theorem d137_50 : mj_At 137 50 (.iconst (1)) 51 [] (.int 1) := ⟨1, (congrArg (fun z => mj_at z 50) f137).trans rfl, rfl⟩
theorem d137_51 : mj_At 137 51 (.iaload) 52 [] (.null) := ⟨1, (congrArg (fun z => mj_at z 51) f137).trans rfl, rfl⟩
theorem d137_52 : mj_At 137 52 (.ireturn) 53 [0] (.null) := ⟨1, (congrArg (fun z => mj_at z 52) f137).trans rfl, rfl⟩
theorem d137_53 : mj_At 137 53 (.aload_n 0) 54 [0] (.null) := ⟨1, (congrArg (fun z => mj_at z 53) f137).trans rfl, rfl⟩
theorem d137_54 : mj_At 137 54 (.getfield 7) 57 [4, 0, 557] (.null) := ⟨3, (congrArg (fun z => mj_at z 54) f137).trans rfl, rfl⟩
theorem d137_57 : mj_At 137 57 (.iconst (0)) 58 [] (.int 0) := ⟨1, (congrArg (fun z => mj_at z 57) f137).trans rfl, rfl⟩
theorem d137_58 : mj_At 137 58 (.iaload) 59 [] (.null) := ⟨1, (congrArg (fun z => mj_at z 58) f137).trans rfl, rfl⟩
theorem d137_59 : mj_At 137 59 (.ireturn) 60 [0] (.null) := ⟨1, (congrArg (fun z => mj_at z 59) f137).trans rfl, rfl⟩
theorem d137_60 : mj_At 137 60 (.aload_n 0) 61 [0] (.null) := ⟨1, (congrArg (fun z => mj_at z 60) f137).trans rfl, rfl⟩
theorem d137_61 : mj_At 137 61 (.invokevirtual 137) 64 [1, 136, 1, 4, 767, 769, 50, 69] (.null) := ⟨3, (congrArg (fun z => mj_at z 61) f137).trans rfl, rfl⟩
theorem d137_64 : mj_At 137 64 (.ireturn) 65 [0] (.null) := ⟨1, (congrArg (fun z => mj_at z 64) f137).trans rfl, rfl⟩
theorem d137_65 : mj_At 137 65 (.aload_n 0) 66 [0] (.null) := ⟨1, (congrArg (fun z => mj_at z 65) f137).trans rfl, rfl⟩
theorem d137_66 : mj_At 137 66 (.getfield 7) 69 [4, 0, 557] (.null) := ⟨3, (congrArg (fun z => mj_at z 66) f137).trans rfl, rfl⟩
theorem d137_69 : mj_At 137 69 (.iconst (2)) 70 [] (.int 2) := ⟨1, (congrArg (fun z => mj_at z 69) f137).trans rfl, rfl⟩
theorem d137_70 : mj_At 137 70 (.iload_n 1) 71 [1] (.null) := ⟨1, (congrArg (fun z => mj_at z 70) f137).trans rfl, rfl⟩
theorem d137_71 : mj_At 137 71 (.iadd) 72 [] (.null) := ⟨1, (congrArg (fun z => mj_at z 71) f137).trans rfl, rfl⟩
theorem d137_72 : mj_At 137 72 (.iconst (5)) 73 [] (.int 5) := ⟨1, (congrArg (fun z => mj_at z 72) f137).trans rfl, rfl⟩
theorem d137_73 : mj_At 137 73 (.isub) 74 [] (.null) := ⟨1, (congrArg (fun z => mj_at z 73) f137).trans rfl, rfl⟩
theorem d137_74 : mj_At 137 74 (.iaload) 75 [] (.null) := ⟨1, (congrArg (fun z => mj_at z 74) f137).trans rfl, rfl⟩
theorem d137_75 : mj_At 137 75 (.ireturn) 76 [0] (.null) := ⟨1, (congrArg (fun z => mj_at z 75) f137).trans rfl, rfl⟩
theorem e137_0 {c : mj_C} {x1 : Int32} {L : Nat} {ps : List (Option (Option Nat))}   : mj_EV 137 0 [some (.ref 52), some (.int x1)] [] (w_al L ps) c = (if x1 = nI 0 then (mj_then 137 40 [some (.ref 52), some (.int x1)] [] (mj_EV 115 0 [some (.ref 52), none, none] [] (w_al L ps) c)) else (if x1 = nI 1 then (mj_then 137 45 [some (.ref 52), some (.int x1)] [] (mj_EV 114 0 [some (.ref 52), none, none] [] (w_al L ps) c)) else (if x1 = nI 2 then (if mj_in (nI 1) 674 = true then (some (some (.int (c 53 (nI 1).toNatClampNeg)), (w_al L ps), c)) else none) else (if x1 = nI 3 then (if mj_in (nI 0) 674 = true then (some (some (.int (c 53 (nI 0).toNatClampNeg)), (w_al L ps), c)) else none) else (if x1 = nI 4 then (mj_then 137 64 [some (.ref 52), some (.int x1)] [] (mj_EV 136 0 [some (.ref 52), none, none] [] (w_al L ps) c)) else (if mj_in (((nI 2) + x1) - (nI 5)) 674 = true then (some (some (.int (c 53 (((nI 2) + x1) - (nI 5)).toNatClampNeg)), (w_al L ps), c)) else none)))))) := (mj_iload_n d137_0 rfl ((mj_tsw d137_1).trans (mj_ite rfl (mj_aload_n d137_36 rfl (mj_invV [some (.ref 52), none, none] [] d137_37 rfl rfl rfl w_52 rfl rfl)) (mj_ite rfl (mj_aload_n d137_41 rfl (mj_invV [some (.ref 52), none, none] [] d137_42 rfl rfl rfl w_52 rfl rfl)) (mj_ite rfl (mj_aload_n d137_46 rfl (mj_getR d137_47 w_52 rfl (mj_iconst d137_50 (mj_iald d137_51 w_53 (mj_iret d137_52))))) (mj_ite rfl (mj_aload_n d137_53 rfl (mj_getR d137_54 w_52 rfl (mj_iconst d137_57 (mj_iald d137_58 w_53 (mj_iret d137_59))))) (mj_ite rfl (mj_aload_n d137_60 rfl (mj_invV [some (.ref 52), none, none] [] d137_61 rfl rfl rfl w_52 rfl rfl)) (mj_aload_n d137_65 rfl (mj_getR d137_66 w_52 rfl (mj_iconst d137_69 (mj_iload_n d137_70 rfl (mj_iadd d137_71 (mj_iconst d137_72 (mj_isub d137_73 (mj_iald d137_74 w_53 (mj_iret d137_75))))))))))))))))
theorem e137_40 {c : mj_C} {x1 : Int32} {z0 : Int32} {L : Nat} {ps : List (Option (Option Nat))}   : mj_EV 137 40 [some (.ref 52), some (.int x1)] [.int z0] (w_al L ps) c = (some (some (.int z0), (w_al L ps), c)) := (mj_iret d137_40)
theorem e137_45 {c : mj_C} {x1 : Int32} {z0 : Int32} {L : Nat} {ps : List (Option (Option Nat))}   : mj_EV 137 45 [some (.ref 52), some (.int x1)] [.int z0] (w_al L ps) c = (some (some (.int z0), (w_al L ps), c)) := (mj_iret d137_45)
theorem e137_64 {c : mj_C} {x1 : Int32} {z0 : Int32} {L : Nat} {ps : List (Option (Option Nat))}   : mj_EV 137 64 [some (.ref 52), some (.int x1)] [.int z0] (w_al L ps) c = (some (some (.int z0), (w_al L ps), c)) := (mj_iret d137_64)
/-- SqueezedLinesModel.count(I)I -/
theorem f138 : mj_cd 138 = mj_c138 := rfl
theorem d138_0 : mj_At 138 0 (.iload_n 1) 1 [1] (.null) := ⟨1, (congrArg (fun z => mj_at z 0) f138).trans rfl, rfl⟩
theorem d138_1 : mj_At 138 1 (.iconst (0)) 2 [] (.int 0) := ⟨1, (congrArg (fun z => mj_at z 1) f138).trans rfl, rfl⟩
theorem d138_2 : mj_At 138 2 (.bipush (8)) 4 [] (.int 8) := ⟨2, (congrArg (fun z => mj_at z 2) f138).trans rfl, rfl⟩
theorem d138_4 : mj_At 138 4 (.invokestatic 33) 7 [0, 93, 3, 595, 596, 69] (.null) := ⟨3, (congrArg (fun z => mj_at z 4) f138).trans rfl, rfl⟩
theorem d138_7 : mj_At 138 7 (.ifCond .eq (11)) 10 [18] (.null) := ⟨3, (congrArg (fun z => mj_at z 7) f138).trans rfl, rfl⟩
theorem d138_10 : mj_At 138 10 (.aload_n 0) 11 [0] (.null) := ⟨1, (congrArg (fun z => mj_at z 10) f138).trans rfl, rfl⟩
theorem d138_11 : mj_At 138 11 (.iload_n 1) 12 [1] (.null) := ⟨1, (congrArg (fun z => mj_at z 11) f138).trans rfl, rfl⟩
theorem d138_12 : mj_At 138 12 (.invokevirtual 140) 15 [1, 137, 2, 4, 759, 761, 48, 69] (.null) := ⟨3, (congrArg (fun z => mj_at z 12) f138).trans rfl, rfl⟩
theorem d138_15 : mj_At 138 15 (.goto (5)) 18 [20] (.null) := ⟨3, (congrArg (fun z => mj_at z 15) f138).trans rfl, rfl⟩
theorem d138_18 : mj_At 138 18 (.bipush (-2)) 20 [] (.int (-2)) := ⟨2, (congrArg (fun z => mj_at z 18) f138).trans rfl, rfl⟩
theorem d138_20 : mj_At 138 20 (.ireturn) 21 [0] (.null) := ⟨1, (congrArg (fun z => mj_at z 20) f138).trans rfl, rfl⟩
theorem e138_0 {c : mj_C} {x1 : Int32} {L : Nat} {ps : List (Option (Option Nat))}   : mj_EV 138 0 [some (.ref 52), some (.int x1)] [] (w_al L ps) c = (mj_then 138 7 [some (.ref 52), some (.int x1)] [] (mj_EV 93 0 [some (.int x1), some (.int (nI 0)), some (.int (nI 8))] [] (w_al L ps) c)) := (mj_iload_n d138_0 rfl (mj_iconst d138_1 (mj_bipush d138_2 (mj_invS [some (.int x1), some (.int (nI 0)), some (.int (nI 8))] [] d138_4 (by decide) rfl rfl rfl rfl))))
theorem e138_7 {c : mj_C} {x1 : Int32} {z0 : Int32} {L : Nat} {ps : List (Option (Option Nat))}   : mj_EV 138 7 [some (.ref 52), some (.int x1)] [.int z0] (w_al L ps) c = (if z0 = nI 0 then (some (some (.int (-2)), (w_al L ps), c)) else (mj_then 138 15 [some (.ref 52), some (.int x1)] [] (mj_EV 137 0 [some (.ref 52), some (.int x1)] [] (w_al L ps) c))) := (mj_ifeq d138_7 (mj_bipush d138_18 (mj_iret d138_20)) (mj_aload_n d138_10 rfl (mj_iload_n d138_11 rfl (mj_invV [some (.ref 52), some (.int x1)] [] d138_12 rfl rfl rfl w_52 rfl rfl))))
theorem e138_15 {c : mj_C} {x1 : Int32} {z0 : Int32} {L : Nat} {ps : List (Option (Option Nat))}   : mj_EV 138 15 [some (.ref 52), some (.int x1)] [.int z0] (w_al L ps) c = (some (some (.int z0), (w_al L ps), c)) := (mj_goto d138_15 (mj_iret d138_20))
/-- SqueezedLinesModel.peek(III)I -/
theorem f139 : mj_cd 139 = mj_c139 := rfl
theorem d139_0 : mj_At 139 0 (.aload_n 0) 1 [0] (.null) := ⟨1, (congrArg (fun z => mj_at z 0) f139).trans rfl, rfl⟩
theorem d139_1 : mj_At 139 1 (.iload_n 1) 2 [1] (.null) := ⟨1, (congrArg (fun z => mj_at z 1) f139).trans rfl, rfl⟩
theorem d139_2 : mj_At 139 2 (.iload_n 2) 3 [2] (.null) := ⟨1, (congrArg (fun z => mj_at z 2) f139).trans rfl, rfl⟩
theorem d139_3 : mj_At 139 3 (.invokevirtual 124) 6 [1, 130, 3, 4, 711, 713, 42, 69] (.null) := ⟨3, (congrArg (fun z => mj_at z 3) f139).trans rfl, rfl⟩
theorem d139_6 : mj_At 139 6 (.ifCond .eq (20)) 9 [26] (.null) := ⟨3, (congrArg (fun z => mj_at z 6) f139).trans rfl, rfl⟩
theorem d139_9 : mj_At 139 9 (.iload_n 3) 10 [3] (.null) := ⟨1, (congrArg (fun z => mj_at z 9) f139).trans rfl, rfl⟩
theorem d139_10 : mj_At 139 10 (.invokestatic 121) 13 [0, 97, 1, 715, 716, 69] (.null) := ⟨3, (congrArg (fun z => mj_at z 10) f139).trans rfl, rfl⟩
theorem d139_13 : mj_At 139 13 (.ifCond .eq (13)) 16 [26] (.null) := ⟨3, (congrArg (fun z => mj_at z 13) f139).trans rfl, rfl⟩
theorem d139_16 : mj_At 139 16 (.aload_n 0) 17 [0] (.null) := ⟨1, (congrArg (fun z => mj_at z 16) f139).trans rfl, rfl⟩
theorem d139_17 : mj_At 139 17 (.iload_n 1) 18 [1] (.null) := ⟨1, (congrArg (fun z => mj_at z 17) f139).trans rfl, rfl⟩
theorem d139_18 : mj_At 139 18 (.iload_n 2) 19 [2] (.null) := ⟨1, (congrArg (fun z => mj_at z 18) f139).trans rfl, rfl⟩
theorem d139_19 : mj_At 139 19 (.iload_n 3) 20 [3] (.null) := ⟨1, (congrArg (fun z => mj_at z 19) f139).trans rfl, rfl⟩
theorem d139_20 : mj_At 139 20 (.invokevirtual 42) 23 [1, 99, 4, 4, 635, 637, 32, 69] (.null) := ⟨3, (congrArg (fun z => mj_at z 20) f139).trans rfl, rfl⟩
theorem d139_23 : mj_At 139 23 (.goto (4)) 26 [27] (.null) := ⟨3, (congrArg (fun z => mj_at z 23) f139).trans rfl, rfl⟩
theorem d139_26 : mj_At 139 26 (.iconst (-1)) 27 [] (.int (-1)) := ⟨1, (congrArg (fun z => mj_at z 26) f139).trans rfl, rfl⟩
theorem d139_27 : mj_At 139 27 (.ireturn) 28 [0] (.null) := ⟨1, (congrArg (fun z => mj_at z 27) f139).trans rfl, rfl⟩
theorem e139_0 {c : mj_C} {x1 : Int32} {x2 : Int32} {x3 : Int32} {L : Nat} {ps : List (Option (Option Nat))}   : mj_EV 139 0 [some (.ref 52), some (.int x1), some (.int x2), some (.int x3)] [] (w_al L ps) c = (mj_then 139 6 [some (.ref 52), some (.int x1), some (.int x2), some (.int x3)] [] (mj_EV 130 0 [some (.ref 52), some (.int x1), some (.int x2)] [] (w_al L ps) c)) := (mj_aload_n d139_0 rfl (mj_iload_n d139_1 rfl (mj_iload_n d139_2 rfl (mj_invV [some (.ref 52), some (.int x1), some (.int x2)] [] d139_3 rfl rfl rfl w_52 rfl rfl))))
theorem e139_6 {c : mj_C} {x1 : Int32} {x2 : Int32} {x3 : Int32} {z0 : Int32} {L : Nat} {ps : List (Option (Option Nat))}   : mj_EV 139 6 [some (.ref 52), some (.int x1), some (.int x2), some (.int x3)] [.int z0] (w_al L ps) c = (if z0 = nI 0 then (some (some (.int (-1)), (w_al L ps), c)) else (mj_then 139 13 [some (.ref 52), some (.int x1), some (.int x2), some (.int x3)] [] (mj_EV 97 0 [some (.int x3)] [] (w_al L ps) c))) := (mj_ifeq d139_6 (mj_iconst d139_26 (mj_iret d139_27)) (mj_iload_n d139_9 rfl (mj_invS [some (.int x3)] [] d139_10 (by decide) rfl rfl rfl rfl)))
theorem e139_13 {c : mj_C} {x1 : Int32} {x2 : Int32} {x3 : Int32} {z0 : Int32} {L : Nat} {ps : List (Option (Option Nat))}   : mj_EV 139 13 [some (.ref 52), some (.int x1), some (.int x2), some (.int x3)] [.int z0] (w_al L ps) c = (if z0 = nI 0 then (some (some (.int (-1)), (w_al L ps), c)) else (mj_then 139 23 [some (.ref 52), some (.int x1), some (.int x2), some (.int x3)] [] (mj_EV 99 0 [some (.ref 52), some (.int x1), some (.int x2), some (.int x3)] [] (w_al L ps) c))) := (mj_ifeq d139_13 (mj_iconst d139_26 (mj_iret d139_27)) (mj_aload_n d139_16 rfl (mj_iload_n d139_17 rfl (mj_iload_n d139_18 rfl (mj_iload_n d139_19 rfl (mj_invV [some (.ref 52), some (.int x1), some (.int x2), some (.int x3)] [] d139_20 rfl rfl rfl w_52 rfl rfl))))))
theorem e139_23 {c : mj_C} {x1 : Int32} {x2 : Int32} {x3 : Int32} {z0 : Int32} {L : Nat} {ps : List (Option (Option Nat))}   : mj_EV 139 23 [some (.ref 52), some (.int x1), some (.int x2), some (.int x3)] [.int z0] (w_al L ps) c = (some (some (.int z0), (w_al L ps), c)) := (mj_goto d139_23 (mj_iret d139_27))
/-- SqueezedLinesModel.ofPage(II)I -/
theorem f140 : mj_cd 140 = mj_c140 := rfl
theorem d140_0 : mj_At 140 0 (.iload_n 2) 1 [2] (.null) := ⟨1, (congrArg (fun z => mj_at z 0) f140).trans rfl, rfl⟩
theorem d140_1 : mj_At 140 1 (.tableswitch (55) (0) (3) #[31, 37, 43, 49]) 32 [56, 32, 38, 44, 50] (.int 0) := ⟨31, (congrArg (fun z => mj_at z 1) f140).trans rfl, rfl⟩
theorem d140_32 : mj_At 140 32 (.aload_n 0) 33 [0] (.null) := ⟨1, (congrArg (fun z => mj_at z 32) f140).trans rfl, rfl⟩
theorem d140_33 : mj_At 140 33 (.iload_n 1) 34 [1] (.null) := ⟨1, (congrArg (fun z => mj_at z 33) f140).trans rfl, rfl⟩
theorem d140_34 : mj_At 140 34 (.invokevirtual 62) 37 [1, 105, 2, 4, 610, 612, 26, 69] (.null) := ⟨3, (congrArg (fun z => mj_at z 34) f140).trans rfl, rfl⟩
theorem d140_37 : mj_At 140 37 (.ireturn) 38 [0] (.null) := ⟨1, (congrArg (fun z => mj_at z 37) f140).trans rfl, rfl⟩
theorem d140_38 : mj_At 140 38 (.aload_n 0) 39 [0] (.null) := ⟨1, (congrArg (fun z => mj_at z 38) f140).trans rfl, rfl⟩
theorem d140_39 : mj_At 140 39 (.iload_n 1) 40 [1] (.null) := ⟨1, (congrArg (fun z => mj_at z 39) f140).trans rfl, rfl⟩
theorem d140_40 : mj_At 140 40 (.invokevirtual 88) 43 [1, 110, 2, 4, 606, 608, 25, 69] (.null) := ⟨3, (congrArg (fun z => mj_at z 40) f140).trans rfl, rfl⟩
theorem d140_43 : mj_At 140 43 (.ireturn) 44 [0] (.null) := ⟨1, (congrArg (fun z => mj_at z 43) f140).trans rfl, rfl⟩
theorem d140_44 : mj_At 140 44 (.aload_n 0) 45 [0] (.null) := ⟨1, (congrArg (fun z => mj_at z 44) f140).trans rfl, rfl⟩
theorem d140_45 : mj_At 140 45 (.iload_n 1) 46 [1] (.null) := ⟨1, (congrArg (fun z => mj_at z 45) f140).trans rfl, rfl⟩
theorem d140_46 : mj_At 140 46 (.invokevirtual 77) 49 [1, 107, 2, 4, 663, 665, 36, 69] (.null) := ⟨3, (congrArg (fun z => mj_at z 46) f140).trans rfl, rfl⟩
theorem d140_49 : mj_At 140 49 (.ireturn) 50 [0] (.null) := ⟨1, (congrArg (fun z => mj_at z 49) f140).trans rfl, rfl⟩
theorem d140_50 : mj_At 140 50 (.aload_n 0) 51 [0] (.null) := ⟨1, (congrArg (fun z => mj_at z 50) f140).trans rfl, rfl⟩
theorem d140_51 : mj_At 140 51 (.iload_n 1) 52 [1] (.null) := ⟨1, (congrArg (fun z => mj_at z 51) f140).trans rfl, rfl⟩
theorem d140_52 : mj_At 140 52 (.invokevirtual 74) 55 [1, 111, 2, 4, 671, 673, 38, 69] (.null) := ⟨3, (congrArg (fun z => mj_at z 52) f140).trans rfl, rfl⟩
theorem d140_55 : mj_At 140 55 (.ireturn) 56 [0] (.null) := ⟨1, (congrArg (fun z => mj_at z 55) f140).trans rfl, rfl⟩
theorem d140_56 : mj_At 140 56 (.aload_n 0) 57 [0] (.null) := ⟨1, (congrArg (fun z => mj_at z 56) f140).trans rfl, rfl⟩
theorem d140_57 : mj_At 140 57 (.iload_n 1) 58 [1] (.null) := ⟨1, (congrArg (fun z => mj_at z 57) f140).trans rfl, rfl⟩
theorem d140_58 : mj_At 140 58 (.aload_n 0) 59 [0] (.null) := ⟨1, (congrArg (fun z => mj_at z 58) f140).trans rfl, rfl⟩
theorem d140_59 : mj_At 140 59 (.iload_n 1) 60 [1] (.null) := ⟨1, (congrArg (fun z => mj_at z 59) f140).trans rfl, rfl⟩
theorem d140_60 : mj_At 140 60 (.invokevirtual 74) 63 [1, 111, 2, 4, 671, 673, 38, 69] (.null) := ⟨3, (congrArg (fun z => mj_at z 60) f140).trans rfl, rfl⟩
theorem d140_63 : mj_At 140 63 (.invokevirtual 71) 66 [1, 109, 3, 4, 614, 616, 27, 69] (.null) := ⟨3, (congrArg (fun z => mj_at z 63) f140).trans rfl, rfl⟩
theorem d140_66 : mj_At 140 66 (.ireturn) 67 [0] (.null) := ⟨1, (congrArg (fun z => mj_at z 66) f140).trans rfl, rfl⟩
theorem e140_0 {c : mj_C} {x1 : Int32} {x2 : Int32} {L : Nat} {ps : List (Option (Option Nat))}   : mj_EV 140 0 [some (.ref 52), some (.int x1), some (.int x2)] [] (w_al L ps) c = (if x2 = nI 0 then (mj_then 140 37 [some (.ref 52), some (.int x1), some (.int x2)] [] (mj_EV 105 0 [some (.ref 52), some (.int x1)] [] (w_al L ps) c)) else (if x2 = nI 1 then (mj_then 140 43 [some (.ref 52), some (.int x1), some (.int x2)] [] (mj_EV 110 0 [some (.ref 52), some (.int x1)] [] (w_al L ps) c)) else (if x2 = nI 2 then (mj_then 140 49 [some (.ref 52), some (.int x1), some (.int x2)] [] (mj_EV 107 0 [some (.ref 52), some (.int x1)] [] (w_al L ps) c)) else (if x2 = nI 3 then (mj_then 140 55 [some (.ref 52), some (.int x1), some (.int x2)] [] (mj_EV 111 0 [some (.ref 52), some (.int x1), none, none, none, none] [] (w_al L ps) c)) else (mj_then 140 63 [some (.ref 52), some (.int x1), some (.int x2)] [.int x1, .ref 52] (mj_EV 111 0 [some (.ref 52), some (.int x1), none, none, none, none] [] (w_al L ps) c)))))) := (mj_iload_n d140_0 rfl ((mj_tsw d140_1).trans (mj_ite rfl (mj_aload_n d140_32 rfl (mj_iload_n d140_33 rfl (mj_invV [some (.ref 52), some (.int x1)] [] d140_34 rfl rfl rfl w_52 rfl rfl))) (mj_ite rfl (mj_aload_n d140_38 rfl (mj_iload_n d140_39 rfl (mj_invV [some (.ref 52), some (.int x1)] [] d140_40 rfl rfl rfl w_52 rfl rfl))) (mj_ite rfl (mj_aload_n d140_44 rfl (mj_iload_n d140_45 rfl (mj_invV [some (.ref 52), some (.int x1)] [] d140_46 rfl rfl rfl w_52 rfl rfl))) (mj_ite rfl (mj_aload_n d140_50 rfl (mj_iload_n d140_51 rfl (mj_invV [some (.ref 52), some (.int x1), none, none, none, none] [] d140_52 rfl rfl rfl w_52 rfl rfl))) (mj_aload_n d140_56 rfl (mj_iload_n d140_57 rfl (mj_aload_n d140_58 rfl (mj_iload_n d140_59 rfl (mj_invV [some (.ref 52), some (.int x1), none, none, none, none] [.int x1, .ref 52] d140_60 rfl rfl rfl w_52 rfl rfl)))))))))))
theorem e140_37 {c : mj_C} {x1 : Int32} {x2 : Int32} {z0 : Int32} {L : Nat} {ps : List (Option (Option Nat))}   : mj_EV 140 37 [some (.ref 52), some (.int x1), some (.int x2)] [.int z0] (w_al L ps) c = (some (some (.int z0), (w_al L ps), c)) := (mj_iret d140_37)
theorem e140_43 {c : mj_C} {x1 : Int32} {x2 : Int32} {z0 : Int32} {L : Nat} {ps : List (Option (Option Nat))}   : mj_EV 140 43 [some (.ref 52), some (.int x1), some (.int x2)] [.int z0] (w_al L ps) c = (some (some (.int z0), (w_al L ps), c)) := (mj_iret d140_43)
theorem e140_49 {c : mj_C} {x1 : Int32} {x2 : Int32} {z0 : Int32} {L : Nat} {ps : List (Option (Option Nat))}   : mj_EV 140 49 [some (.ref 52), some (.int x1), some (.int x2)] [.int z0] (w_al L ps) c = (some (some (.int z0), (w_al L ps), c)) := (mj_iret d140_49)
theorem e140_55 {c : mj_C} {x1 : Int32} {x2 : Int32} {z0 : Int32} {L : Nat} {ps : List (Option (Option Nat))}   : mj_EV 140 55 [some (.ref 52), some (.int x1), some (.int x2)] [.int z0] (w_al L ps) c = (some (some (.int z0), (w_al L ps), c)) := (mj_iret d140_55)
theorem e140_63 {c : mj_C} {x1 : Int32} {x2 : Int32} {z1 : Int32} {z2 : Int32} {L : Nat} {ps : List (Option (Option Nat))}   : mj_EV 140 63 [some (.ref 52), some (.int x1), some (.int x2)] [.int z2, .int z1, .ref 52] (w_al L ps) c = (mj_then 140 66 [some (.ref 52), some (.int x1), some (.int x2)] [] (mj_EV 109 0 [some (.ref 52), some (.int z1), some (.int z2)] [] (w_al L ps) c)) := (mj_invV [some (.ref 52), some (.int z1), some (.int z2)] [] d140_63 rfl rfl rfl w_52 rfl rfl)
theorem e140_66 {c : mj_C} {x1 : Int32} {x2 : Int32} {z0 : Int32} {L : Nat} {ps : List (Option (Option Nat))}   : mj_EV 140 66 [some (.ref 52), some (.int x1), some (.int x2)] [.int z0] (w_al L ps) c = (some (some (.int z0), (w_al L ps), c)) := (mj_iret d140_66)
/-- SqueezedLinesModel.page(II)I -/
theorem f141 : mj_cd 141 = mj_c141 := rfl
theorem d141_0 : mj_At 141 0 (.aload_n 0) 1 [0] (.null) := ⟨1, (congrArg (fun z => mj_at z 0) f141).trans rfl, rfl⟩
theorem d141_1 : mj_At 141 1 (.iload_n 1) 2 [1] (.null) := ⟨1, (congrArg (fun z => mj_at z 1) f141).trans rfl, rfl⟩
theorem d141_2 : mj_At 141 2 (.invokevirtual 84) 5 [1, 96, 2, 4, 602, 604, 24, 69] (.null) := ⟨3, (congrArg (fun z => mj_at z 2) f141).trans rfl, rfl⟩
theorem d141_5 : mj_At 141 5 (.ifCond .ne (5)) 8 [10] (.null) := ⟨3, (congrArg (fun z => mj_at z 5) f141).trans rfl, rfl⟩
theorem d141_8 : mj_At 141 8 (.iconst (-1)) 9 [] (.int (-1)) := ⟨1, (congrArg (fun z => mj_at z 8) f141).trans rfl, rfl⟩
theorem d141_9 : mj_At 141 9 (.ireturn) 10 [0] (.null) := ⟨1, (congrArg (fun z => mj_at z 9) f141).trans rfl, rfl⟩
theorem d141_10 : mj_At 141 10 (.iload_n 2) 11 [2] (.null) := ⟨1, (congrArg (fun z => mj_at z 10) f141).trans rfl, rfl⟩
theorem d141_11 : mj_At 141 11 (.iconst (0)) 12 [] (.int 0) := ⟨1, (congrArg (fun z => mj_at z 11) f141).trans rfl, rfl⟩
theorem d141_12 : mj_At 141 12 (.iconst (4)) 13 [] (.int 4) := ⟨1, (congrArg (fun z => mj_at z 12) f141).trans rfl, rfl⟩
theorem d141_13 : mj_At 141 13 (.invokestatic 33) 16 [0, 93, 3, 595, 596, 69] (.null) := ⟨3, (congrArg (fun z => mj_at z 13) f141).trans rfl, rfl⟩
theorem d141_16 : mj_At 141 16 (.ifCond .eq (12)) 19 [28] (.null) := ⟨3, (congrArg (fun z => mj_at z 16) f141).trans rfl, rfl⟩
theorem d141_19 : mj_At 141 19 (.aload_n 0) 20 [0] (.null) := ⟨1, (congrArg (fun z => mj_at z 19) f141).trans rfl, rfl⟩
theorem d141_20 : mj_At 141 20 (.iload_n 1) 21 [1] (.null) := ⟨1, (congrArg (fun z => mj_at z 20) f141).trans rfl, rfl⟩
theorem d141_21 : mj_At 141 21 (.iload_n 2) 22 [2] (.null) := ⟨1, (congrArg (fun z => mj_at z 21) f141).trans rfl, rfl⟩
theorem d141_22 : mj_At 141 22 (.invokevirtual 143) 25 [1, 140, 3, 4, 779, 781, 51, 69] (.null) := ⟨3, (congrArg (fun z => mj_at z 22) f141).trans rfl, rfl⟩
theorem d141_25 : mj_At 141 25 (.goto (5)) 28 [30] (.null) := ⟨3, (congrArg (fun z => mj_at z 25) f141).trans rfl, rfl⟩
theorem d141_28 : mj_At 141 28 (.bipush (-2)) 30 [] (.int (-2)) := ⟨2, (congrArg (fun z => mj_at z 28) f141).trans rfl, rfl⟩
theorem d141_30 : mj_At 141 30 (.ireturn) 31 [0] (.null) := ⟨1, (congrArg (fun z => mj_at z 30) f141).trans rfl, rfl⟩
theorem e141_0 {c : mj_C} {x1 : Int32} {x2 : Int32} {L : Nat} {ps : List (Option (Option Nat))}   : mj_EV 141 0 [some (.ref 52), some (.int x1), some (.int x2)] [] (w_al L ps) c = (mj_then 141 5 [some (.ref 52), some (.int x1), some (.int x2)] [] (mj_EV 96 0 [some (.ref 52), some (.int x1)] [] (w_al L ps) c)) := (mj_aload_n d141_0 rfl (mj_iload_n d141_1 rfl (mj_invV [some (.ref 52), some (.int x1)] [] d141_2 rfl rfl rfl w_52 rfl rfl)))
theorem e141_5 {c : mj_C} {x1 : Int32} {x2 : Int32} {z0 : Int32} {L : Nat} {ps : List (Option (Option Nat))}   : mj_EV 141 5 [some (.ref 52), some (.int x1), some (.int x2)] [.int z0] (w_al L ps) c = (if z0 = nI 0 then (some (some (.int (-1)), (w_al L ps), c)) else (mj_then 141 16 [some (.ref 52), some (.int x1), some (.int x2)] [] (mj_EV 93 0 [some (.int x2), some (.int (nI 0)), some (.int (nI 4))] [] (w_al L ps) c))) := (mj_ifne d141_5 (mj_iload_n d141_10 rfl (mj_iconst d141_11 (mj_iconst d141_12 (mj_invS [some (.int x2), some (.int (nI 0)), some (.int (nI 4))] [] d141_13 (by decide) rfl rfl rfl rfl)))) (mj_iconst d141_8 (mj_iret d141_9)))
theorem e141_16 {c : mj_C} {x1 : Int32} {x2 : Int32} {z0 : Int32} {L : Nat} {ps : List (Option (Option Nat))}   : mj_EV 141 16 [some (.ref 52), some (.int x1), some (.int x2)] [.int z0] (w_al L ps) c = (if z0 = nI 0 then (some (some (.int (-2)), (w_al L ps), c)) else (mj_then 141 25 [some (.ref 52), some (.int x1), some (.int x2)] [] (mj_EV 140 0 [some (.ref 52), some (.int x1), some (.int x2)] [] (w_al L ps) c))) := (mj_ifeq d141_16 (mj_bipush d141_28 (mj_iret d141_30)) (mj_aload_n d141_19 rfl (mj_iload_n d141_20 rfl (mj_iload_n d141_21 rfl (mj_invV [some (.ref 52), some (.int x1), some (.int x2)] [] d141_22 rfl rfl rfl w_52 rfl rfl)))))
theorem e141_25 {c : mj_C} {x1 : Int32} {x2 : Int32} {z0 : Int32} {L : Nat} {ps : List (Option (Option Nat))}   : mj_EV 141 25 [some (.ref 52), some (.int x1), some (.int x2)] [.int z0] (w_al L ps) c = (some (some (.int z0), (w_al L ps), c)) := (mj_goto d141_25 (mj_iret d141_30))
/-- SqueezedLinesModel.ofLine(III)I -/
theorem f142 : mj_cd 142 = mj_c142 := rfl
theorem d142_0 : mj_At 142 0 (.iload_n 3) 1 [3] (.null) := ⟨1, (congrArg (fun z => mj_at z 0) f142).trans rfl, rfl⟩
theorem d142_1 : mj_At 142 1 (.tableswitch (62) (0) (3) #[31, 38, 45, 55]) 32 [63, 32, 39, 46, 56] (.int 0) := ⟨31, (congrArg (fun z => mj_at z 1) f142).trans rfl, rfl⟩
theorem d142_32 : mj_At 142 32 (.aload_n 0) 33 [0] (.null) := ⟨1, (congrArg (fun z => mj_at z 32) f142).trans rfl, rfl⟩
theorem d142_33 : mj_At 142 33 (.iload_n 1) 34 [1] (.null) := ⟨1, (congrArg (fun z => mj_at z 33) f142).trans rfl, rfl⟩
theorem d142_34 : mj_At 142 34 (.iload_n 2) 35 [2] (.null) := ⟨1, (congrArg (fun z => mj_at z 34) f142).trans rfl, rfl⟩
theorem d142_35 : mj_At 142 35 (.invokevirtual 52) 38 [1, 102, 3, 4, 626, 628, 30, 69] (.null) := ⟨3, (congrArg (fun z => mj_at z 35) f142).trans rfl, rfl⟩
theorem d142_38 : mj_At 142 38 (.ireturn) 39 [0] (.null) := ⟨1, (congrArg (fun z => mj_at z 38) f142).trans rfl, rfl⟩
theorem d142_39 : mj_At 142 39 (.aload_n 0) 40 [0] (.null) := ⟨1, (congrArg (fun z => mj_at z 39) f142).trans rfl, rfl⟩
theorem d142_40 : mj_At 142 40 (.iload_n 1) 41 [1] (.null) := ⟨1, (congrArg (fun z => mj_at z 40) f142).trans rfl, rfl⟩
theorem d142_41 : mj_At 142 41 (.iload_n 2) 42 [2] (.null) := ⟨1, (congrArg (fun z => mj_at z 41) f142).trans rfl, rfl⟩
theorem d142_42 : mj_At 142 42 (.invokevirtual 59) 45 [1, 104, 3, 4, 622, 624, 29, 69] (.null) := ⟨3, (congrArg (fun z => mj_at z 42) f142).trans rfl, rfl⟩
theorem d142_45 : mj_At 142 45 (.ireturn) 46 [0] (.null) := ⟨1, (congrArg (fun z => mj_at z 45) f142).trans rfl, rfl⟩
theorem d142_46 : mj_At 142 46 (.aload_n 0) 47 [0] (.null) := ⟨1, (congrArg (fun z => mj_at z 46) f142).trans rfl, rfl⟩
theorem d142_47 : mj_At 142 47 (.iload_n 1) 48 [1] (.null) := ⟨1, (congrArg (fun z => mj_at z 47) f142).trans rfl, rfl⟩
theorem d142_48 : mj_At 142 48 (.invokevirtual 77) 51 [1, 107, 2, 4, 663, 665, 36, 69] (.null) := ⟨3, (congrArg (fun z => mj_at z 48) f142).trans rfl, rfl⟩
theorem d142_51 : mj_At 142 51 (.iload_n 2) 52 [2] (.null) := ⟨1, (congrArg (fun z => mj_at z 51) f142).trans rfl, rfl⟩
theorem d142_52 : mj_At 142 52 (.ishr) 53 [] (.null) := ⟨1, (congrArg (fun z => mj_at z 52) f142).trans rfl, rfl⟩
theorem d142_53 : mj_At 142 53 (.iconst (1)) 54 [] (.int 1) := ⟨1, (congrArg (fun z => mj_at z 53) f142).trans rfl, rfl⟩
theorem d142_54 : mj_At 142 54 (.iand) 55 [] (.null) := ⟨1, (congrArg (fun z => mj_at z 54) f142).trans rfl, rfl⟩
theorem d142_55 : mj_At 142 55 (.ireturn) 56 [0] (.null) := ⟨1, (congrArg (fun z => mj_at z 55) f142).trans rfl, rfl⟩
theorem d142_56 : mj_At 142 56 (.aload_n 0) 57 [0] (.null) := ⟨1, (congrArg (fun z => mj_at z 56) f142).trans rfl, rfl⟩
theorem d142_57 : mj_At 142 57 (.iload_n 1) 58 [1] (.null) := ⟨1, (congrArg (fun z => mj_at z 57) f142).trans rfl, rfl⟩
theorem d142_58 : mj_At 142 58 (.iload_n 2) 59 [2] (.null) := ⟨1, (congrArg (fun z => mj_at z 58) f142).trans rfl, rfl⟩
theorem d142_59 : mj_At 142 59 (.invokevirtual 45) 62 [1, 100, 3, 4, 630, 632, 31, 69] (.null) := ⟨3, (congrArg (fun z => mj_at z 59) f142).trans rfl, rfl⟩
theorem d142_62 : mj_At 142 62 (.ireturn) 63 [0] (.null) := ⟨1, (congrArg (fun z => mj_at z 62) f142).trans rfl, rfl⟩
theorem d142_63 : mj_At 142 63 (.aload_n 0) 64 [0] (.null) := ⟨1, (congrArg (fun z => mj_at z 63) f142).trans rfl, rfl⟩
theorem d142_64 : mj_At 142 64 (.iload_n 1) 65 [1] (.null) := ⟨1, (congrArg (fun z => mj_at z 64) f142).trans rfl, rfl⟩
theorem d142_65 : mj_At 142 65 (.iload_n 2) 66 [2] (.null) := ⟨1, (congrArg (fun z => mj_at z 65) f142).trans rfl, rfl⟩
theorem d142_66 : mj_At 142 66 (.invokevirtual 49) 69 [1, 101, 3, 4, 642, 644, 33, 69] (.null) := ⟨3, (congrArg (fun z => mj_at z 66) f142).trans rfl, rfl⟩
theorem d142_69 : mj_At 142 69 (.ireturn) 70 [0] (.null) := ⟨1, (congrArg (fun z => mj_at z 69) f142).trans rfl, rfl⟩
theorem e142_0 {c : mj_C} {x1 : Int32} {x2 : Int32} {x3 : Int32} {L : Nat} {ps : List (Option (Option Nat))}   : mj_EV 142 0 [some (.ref 52), some (.int x1), some (.int x2), some (.int x3)] [] (w_al L ps) c = (if x3 = nI 0 then (mj_then 142 38 [some (.ref 52), some (.int x1), some (.int x2), some (.int x3)] [] (mj_EV 102 0 [some (.ref 52), some (.int x1), some (.int x2), none, none] [] (w_al L ps) c)) else (if x3 = nI 1 then (mj_then 142 45 [some (.ref 52), some (.int x1), some (.int x2), some (.int x3)] [] (mj_EV 104 0 [some (.ref 52), some (.int x1), some (.int x2)] [] (w_al L ps) c)) else (if x3 = nI 2 then (mj_then 142 51 [some (.ref 52), some (.int x1), some (.int x2), some (.int x3)] [] (mj_EV 107 0 [some (.ref 52), some (.int x1)] [] (w_al L ps) c)) else (if x3 = nI 3 then (mj_then 142 62 [some (.ref 52), some (.int x1), some (.int x2), some (.int x3)] [] (mj_EV 100 0 [some (.ref 52), some (.int x1), some (.int x2), none, none] [] (w_al L ps) c)) else (mj_then 142 69 [some (.ref 52), some (.int x1), some (.int x2), some (.int x3)] [] (mj_EV 101 0 [some (.ref 52), some (.int x1), some (.int x2), none, none] [] (w_al L ps) c)))))) := (mj_iload_n d142_0 rfl ((mj_tsw d142_1).trans (mj_ite rfl (mj_aload_n d142_32 rfl (mj_iload_n d142_33 rfl (mj_iload_n d142_34 rfl (mj_invV [some (.ref 52), some (.int x1), some (.int x2), none, none] [] d142_35 rfl rfl rfl w_52 rfl rfl)))) (mj_ite rfl (mj_aload_n d142_39 rfl (mj_iload_n d142_40 rfl (mj_iload_n d142_41 rfl (mj_invV [some (.ref 52), some (.int x1), some (.int x2)] [] d142_42 rfl rfl rfl w_52 rfl rfl)))) (mj_ite rfl (mj_aload_n d142_46 rfl (mj_iload_n d142_47 rfl (mj_invV [some (.ref 52), some (.int x1)] [] d142_48 rfl rfl rfl w_52 rfl rfl))) (mj_ite rfl (mj_aload_n d142_56 rfl (mj_iload_n d142_57 rfl (mj_iload_n d142_58 rfl (mj_invV [some (.ref 52), some (.int x1), some (.int x2), none, none] [] d142_59 rfl rfl rfl w_52 rfl rfl)))) (mj_aload_n d142_63 rfl (mj_iload_n d142_64 rfl (mj_iload_n d142_65 rfl (mj_invV [some (.ref 52), some (.int x1), some (.int x2), none, none] [] d142_66 rfl rfl rfl w_52 rfl rfl))))))))))
theorem e142_38 {c : mj_C} {x1 : Int32} {x2 : Int32} {x3 : Int32} {z0 : Int32} {L : Nat} {ps : List (Option (Option Nat))}   : mj_EV 142 38 [some (.ref 52), some (.int x1), some (.int x2), some (.int x3)] [.int z0] (w_al L ps) c = (some (some (.int z0), (w_al L ps), c)) := (mj_iret d142_38)
theorem e142_45 {c : mj_C} {x1 : Int32} {x2 : Int32} {x3 : Int32} {z0 : Int32} {L : Nat} {ps : List (Option (Option Nat))}   : mj_EV 142 45 [some (.ref 52), some (.int x1), some (.int x2), some (.int x3)] [.int z0] (w_al L ps) c = (some (some (.int z0), (w_al L ps), c)) := (mj_iret d142_45)
theorem e142_51 {c : mj_C} {x1 : Int32} {x2 : Int32} {x3 : Int32} {z0 : Int32} {L : Nat} {ps : List (Option (Option Nat))}   : mj_EV 142 51 [some (.ref 52), some (.int x1), some (.int x2), some (.int x3)] [.int z0] (w_al L ps) c = (some (some (.int ((z0 >>> (x2 &&& 31)) &&& (nI 1))), (w_al L ps), c)) := (mj_iload_n d142_51 rfl (mj_ishr d142_52 (mj_iconst d142_53 (mj_iand d142_54 (mj_iret d142_55)))))
theorem e142_62 {c : mj_C} {x1 : Int32} {x2 : Int32} {x3 : Int32} {z0 : Int32} {L : Nat} {ps : List (Option (Option Nat))}   : mj_EV 142 62 [some (.ref 52), some (.int x1), some (.int x2), some (.int x3)] [.int z0] (w_al L ps) c = (some (some (.int z0), (w_al L ps), c)) := (mj_iret d142_62)
theorem e142_69 {c : mj_C} {x1 : Int32} {x2 : Int32} {x3 : Int32} {z0 : Int32} {L : Nat} {ps : List (Option (Option Nat))}   : mj_EV 142 69 [some (.ref 52), some (.int x1), some (.int x2), some (.int x3)] [.int z0] (w_al L ps) c = (some (some (.int z0), (w_al L ps), c)) := (mj_iret d142_69)
/-- SqueezedLinesModel.line(III)I -/
theorem f143 : mj_cd 143 = mj_c143 := rfl
theorem d143_0 : mj_At 143 0 (.aload_n 0) 1 [0] (.null) := ⟨1, (congrArg (fun z => mj_at z 0) f143).trans rfl, rfl⟩
theorem d143_1 : mj_At 143 1 (.iload_n 1) 2 [1] (.null) := ⟨1, (congrArg (fun z => mj_at z 1) f143).trans rfl, rfl⟩
theorem d143_2 : mj_At 143 2 (.iload_n 2) 3 [2] (.null) := ⟨1, (congrArg (fun z => mj_at z 2) f143).trans rfl, rfl⟩
theorem d143_3 : mj_At 143 3 (.invokevirtual 124) 6 [1, 130, 3, 4, 711, 713, 42, 69] (.null) := ⟨3, (congrArg (fun z => mj_at z 3) f143).trans rfl, rfl⟩
theorem d143_6 : mj_At 143 6 (.ifCond .ne (5)) 9 [11] (.null) := ⟨3, (congrArg (fun z => mj_at z 6) f143).trans rfl, rfl⟩
theorem d143_9 : mj_At 143 9 (.iconst (-1)) 10 [] (.int (-1)) := ⟨1, (congrArg (fun z => mj_at z 9) f143).trans rfl, rfl⟩
theorem d143_10 : mj_At 143 10 (.ireturn) 11 [0] (.null) := ⟨1, (congrArg (fun z => mj_at z 10) f143).trans rfl, rfl⟩
theorem d143_11 : mj_At 143 11 (.iload_n 3) 12 [3] (.null) := ⟨1, (congrArg (fun z => mj_at z 11) f143).trans rfl, rfl⟩
theorem d143_12 : mj_At 143 12 (.iconst (0)) 13 [] (.int 0) := ⟨1, (congrArg (fun z => mj_at z 12) f143).trans rfl, rfl⟩
theorem d143_13 : mj_At 143 13 (.iconst (4)) 14 [] (.int 4) := ⟨1, (congrArg (fun z => mj_at z 13) f143).trans rfl, rfl⟩
theorem d143_14 : mj_At 143 14 (.invokestatic 33) 17 [0, 93, 3, 595, 596, 69] (.null) := ⟨3, (congrArg (fun z => mj_at z 14) f143).trans rfl, rfl⟩
theorem d143_17 : mj_At 143 17 (.ifCond .eq (13)) 20 [30] (.null) := ⟨3, (congrArg (fun z => mj_at z 17) f143).trans rfl, rfl⟩
theorem d143_20 : mj_At 143 20 (.aload_n 0) 21 [0] (.null) := ⟨1, (congrArg (fun z => mj_at z 20) f143).trans rfl, rfl⟩
theorem d143_21 : mj_At 143 21 (.iload_n 1) 22 [1] (.null) := ⟨1, (congrArg (fun z => mj_at z 21) f143).trans rfl, rfl⟩
theorem d143_22 : mj_At 143 22 (.iload_n 2) 23 [2] (.null) := ⟨1, (congrArg (fun z => mj_at z 22) f143).trans rfl, rfl⟩
theorem d143_23 : mj_At 143 23 (.iload_n 3) 24 [3] (.null) := ⟨1, (congrArg (fun z => mj_at z 23) f143).trans rfl, rfl⟩
theorem d143_24 : mj_At 143 24 (.invokevirtual 146) 27 [1, 142, 4, 4, 787, 789, 52, 69] (.null) := ⟨3, (congrArg (fun z => mj_at z 24) f143).trans rfl, rfl⟩
theorem d143_27 : mj_At 143 27 (.goto (5)) 30 [32] (.null) := ⟨3, (congrArg (fun z => mj_at z 27) f143).trans rfl, rfl⟩
theorem d143_30 : mj_At 143 30 (.bipush (-2)) 32 [] (.int (-2)) := ⟨2, (congrArg (fun z => mj_at z 30) f143).trans rfl, rfl⟩
theorem d143_32 : mj_At 143 32 (.ireturn) 33 [0] (.null) := ⟨1, (congrArg (fun z => mj_at z 32) f143).trans rfl, rfl⟩
theorem e143_0 {c : mj_C} {x1 : Int32} {x2 : Int32} {x3 : Int32} {L : Nat} {ps : List (Option (Option Nat))}   : mj_EV 143 0 [some (.ref 52), some (.int x1), some (.int x2), some (.int x3)] [] (w_al L ps) c = (mj_then 143 6 [some (.ref 52), some (.int x1), some (.int x2), some (.int x3)] [] (mj_EV 130 0 [some (.ref 52), some (.int x1), some (.int x2)] [] (w_al L ps) c)) := (mj_aload_n d143_0 rfl (mj_iload_n d143_1 rfl (mj_iload_n d143_2 rfl (mj_invV [some (.ref 52), some (.int x1), some (.int x2)] [] d143_3 rfl rfl rfl w_52 rfl rfl))))
theorem e143_6 {c : mj_C} {x1 : Int32} {x2 : Int32} {x3 : Int32} {z0 : Int32} {L : Nat} {ps : List (Option (Option Nat))}   : mj_EV 143 6 [some (.ref 52), some (.int x1), some (.int x2), some (.int x3)] [.int z0] (w_al L ps) c = (if z0 = nI 0 then (some (some (.int (-1)), (w_al L ps), c)) else (mj_then 143 17 [some (.ref 52), some (.int x1), some (.int x2), some (.int x3)] [] (mj_EV 93 0 [some (.int x3), some (.int (nI 0)), some (.int (nI 4))] [] (w_al L ps) c))) := (mj_ifne d143_6 (mj_iload_n d143_11 rfl (mj_iconst d143_12 (mj_iconst d143_13 (mj_invS [some (.int x3), some (.int (nI 0)), some (.int (nI 4))] [] d143_14 (by decide) rfl rfl rfl rfl)))) (mj_iconst d143_9 (mj_iret d143_10)))
theorem e143_17 {c : mj_C} {x1 : Int32} {x2 : Int32} {x3 : Int32} {z0 : Int32} {L : Nat} {ps : List (Option (Option Nat))}   : mj_EV 143 17 [some (.ref 52), some (.int x1), some (.int x2), some (.int x3)] [.int z0] (w_al L ps) c = (if z0 = nI 0 then (some (some (.int (-2)), (w_al L ps), c)) else (mj_then 143 27 [some (.ref 52), some (.int x1), some (.int x2), some (.int x3)] [] (mj_EV 142 0 [some (.ref 52), some (.int x1), some (.int x2), some (.int x3)] [] (w_al L ps) c))) := (mj_ifeq d143_17 (mj_bipush d143_30 (mj_iret d143_32)) (mj_aload_n d143_20 rfl (mj_iload_n d143_21 rfl (mj_iload_n d143_22 rfl (mj_iload_n d143_23 rfl (mj_invV [some (.ref 52), some (.int x1), some (.int x2), some (.int x3)] [] d143_24 rfl rfl rfl w_52 rfl rfl))))))
theorem e143_27 {c : mj_C} {x1 : Int32} {x2 : Int32} {x3 : Int32} {z0 : Int32} {L : Nat} {ps : List (Option (Option Nat))}   : mj_EV 143 27 [some (.ref 52), some (.int x1), some (.int x2), some (.int x3)] [.int z0] (w_al L ps) c = (some (some (.int z0), (w_al L ps), c)) := (mj_goto d143_27 (mj_iret d143_32))
/-- SqueezedLinesModel.linesOf(I)I -/
theorem f144 : mj_cd 144 = mj_c144 := rfl
theorem d144_0 : mj_At 144 0 (.iconst (0)) 1 [] (.int 0) := ⟨1, (congrArg (fun z => mj_at z 0) f144).trans rfl, rfl⟩
theorem d144_1 : mj_At 144 1 (.istore_n 2) 2 [2] (.null) := ⟨1, (congrArg (fun z => mj_at z 1) f144).trans rfl, rfl⟩
theorem d144_2 : mj_At 144 2 (.iconst (0)) 3 [] (.int 0) := ⟨1, (congrArg (fun z => mj_at z 2) f144).trans rfl, rfl⟩
theorem d144_3 : mj_At 144 3 (.istore_n 3) 4 [3] (.null) := ⟨1, (congrArg (fun z => mj_at z 3) f144).trans rfl, rfl⟩
theorem d144_4 : mj_At 144 4 (.iload_n 3) 5 [3] (.null) := ⟨1, (congrArg (fun z => mj_at z 4) f144).trans rfl, rfl⟩
theorem d144_5 : mj_At 144 5 (.bipush (10)) 7 [] (.int 10) := ⟨2, (congrArg (fun z => mj_at z 5) f144).trans rfl, rfl⟩
theorem d144_7 : mj_At 144 7 (.if_icmp .ge (52)) 10 [59] (.null) := ⟨3, (congrArg (fun z => mj_at z 7) f144).trans rfl, rfl⟩
theorem d144_10 : mj_At 144 10 (.iconst (0)) 11 [] (.int 0) := ⟨1, (congrArg (fun z => mj_at z 10) f144).trans rfl, rfl⟩
theorem d144_11 : mj_At 144 11 (.istore 4) 13 [4] (.null) := ⟨2, (congrArg (fun z => mj_at z 11) f144).trans rfl, rfl⟩
theorem d144_13 : mj_At 144 13 (.iload 4) 15 [4] (.null) := ⟨2, (congrArg (fun z => mj_at z 13) f144).trans rfl, rfl⟩
theorem d144_15 : mj_At 144 15 (.bipush (8)) 17 [] (.int 8) := ⟨2, (congrArg (fun z => mj_at z 15) f144).trans rfl, rfl⟩
theorem d144_17 : mj_At 144 17 (.if_icmp .ge (36)) 20 [53] (.null) := ⟨3, (congrArg (fun z => mj_at z 17) f144).trans rfl, rfl⟩
theorem d144_20 : mj_At 144 20 (.aload_n 0) 21 [0] (.null) := ⟨1, (congrArg (fun z => mj_at z 20) f144).trans rfl, rfl⟩
theorem d144_21 : mj_At 144 21 (.iload_n 3) 22 [3] (.null) := ⟨1, (congrArg (fun z => mj_at z 21) f144).trans rfl, rfl⟩
theorem d144_22 : mj_At 144 22 (.invokevirtual 84) 25 [1, 96, 2, 4, 602, 604, 24, 69] (.null) := ⟨3, (congrArg (fun z => mj_at z 22) f144).trans rfl, rfl⟩
theorem d144_25 : mj_At 144 25 (.ifCond .eq (28)) 28 [53] (.null) := ⟨3, (congrArg (fun z => mj_at z 25) f144).trans rfl, rfl⟩
theorem d144_28 : mj_At 144 28 (.iload_n 2) 29 [2] (.null) := ⟨1, (congrArg (fun z => mj_at z 28) f144).trans rfl, rfl⟩
theorem d144_29 : mj_At 144 29 (.aload_n 0) 30 [0] (.null) := ⟨1, (congrArg (fun z => mj_at z 29) f144).trans rfl, rfl⟩
theorem d144_30 : mj_At 144 30 (.iload_n 3) 31 [3] (.null) := ⟨1, (congrArg (fun z => mj_at z 30) f144).trans rfl, rfl⟩
theorem d144_31 : mj_At 144 31 (.iload 4) 33 [4] (.null) := ⟨2, (congrArg (fun z => mj_at z 31) f144).trans rfl, rfl⟩
theorem d144_33 : mj_At 144 33 (.invokevirtual 52) 36 [1, 102, 3, 4, 626, 628, 30, 69] (.null) := ⟨3, (congrArg (fun z => mj_at z 33) f144).trans rfl, rfl⟩
theorem d144_36 : mj_At 144 36 (.iload_n 1) 37 [1] (.null) := ⟨1, (congrArg (fun z => mj_at z 36) f144).trans rfl, rfl⟩
theorem d144_37 : mj_At 144 37 (.if_icmp .ne (7)) 40 [44] (.null) := ⟨3, (congrArg (fun z => mj_at z 37) f144).trans rfl, rfl⟩
theorem d144_40 : mj_At 144 40 (.iconst (1)) 41 [] (.int 1) := ⟨1, (congrArg (fun z => mj_at z 40) f144).trans rfl, rfl⟩
theorem d144_41 : mj_At 144 41 (.goto (4)) 44 [45] (.null) := ⟨3, (congrArg (fun z => mj_at z 41) f144).trans rfl, rfl⟩
theorem d144_44 : mj_At 144 44 (.iconst (0)) 45 [] (.int 0) := ⟨1, (congrArg (fun z => mj_at z 44) f144).trans rfl, rfl⟩
theorem d144_45 : mj_At 144 45 (.iadd) 46 [] (.null) := ⟨1, (congrArg (fun z => mj_at z 45) f144).trans rfl, rfl⟩
theorem d144_46 : mj_At 144 46 (.istore_n 2) 47 [2] (.null) := ⟨1, (congrArg (fun z => mj_at z 46) f144).trans rfl, rfl⟩
theorem d144_47 : mj_At 144 47 (.iinc 4 (1)) 50 [4] (.int 1) := ⟨3, (congrArg (fun z => mj_at z 47) f144).trans rfl, rfl⟩
theorem d144_50 : mj_At 144 50 (.goto (-37)) 53 [13] (.null) := ⟨3, (congrArg (fun z => mj_at z 50) f144).trans rfl, rfl⟩
theorem d144_53 : mj_At 144 53 (.iinc 3 (1)) 56 [3] (.int 1) := ⟨3, (congrArg (fun z => mj_at z 53) f144).trans rfl, rfl⟩
theorem d144_56 : mj_At 144 56 (.goto (-52)) 59 [4] (.null) := ⟨3, (congrArg (fun z => mj_at z 56) f144).trans rfl, rfl⟩
theorem d144_59 : mj_At 144 59 (.iload_n 2) 60 [2] (.null) := ⟨1, (congrArg (fun z => mj_at z 59) f144).trans rfl, rfl⟩
theorem d144_60 : mj_At 144 60 (.ireturn) 61 [0] (.null) := ⟨1, (congrArg (fun z => mj_at z 60) f144).trans rfl, rfl⟩
theorem e144_0 {c : mj_C} {x1 : Int32} {L : Nat} {ps : List (Option (Option Nat))}   : mj_EV 144 0 [some (.ref 52), some (.int x1), none, none, none] [] (w_al L ps) c = mj_EV 144 4 [some (.ref 52), some (.int x1), some (.int (nI 0)), some (.int (nI 0)), none] [] (w_al L ps) c := (mj_iconst d144_0 (mj_istore_n [some (.ref 52), some (.int x1), some (.int (nI 0)), none, none] d144_1 rfl rfl (mj_iconst d144_2 (mj_istore_n [some (.ref 52), some (.int x1), some (.int (nI 0)), some (.int (nI 0)), none] d144_3 rfl rfl rfl))))
theorem e144_4 {c : mj_C} {x1 : Int32} {x2 : Int32} {x3 : Int32} {o4 : Option Value} {L : Nat} {ps : List (Option (Option Nat))}   : mj_EV 144 4 [some (.ref 52), some (.int x1), some (.int x2), some (.int x3), o4] [] (w_al L ps) c = (if (nI 10) ≤ x3 then (some (some (.int x2), (w_al L ps), c)) else mj_EV 144 13 [some (.ref 52), some (.int x1), some (.int x2), some (.int x3), some (.int (nI 0))] [] (w_al L ps) c) := (mj_iload_n d144_4 rfl (mj_bipush d144_5 (mj_icge d144_7 (mj_iload_n d144_59 rfl (mj_iret d144_60)) (mj_iconst d144_10 (mj_istore [some (.ref 52), some (.int x1), some (.int x2), some (.int x3), some (.int (nI 0))] d144_11 rfl rfl rfl)))))
theorem e144_13 {c : mj_C} {x1 : Int32} {x2 : Int32} {x3 : Int32} {x4 : Int32} {L : Nat} {ps : List (Option (Option Nat))}   : mj_EV 144 13 [some (.ref 52), some (.int x1), some (.int x2), some (.int x3), some (.int x4)] [] (w_al L ps) c = (if (nI 8) ≤ x4 then mj_EV 144 4 [some (.ref 52), some (.int x1), some (.int x2), some (.int (x3 + (nI 1))), some (.int x4)] [] (w_al L ps) c else (mj_then 144 25 [some (.ref 52), some (.int x1), some (.int x2), some (.int x3), some (.int x4)] [] (mj_EV 96 0 [some (.ref 52), some (.int x3)] [] (w_al L ps) c))) := (mj_iload d144_13 rfl (mj_bipush d144_15 (mj_icge d144_17 (mj_iinc [some (.ref 52), some (.int x1), some (.int x2), some (.int (x3 + (nI 1))), some (.int x4)] d144_53 rfl rfl rfl (mj_goto d144_56 rfl)) (mj_aload_n d144_20 rfl (mj_iload_n d144_21 rfl (mj_invV [some (.ref 52), some (.int x3)] [] d144_22 rfl rfl rfl w_52 rfl rfl))))))
theorem e144_25 {c : mj_C} {x1 : Int32} {x2 : Int32} {x3 : Int32} {x4 : Int32} {z0 : Int32} {L : Nat} {ps : List (Option (Option Nat))}   : mj_EV 144 25 [some (.ref 52), some (.int x1), some (.int x2), some (.int x3), some (.int x4)] [.int z0] (w_al L ps) c = (if z0 = nI 0 then mj_EV 144 4 [some (.ref 52), some (.int x1), some (.int x2), some (.int (x3 + (nI 1))), some (.int x4)] [] (w_al L ps) c else (mj_then 144 36 [some (.ref 52), some (.int x1), some (.int x2), some (.int x3), some (.int x4)] [.int x2] (mj_EV 102 0 [some (.ref 52), some (.int x3), some (.int x4), none, none] [] (w_al L ps) c))) := (mj_ifeq d144_25 (mj_iinc [some (.ref 52), some (.int x1), some (.int x2), some (.int (x3 + (nI 1))), some (.int x4)] d144_53 rfl rfl rfl (mj_goto d144_56 rfl)) (mj_iload_n d144_28 rfl (mj_aload_n d144_29 rfl (mj_iload_n d144_30 rfl (mj_iload d144_31 rfl (mj_invV [some (.ref 52), some (.int x3), some (.int x4), none, none] [.int x2] d144_33 rfl rfl rfl w_52 rfl rfl))))))
theorem e144_36 {c : mj_C} {x1 : Int32} {x2 : Int32} {x3 : Int32} {x4 : Int32} {z0 : Int32} {z1 : Int32} {L : Nat} {ps : List (Option (Option Nat))}   : mj_EV 144 36 [some (.ref 52), some (.int x1), some (.int x2), some (.int x3), some (.int x4)] [.int z1, .int z0] (w_al L ps) c = (if z1 = x1 then mj_EV 144 13 [some (.ref 52), some (.int x1), some (.int (z0 + (nI 1))), some (.int x3), some (.int (x4 + (nI 1)))] [] (w_al L ps) c else mj_EV 144 13 [some (.ref 52), some (.int x1), some (.int (z0 + (nI 0))), some (.int x3), some (.int (x4 + (nI 1)))] [] (w_al L ps) c) := (mj_iload_n d144_36 rfl (mj_icne d144_37 (mj_iconst d144_44 (mj_iadd d144_45 (mj_istore_n [some (.ref 52), some (.int x1), some (.int (z0 + (nI 0))), some (.int x3), some (.int x4)] d144_46 rfl rfl (mj_iinc [some (.ref 52), some (.int x1), some (.int (z0 + (nI 0))), some (.int x3), some (.int (x4 + (nI 1)))] d144_47 rfl rfl rfl (mj_goto d144_50 rfl))))) (mj_iconst d144_40 (mj_goto d144_41 (mj_iadd d144_45 (mj_istore_n [some (.ref 52), some (.int x1), some (.int (z0 + (nI 1))), some (.int x3), some (.int x4)] d144_46 rfl rfl (mj_iinc [some (.ref 52), some (.int x1), some (.int (z0 + (nI 1))), some (.int x3), some (.int (x4 + (nI 1)))] d144_47 rfl rfl rfl (mj_goto d144_50 rfl))))))))
/-- SqueezedLinesModel.lines(I)I -/
theorem f145 : mj_cd 145 = mj_c145 := rfl
theorem d145_0 : mj_At 145 0 (.iload_n 1) 1 [1] (.null) := ⟨1, (congrArg (fun z => mj_at z 0) f145).trans rfl, rfl⟩
theorem d145_1 : mj_At 145 1 (.iconst (0)) 2 [] (.int 0) := ⟨1, (congrArg (fun z => mj_at z 1) f145).trans rfl, rfl⟩
theorem d145_2 : mj_At 145 2 (.iconst (4)) 3 [] (.int 4) := ⟨1, (congrArg (fun z => mj_at z 2) f145).trans rfl, rfl⟩
theorem d145_3 : mj_At 145 3 (.invokestatic 33) 6 [0, 93, 3, 595, 596, 69] (.null) := ⟨3, (congrArg (fun z => mj_at z 3) f145).trans rfl, rfl⟩
theorem d145_6 : mj_At 145 6 (.ifCond .eq (11)) 9 [17] (.null) := ⟨3, (congrArg (fun z => mj_at z 6) f145).trans rfl, rfl⟩
theorem d145_9 : mj_At 145 9 (.aload_n 0) 10 [0] (.null) := ⟨1, (congrArg (fun z => mj_at z 9) f145).trans rfl, rfl⟩
theorem d145_10 : mj_At 145 10 (.iload_n 1) 11 [1] (.null) := ⟨1, (congrArg (fun z => mj_at z 10) f145).trans rfl, rfl⟩
theorem d145_11 : mj_At 145 11 (.invokevirtual 149) 14 [1, 144, 2, 4, 795, 797, 53, 69] (.null) := ⟨3, (congrArg (fun z => mj_at z 11) f145).trans rfl, rfl⟩
theorem d145_14 : mj_At 145 14 (.goto (5)) 17 [19] (.null) := ⟨3, (congrArg (fun z => mj_at z 14) f145).trans rfl, rfl⟩
theorem d145_17 : mj_At 145 17 (.bipush (-2)) 19 [] (.int (-2)) := ⟨2, (congrArg (fun z => mj_at z 17) f145).trans rfl, rfl⟩
theorem d145_19 : mj_At 145 19 (.ireturn) 20 [0] (.null) := ⟨1, (congrArg (fun z => mj_at z 19) f145).trans rfl, rfl⟩
theorem e145_0 {c : mj_C} {x1 : Int32} {L : Nat} {ps : List (Option (Option Nat))}   : mj_EV 145 0 [some (.ref 52), some (.int x1)] [] (w_al L ps) c = (mj_then 145 6 [some (.ref 52), some (.int x1)] [] (mj_EV 93 0 [some (.int x1), some (.int (nI 0)), some (.int (nI 4))] [] (w_al L ps) c)) := (mj_iload_n d145_0 rfl (mj_iconst d145_1 (mj_iconst d145_2 (mj_invS [some (.int x1), some (.int (nI 0)), some (.int (nI 4))] [] d145_3 (by decide) rfl rfl rfl rfl))))
theorem e145_6 {c : mj_C} {x1 : Int32} {z0 : Int32} {L : Nat} {ps : List (Option (Option Nat))}   : mj_EV 145 6 [some (.ref 52), some (.int x1)] [.int z0] (w_al L ps) c = (if z0 = nI 0 then (some (some (.int (-2)), (w_al L ps), c)) else (mj_then 145 14 [some (.ref 52), some (.int x1)] [] (mj_EV 144 0 [some (.ref 52), some (.int x1), none, none, none] [] (w_al L ps) c))) := (mj_ifeq d145_6 (mj_bipush d145_17 (mj_iret d145_19)) (mj_aload_n d145_9 rfl (mj_iload_n d145_10 rfl (mj_invV [some (.ref 52), some (.int x1), none, none, none] [] d145_11 rfl rfl rfl w_52 rfl rfl))))
theorem e145_14 {c : mj_C} {x1 : Int32} {z0 : Int32} {L : Nat} {ps : List (Option (Option Nat))}   : mj_EV 145 14 [some (.ref 52), some (.int x1)] [.int z0] (w_al L ps) c = (some (some (.int z0), (w_al L ps), c)) := (mj_goto d145_14 (mj_iret d145_19))
/-- SqueezedLinesModel.ofHint(II)I -/
theorem f146 : mj_cd 146 = mj_c146 := rfl
theorem d146_0 : mj_At 146 0 (.aload_n 0) 1 [0] (.null) := ⟨1, (congrArg (fun z => mj_at z 0) f146).trans rfl, rfl⟩
theorem d146_1 : mj_At 146 1 (.getfield 7) 4 [4, 0, 557] (.null) := ⟨3, (congrArg (fun z => mj_at z 1) f146).trans rfl, rfl⟩
theorem d146_4 : mj_At 146 4 (.bipush (26)) 6 [] (.int 26) := ⟨2, (congrArg (fun z => mj_at z 4) f146).trans rfl, rfl⟩
theorem d146_6 : mj_At 146 6 (.iconst (2)) 7 [] (.int 2) := ⟨1, (congrArg (fun z => mj_at z 6) f146).trans rfl, rfl⟩
theorem d146_7 : mj_At 146 7 (.iload_n 1) 8 [1] (.null) := ⟨1, (congrArg (fun z => mj_at z 7) f146).trans rfl, rfl⟩
theorem d146_8 : mj_At 146 8 (.imul) 9 [] (.null) := ⟨1, (congrArg (fun z => mj_at z 8) f146).trans rfl, rfl⟩
theorem d146_9 : mj_At 146 9 (.iadd) 10 [] (.null) := ⟨1, (congrArg (fun z => mj_at z 9) f146).trans rfl, rfl⟩
theorem d146_10 : mj_At 146 10 (.iaload) 11 [] (.null) := ⟨1, (congrArg (fun z => mj_at z 10) f146).trans rfl, rfl⟩
theorem d146_11 : mj_At 146 11 (.bipush (-6)) 13 [] (.int (-6)) := ⟨2, (congrArg (fun z => mj_at z 11) f146).trans rfl, rfl⟩
theorem d146_13 : mj_At 146 13 (.if_icmp .ne (8)) 16 [21] (.null) := ⟨3, (congrArg (fun z => mj_at z 13) f146).trans rfl, rfl⟩
theorem d146_16 : mj_At 146 16 (.bipush (-6)) 18 [] (.int (-6)) := ⟨2, (congrArg (fun z => mj_at z 16) f146).trans rfl, rfl⟩
theorem d146_18 : mj_At 146 18 (.goto (16)) 21 [34] (.null) := ⟨3, (congrArg (fun z => mj_at z 18) f146).trans rfl, rfl⟩
theorem d146_21 : mj_At 146 21 (.aload_n 0) 22 [0] (.null) := ⟨1, (congrArg (fun z => mj_at z 21) f146).trans rfl, rfl⟩
theorem d146_22 : mj_At 146 22 (.getfield 7) 25 [4, 0, 557] (.null) := ⟨3, (congrArg (fun z => mj_at z 22) f146).trans rfl, rfl⟩
theorem d146_25 : mj_At 146 25 (.bipush (26)) 27 [] (.int 26) := ⟨2, (congrArg (fun z => mj_at z 25) f146).trans rfl, rfl⟩
theorem d146_27 : mj_At 146 27 (.iconst (2)) 28 [] (.int 2) := ⟨1, (congrArg (fun z => mj_at z 27) f146).trans rfl, rfl⟩
theorem d146_28 : mj_At 146 28 (.iload_n 1) 29 [1] (.null) := ⟨1, (congrArg (fun z => mj_at z 28) f146).trans rfl, rfl⟩
theorem d146_29 : mj_At 146 29 (.imul) 30 [] (.null) := ⟨1, (congrArg (fun z => mj_at z 29) f146).trans rfl, rfl⟩
theorem d146_30 : mj_At 146 30 (.iadd) 31 [] (.null) := ⟨1, (congrArg (fun z => mj_at z 30) f146).trans rfl, rfl⟩
theorem d146_31 : mj_At 146 31 (.iload_n 2) 32 [2] (.null) := ⟨1, (congrArg (fun z => mj_at z 31) f146).trans rfl, rfl⟩
theorem d146_32 : mj_At 146 32 (.iadd) 33 [] (.null) := ⟨1, (congrArg (fun z => mj_at z 32) f146).trans rfl, rfl⟩
theorem d146_33 : mj_At 146 33 (.iaload) 34 [] (.null) := ⟨1, (congrArg (fun z => mj_at z 33) f146).trans rfl, rfl⟩
theorem d146_34 : mj_At 146 34 (.ireturn) 35 [0] (.null) := ⟨1, (congrArg (fun z => mj_at z 34) f146).trans rfl, rfl⟩
theorem e146_0 {c : mj_C} {x1 : Int32} {x2 : Int32} {L : Nat} {ps : List (Option (Option Nat))}   : mj_EV 146 0 [some (.ref 52), some (.int x1), some (.int x2)] [] (w_al L ps) c = (if mj_in ((nI 26) + ((nI 2) * x1)) 674 = true then (if (c 53 ((nI 26) + ((nI 2) * x1)).toNatClampNeg) = (-6) then (some (some (.int (-6)), (w_al L ps), c)) else (if mj_in (((nI 26) + ((nI 2) * x1)) + x2) 674 = true then (some (some (.int (c 53 (((nI 26) + ((nI 2) * x1)) + x2).toNatClampNeg)), (w_al L ps), c)) else none)) else none) := (mj_aload_n d146_0 rfl (mj_getR d146_1 w_52 rfl (mj_bipush d146_4 (mj_iconst d146_6 (mj_iload_n d146_7 rfl (mj_imul d146_8 (mj_iadd d146_9 (mj_iald d146_10 w_53 (mj_bipush d146_11 (mj_icne d146_13 (mj_aload_n d146_21 rfl (mj_getR d146_22 w_52 rfl (mj_bipush d146_25 (mj_iconst d146_27 (mj_iload_n d146_28 rfl (mj_imul d146_29 (mj_iadd d146_30 (mj_iload_n d146_31 rfl (mj_iadd d146_32 (mj_iald d146_33 w_53 (mj_iret d146_34))))))))))) (mj_bipush d146_16 (mj_goto d146_18 (mj_iret d146_34)))))))))))))
/-- SqueezedLinesModel.hint(II)I -/
theorem f147 : mj_cd 147 = mj_c147 := rfl
theorem d147_0 : mj_At 147 0 (.iload_n 1) 1 [1] (.null) := ⟨1, (congrArg (fun z => mj_at z 0) f147).trans rfl, rfl⟩
theorem d147_1 : mj_At 147 1 (.iconst (0)) 2 [] (.int 0) := ⟨1, (congrArg (fun z => mj_at z 1) f147).trans rfl, rfl⟩
theorem d147_2 : mj_At 147 2 (.iconst (3)) 3 [] (.int 3) := ⟨1, (congrArg (fun z => mj_at z 2) f147).trans rfl, rfl⟩
theorem d147_3 : mj_At 147 3 (.invokestatic 33) 6 [0, 93, 3, 595, 596, 69] (.null) := ⟨3, (congrArg (fun z => mj_at z 3) f147).trans rfl, rfl⟩
theorem d147_6 : mj_At 147 6 (.ifCond .ne (5)) 9 [11] (.null) := ⟨3, (congrArg (fun z => mj_at z 6) f147).trans rfl, rfl⟩
theorem d147_9 : mj_At 147 9 (.iconst (-1)) 10 [] (.int (-1)) := ⟨1, (congrArg (fun z => mj_at z 9) f147).trans rfl, rfl⟩
theorem d147_10 : mj_At 147 10 (.ireturn) 11 [0] (.null) := ⟨1, (congrArg (fun z => mj_at z 10) f147).trans rfl, rfl⟩
theorem d147_11 : mj_At 147 11 (.iload_n 2) 12 [2] (.null) := ⟨1, (congrArg (fun z => mj_at z 11) f147).trans rfl, rfl⟩
theorem d147_12 : mj_At 147 12 (.iconst (0)) 13 [] (.int 0) := ⟨1, (congrArg (fun z => mj_at z 12) f147).trans rfl, rfl⟩
theorem d147_13 : mj_At 147 13 (.iconst (1)) 14 [] (.int 1) := ⟨1, (congrArg (fun z => mj_at z 13) f147).trans rfl, rfl⟩
theorem d147_14 : mj_At 147 14 (.invokestatic 33) 17 [0, 93, 3, 595, 596, 69] (.null) := ⟨3, (congrArg (fun z => mj_at z 14) f147).trans rfl, rfl⟩
theorem d147_17 : mj_At 147 17 (.ifCond .eq (12)) 20 [29] (.null) := ⟨3, (congrArg (fun z => mj_at z 17) f147).trans rfl, rfl⟩
theorem d147_20 : mj_At 147 20 (.aload_n 0) 21 [0] (.null) := ⟨1, (congrArg (fun z => mj_at z 20) f147).trans rfl, rfl⟩
theorem d147_21 : mj_At 147 21 (.iload_n 1) 22 [1] (.null) := ⟨1, (congrArg (fun z => mj_at z 21) f147).trans rfl, rfl⟩
theorem d147_22 : mj_At 147 22 (.iload_n 2) 23 [2] (.null) := ⟨1, (congrArg (fun z => mj_at z 22) f147).trans rfl, rfl⟩
theorem d147_23 : mj_At 147 23 (.invokevirtual 152) 26 [1, 146, 3, 4, 803, 805, 54, 69] (.null) := ⟨3, (congrArg (fun z => mj_at z 23) f147).trans rfl, rfl⟩
theorem d147_26 : mj_At 147 26 (.goto (5)) 29 [31] (.null) := ⟨3, (congrArg (fun z => mj_at z 26) f147).trans rfl, rfl⟩
theorem d147_29 : mj_At 147 29 (.bipush (-2)) 31 [] (.int (-2)) := ⟨2, (congrArg (fun z => mj_at z 29) f147).trans rfl, rfl⟩
theorem d147_31 : mj_At 147 31 (.ireturn) 32 [0] (.null) := ⟨1, (congrArg (fun z => mj_at z 31) f147).trans rfl, rfl⟩
theorem e147_0 {c : mj_C} {x1 : Int32} {x2 : Int32} {L : Nat} {ps : List (Option (Option Nat))}   : mj_EV 147 0 [some (.ref 52), some (.int x1), some (.int x2)] [] (w_al L ps) c = (mj_then 147 6 [some (.ref 52), some (.int x1), some (.int x2)] [] (mj_EV 93 0 [some (.int x1), some (.int (nI 0)), some (.int (nI 3))] [] (w_al L ps) c)) := (mj_iload_n d147_0 rfl (mj_iconst d147_1 (mj_iconst d147_2 (mj_invS [some (.int x1), some (.int (nI 0)), some (.int (nI 3))] [] d147_3 (by decide) rfl rfl rfl rfl))))
theorem e147_6 {c : mj_C} {x1 : Int32} {x2 : Int32} {z0 : Int32} {L : Nat} {ps : List (Option (Option Nat))}   : mj_EV 147 6 [some (.ref 52), some (.int x1), some (.int x2)] [.int z0] (w_al L ps) c = (if z0 = nI 0 then (some (some (.int (-1)), (w_al L ps), c)) else (mj_then 147 17 [some (.ref 52), some (.int x1), some (.int x2)] [] (mj_EV 93 0 [some (.int x2), some (.int (nI 0)), some (.int (nI 1))] [] (w_al L ps) c))) := (mj_ifne d147_6 (mj_iload_n d147_11 rfl (mj_iconst d147_12 (mj_iconst d147_13 (mj_invS [some (.int x2), some (.int (nI 0)), some (.int (nI 1))] [] d147_14 (by decide) rfl rfl rfl rfl)))) (mj_iconst d147_9 (mj_iret d147_10)))
theorem e147_17 {c : mj_C} {x1 : Int32} {x2 : Int32} {z0 : Int32} {L : Nat} {ps : List (Option (Option Nat))}   : mj_EV 147 17 [some (.ref 52), some (.int x1), some (.int x2)] [.int z0] (w_al L ps) c = (if z0 = nI 0 then (some (some (.int (-2)), (w_al L ps), c)) else (mj_then 147 26 [some (.ref 52), some (.int x1), some (.int x2)] [] (mj_EV 146 0 [some (.ref 52), some (.int x1), some (.int x2)] [] (w_al L ps) c))) := (mj_ifeq d147_17 (mj_bipush d147_29 (mj_iret d147_31)) (mj_aload_n d147_20 rfl (mj_iload_n d147_21 rfl (mj_iload_n d147_22 rfl (mj_invV [some (.ref 52), some (.int x1), some (.int x2)] [] d147_23 rfl rfl rfl w_52 rfl rfl)))))
theorem e147_26 {c : mj_C} {x1 : Int32} {x2 : Int32} {z0 : Int32} {L : Nat} {ps : List (Option (Option Nat))}   : mj_EV 147 26 [some (.ref 52), some (.int x1), some (.int x2)] [.int z0] (w_al L ps) c = (some (some (.int z0), (w_al L ps), c)) := (mj_goto d147_26 (mj_iret d147_31))
/-- SqueezedLinesModel.equalLines(II)I -/
theorem f148 : mj_cd 148 = mj_c148 := rfl
theorem d148_0 : mj_At 148 0 (.aload_n 0) 1 [0] (.null) := ⟨1, (congrArg (fun z => mj_at z 0) f148).trans rfl, rfl⟩
theorem d148_1 : mj_At 148 1 (.iload_n 1) 2 [1] (.null) := ⟨1, (congrArg (fun z => mj_at z 1) f148).trans rfl, rfl⟩
theorem d148_2 : mj_At 148 2 (.iload_n 2) 3 [2] (.null) := ⟨1, (congrArg (fun z => mj_at z 2) f148).trans rfl, rfl⟩
theorem d148_3 : mj_At 148 3 (.invokevirtual 124) 6 [1, 130, 3, 4, 711, 713, 42, 69] (.null) := ⟨3, (congrArg (fun z => mj_at z 3) f148).trans rfl, rfl⟩
theorem d148_6 : mj_At 148 6 (.ifCond .ne (5)) 9 [11] (.null) := ⟨3, (congrArg (fun z => mj_at z 6) f148).trans rfl, rfl⟩
theorem d148_9 : mj_At 148 9 (.iconst (-1)) 10 [] (.int (-1)) := ⟨1, (congrArg (fun z => mj_at z 9) f148).trans rfl, rfl⟩
theorem d148_10 : mj_At 148 10 (.ireturn) 11 [0] (.null) := ⟨1, (congrArg (fun z => mj_at z 10) f148).trans rfl, rfl⟩
theorem d148_11 : mj_At 148 11 (.iconst (0)) 12 [] (.int 0) := ⟨1, (congrArg (fun z => mj_at z 11) f148).trans rfl, rfl⟩
theorem d148_12 : mj_At 148 12 (.istore_n 3) 13 [3] (.null) := ⟨1, (congrArg (fun z => mj_at z 12) f148).trans rfl, rfl⟩
theorem d148_13 : mj_At 148 13 (.iconst (0)) 14 [] (.int 0) := ⟨1, (congrArg (fun z => mj_at z 13) f148).trans rfl, rfl⟩
theorem d148_14 : mj_At 148 14 (.istore 4) 16 [4] (.null) := ⟨2, (congrArg (fun z => mj_at z 14) f148).trans rfl, rfl⟩
theorem d148_16 : mj_At 148 16 (.iload 4) 18 [4] (.null) := ⟨2, (congrArg (fun z => mj_at z 16) f148).trans rfl, rfl⟩
theorem d148_18 : mj_At 148 18 (.bipush (10)) 20 [] (.int 10) := ⟨2, (congrArg (fun z => mj_at z 18) f148).trans rfl, rfl⟩
theorem d148_20 : mj_At 148 20 (.if_icmp .ge (99)) 23 [119] (.null) := ⟨3, (congrArg (fun z => mj_at z 20) f148).trans rfl, rfl⟩
theorem d148_23 : mj_At 148 23 (.iconst (0)) 24 [] (.int 0) := ⟨1, (congrArg (fun z => mj_at z 23) f148).trans rfl, rfl⟩
theorem d148_24 : mj_At 148 24 (.istore 5) 26 [5] (.null) := ⟨2, (congrArg (fun z => mj_at z 24) f148).trans rfl, rfl⟩
theorem d148_26 : mj_At 148 26 (.iload 5) 28 [5] (.null) := ⟨2, (congrArg (fun z => mj_at z 26) f148).trans rfl, rfl⟩
theorem d148_28 : mj_At 148 28 (.bipush (8)) 30 [] (.int 8) := ⟨2, (congrArg (fun z => mj_at z 28) f148).trans rfl, rfl⟩
theorem d148_30 : mj_At 148 30 (.if_icmp .ge (83)) 33 [113] (.null) := ⟨3, (congrArg (fun z => mj_at z 30) f148).trans rfl, rfl⟩
theorem d148_33 : mj_At 148 33 (.aload_n 0) 34 [0] (.null) := ⟨1, (congrArg (fun z => mj_at z 33) f148).trans rfl, rfl⟩
theorem d148_34 : mj_At 148 34 (.iload 4) 36 [4] (.null) := ⟨2, (congrArg (fun z => mj_at z 34) f148).trans rfl, rfl⟩
theorem d148_36 : mj_At 148 36 (.invokevirtual 84) 39 [1, 96, 2, 4, 602, 604, 24, 69] (.null) := ⟨3, (congrArg (fun z => mj_at z 36) f148).trans rfl, rfl⟩
theorem d148_39 : mj_At 148 39 (.ifCond .eq (74)) 42 [113] (.null) := ⟨3, (congrArg (fun z => mj_at z 39) f148).trans rfl, rfl⟩
theorem d148_42 : mj_At 148 42 (.iconst (1)) 43 [] (.int 1) := ⟨1, (congrArg (fun z => mj_at z 42) f148).trans rfl, rfl⟩
theorem d148_43 : mj_At 148 43 (.istore 6) 45 [6] (.null) := ⟨2, (congrArg (fun z => mj_at z 43) f148).trans rfl, rfl⟩
theorem d148_45 : mj_At 148 45 (.iconst (0)) 46 [] (.int 0) := ⟨1, (congrArg (fun z => mj_at z 45) f148).trans rfl, rfl⟩
theorem d148_46 : mj_At 148 46 (.istore 7) 48 [7] (.null) := ⟨2, (congrArg (fun z => mj_at z 46) f148).trans rfl, rfl⟩
theorem d148_48 : mj_At 148 48 (.iload 7) 50 [7] (.null) := ⟨2, (congrArg (fun z => mj_at z 48) f148).trans rfl, rfl⟩
theorem d148_50 : mj_At 148 50 (.bipush (8)) 52 [] (.int 8) := ⟨2, (congrArg (fun z => mj_at z 50) f148).trans rfl, rfl⟩
theorem d148_52 : mj_At 148 52 (.if_icmp .ge (42)) 55 [94] (.null) := ⟨3, (congrArg (fun z => mj_at z 52) f148).trans rfl, rfl⟩
theorem d148_55 : mj_At 148 55 (.iload 6) 57 [6] (.null) := ⟨2, (congrArg (fun z => mj_at z 55) f148).trans rfl, rfl⟩
theorem d148_57 : mj_At 148 57 (.ifCond .eq (28)) 60 [85] (.null) := ⟨3, (congrArg (fun z => mj_at z 57) f148).trans rfl, rfl⟩
theorem d148_60 : mj_At 148 60 (.aload_n 0) 61 [0] (.null) := ⟨1, (congrArg (fun z => mj_at z 60) f148).trans rfl, rfl⟩
theorem d148_61 : mj_At 148 61 (.iload 4) 63 [4] (.null) := ⟨2, (congrArg (fun z => mj_at z 61) f148).trans rfl, rfl⟩
theorem d148_63 : mj_At 148 63 (.iload 5) 65 [5] (.null) := ⟨2, (congrArg (fun z => mj_at z 63) f148).trans rfl, rfl⟩
theorem d148_65 : mj_At 148 65 (.iload 7) 67 [7] (.null) := ⟨2, (congrArg (fun z => mj_at z 65) f148).trans rfl, rfl⟩
theorem d148_67 : mj_At 148 67 (.invokevirtual 42) 70 [1, 99, 4, 4, 635, 637, 32, 69] (.null) := ⟨3, (congrArg (fun z => mj_at z 67) f148).trans rfl, rfl⟩
theorem d148_70 : mj_At 148 70 (.aload_n 0) 71 [0] (.null) := ⟨1, (congrArg (fun z => mj_at z 70) f148).trans rfl, rfl⟩
theorem d148_71 : mj_At 148 71 (.iload_n 1) 72 [1] (.null) := ⟨1, (congrArg (fun z => mj_at z 71) f148).trans rfl, rfl⟩
theorem d148_72 : mj_At 148 72 (.iload_n 2) 73 [2] (.null) := ⟨1, (congrArg (fun z => mj_at z 72) f148).trans rfl, rfl⟩
theorem d148_73 : mj_At 148 73 (.iload 7) 75 [7] (.null) := ⟨2, (congrArg (fun z => mj_at z 73) f148).trans rfl, rfl⟩
theorem d148_75 : mj_At 148 75 (.invokevirtual 42) 78 [1, 99, 4, 4, 635, 637, 32, 69] (.null) := ⟨3, (congrArg (fun z => mj_at z 75) f148).trans rfl, rfl⟩
theorem d148_78 : mj_At 148 78 (.if_icmp .ne (7)) 81 [85] (.null) := ⟨3, (congrArg (fun z => mj_at z 78) f148).trans rfl, rfl⟩
theorem d148_81 : mj_At 148 81 (.iconst (1)) 82 [] (.int 1) := ⟨1, (congrArg (fun z => mj_at z 81) f148).trans rfl, rfl⟩
theorem d148_82 : mj_At 148 82 (.goto (4)) 85 [86] (.null) := ⟨3, (congrArg (fun z => mj_at z 82) f148).trans rfl, rfl⟩
theorem d148_85 : mj_At 148 85 (.iconst (0)) 86 [] (.int 0) := ⟨1, (congrArg (fun z => mj_at z 85) f148).trans rfl, rfl⟩
theorem d148_86 : mj_At 148 86 (.istore 6) 88 [6] (.null) := ⟨2, (congrArg (fun z => mj_at z 86) f148).trans rfl, rfl⟩
theorem d148_88 : mj_At 148 88 (.iinc 7 (1)) 91 [7] (.int 1) := ⟨3, (congrArg (fun z => mj_at z 88) f148).trans rfl, rfl⟩
theorem d148_91 : mj_At 148 91 (.goto (-43)) 94 [48] (.null) := ⟨3, (congrArg (fun z => mj_at z 91) f148).trans rfl, rfl⟩
theorem d148_94 : mj_At 148 94 (.iload_n 3) 95 [3] (.null) := ⟨1, (congrArg (fun z => mj_at z 94) f148).trans rfl, rfl⟩
theorem d148_95 : mj_At 148 95 (.iload 6) 97 [6] (.null) := ⟨2, (congrArg (fun z => mj_at z 95) f148).trans rfl, rfl⟩
theorem d148_97 : mj_At 148 97 (.ifCond .eq (7)) 100 [104] (.null) := ⟨3, (congrArg (fun z => mj_at z 97) f148).trans rfl, rfl⟩
theorem d148_100 : mj_At 148 100 (.iconst (1)) 101 [] (.int 1) := ⟨1, (congrArg (fun z => mj_at z 100) f148).trans rfl, rfl⟩
theorem d148_101 : mj_At 148 101 (.goto (4)) 104 [105] (.null) := ⟨3, (congrArg (fun z => mj_at z 101) f148).trans rfl, rfl⟩
theorem d148_104 : mj_At 148 104 (.iconst (0)) 105 [] (.int 0) := ⟨1, (congrArg (fun z => mj_at z 104) f148).trans rfl, rfl⟩
theorem d148_105 : mj_At 148 105 (.iadd) 106 [] (.null) := ⟨1, (congrArg (fun z => mj_at z 105) f148).trans rfl, rfl⟩
theorem d148_106 : mj_At 148 106 (.istore_n 3) 107 [3] (.null) := ⟨1, (congrArg (fun z => mj_at z 106) f148).trans rfl, rfl⟩
theorem d148_107 : mj_At 148 107 (.iinc 5 (1)) 110 [5] (.int 1) := ⟨3, (congrArg (fun z => mj_at z 107) f148).trans rfl, rfl⟩
theorem d148_110 : mj_At 148 110 (.goto (-84)) 113 [26] (.null) := ⟨3, (congrArg (fun z => mj_at z 110) f148).trans rfl, rfl⟩
theorem d148_113 : mj_At 148 113 (.iinc 4 (1)) 116 [4] (.int 1) := ⟨3, (congrArg (fun z => mj_at z 113) f148).trans rfl, rfl⟩
theorem d148_116 : mj_At 148 116 (.goto (-100)) 119 [16] (.null) := ⟨3, (congrArg (fun z => mj_at z 116) f148).trans rfl, rfl⟩
theorem d148_119 : mj_At 148 119 (.iload_n 3) 120 [3] (.null) := ⟨1, (congrArg (fun z => mj_at z 119) f148).trans rfl, rfl⟩
theorem d148_120 : mj_At 148 120 (.ireturn) 121 [0] (.null) := ⟨1, (congrArg (fun z => mj_at z 120) f148).trans rfl, rfl⟩
theorem e148_0 {c : mj_C} {x1 : Int32} {x2 : Int32} {L : Nat} {ps : List (Option (Option Nat))}   : mj_EV 148 0 [some (.ref 52), some (.int x1), some (.int x2), none, none, none, none, none] [] (w_al L ps) c = (mj_then 148 6 [some (.ref 52), some (.int x1), some (.int x2), none, none, none, none, none] [] (mj_EV 130 0 [some (.ref 52), some (.int x1), some (.int x2)] [] (w_al L ps) c)) := (mj_aload_n d148_0 rfl (mj_iload_n d148_1 rfl (mj_iload_n d148_2 rfl (mj_invV [some (.ref 52), some (.int x1), some (.int x2)] [] d148_3 rfl rfl rfl w_52 rfl rfl))))
theorem e148_6 {c : mj_C} {x1 : Int32} {x2 : Int32} {z0 : Int32} {L : Nat} {ps : List (Option (Option Nat))}   : mj_EV 148 6 [some (.ref 52), some (.int x1), some (.int x2), none, none, none, none, none] [.int z0] (w_al L ps) c = (if z0 = nI 0 then (some (some (.int (-1)), (w_al L ps), c)) else mj_EV 148 16 [some (.ref 52), some (.int x1), some (.int x2), some (.int (nI 0)), some (.int (nI 0)), none, none, none] [] (w_al L ps) c) := (mj_ifne d148_6 (mj_iconst d148_11 (mj_istore_n [some (.ref 52), some (.int x1), some (.int x2), some (.int (nI 0)), none, none, none, none] d148_12 rfl rfl (mj_iconst d148_13 (mj_istore [some (.ref 52), some (.int x1), some (.int x2), some (.int (nI 0)), some (.int (nI 0)), none, none, none] d148_14 rfl rfl rfl)))) (mj_iconst d148_9 (mj_iret d148_10)))
theorem e148_16 {c : mj_C} {x1 : Int32} {x2 : Int32} {x3 : Int32} {x4 : Int32} {o5 : Option Value} {o6 : Option Value} {o7 : Option Value} {L : Nat} {ps : List (Option (Option Nat))}   : mj_EV 148 16 [some (.ref 52), some (.int x1), some (.int x2), some (.int x3), some (.int x4), o5, o6, o7] [] (w_al L ps) c = (if (nI 10) ≤ x4 then (some (some (.int x3), (w_al L ps), c)) else mj_EV 148 26 [some (.ref 52), some (.int x1), some (.int x2), some (.int x3), some (.int x4), some (.int (nI 0)), o6, o7] [] (w_al L ps) c) := (mj_iload d148_16 rfl (mj_bipush d148_18 (mj_icge d148_20 (mj_iload_n d148_119 rfl (mj_iret d148_120)) (mj_iconst d148_23 (mj_istore [some (.ref 52), some (.int x1), some (.int x2), some (.int x3), some (.int x4), some (.int (nI 0)), o6, o7] d148_24 rfl rfl rfl)))))
theorem e148_26 {c : mj_C} {x1 : Int32} {x2 : Int32} {x3 : Int32} {x4 : Int32} {x5 : Int32} {o6 : Option Value} {o7 : Option Value} {L : Nat} {ps : List (Option (Option Nat))}   : mj_EV 148 26 [some (.ref 52), some (.int x1), some (.int x2), some (.int x3), some (.int x4), some (.int x5), o6, o7] [] (w_al L ps) c = (if (nI 8) ≤ x5 then mj_EV 148 16 [some (.ref 52), some (.int x1), some (.int x2), some (.int x3), some (.int (x4 + (nI 1))), some (.int x5), o6, o7] [] (w_al L ps) c else (mj_then 148 39 [some (.ref 52), some (.int x1), some (.int x2), some (.int x3), some (.int x4), some (.int x5), o6, o7] [] (mj_EV 96 0 [some (.ref 52), some (.int x4)] [] (w_al L ps) c))) := (mj_iload d148_26 rfl (mj_bipush d148_28 (mj_icge d148_30 (mj_iinc [some (.ref 52), some (.int x1), some (.int x2), some (.int x3), some (.int (x4 + (nI 1))), some (.int x5), o6, o7] d148_113 rfl rfl rfl (mj_goto d148_116 rfl)) (mj_aload_n d148_33 rfl (mj_iload d148_34 rfl (mj_invV [some (.ref 52), some (.int x4)] [] d148_36 rfl rfl rfl w_52 rfl rfl))))))
theorem e148_39 {c : mj_C} {x1 : Int32} {x2 : Int32} {x3 : Int32} {x4 : Int32} {x5 : Int32} {o6 : Option Value} {o7 : Option Value} {z0 : Int32} {L : Nat} {ps : List (Option (Option Nat))}   : mj_EV 148 39 [some (.ref 52), some (.int x1), some (.int x2), some (.int x3), some (.int x4), some (.int x5), o6, o7] [.int z0] (w_al L ps) c = (if z0 = nI 0 then mj_EV 148 16 [some (.ref 52), some (.int x1), some (.int x2), some (.int x3), some (.int (x4 + (nI 1))), some (.int x5), o6, o7] [] (w_al L ps) c else mj_EV 148 48 [some (.ref 52), some (.int x1), some (.int x2), some (.int x3), some (.int x4), some (.int x5), some (.int (nI 1)), some (.int (nI 0))] [] (w_al L ps) c) := (mj_ifeq d148_39 (mj_iinc [some (.ref 52), some (.int x1), some (.int x2), some (.int x3), some (.int (x4 + (nI 1))), some (.int x5), o6, o7] d148_113 rfl rfl rfl (mj_goto d148_116 rfl)) (mj_iconst d148_42 (mj_istore [some (.ref 52), some (.int x1), some (.int x2), some (.int x3), some (.int x4), some (.int x5), some (.int (nI 1)), o7] d148_43 rfl rfl (mj_iconst d148_45 (mj_istore [some (.ref 52), some (.int x1), some (.int x2), some (.int x3), some (.int x4), some (.int x5), some (.int (nI 1)), some (.int (nI 0))] d148_46 rfl rfl rfl)))))
theorem e148_48 {c : mj_C} {x1 : Int32} {x2 : Int32} {x3 : Int32} {x4 : Int32} {x5 : Int32} {x6 : Int32} {x7 : Int32} {L : Nat} {ps : List (Option (Option Nat))}   : mj_EV 148 48 [some (.ref 52), some (.int x1), some (.int x2), some (.int x3), some (.int x4), some (.int x5), some (.int x6), some (.int x7)] [] (w_al L ps) c = (if (nI 8) ≤ x7 then (if x6 = nI 0 then mj_EV 148 26 [some (.ref 52), some (.int x1), some (.int x2), some (.int (x3 + (nI 0))), some (.int x4), some (.int (x5 + (nI 1))), some (.int x6), some (.int x7)] [] (w_al L ps) c else mj_EV 148 26 [some (.ref 52), some (.int x1), some (.int x2), some (.int (x3 + (nI 1))), some (.int x4), some (.int (x5 + (nI 1))), some (.int x6), some (.int x7)] [] (w_al L ps) c) else (if x6 = nI 0 then mj_EV 148 48 [some (.ref 52), some (.int x1), some (.int x2), some (.int x3), some (.int x4), some (.int x5), some (.int (nI 0)), some (.int (x7 + (nI 1)))] [] (w_al L ps) c else (mj_then 148 70 [some (.ref 52), some (.int x1), some (.int x2), some (.int x3), some (.int x4), some (.int x5), some (.int x6), some (.int x7)] [] (mj_EV 99 0 [some (.ref 52), some (.int x4), some (.int x5), some (.int x7)] [] (w_al L ps) c)))) := (mj_iload d148_48 rfl (mj_bipush d148_50 (mj_icge d148_52 (mj_iload_n d148_94 rfl (mj_iload d148_95 rfl (mj_ifeq d148_97 (mj_iconst d148_104 (mj_iadd d148_105 (mj_istore_n [some (.ref 52), some (.int x1), some (.int x2), some (.int (x3 + (nI 0))), some (.int x4), some (.int x5), some (.int x6), some (.int x7)] d148_106 rfl rfl (mj_iinc [some (.ref 52), some (.int x1), some (.int x2), some (.int (x3 + (nI 0))), some (.int x4), some (.int (x5 + (nI 1))), some (.int x6), some (.int x7)] d148_107 rfl rfl rfl (mj_goto d148_110 rfl))))) (mj_iconst d148_100 (mj_goto d148_101 (mj_iadd d148_105 (mj_istore_n [some (.ref 52), some (.int x1), some (.int x2), some (.int (x3 + (nI 1))), some (.int x4), some (.int x5), some (.int x6), some (.int x7)] d148_106 rfl rfl (mj_iinc [some (.ref 52), some (.int x1), some (.int x2), some (.int (x3 + (nI 1))), some (.int x4), some (.int (x5 + (nI 1))), some (.int x6), some (.int x7)] d148_107 rfl rfl rfl (mj_goto d148_110 rfl))))))))) (mj_iload d148_55 rfl (mj_ifeq d148_57 (mj_iconst d148_85 (mj_istore [some (.ref 52), some (.int x1), some (.int x2), some (.int x3), some (.int x4), some (.int x5), some (.int (nI 0)), some (.int x7)] d148_86 rfl rfl (mj_iinc [some (.ref 52), some (.int x1), some (.int x2), some (.int x3), some (.int x4), some (.int x5), some (.int (nI 0)), some (.int (x7 + (nI 1)))] d148_88 rfl rfl rfl (mj_goto d148_91 rfl)))) (mj_aload_n d148_60 rfl (mj_iload d148_61 rfl (mj_iload d148_63 rfl (mj_iload d148_65 rfl (mj_invV [some (.ref 52), some (.int x4), some (.int x5), some (.int x7)] [] d148_67 rfl rfl rfl w_52 rfl rfl))))))))))
theorem e148_70 {c : mj_C} {x1 : Int32} {x2 : Int32} {x3 : Int32} {x4 : Int32} {x5 : Int32} {x6 : Int32} {x7 : Int32} {z0 : Int32} {L : Nat} {ps : List (Option (Option Nat))}   : mj_EV 148 70 [some (.ref 52), some (.int x1), some (.int x2), some (.int x3), some (.int x4), some (.int x5), some (.int x6), some (.int x7)] [.int z0] (w_al L ps) c = (mj_then 148 78 [some (.ref 52), some (.int x1), some (.int x2), some (.int x3), some (.int x4), some (.int x5), some (.int x6), some (.int x7)] [.int z0] (mj_EV 99 0 [some (.ref 52), some (.int x1), some (.int x2), some (.int x7)] [] (w_al L ps) c)) := (mj_aload_n d148_70 rfl (mj_iload_n d148_71 rfl (mj_iload_n d148_72 rfl (mj_iload d148_73 rfl (mj_invV [some (.ref 52), some (.int x1), some (.int x2), some (.int x7)] [.int z0] d148_75 rfl rfl rfl w_52 rfl rfl)))))
theorem e148_78 {c : mj_C} {x1 : Int32} {x2 : Int32} {x3 : Int32} {x4 : Int32} {x5 : Int32} {x6 : Int32} {x7 : Int32} {z0 : Int32} {z1 : Int32} {L : Nat} {ps : List (Option (Option Nat))}   : mj_EV 148 78 [some (.ref 52), some (.int x1), some (.int x2), some (.int x3), some (.int x4), some (.int x5), some (.int x6), some (.int x7)] [.int z1, .int z0] (w_al L ps) c = (if z0 = z1 then mj_EV 148 48 [some (.ref 52), some (.int x1), some (.int x2), some (.int x3), some (.int x4), some (.int x5), some (.int (nI 1)), some (.int (x7 + (nI 1)))] [] (w_al L ps) c else mj_EV 148 48 [some (.ref 52), some (.int x1), some (.int x2), some (.int x3), some (.int x4), some (.int x5), some (.int (nI 0)), some (.int (x7 + (nI 1)))] [] (w_al L ps) c) := (mj_icne d148_78 (mj_iconst d148_85 (mj_istore [some (.ref 52), some (.int x1), some (.int x2), some (.int x3), some (.int x4), some (.int x5), some (.int (nI 0)), some (.int x7)] d148_86 rfl rfl (mj_iinc [some (.ref 52), some (.int x1), some (.int x2), some (.int x3), some (.int x4), some (.int x5), some (.int (nI 0)), some (.int (x7 + (nI 1)))] d148_88 rfl rfl rfl (mj_goto d148_91 rfl)))) (mj_iconst d148_81 (mj_goto d148_82 (mj_istore [some (.ref 52), some (.int x1), some (.int x2), some (.int x3), some (.int x4), some (.int x5), some (.int (nI 1)), some (.int x7)] d148_86 rfl rfl (mj_iinc [some (.ref 52), some (.int x1), some (.int x2), some (.int x3), some (.int x4), some (.int x5), some (.int (nI 1)), some (.int (x7 + (nI 1)))] d148_88 rfl rfl rfl (mj_goto d148_91 rfl))))))
/-- SqueezedLinesModel.ifWritten(IIII)I -/
theorem f149 : mj_cd 149 = mj_c149 := rfl
theorem d149_0 : mj_At 149 0 (.aload_n 0) 1 [0] (.null) := ⟨1, (congrArg (fun z => mj_at z 0) f149).trans rfl, rfl⟩
theorem d149_1 : mj_At 149 1 (.iload_n 1) 2 [1] (.null) := ⟨1, (congrArg (fun z => mj_at z 1) f149).trans rfl, rfl⟩
theorem d149_2 : mj_At 149 2 (.iload_n 2) 3 [2] (.null) := ⟨1, (congrArg (fun z => mj_at z 2) f149).trans rfl, rfl⟩
theorem d149_3 : mj_At 149 3 (.invokevirtual 124) 6 [1, 130, 3, 4, 711, 713, 42, 69] (.null) := ⟨3, (congrArg (fun z => mj_at z 3) f149).trans rfl, rfl⟩
theorem d149_6 : mj_At 149 6 (.ifCond .eq (10)) 9 [16] (.null) := ⟨3, (congrArg (fun z => mj_at z 6) f149).trans rfl, rfl⟩
theorem d149_9 : mj_At 149 9 (.iload_n 3) 10 [3] (.null) := ⟨1, (congrArg (fun z => mj_at z 9) f149).trans rfl, rfl⟩
theorem d149_10 : mj_At 149 10 (.invokestatic 121) 13 [0, 97, 1, 715, 716, 69] (.null) := ⟨3, (congrArg (fun z => mj_at z 10) f149).trans rfl, rfl⟩
theorem d149_13 : mj_At 149 13 (.ifCond .ne (5)) 16 [18] (.null) := ⟨3, (congrArg (fun z => mj_at z 13) f149).trans rfl, rfl⟩
theorem d149_16 : mj_At 149 16 (.iconst (-1)) 17 [] (.int (-1)) := ⟨1, (congrArg (fun z => mj_at z 16) f149).trans rfl, rfl⟩
theorem d149_17 : mj_At 149 17 (.ireturn) 18 [0] (.null) := ⟨1, (congrArg (fun z => mj_at z 17) f149).trans rfl, rfl⟩
theorem d149_18 : mj_At 149 18 (.iload 4) 20 [4] (.null) := ⟨2, (congrArg (fun z => mj_at z 18) f149).trans rfl, rfl⟩
theorem d149_20 : mj_At 149 20 (.iconst (0)) 21 [] (.int 0) := ⟨1, (congrArg (fun z => mj_at z 20) f149).trans rfl, rfl⟩
theorem d149_21 : mj_At 149 21 (.ldc 41) 23 [634] (.int 65535) := ⟨2, (congrArg (fun z => mj_at z 21) f149).trans rfl, rfl⟩
theorem d149_23 : mj_At 149 23 (.invokestatic 33) 26 [0, 93, 3, 595, 596, 69] (.null) := ⟨3, (congrArg (fun z => mj_at z 23) f149).trans rfl, rfl⟩
theorem d149_26 : mj_At 149 26 (.ifCond .ne (6)) 29 [32] (.null) := ⟨3, (congrArg (fun z => mj_at z 26) f149).trans rfl, rfl⟩
theorem d149_29 : mj_At 149 29 (.bipush (-2)) 31 [] (.int (-2)) := ⟨2, (congrArg (fun z => mj_at z 29) f149).trans rfl, rfl⟩
theorem d149_31 : mj_At 149 31 (.ireturn) 32 [0] (.null) := ⟨1, (congrArg (fun z => mj_at z 31) f149).trans rfl, rfl⟩
theorem d149_32 : mj_At 149 32 (.aload_n 0) 33 [0] (.null) := ⟨1, (congrArg (fun z => mj_at z 32) f149).trans rfl, rfl⟩
theorem d149_33 : mj_At 149 33 (.iload_n 1) 34 [1] (.null) := ⟨1, (congrArg (fun z => mj_at z 33) f149).trans rfl, rfl⟩
theorem d149_34 : mj_At 149 34 (.iload_n 2) 35 [2] (.null) := ⟨1, (congrArg (fun z => mj_at z 34) f149).trans rfl, rfl⟩
theorem d149_35 : mj_At 149 35 (.invokevirtual 127) 38 [1, 116, 3, 4, 718, 720, 43, 69] (.null) := ⟨3, (congrArg (fun z => mj_at z 35) f149).trans rfl, rfl⟩
theorem d149_38 : mj_At 149 38 (.aload_n 0) 39 [0] (.null) := ⟨1, (congrArg (fun z => mj_at z 38) f149).trans rfl, rfl⟩
theorem d149_39 : mj_At 149 39 (.getfield 22) 42 [4, 6, 563] (.null) := ⟨3, (congrArg (fun z => mj_at z 39) f149).trans rfl, rfl⟩
theorem d149_42 : mj_At 149 42 (.iload_n 3) 43 [3] (.null) := ⟨1, (congrArg (fun z => mj_at z 42) f149).trans rfl, rfl⟩
theorem d149_43 : mj_At 149 43 (.iload 4) 45 [4] (.null) := ⟨2, (congrArg (fun z => mj_at z 43) f149).trans rfl, rfl⟩
theorem d149_45 : mj_At 149 45 (.iastore) 46 [] (.null) := ⟨1, (congrArg (fun z => mj_at z 45) f149).trans rfl, rfl⟩
theorem d149_46 : mj_At 149 46 (.aload_n 0) 47 [0] (.null) := ⟨1, (congrArg (fun z => mj_at z 46) f149).trans rfl, rfl⟩
theorem d149_47 : mj_At 149 47 (.iload_n 1) 48 [1] (.null) := ⟨1, (congrArg (fun z => mj_at z 47) f149).trans rfl, rfl⟩
theorem d149_48 : mj_At 149 48 (.iload_n 2) 49 [2] (.null) := ⟨1, (congrArg (fun z => mj_at z 48) f149).trans rfl, rfl⟩
theorem d149_49 : mj_At 149 49 (.invokevirtual 102) 52 [1, 118, 3, 4, 730, 732, 46, 69] (.null) := ⟨3, (congrArg (fun z => mj_at z 49) f149).trans rfl, rfl⟩
theorem d149_52 : mj_At 149 52 (.ireturn) 53 [0] (.null) := ⟨1, (congrArg (fun z => mj_at z 52) f149).trans rfl, rfl⟩
theorem e149_0 {c : mj_C} {x1 : Int32} {x2 : Int32} {x3 : Int32} {x4 : Int32} {L : Nat} {ps : List (Option (Option Nat))}   : mj_EV 149 0 [some (.ref 52), some (.int x1), some (.int x2), some (.int x3), some (.int x4)] [] (w_al L ps) c = (mj_then 149 6 [some (.ref 52), some (.int x1), some (.int x2), some (.int x3), some (.int x4)] [] (mj_EV 130 0 [some (.ref 52), some (.int x1), some (.int x2)] [] (w_al L ps) c)) := (mj_aload_n d149_0 rfl (mj_iload_n d149_1 rfl (mj_iload_n d149_2 rfl (mj_invV [some (.ref 52), some (.int x1), some (.int x2)] [] d149_3 rfl rfl rfl w_52 rfl rfl))))
theorem e149_6 {c : mj_C} {x1 : Int32} {x2 : Int32} {x3 : Int32} {x4 : Int32} {z0 : Int32} {L : Nat} {ps : List (Option (Option Nat))}   : mj_EV 149 6 [some (.ref 52), some (.int x1), some (.int x2), some (.int x3), some (.int x4)] [.int z0] (w_al L ps) c = (if z0 = nI 0 then (some (some (.int (-1)), (w_al L ps), c)) else (mj_then 149 13 [some (.ref 52), some (.int x1), some (.int x2), some (.int x3), some (.int x4)] [] (mj_EV 97 0 [some (.int x3)] [] (w_al L ps) c))) := (mj_ifeq d149_6 (mj_iconst d149_16 (mj_iret d149_17)) (mj_iload_n d149_9 rfl (mj_invS [some (.int x3)] [] d149_10 (by decide) rfl rfl rfl rfl)))
theorem e149_13 {c : mj_C} {x1 : Int32} {x2 : Int32} {x3 : Int32} {x4 : Int32} {z0 : Int32} {L : Nat} {ps : List (Option (Option Nat))}   : mj_EV 149 13 [some (.ref 52), some (.int x1), some (.int x2), some (.int x3), some (.int x4)] [.int z0] (w_al L ps) c = (if z0 = nI 0 then (some (some (.int (-1)), (w_al L ps), c)) else (mj_then 149 26 [some (.ref 52), some (.int x1), some (.int x2), some (.int x3), some (.int x4)] [] (mj_EV 93 0 [some (.int x4), some (.int (nI 0)), some (.int (nI 65535))] [] (w_al L ps) c))) := (mj_ifne d149_13 (mj_iload d149_18 rfl (mj_iconst d149_20 (mj_ldc d149_21 (mj_invS [some (.int x4), some (.int (nI 0)), some (.int (nI 65535))] [] d149_23 (by decide) rfl rfl rfl rfl)))) (mj_iconst d149_16 (mj_iret d149_17)))
theorem e149_26 {c : mj_C} {x1 : Int32} {x2 : Int32} {x3 : Int32} {x4 : Int32} {z0 : Int32} {L : Nat} {ps : List (Option (Option Nat))}   : mj_EV 149 26 [some (.ref 52), some (.int x1), some (.int x2), some (.int x3), some (.int x4)] [.int z0] (w_al L ps) c = (if z0 = nI 0 then (some (some (.int (-2)), (w_al L ps), c)) else (mj_then 149 38 [some (.ref 52), some (.int x1), some (.int x2), some (.int x3), some (.int x4)] [] (mj_EV 116 0 [some (.ref 52), some (.int x1), some (.int x2), none] [] (w_al L ps) c))) := (mj_ifne d149_26 (mj_aload_n d149_32 rfl (mj_iload_n d149_33 rfl (mj_iload_n d149_34 rfl (mj_invV [some (.ref 52), some (.int x1), some (.int x2), none] [] d149_35 rfl rfl rfl w_52 rfl rfl)))) (mj_bipush d149_29 (mj_iret d149_31)))
theorem e149_38 {c : mj_C} {x1 : Int32} {x2 : Int32} {x3 : Int32} {x4 : Int32} {L : Nat} {ps : List (Option (Option Nat))}   : mj_EV 149 38 [some (.ref 52), some (.int x1), some (.int x2), some (.int x3), some (.int x4)] [] (w_al L ps) c = (if mj_in x3 8 = true then (mj_then 149 52 [some (.ref 52), some (.int x1), some (.int x2), some (.int x3), some (.int x4)] [] (mj_EV 118 0 [some (.ref 52), some (.int x1), some (.int x2), none] [] (w_al L ps) (mj_u c 57 x3.toNatClampNeg x4))) else none) := (mj_aload_n d149_38 rfl (mj_getR d149_39 w_52 rfl (mj_iload_n d149_42 rfl (mj_iload d149_43 rfl (mj_iast d149_45 w_57 (mj_aload_n d149_46 rfl (mj_iload_n d149_47 rfl (mj_iload_n d149_48 rfl (mj_invV [some (.ref 52), some (.int x1), some (.int x2), none] [] d149_49 rfl rfl rfl w_52 rfl rfl)))))))))
theorem e149_52 {c : mj_C} {x1 : Int32} {x2 : Int32} {x3 : Int32} {x4 : Int32} {z0 : Int32} {L : Nat} {ps : List (Option (Option Nat))}   : mj_EV 149 52 [some (.ref 52), some (.int x1), some (.int x2), some (.int x3), some (.int x4)] [.int z0] (w_al L ps) c = (some (some (.int z0), (w_al L ps), c)) := (mj_iret d149_52)
/-- SqueezedLinesModel.ifRoom(I)I -/
theorem f150 : mj_cd 150 = mj_c150 := rfl
theorem d150_0 : mj_At 150 0 (.iload_n 1) 1 [1] (.null) := ⟨1, (congrArg (fun z => mj_at z 0) f150).trans rfl, rfl⟩
theorem d150_1 : mj_At 150 1 (.iconst (0)) 2 [] (.int 0) := ⟨1, (congrArg (fun z => mj_at z 1) f150).trans rfl, rfl⟩
theorem d150_2 : mj_At 150 2 (.bipush (8)) 4 [] (.int 8) := ⟨2, (congrArg (fun z => mj_at z 2) f150).trans rfl, rfl⟩
theorem d150_4 : mj_At 150 4 (.invokestatic 33) 7 [0, 93, 3, 595, 596, 69] (.null) := ⟨3, (congrArg (fun z => mj_at z 4) f150).trans rfl, rfl⟩
theorem d150_7 : mj_At 150 7 (.ifCond .ne (6)) 10 [13] (.null) := ⟨3, (congrArg (fun z => mj_at z 7) f150).trans rfl, rfl⟩
theorem d150_10 : mj_At 150 10 (.bipush (-2)) 12 [] (.int (-2)) := ⟨2, (congrArg (fun z => mj_at z 10) f150).trans rfl, rfl⟩
theorem d150_12 : mj_At 150 12 (.ireturn) 13 [0] (.null) := ⟨1, (congrArg (fun z => mj_at z 12) f150).trans rfl, rfl⟩
theorem d150_13 : mj_At 150 13 (.aload_n 0) 14 [0] (.null) := ⟨1, (congrArg (fun z => mj_at z 13) f150).trans rfl, rfl⟩
theorem d150_14 : mj_At 150 14 (.getfield 7) 17 [4, 0, 557] (.null) := ⟨3, (congrArg (fun z => mj_at z 14) f150).trans rfl, rfl⟩
theorem d150_17 : mj_At 150 17 (.iconst (0)) 18 [] (.int 0) := ⟨1, (congrArg (fun z => mj_at z 17) f150).trans rfl, rfl⟩
theorem d150_18 : mj_At 150 18 (.aload_n 0) 19 [0] (.null) := ⟨1, (congrArg (fun z => mj_at z 18) f150).trans rfl, rfl⟩
theorem d150_19 : mj_At 150 19 (.getfield 13) 22 [4, 1, 558] (.null) := ⟨3, (congrArg (fun z => mj_at z 19) f150).trans rfl, rfl⟩
theorem d150_22 : mj_At 150 22 (.iconst (0)) 23 [] (.int 0) := ⟨1, (congrArg (fun z => mj_at z 22) f150).trans rfl, rfl⟩
theorem d150_23 : mj_At 150 23 (.invokestatic 29) 26 [0, 94, 4, 652, 653, 69] (.null) := ⟨3, (congrArg (fun z => mj_at z 23) f150).trans rfl, rfl⟩
theorem d150_26 : mj_At 150 26 (.aload_n 0) 27 [0] (.null) := ⟨1, (congrArg (fun z => mj_at z 26) f150).trans rfl, rfl⟩
theorem d150_27 : mj_At 150 27 (.getfield 7) 30 [4, 0, 557] (.null) := ⟨3, (congrArg (fun z => mj_at z 27) f150).trans rfl, rfl⟩
theorem d150_30 : mj_At 150 30 (.iconst (0)) 31 [] (.int 0) := ⟨1, (congrArg (fun z => mj_at z 30) f150).trans rfl, rfl⟩
theorem d150_31 : mj_At 150 31 (.iload_n 1) 32 [1] (.null) := ⟨1, (congrArg (fun z => mj_at z 31) f150).trans rfl, rfl⟩
theorem d150_32 : mj_At 150 32 (.iastore) 33 [] (.null) := ⟨1, (congrArg (fun z => mj_at z 32) f150).trans rfl, rfl⟩
theorem d150_33 : mj_At 150 33 (.aload_n 0) 34 [0] (.null) := ⟨1, (congrArg (fun z => mj_at z 33) f150).trans rfl, rfl⟩
theorem d150_34 : mj_At 150 34 (.invokevirtual 118) 37 [1, 128, 1, 4, 703, 705, 41, 69] (.null) := ⟨3, (congrArg (fun z => mj_at z 34) f150).trans rfl, rfl⟩
theorem d150_37 : mj_At 150 37 (.aload_n 0) 38 [0] (.null) := ⟨1, (congrArg (fun z => mj_at z 37) f150).trans rfl, rfl⟩
theorem d150_38 : mj_At 150 38 (.invokevirtual 98) 41 [1, 114, 1, 4, 598, 600, 23, 69] (.null) := ⟨3, (congrArg (fun z => mj_at z 38) f150).trans rfl, rfl⟩
theorem d150_41 : mj_At 150 41 (.istore_n 2) 42 [2] (.null) := ⟨1, (congrArg (fun z => mj_at z 41) f150).trans rfl, rfl⟩
theorem d150_42 : mj_At 150 42 (.aload_n 0) 43 [0] (.null) := ⟨1, (congrArg (fun z => mj_at z 42) f150).trans rfl, rfl⟩
theorem d150_43 : mj_At 150 43 (.getfield 13) 46 [4, 1, 558] (.null) := ⟨3, (congrArg (fun z => mj_at z 43) f150).trans rfl, rfl⟩
theorem d150_46 : mj_At 150 46 (.iconst (0)) 47 [] (.int 0) := ⟨1, (congrArg (fun z => mj_at z 46) f150).trans rfl, rfl⟩
theorem d150_47 : mj_At 150 47 (.aload_n 0) 48 [0] (.null) := ⟨1, (congrArg (fun z => mj_at z 47) f150).trans rfl, rfl⟩
theorem d150_48 : mj_At 150 48 (.getfield 7) 51 [4, 0, 557] (.null) := ⟨3, (congrArg (fun z => mj_at z 48) f150).trans rfl, rfl⟩
theorem d150_51 : mj_At 150 51 (.iconst (0)) 52 [] (.int 0) := ⟨1, (congrArg (fun z => mj_at z 51) f150).trans rfl, rfl⟩
theorem d150_52 : mj_At 150 52 (.invokestatic 29) 55 [0, 94, 4, 652, 653, 69] (.null) := ⟨3, (congrArg (fun z => mj_at z 52) f150).trans rfl, rfl⟩
theorem d150_55 : mj_At 150 55 (.iload_n 2) 56 [2] (.null) := ⟨1, (congrArg (fun z => mj_at z 55) f150).trans rfl, rfl⟩
theorem d150_56 : mj_At 150 56 (.ireturn) 57 [0] (.null) := ⟨1, (congrArg (fun z => mj_at z 56) f150).trans rfl, rfl⟩
theorem e150_0 {c : mj_C} {x1 : Int32} {L : Nat} {ps : List (Option (Option Nat))}   : mj_EV 150 0 [some (.ref 52), some (.int x1), none] [] (w_al L ps) c = (mj_then 150 7 [some (.ref 52), some (.int x1), none] [] (mj_EV 93 0 [some (.int x1), some (.int (nI 0)), some (.int (nI 8))] [] (w_al L ps) c)) := (mj_iload_n d150_0 rfl (mj_iconst d150_1 (mj_bipush d150_2 (mj_invS [some (.int x1), some (.int (nI 0)), some (.int (nI 8))] [] d150_4 (by decide) rfl rfl rfl rfl))))
theorem e150_7 {c : mj_C} {x1 : Int32} {z0 : Int32} {L : Nat} {ps : List (Option (Option Nat))}   : mj_EV 150 7 [some (.ref 52), some (.int x1), none] [.int z0] (w_al L ps) c = (if z0 = nI 0 then (some (some (.int (-2)), (w_al L ps), c)) else (mj_then 150 26 [some (.ref 52), some (.int x1), none] [] (mj_EV 94 0 [some (.ref 53), some (.int (nI 0)), some (.ref 54), some (.int (nI 0)), none] [] (w_al L ps) c))) := (mj_ifne d150_7 (mj_aload_n d150_13 rfl (mj_getR d150_14 w_52 rfl (mj_iconst d150_17 (mj_aload_n d150_18 rfl (mj_getR d150_19 w_52 rfl (mj_iconst d150_22 (mj_invS [some (.ref 53), some (.int (nI 0)), some (.ref 54), some (.int (nI 0)), none] [] d150_23 (by decide) rfl rfl rfl rfl))))))) (mj_bipush d150_10 (mj_iret d150_12)))
theorem e150_26 {c : mj_C} {x1 : Int32} {L : Nat} {ps : List (Option (Option Nat))}   : mj_EV 150 26 [some (.ref 52), some (.int x1), none] [] (w_al L ps) c = (if mj_in (nI 0) 674 = true then (mj_then 150 37 [some (.ref 52), some (.int x1), none] [] (mj_EV 128 0 [some (.ref 52), none] [] (w_al L ps) (mj_u c 53 (nI 0).toNatClampNeg x1))) else none) := (mj_aload_n d150_26 rfl (mj_getR d150_27 w_52 rfl (mj_iconst d150_30 (mj_iload_n d150_31 rfl (mj_iast d150_32 w_53 (mj_aload_n d150_33 rfl (mj_invV [some (.ref 52), none] [] d150_34 rfl rfl rfl w_52 rfl rfl)))))))
theorem e150_37 {c : mj_C} {x1 : Int32} {L : Nat} {ps : List (Option (Option Nat))}   : mj_EV 150 37 [some (.ref 52), some (.int x1), none] [] (w_al L ps) c = (mj_then 150 41 [some (.ref 52), some (.int x1), none] [] (mj_EV 114 0 [some (.ref 52), none, none] [] (w_al L ps) c)) := (mj_aload_n d150_37 rfl (mj_invV [some (.ref 52), none, none] [] d150_38 rfl rfl rfl w_52 rfl rfl))
theorem e150_41 {c : mj_C} {x1 : Int32} {z0 : Int32} {L : Nat} {ps : List (Option (Option Nat))}   : mj_EV 150 41 [some (.ref 52), some (.int x1), none] [.int z0] (w_al L ps) c = (mj_then 150 55 [some (.ref 52), some (.int x1), some (.int z0)] [] (mj_EV 94 0 [some (.ref 54), some (.int (nI 0)), some (.ref 53), some (.int (nI 0)), none] [] (w_al L ps) c)) := (mj_istore_n [some (.ref 52), some (.int x1), some (.int z0)] d150_41 rfl rfl (mj_aload_n d150_42 rfl (mj_getR d150_43 w_52 rfl (mj_iconst d150_46 (mj_aload_n d150_47 rfl (mj_getR d150_48 w_52 rfl (mj_iconst d150_51 (mj_invS [some (.ref 54), some (.int (nI 0)), some (.ref 53), some (.int (nI 0)), none] [] d150_52 (by decide) rfl rfl rfl rfl))))))))
theorem e150_55 {c : mj_C} {x1 : Int32} {x2 : Int32} {L : Nat} {ps : List (Option (Option Nat))}   : mj_EV 150 55 [some (.ref 52), some (.int x1), some (.int x2)] [] (w_al L ps) c = (some (some (.int x2), (w_al L ps), c)) := (mj_iload_n d150_55 rfl (mj_iret d150_56))
/-- SqueezedLinesModel.findLoosest()I -/
theorem f151 : mj_cd 151 = mj_c151 := rfl
theorem d151_0 : mj_At 151 0 (.bipush (-6)) 2 [] (.int (-6)) := ⟨2, (congrArg (fun z => mj_at z 0) f151).trans rfl, rfl⟩
theorem d151_2 : mj_At 151 2 (.istore_n 1) 3 [1] (.null) := ⟨1, (congrArg (fun z => mj_at z 2) f151).trans rfl, rfl⟩
theorem d151_3 : mj_At 151 3 (.iconst (0)) 4 [] (.int 0) := ⟨1, (congrArg (fun z => mj_at z 3) f151).trans rfl, rfl⟩
theorem d151_4 : mj_At 151 4 (.istore_n 2) 5 [2] (.null) := ⟨1, (congrArg (fun z => mj_at z 4) f151).trans rfl, rfl⟩
theorem d151_5 : mj_At 151 5 (.iconst (0)) 6 [] (.int 0) := ⟨1, (congrArg (fun z => mj_at z 5) f151).trans rfl, rfl⟩
theorem d151_6 : mj_At 151 6 (.istore_n 3) 7 [3] (.null) := ⟨1, (congrArg (fun z => mj_at z 6) f151).trans rfl, rfl⟩
theorem d151_7 : mj_At 151 7 (.iload_n 3) 8 [3] (.null) := ⟨1, (congrArg (fun z => mj_at z 7) f151).trans rfl, rfl⟩
theorem d151_8 : mj_At 151 8 (.bipush (10)) 10 [] (.int 10) := ⟨2, (congrArg (fun z => mj_at z 8) f151).trans rfl, rfl⟩
theorem d151_10 : mj_At 151 10 (.if_icmp .ge (64)) 13 [74] (.null) := ⟨3, (congrArg (fun z => mj_at z 10) f151).trans rfl, rfl⟩
theorem d151_13 : mj_At 151 13 (.aload_n 0) 14 [0] (.null) := ⟨1, (congrArg (fun z => mj_at z 13) f151).trans rfl, rfl⟩
theorem d151_14 : mj_At 151 14 (.iload_n 3) 15 [3] (.null) := ⟨1, (congrArg (fun z => mj_at z 14) f151).trans rfl, rfl⟩
theorem d151_15 : mj_At 151 15 (.invokevirtual 84) 18 [1, 96, 2, 4, 602, 604, 24, 69] (.null) := ⟨3, (congrArg (fun z => mj_at z 15) f151).trans rfl, rfl⟩
theorem d151_18 : mj_At 151 18 (.ifCond .eq (22)) 21 [40] (.null) := ⟨3, (congrArg (fun z => mj_at z 18) f151).trans rfl, rfl⟩
theorem d151_21 : mj_At 151 21 (.aload_n 0) 22 [0] (.null) := ⟨1, (congrArg (fun z => mj_at z 21) f151).trans rfl, rfl⟩
theorem d151_22 : mj_At 151 22 (.iload_n 3) 23 [3] (.null) := ⟨1, (congrArg (fun z => mj_at z 22) f151).trans rfl, rfl⟩
theorem d151_23 : mj_At 151 23 (.invokevirtual 88) 26 [1, 110, 2, 4, 606, 608, 25, 69] (.null) := ⟨3, (congrArg (fun z => mj_at z 23) f151).trans rfl, rfl⟩
theorem d151_26 : mj_At 151 26 (.aload_n 0) 27 [0] (.null) := ⟨1, (congrArg (fun z => mj_at z 26) f151).trans rfl, rfl⟩
theorem d151_27 : mj_At 151 27 (.iload_n 3) 28 [3] (.null) := ⟨1, (congrArg (fun z => mj_at z 27) f151).trans rfl, rfl⟩
theorem d151_28 : mj_At 151 28 (.aload_n 0) 29 [0] (.null) := ⟨1, (congrArg (fun z => mj_at z 28) f151).trans rfl, rfl⟩
theorem d151_29 : mj_At 151 29 (.iload_n 3) 30 [3] (.null) := ⟨1, (congrArg (fun z => mj_at z 29) f151).trans rfl, rfl⟩
theorem d151_30 : mj_At 151 30 (.invokevirtual 74) 33 [1, 111, 2, 4, 671, 673, 38, 69] (.null) := ⟨3, (congrArg (fun z => mj_at z 30) f151).trans rfl, rfl⟩
theorem d151_33 : mj_At 151 33 (.invokevirtual 71) 36 [1, 109, 3, 4, 614, 616, 27, 69] (.null) := ⟨3, (congrArg (fun z => mj_at z 33) f151).trans rfl, rfl⟩
theorem d151_36 : mj_At 151 36 (.isub) 37 [] (.null) := ⟨1, (congrArg (fun z => mj_at z 36) f151).trans rfl, rfl⟩
theorem d151_37 : mj_At 151 37 (.goto (4)) 40 [41] (.null) := ⟨3, (congrArg (fun z => mj_at z 37) f151).trans rfl, rfl⟩
theorem d151_40 : mj_At 151 40 (.iconst (0)) 41 [] (.int 0) := ⟨1, (congrArg (fun z => mj_at z 40) f151).trans rfl, rfl⟩
theorem d151_41 : mj_At 151 41 (.istore 4) 43 [4] (.null) := ⟨2, (congrArg (fun z => mj_at z 41) f151).trans rfl, rfl⟩
theorem d151_43 : mj_At 151 43 (.iload 4) 45 [4] (.null) := ⟨2, (congrArg (fun z => mj_at z 43) f151).trans rfl, rfl⟩
theorem d151_45 : mj_At 151 45 (.iload_n 2) 46 [2] (.null) := ⟨1, (congrArg (fun z => mj_at z 45) f151).trans rfl, rfl⟩
theorem d151_46 : mj_At 151 46 (.if_icmp .le (7)) 49 [53] (.null) := ⟨3, (congrArg (fun z => mj_at z 46) f151).trans rfl, rfl⟩
theorem d151_49 : mj_At 151 49 (.iload_n 3) 50 [3] (.null) := ⟨1, (congrArg (fun z => mj_at z 49) f151).trans rfl, rfl⟩
theorem d151_50 : mj_At 151 50 (.goto (4)) 53 [54] (.null) := ⟨3, (congrArg (fun z => mj_at z 50) f151).trans rfl, rfl⟩
theorem d151_53 : mj_At 151 53 (.iload_n 1) 54 [1] (.null) := ⟨1, (congrArg (fun z => mj_at z 53) f151).trans rfl, rfl⟩
theorem d151_54 : mj_At 151 54 (.istore_n 1) 55 [1] (.null) := ⟨1, (congrArg (fun z => mj_at z 54) f151).trans rfl, rfl⟩
theorem d151_55 : mj_At 151 55 (.iload 4) 57 [4] (.null) := ⟨2, (congrArg (fun z => mj_at z 55) f151).trans rfl, rfl⟩
theorem d151_57 : mj_At 151 57 (.iload_n 2) 58 [2] (.null) := ⟨1, (congrArg (fun z => mj_at z 57) f151).trans rfl, rfl⟩
theorem d151_58 : mj_At 151 58 (.if_icmp .le (8)) 61 [66] (.null) := ⟨3, (congrArg (fun z => mj_at z 58) f151).trans rfl, rfl⟩
theorem d151_61 : mj_At 151 61 (.iload 4) 63 [4] (.null) := ⟨2, (congrArg (fun z => mj_at z 61) f151).trans rfl, rfl⟩
theorem d151_63 : mj_At 151 63 (.goto (4)) 66 [67] (.null) := ⟨3, (congrArg (fun z => mj_at z 63) f151).trans rfl, rfl⟩
theorem d151_66 : mj_At 151 66 (.iload_n 2) 67 [2] (.null) := ⟨1, (congrArg (fun z => mj_at z 66) f151).trans rfl, rfl⟩
theorem d151_67 : mj_At 151 67 (.istore_n 2) 68 [2] (.null) := ⟨1, (congrArg (fun z => mj_at z 67) f151).trans rfl, rfl⟩
theorem d151_68 : mj_At 151 68 (.iinc 3 (1)) 71 [3] (.int 1) := ⟨3, (congrArg (fun z => mj_at z 68) f151).trans rfl, rfl⟩
theorem d151_71 : mj_At 151 71 (.goto (-64)) 74 [7] (.null) := ⟨3, (congrArg (fun z => mj_at z 71) f151).trans rfl, rfl⟩
theorem d151_74 : mj_At 151 74 (.iload_n 1) 75 [1] (.null) := ⟨1, (congrArg (fun z => mj_at z 74) f151).trans rfl, rfl⟩
theorem d151_75 : mj_At 151 75 (.ireturn) 76 [0] (.null) := ⟨1, (congrArg (fun z => mj_at z 75) f151).trans rfl, rfl⟩
theorem e151_0 {c : mj_C}  {L : Nat} {ps : List (Option (Option Nat))}   : mj_EV 151 0 [some (.ref 52), none, none, none, none] [] (w_al L ps) c = mj_EV 151 7 [some (.ref 52), some (.int (-6)), some (.int (nI 0)), some (.int (nI 0)), none] [] (w_al L ps) c := (mj_bipush d151_0 (mj_istore_n [some (.ref 52), some (.int (-6)), none, none, none] d151_2 rfl rfl (mj_iconst d151_3 (mj_istore_n [some (.ref 52), some (.int (-6)), some (.int (nI 0)), none, none] d151_4 rfl rfl (mj_iconst d151_5 (mj_istore_n [some (.ref 52), some (.int (-6)), some (.int (nI 0)), some (.int (nI 0)), none] d151_6 rfl rfl rfl))))))
theorem e151_7 {c : mj_C} {x1 : Int32} {x2 : Int32} {x3 : Int32} {o4 : Option Value} {L : Nat} {ps : List (Option (Option Nat))}   : mj_EV 151 7 [some (.ref 52), some (.int x1), some (.int x2), some (.int x3), o4] [] (w_al L ps) c = (if (nI 10) ≤ x3 then (some (some (.int x1), (w_al L ps), c)) else (mj_then 151 18 [some (.ref 52), some (.int x1), some (.int x2), some (.int x3), o4] [] (mj_EV 96 0 [some (.ref 52), some (.int x3)] [] (w_al L ps) c))) := (mj_iload_n d151_7 rfl (mj_bipush d151_8 (mj_icge d151_10 (mj_iload_n d151_74 rfl (mj_iret d151_75)) (mj_aload_n d151_13 rfl (mj_iload_n d151_14 rfl (mj_invV [some (.ref 52), some (.int x3)] [] d151_15 rfl rfl rfl w_52 rfl rfl))))))
theorem e151_18 {c : mj_C} {x1 : Int32} {x2 : Int32} {x3 : Int32} {o4 : Option Value} {z0 : Int32} {L : Nat} {ps : List (Option (Option Nat))}   : mj_EV 151 18 [some (.ref 52), some (.int x1), some (.int x2), some (.int x3), o4] [.int z0] (w_al L ps) c = (if z0 = nI 0 then mj_EV 151 41 [some (.ref 52), some (.int x1), some (.int x2), some (.int x3), o4] [.int (nI 0)] (w_al L ps) c else (mj_then 151 26 [some (.ref 52), some (.int x1), some (.int x2), some (.int x3), o4] [] (mj_EV 110 0 [some (.ref 52), some (.int x3)] [] (w_al L ps) c))) := (mj_ifeq d151_18 (mj_iconst d151_40 rfl) (mj_aload_n d151_21 rfl (mj_iload_n d151_22 rfl (mj_invV [some (.ref 52), some (.int x3)] [] d151_23 rfl rfl rfl w_52 rfl rfl))))
theorem e151_26 {c : mj_C} {x1 : Int32} {x2 : Int32} {x3 : Int32} {o4 : Option Value} {z0 : Int32} {L : Nat} {ps : List (Option (Option Nat))}   : mj_EV 151 26 [some (.ref 52), some (.int x1), some (.int x2), some (.int x3), o4] [.int z0] (w_al L ps) c = (mj_then 151 33 [some (.ref 52), some (.int x1), some (.int x2), some (.int x3), o4] [.int x3, .ref 52, .int z0] (mj_EV 111 0 [some (.ref 52), some (.int x3), none, none, none, none] [] (w_al L ps) c)) := (mj_aload_n d151_26 rfl (mj_iload_n d151_27 rfl (mj_aload_n d151_28 rfl (mj_iload_n d151_29 rfl (mj_invV [some (.ref 52), some (.int x3), none, none, none, none] [.int x3, .ref 52, .int z0] d151_30 rfl rfl rfl w_52 rfl rfl)))))
theorem e151_33 {c : mj_C} {x1 : Int32} {x2 : Int32} {x3 : Int32} {o4 : Option Value} {z0 : Int32} {z2 : Int32} {z3 : Int32} {L : Nat} {ps : List (Option (Option Nat))}   : mj_EV 151 33 [some (.ref 52), some (.int x1), some (.int x2), some (.int x3), o4] [.int z3, .int z2, .ref 52, .int z0] (w_al L ps) c = (mj_then 151 36 [some (.ref 52), some (.int x1), some (.int x2), some (.int x3), o4] [.int z0] (mj_EV 109 0 [some (.ref 52), some (.int z2), some (.int z3)] [] (w_al L ps) c)) := (mj_invV [some (.ref 52), some (.int z2), some (.int z3)] [.int z0] d151_33 rfl rfl rfl w_52 rfl rfl)
theorem e151_36 {c : mj_C} {x1 : Int32} {x2 : Int32} {x3 : Int32} {o4 : Option Value} {z0 : Int32} {z1 : Int32} {L : Nat} {ps : List (Option (Option Nat))}   : mj_EV 151 36 [some (.ref 52), some (.int x1), some (.int x2), some (.int x3), o4] [.int z1, .int z0] (w_al L ps) c = mj_EV 151 41 [some (.ref 52), some (.int x1), some (.int x2), some (.int x3), o4] [.int (z0 - z1)] (w_al L ps) c := (mj_isub d151_36 (mj_goto d151_37 rfl))
theorem e151_41 {c : mj_C} {x1 : Int32} {x2 : Int32} {x3 : Int32} {o4 : Option Value} {z0 : Int32} {L : Nat} {ps : List (Option (Option Nat))}   : mj_EV 151 41 [some (.ref 52), some (.int x1), some (.int x2), some (.int x3), o4] [.int z0] (w_al L ps) c = (if z0 ≤ x2 then (if z0 ≤ x2 then mj_EV 151 7 [some (.ref 52), some (.int x1), some (.int x2), some (.int (x3 + (nI 1))), some (.int z0)] [] (w_al L ps) c else mj_EV 151 7 [some (.ref 52), some (.int x1), some (.int z0), some (.int (x3 + (nI 1))), some (.int z0)] [] (w_al L ps) c) else (if z0 ≤ x2 then mj_EV 151 7 [some (.ref 52), some (.int x3), some (.int x2), some (.int (x3 + (nI 1))), some (.int z0)] [] (w_al L ps) c else mj_EV 151 7 [some (.ref 52), some (.int x3), some (.int z0), some (.int (x3 + (nI 1))), some (.int z0)] [] (w_al L ps) c)) := (mj_istore [some (.ref 52), some (.int x1), some (.int x2), some (.int x3), some (.int z0)] d151_41 rfl rfl (mj_iload d151_43 rfl (mj_iload_n d151_45 rfl (mj_icle d151_46 (mj_iload_n d151_53 rfl (mj_istore_n [some (.ref 52), some (.int x1), some (.int x2), some (.int x3), some (.int z0)] d151_54 rfl rfl (mj_iload d151_55 rfl (mj_iload_n d151_57 rfl (mj_icle d151_58 (mj_iload_n d151_66 rfl (mj_istore_n [some (.ref 52), some (.int x1), some (.int x2), some (.int x3), some (.int z0)] d151_67 rfl rfl (mj_iinc [some (.ref 52), some (.int x1), some (.int x2), some (.int (x3 + (nI 1))), some (.int z0)] d151_68 rfl rfl rfl (mj_goto d151_71 rfl)))) (mj_iload d151_61 rfl (mj_goto d151_63 (mj_istore_n [some (.ref 52), some (.int x1), some (.int z0), some (.int x3), some (.int z0)] d151_67 rfl rfl (mj_iinc [some (.ref 52), some (.int x1), some (.int z0), some (.int (x3 + (nI 1))), some (.int z0)] d151_68 rfl rfl rfl (mj_goto d151_71 rfl)))))))))) (mj_iload_n d151_49 rfl (mj_goto d151_50 (mj_istore_n [some (.ref 52), some (.int x3), some (.int x2), some (.int x3), some (.int z0)] d151_54 rfl rfl (mj_iload d151_55 rfl (mj_iload_n d151_57 rfl (mj_icle d151_58 (mj_iload_n d151_66 rfl (mj_istore_n [some (.ref 52), some (.int x3), some (.int x2), some (.int x3), some (.int z0)] d151_67 rfl rfl (mj_iinc [some (.ref 52), some (.int x3), some (.int x2), some (.int (x3 + (nI 1))), some (.int z0)] d151_68 rfl rfl rfl (mj_goto d151_71 rfl)))) (mj_iload d151_61 rfl (mj_goto d151_63 (mj_istore_n [some (.ref 52), some (.int x3), some (.int z0), some (.int x3), some (.int z0)] d151_67 rfl rfl (mj_iinc [some (.ref 52), some (.int x3), some (.int z0), some (.int (x3 + (nI 1))), some (.int z0)] d151_68 rfl rfl rfl (mj_goto d151_71 rfl)))))))))))))))
/-- SqueezedLinesModel.loosest()I -/
theorem f152 : mj_cd 152 = mj_c152 := rfl
theorem d152_0 : mj_At 152 0 (.aload_n 0) 1 [0] (.null) := ⟨1, (congrArg (fun z => mj_at z 0) f152).trans rfl, rfl⟩
theorem d152_1 : mj_At 152 1 (.invokevirtual 155) 4 [1, 151, 1, 4, 823, 825, 55, 69] (.null) := ⟨3, (congrArg (fun z => mj_at z 1) f152).trans rfl, rfl⟩
theorem d152_4 : mj_At 152 4 (.ireturn) 5 [0] (.null) := ⟨1, (congrArg (fun z => mj_at z 4) f152).trans rfl, rfl⟩
theorem e152_0 {c : mj_C}  {L : Nat} {ps : List (Option (Option Nat))}   : mj_EV 152 0 [some (.ref 52)] [] (w_al L ps) c = (mj_then 152 4 [some (.ref 52)] [] (mj_EV 151 0 [some (.ref 52), none, none, none, none] [] (w_al L ps) c)) := (mj_aload_n d152_0 rfl (mj_invV [some (.ref 52), none, none, none, none] [] d152_1 rfl rfl rfl w_52 rfl rfl))
theorem e152_4 {c : mj_C} {z0 : Int32} {L : Nat} {ps : List (Option (Option Nat))}   : mj_EV 152 4 [some (.ref 52)] [.int z0] (w_al L ps) c = (some (some (.int z0), (w_al L ps), c)) := (mj_iret d152_4)
/-- SqueezedLinesModel.rawLeft()I -/
theorem f153 : mj_cd 153 = mj_c153 := rfl
theorem d153_0 : mj_At 153 0 (.aload_n 0) 1 [0] (.null) := ⟨1, (congrArg (fun z => mj_at z 0) f153).trans rfl, rfl⟩
theorem d153_1 : mj_At 153 1 (.getfield 7) 4 [4, 0, 557] (.null) := ⟨3, (congrArg (fun z => mj_at z 1) f153).trans rfl, rfl⟩
theorem d153_4 : mj_At 153 4 (.iconst (1)) 5 [] (.int 1) := ⟨1, (congrArg (fun z => mj_at z 4) f153).trans rfl, rfl⟩
theorem d153_5 : mj_At 153 5 (.iaload) 6 [] (.null) := ⟨1, (congrArg (fun z => mj_at z 5) f153).trans rfl, rfl⟩
theorem d153_6 : mj_At 153 6 (.aload_n 0) 7 [0] (.null) := ⟨1, (congrArg (fun z => mj_at z 6) f153).trans rfl, rfl⟩
theorem d153_7 : mj_At 153 7 (.invokevirtual 98) 10 [1, 114, 1, 4, 598, 600, 23, 69] (.null) := ⟨3, (congrArg (fun z => mj_at z 7) f153).trans rfl, rfl⟩
theorem d153_10 : mj_At 153 10 (.isub) 11 [] (.null) := ⟨1, (congrArg (fun z => mj_at z 10) f153).trans rfl, rfl⟩
theorem d153_11 : mj_At 153 11 (.istore_n 1) 12 [1] (.null) := ⟨1, (congrArg (fun z => mj_at z 11) f153).trans rfl, rfl⟩
theorem d153_12 : mj_At 153 12 (.iload_n 1) 13 [1] (.null) := ⟨1, (congrArg (fun z => mj_at z 12) f153).trans rfl, rfl⟩
theorem d153_13 : mj_At 153 13 (.ifCond .le (10)) 16 [23] (.null) := ⟨3, (congrArg (fun z => mj_at z 13) f153).trans rfl, rfl⟩
theorem d153_16 : mj_At 153 16 (.iload_n 1) 17 [1] (.null) := ⟨1, (congrArg (fun z => mj_at z 16) f153).trans rfl, rfl⟩
theorem d153_17 : mj_At 153 17 (.bipush (65)) 19 [] (.int 65) := ⟨2, (congrArg (fun z => mj_at z 17) f153).trans rfl, rfl⟩
theorem d153_19 : mj_At 153 19 (.idiv) 20 [] (.null) := ⟨1, (congrArg (fun z => mj_at z 19) f153).trans rfl, rfl⟩
theorem d153_20 : mj_At 153 20 (.goto (4)) 23 [24] (.null) := ⟨3, (congrArg (fun z => mj_at z 20) f153).trans rfl, rfl⟩
theorem d153_23 : mj_At 153 23 (.iconst (0)) 24 [] (.int 0) := ⟨1, (congrArg (fun z => mj_at z 23) f153).trans rfl, rfl⟩
theorem d153_24 : mj_At 153 24 (.ireturn) 25 [0] (.null) := ⟨1, (congrArg (fun z => mj_at z 24) f153).trans rfl, rfl⟩
theorem e153_0 {c : mj_C}  {L : Nat} {ps : List (Option (Option Nat))}   : mj_EV 153 0 [some (.ref 52), none] [] (w_al L ps) c = (if mj_in (nI 1) 674 = true then (mj_then 153 10 [some (.ref 52), none] [.int (c 53 (nI 1).toNatClampNeg)] (mj_EV 114 0 [some (.ref 52), none, none] [] (w_al L ps) c)) else none) := (mj_aload_n d153_0 rfl (mj_getR d153_1 w_52 rfl (mj_iconst d153_4 (mj_iald d153_5 w_53 (mj_aload_n d153_6 rfl (mj_invV [some (.ref 52), none, none] [.int (c 53 (nI 1).toNatClampNeg)] d153_7 rfl rfl rfl w_52 rfl rfl))))))
theorem e153_10 {c : mj_C} {z0 : Int32} {z1 : Int32} {L : Nat} {ps : List (Option (Option Nat))}   : mj_EV 153 10 [some (.ref 52), none] [.int z1, .int z0] (w_al L ps) c = (if (z0 - z1) ≤ nI 0 then (some (some (.int (nI 0)), (w_al L ps), c)) else (if (!decide ((nI 65) = nI 0)) = true then (some (some (.int ((z0 - z1) / (nI 65))), (w_al L ps), c)) else none)) := (mj_isub d153_10 (mj_istore_n [some (.ref 52), some (.int (z0 - z1))] d153_11 rfl rfl (mj_iload_n d153_12 rfl (mj_ifle d153_13 (mj_iconst d153_23 (mj_iret d153_24)) (mj_iload_n d153_16 rfl (mj_bipush d153_17 (mj_idiv d153_19 (mj_goto d153_20 (mj_iret d153_24)))))))))
/-- SqueezedLinesModel.rawPagesLeft()I -/
theorem f154 : mj_cd 154 = mj_c154 := rfl
theorem d154_0 : mj_At 154 0 (.aload_n 0) 1 [0] (.null) := ⟨1, (congrArg (fun z => mj_at z 0) f154).trans rfl, rfl⟩
theorem d154_1 : mj_At 154 1 (.invokevirtual 158) 4 [1, 153, 1, 4, 831, 833, 56, 69] (.null) := ⟨3, (congrArg (fun z => mj_at z 1) f154).trans rfl, rfl⟩
theorem d154_4 : mj_At 154 4 (.ireturn) 5 [0] (.null) := ⟨1, (congrArg (fun z => mj_at z 4) f154).trans rfl, rfl⟩
theorem e154_0 {c : mj_C}  {L : Nat} {ps : List (Option (Option Nat))}   : mj_EV 154 0 [some (.ref 52)] [] (w_al L ps) c = (mj_then 154 4 [some (.ref 52)] [] (mj_EV 153 0 [some (.ref 52), none] [] (w_al L ps) c)) := (mj_aload_n d154_0 rfl (mj_invV [some (.ref 52), none] [] d154_1 rfl rfl rfl w_52 rfl rfl))
theorem e154_4 {c : mj_C} {z0 : Int32} {L : Nat} {ps : List (Option (Option Nat))}   : mj_EV 154 4 [some (.ref 52)] [.int z0] (w_al L ps) c = (some (some (.int z0), (w_al L ps), c)) := (mj_iret d154_4)
/-- SqueezedLinesModel.type(I)I -/
theorem f155 : mj_cd 155 = mj_c155 := rfl
theorem d155_0 : mj_At 155 0 (.iload_n 1) 1 [1] (.null) := ⟨1, (congrArg (fun z => mj_at z 0) f155).trans rfl, rfl⟩
theorem d155_1 : mj_At 155 1 (.bipush (33)) 3 [] (.int 33) := ⟨2, (congrArg (fun z => mj_at z 1) f155).trans rfl, rfl⟩
theorem d155_3 : mj_At 155 3 (.bipush (126)) 5 [] (.int 126) := ⟨2, (congrArg (fun z => mj_at z 3) f155).trans rfl, rfl⟩
theorem d155_5 : mj_At 155 5 (.invokestatic 33) 8 [0, 93, 3, 595, 596, 69] (.null) := ⟨3, (congrArg (fun z => mj_at z 5) f155).trans rfl, rfl⟩
theorem d155_8 : mj_At 155 8 (.ifCond .ne (6)) 11 [14] (.null) := ⟨3, (congrArg (fun z => mj_at z 8) f155).trans rfl, rfl⟩
theorem d155_11 : mj_At 155 11 (.bipush (-2)) 13 [] (.int (-2)) := ⟨2, (congrArg (fun z => mj_at z 11) f155).trans rfl, rfl⟩
theorem d155_13 : mj_At 155 13 (.ireturn) 14 [0] (.null) := ⟨1, (congrArg (fun z => mj_at z 13) f155).trans rfl, rfl⟩
theorem d155_14 : mj_At 155 14 (.aload_n 0) 15 [0] (.null) := ⟨1, (congrArg (fun z => mj_at z 14) f155).trans rfl, rfl⟩
theorem d155_15 : mj_At 155 15 (.getfield 161) 18 [4, 5, 562] (.null) := ⟨3, (congrArg (fun z => mj_at z 15) f155).trans rfl, rfl⟩
theorem d155_18 : mj_At 155 18 (.bipush (80)) 20 [] (.int 80) := ⟨2, (congrArg (fun z => mj_at z 18) f155).trans rfl, rfl⟩
theorem d155_20 : mj_At 155 20 (.if_icmp .ne (6)) 23 [26] (.null) := ⟨3, (congrArg (fun z => mj_at z 20) f155).trans rfl, rfl⟩
theorem d155_23 : mj_At 155 23 (.bipush (-4)) 25 [] (.int (-4)) := ⟨2, (congrArg (fun z => mj_at z 23) f155).trans rfl, rfl⟩
theorem d155_25 : mj_At 155 25 (.ireturn) 26 [0] (.null) := ⟨1, (congrArg (fun z => mj_at z 25) f155).trans rfl, rfl⟩
theorem d155_26 : mj_At 155 26 (.aload_n 0) 27 [0] (.null) := ⟨1, (congrArg (fun z => mj_at z 26) f155).trans rfl, rfl⟩
theorem d155_27 : mj_At 155 27 (.getfield 19) 30 [4, 4, 561] (.null) := ⟨3, (congrArg (fun z => mj_at z 27) f155).trans rfl, rfl⟩
theorem d155_30 : mj_At 155 30 (.aload_n 0) 31 [0] (.null) := ⟨1, (congrArg (fun z => mj_at z 30) f155).trans rfl, rfl⟩
theorem d155_31 : mj_At 155 31 (.getfield 161) 34 [4, 5, 562] (.null) := ⟨3, (congrArg (fun z => mj_at z 31) f155).trans rfl, rfl⟩
theorem d155_34 : mj_At 155 34 (.iload_n 1) 35 [1] (.null) := ⟨1, (congrArg (fun z => mj_at z 34) f155).trans rfl, rfl⟩
theorem d155_35 : mj_At 155 35 (.iastore) 36 [] (.null) := ⟨1, (congrArg (fun z => mj_at z 35) f155).trans rfl, rfl⟩
theorem d155_36 : mj_At 155 36 (.aload_n 0) 37 [0] (.null) := ⟨1, (congrArg (fun z => mj_at z 36) f155).trans rfl, rfl⟩
theorem d155_37 : mj_At 155 37 (.dup) 38 [] (.null) := ⟨1, (congrArg (fun z => mj_at z 37) f155).trans rfl, rfl⟩
theorem d155_38 : mj_At 155 38 (.getfield 161) 41 [4, 5, 562] (.null) := ⟨3, (congrArg (fun z => mj_at z 38) f155).trans rfl, rfl⟩
theorem d155_41 : mj_At 155 41 (.iconst (1)) 42 [] (.int 1) := ⟨1, (congrArg (fun z => mj_at z 41) f155).trans rfl, rfl⟩
theorem d155_42 : mj_At 155 42 (.iadd) 43 [] (.null) := ⟨1, (congrArg (fun z => mj_at z 42) f155).trans rfl, rfl⟩
theorem d155_43 : mj_At 155 43 (.putfield 161) 46 [4, 5, 0, 562] (.null) := ⟨3, (congrArg (fun z => mj_at z 43) f155).trans rfl, rfl⟩
theorem d155_46 : mj_At 155 46 (.aload_n 0) 47 [0] (.null) := ⟨1, (congrArg (fun z => mj_at z 46) f155).trans rfl, rfl⟩
theorem d155_47 : mj_At 155 47 (.getfield 161) 50 [4, 5, 562] (.null) := ⟨3, (congrArg (fun z => mj_at z 47) f155).trans rfl, rfl⟩
theorem d155_50 : mj_At 155 50 (.ireturn) 51 [0] (.null) := ⟨1, (congrArg (fun z => mj_at z 50) f155).trans rfl, rfl⟩
theorem e155_0 {c : mj_C} {x1 : Int32} {L : Nat} {ps : List (Option (Option Nat))}   : mj_EV 155 0 [some (.ref 52), some (.int x1)] [] (w_al L ps) c = (mj_then 155 8 [some (.ref 52), some (.int x1)] [] (mj_EV 93 0 [some (.int x1), some (.int (nI 33)), some (.int (nI 126))] [] (w_al L ps) c)) := (mj_iload_n d155_0 rfl (mj_bipush d155_1 (mj_bipush d155_3 (mj_invS [some (.int x1), some (.int (nI 33)), some (.int (nI 126))] [] d155_5 (by decide) rfl rfl rfl rfl))))
theorem e155_8 {c : mj_C} {x1 : Int32} {z0 : Int32} {L : Nat} {ps : List (Option (Option Nat))}   : mj_EV 155 8 [some (.ref 52), some (.int x1)] [.int z0] (w_al L ps) c = (if z0 = nI 0 then (some (some (.int (-2)), (w_al L ps), c)) else (if (c 52 5) = (nI 80) then (some (some (.int (-4)), (w_al L ps), c)) else (if mj_in (c 52 5) 80 = true then (some (some (.int ((mj_u (mj_u c 56 (c 52 5).toNatClampNeg x1) 52 5 (((mj_u c 56 (c 52 5).toNatClampNeg x1) 52 5) + (nI 1))) 52 5)), (w_al L ps), (mj_u (mj_u c 56 (c 52 5).toNatClampNeg x1) 52 5 (((mj_u c 56 (c 52 5).toNatClampNeg x1) 52 5) + (nI 1))))) else none))) := (mj_ifne d155_8 (mj_aload_n d155_14 rfl (mj_getI d155_15 w_52 rfl (mj_bipush d155_18 (mj_icne d155_20 (mj_aload_n d155_26 rfl (mj_getR d155_27 w_52 rfl (mj_aload_n d155_30 rfl (mj_getI d155_31 w_52 rfl (mj_iload_n d155_34 rfl (mj_iast d155_35 w_56 (mj_aload_n d155_36 rfl (mj_dupR d155_37 (mj_getI d155_38 w_52 rfl (mj_iconst d155_41 (mj_iadd d155_42 (mj_putI d155_43 w_52 rfl (mj_aload_n d155_46 rfl (mj_getI d155_47 w_52 rfl (mj_iret d155_50))))))))))))))) (mj_bipush d155_23 (mj_iret d155_25)))))) (mj_bipush d155_11 (mj_iret d155_13)))
/-- SqueezedLinesModel.clearText()I -/
theorem f156 : mj_cd 156 = mj_c156 := rfl
theorem d156_0 : mj_At 156 0 (.aload_n 0) 1 [0] (.null) := ⟨1, (congrArg (fun z => mj_at z 0) f156).trans rfl, rfl⟩
theorem d156_1 : mj_At 156 1 (.getfield 161) 4 [4, 5, 562] (.null) := ⟨3, (congrArg (fun z => mj_at z 1) f156).trans rfl, rfl⟩
theorem d156_4 : mj_At 156 4 (.istore_n 1) 5 [1] (.null) := ⟨1, (congrArg (fun z => mj_at z 4) f156).trans rfl, rfl⟩
theorem d156_5 : mj_At 156 5 (.aload_n 0) 6 [0] (.null) := ⟨1, (congrArg (fun z => mj_at z 5) f156).trans rfl, rfl⟩
theorem d156_6 : mj_At 156 6 (.iconst (0)) 7 [] (.int 0) := ⟨1, (congrArg (fun z => mj_at z 6) f156).trans rfl, rfl⟩
theorem d156_7 : mj_At 156 7 (.putfield 161) 10 [4, 5, 0, 562] (.null) := ⟨3, (congrArg (fun z => mj_at z 7) f156).trans rfl, rfl⟩
theorem d156_10 : mj_At 156 10 (.iload_n 1) 11 [1] (.null) := ⟨1, (congrArg (fun z => mj_at z 10) f156).trans rfl, rfl⟩
theorem d156_11 : mj_At 156 11 (.ireturn) 12 [0] (.null) := ⟨1, (congrArg (fun z => mj_at z 11) f156).trans rfl, rfl⟩
theorem e156_0 {c : mj_C}  {L : Nat} {ps : List (Option (Option Nat))}   : mj_EV 156 0 [some (.ref 52), none] [] (w_al L ps) c = (some (some (.int (c 52 5)), (w_al L ps), (mj_u c 52 5 (nI 0)))) := (mj_aload_n d156_0 rfl (mj_getI d156_1 w_52 rfl (mj_istore_n [some (.ref 52), some (.int (c 52 5))] d156_4 rfl rfl (mj_aload_n d156_5 rfl (mj_iconst d156_6 (mj_putI d156_7 w_52 rfl (mj_iload_n d156_10 rfl (mj_iret d156_11))))))))
/-- SqueezedLinesModel.character(I)I -/
theorem f157 : mj_cd 157 = mj_c157 := rfl
theorem d157_0 : mj_At 157 0 (.iload_n 1) 1 [1] (.null) := ⟨1, (congrArg (fun z => mj_at z 0) f157).trans rfl, rfl⟩
theorem d157_1 : mj_At 157 1 (.aload_n 0) 2 [0] (.null) := ⟨1, (congrArg (fun z => mj_at z 1) f157).trans rfl, rfl⟩
theorem d157_2 : mj_At 157 2 (.getfield 161) 5 [4, 5, 562] (.null) := ⟨3, (congrArg (fun z => mj_at z 2) f157).trans rfl, rfl⟩
theorem d157_5 : mj_At 157 5 (.if_icmp .ge (12)) 8 [17] (.null) := ⟨3, (congrArg (fun z => mj_at z 5) f157).trans rfl, rfl⟩
theorem d157_8 : mj_At 157 8 (.aload_n 0) 9 [0] (.null) := ⟨1, (congrArg (fun z => mj_at z 8) f157).trans rfl, rfl⟩
theorem d157_9 : mj_At 157 9 (.getfield 19) 12 [4, 4, 561] (.null) := ⟨3, (congrArg (fun z => mj_at z 9) f157).trans rfl, rfl⟩
theorem d157_12 : mj_At 157 12 (.iload_n 1) 13 [1] (.null) := ⟨1, (congrArg (fun z => mj_at z 12) f157).trans rfl, rfl⟩
theorem d157_13 : mj_At 157 13 (.iaload) 14 [] (.null) := ⟨1, (congrArg (fun z => mj_at z 13) f157).trans rfl, rfl⟩
theorem d157_14 : mj_At 157 14 (.goto (4)) 17 [18] (.null) := ⟨3, (congrArg (fun z => mj_at z 14) f157).trans rfl, rfl⟩
theorem d157_17 : mj_At 157 17 (.iconst (-1)) 18 [] (.int (-1)) := ⟨1, (congrArg (fun z => mj_at z 17) f157).trans rfl, rfl⟩
theorem d157_18 : mj_At 157 18 (.ireturn) 19 [0] (.null) := ⟨1, (congrArg (fun z => mj_at z 18) f157).trans rfl, rfl⟩
theorem e157_0 {c : mj_C} {x1 : Int32} {L : Nat} {ps : List (Option (Option Nat))}   : mj_EV 157 0 [some (.ref 52), some (.int x1)] [] (w_al L ps) c = (if (c 52 5) ≤ x1 then (some (some (.int (-1)), (w_al L ps), c)) else (if mj_in x1 80 = true then (some (some (.int (c 56 x1.toNatClampNeg)), (w_al L ps), c)) else none)) := (mj_iload_n d157_0 rfl (mj_aload_n d157_1 rfl (mj_getI d157_2 w_52 rfl (mj_icge d157_5 (mj_iconst d157_17 (mj_iret d157_18)) (mj_aload_n d157_8 rfl (mj_getR d157_9 w_52 rfl (mj_iload_n d157_12 rfl (mj_iald d157_13 w_56 (mj_goto d157_14 (mj_iret d157_18))))))))))
/-- SqueezedLinesModel.isNext(I)Z -/
theorem f158 : mj_cd 158 = mj_c158 := rfl
theorem d158_0 : mj_At 158 0 (.aload_n 0) 1 [0] (.null) := ⟨1, (congrArg (fun z => mj_at z 0) f158).trans rfl, rfl⟩
theorem d158_1 : mj_At 158 1 (.aload_n 0) 2 [0] (.null) := ⟨1, (congrArg (fun z => mj_at z 1) f158).trans rfl, rfl⟩
theorem d158_2 : mj_At 158 2 (.getfield 164) 5 [4, 7, 564] (.null) := ⟨3, (congrArg (fun z => mj_at z 2) f158).trans rfl, rfl⟩
theorem d158_5 : mj_At 158 5 (.invokevirtual 167) 8 [1, 157, 2, 4, 859, 861, 60, 69] (.null) := ⟨3, (congrArg (fun z => mj_at z 5) f158).trans rfl, rfl⟩
theorem d158_8 : mj_At 158 8 (.iload_n 1) 9 [1] (.null) := ⟨1, (congrArg (fun z => mj_at z 8) f158).trans rfl, rfl⟩
theorem d158_9 : mj_At 158 9 (.if_icmp .ne (7)) 12 [16] (.null) := ⟨3, (congrArg (fun z => mj_at z 9) f158).trans rfl, rfl⟩
theorem d158_12 : mj_At 158 12 (.iconst (1)) 13 [] (.int 1) := ⟨1, (congrArg (fun z => mj_at z 12) f158).trans rfl, rfl⟩
theorem d158_13 : mj_At 158 13 (.goto (4)) 16 [17] (.null) := ⟨3, (congrArg (fun z => mj_at z 13) f158).trans rfl, rfl⟩
theorem d158_16 : mj_At 158 16 (.iconst (0)) 17 [] (.int 0) := ⟨1, (congrArg (fun z => mj_at z 16) f158).trans rfl, rfl⟩
theorem d158_17 : mj_At 158 17 (.istore_n 2) 18 [2] (.null) := ⟨1, (congrArg (fun z => mj_at z 17) f158).trans rfl, rfl⟩
theorem d158_18 : mj_At 158 18 (.aload_n 0) 19 [0] (.null) := ⟨1, (congrArg (fun z => mj_at z 18) f158).trans rfl, rfl⟩
theorem d158_19 : mj_At 158 19 (.dup) 20 [] (.null) := ⟨1, (congrArg (fun z => mj_at z 19) f158).trans rfl, rfl⟩
theorem d158_20 : mj_At 158 20 (.getfield 164) 23 [4, 7, 564] (.null) := ⟨3, (congrArg (fun z => mj_at z 20) f158).trans rfl, rfl⟩
theorem d158_23 : mj_At 158 23 (.iload_n 2) 24 [2] (.null) := ⟨1, (congrArg (fun z => mj_at z 23) f158).trans rfl, rfl⟩
theorem d158_24 : mj_At 158 24 (.ifCond .eq (7)) 27 [31] (.null) := ⟨3, (congrArg (fun z => mj_at z 24) f158).trans rfl, rfl⟩
theorem d158_27 : mj_At 158 27 (.iconst (1)) 28 [] (.int 1) := ⟨1, (congrArg (fun z => mj_at z 27) f158).trans rfl, rfl⟩
theorem d158_28 : mj_At 158 28 (.goto (4)) 31 [32] (.null) := ⟨3, (congrArg (fun z => mj_at z 28) f158).trans rfl, rfl⟩
theorem d158_31 : mj_At 158 31 (.iconst (0)) 32 [] (.int 0) := ⟨1, (congrArg (fun z => mj_at z 31) f158).trans rfl, rfl⟩
theorem d158_32 : mj_At 158 32 (.iadd) 33 [] (.null) := ⟨1, (congrArg (fun z => mj_at z 32) f158).trans rfl, rfl⟩
theorem d158_33 : mj_At 158 33 (.putfield 164) 36 [4, 7, 0, 564] (.null) := ⟨3, (congrArg (fun z => mj_at z 33) f158).trans rfl, rfl⟩
theorem d158_36 : mj_At 158 36 (.iload_n 2) 37 [2] (.null) := ⟨1, (congrArg (fun z => mj_at z 36) f158).trans rfl, rfl⟩
theorem d158_37 : mj_At 158 37 (.ireturn) 38 [1] (.null) := ⟨1, (congrArg (fun z => mj_at z 37) f158).trans rfl, rfl⟩
theorem e158_0 {c : mj_C} {x1 : Int32} {L : Nat} {ps : List (Option (Option Nat))}   : mj_EV 158 0 [some (.ref 52), some (.int x1), none] [] (w_al L ps) c = (mj_then 158 8 [some (.ref 52), some (.int x1), none] [] (mj_EV 157 0 [some (.ref 52), some (.int (c 52 7))] [] (w_al L ps) c)) := (mj_aload_n d158_0 rfl (mj_aload_n d158_1 rfl (mj_getI d158_2 w_52 rfl (mj_invV [some (.ref 52), some (.int (c 52 7))] [] d158_5 rfl rfl rfl w_52 rfl rfl))))
theorem e158_8 {c : mj_C} {x1 : Int32} {z0 : Int32} {L : Nat} {ps : List (Option (Option Nat))}   : mj_EV 158 8 [some (.ref 52), some (.int x1), none] [.int z0] (w_al L ps) c = (if z0 = x1 then (if (nI 1) = nI 0 then (some (some (.int (nI 1)), (w_al L ps), (mj_u c 52 7 ((c 52 7) + (nI 0))))) else (some (some (.int (nI 1)), (w_al L ps), (mj_u c 52 7 ((c 52 7) + (nI 1)))))) else (if (nI 0) = nI 0 then (some (some (.int (nI 0)), (w_al L ps), (mj_u c 52 7 ((c 52 7) + (nI 0))))) else (some (some (.int (nI 0)), (w_al L ps), (mj_u c 52 7 ((c 52 7) + (nI 1))))))) := (mj_iload_n d158_8 rfl (mj_icne d158_9 (mj_iconst d158_16 (mj_istore_n [some (.ref 52), some (.int x1), some (.int (nI 0))] d158_17 rfl rfl (mj_aload_n d158_18 rfl (mj_dupR d158_19 (mj_getI d158_20 w_52 rfl (mj_iload_n d158_23 rfl (mj_ifeq d158_24 (mj_iconst d158_31 (mj_iadd d158_32 (mj_putI d158_33 w_52 rfl (mj_iload_n d158_36 rfl (mj_zret0 d158_37))))) (mj_iconst d158_27 (mj_goto d158_28 (mj_iadd d158_32 (mj_putI d158_33 w_52 rfl (mj_iload_n d158_36 rfl (mj_zret0 d158_37))))))))))))) (mj_iconst d158_12 (mj_goto d158_13 (mj_istore_n [some (.ref 52), some (.int x1), some (.int (nI 1))] d158_17 rfl rfl (mj_aload_n d158_18 rfl (mj_dupR d158_19 (mj_getI d158_20 w_52 rfl (mj_iload_n d158_23 rfl (mj_ifeq d158_24 (mj_iconst d158_31 (mj_iadd d158_32 (mj_putI d158_33 w_52 rfl (mj_iload_n d158_36 rfl (mj_zret1 d158_37))))) (mj_iconst d158_27 (mj_goto d158_28 (mj_iadd d158_32 (mj_putI d158_33 w_52 rfl (mj_iload_n d158_36 rfl (mj_zret1 d158_37))))))))))))))))
/-- SqueezedLinesModel.readsDigit(I)Z -/
theorem f159 : mj_cd 159 = mj_c159 := rfl
theorem d159_0 : mj_At 159 0 (.aload_n 0) 1 [0] (.null) := ⟨1, (congrArg (fun z => mj_at z 0) f159).trans rfl, rfl⟩
theorem d159_1 : mj_At 159 1 (.aload_n 0) 2 [0] (.null) := ⟨1, (congrArg (fun z => mj_at z 1) f159).trans rfl, rfl⟩
theorem d159_2 : mj_At 159 2 (.getfield 164) 5 [4, 7, 564] (.null) := ⟨3, (congrArg (fun z => mj_at z 2) f159).trans rfl, rfl⟩
theorem d159_5 : mj_At 159 5 (.invokevirtual 167) 8 [1, 157, 2, 4, 859, 861, 60, 69] (.null) := ⟨3, (congrArg (fun z => mj_at z 5) f159).trans rfl, rfl⟩
theorem d159_8 : mj_At 159 8 (.bipush (48)) 10 [] (.int 48) := ⟨2, (congrArg (fun z => mj_at z 8) f159).trans rfl, rfl⟩
theorem d159_10 : mj_At 159 10 (.bipush (48)) 12 [] (.int 48) := ⟨2, (congrArg (fun z => mj_at z 10) f159).trans rfl, rfl⟩
theorem d159_12 : mj_At 159 12 (.iload_n 1) 13 [1] (.null) := ⟨1, (congrArg (fun z => mj_at z 12) f159).trans rfl, rfl⟩
theorem d159_13 : mj_At 159 13 (.iadd) 14 [] (.null) := ⟨1, (congrArg (fun z => mj_at z 13) f159).trans rfl, rfl⟩
theorem d159_14 : mj_At 159 14 (.invokestatic 33) 17 [0, 93, 3, 595, 596, 69] (.null) := ⟨3, (congrArg (fun z => mj_at z 14) f159).trans rfl, rfl⟩
theorem d159_17 : mj_At 159 17 (.istore_n 2) 18 [2] (.null) := ⟨1, (congrArg (fun z => mj_at z 17) f159).trans rfl, rfl⟩
theorem d159_18 : mj_At 159 18 (.aload_n 0) 19 [0] (.null) := ⟨1, (congrArg (fun z => mj_at z 18) f159).trans rfl, rfl⟩
theorem d159_19 : mj_At 159 19 (.aload_n 0) 20 [0] (.null) := ⟨1, (congrArg (fun z => mj_at z 19) f159).trans rfl, rfl⟩
theorem d159_20 : mj_At 159 20 (.aload_n 0) 21 [0] (.null) := ⟨1, (congrArg (fun z => mj_at z 20) f159).trans rfl, rfl⟩
theorem d159_21 : mj_At 159 21 (.getfield 164) 24 [4, 7, 564] (.null) := ⟨3, (congrArg (fun z => mj_at z 21) f159).trans rfl, rfl⟩
theorem d159_24 : mj_At 159 24 (.invokevirtual 167) 27 [1, 157, 2, 4, 859, 861, 60, 69] (.null) := ⟨3, (congrArg (fun z => mj_at z 24) f159).trans rfl, rfl⟩
theorem d159_27 : mj_At 159 27 (.bipush (48)) 29 [] (.int 48) := ⟨2, (congrArg (fun z => mj_at z 27) f159).trans rfl, rfl⟩
theorem d159_29 : mj_At 159 29 (.isub) 30 [] (.null) := ⟨1, (congrArg (fun z => mj_at z 29) f159).trans rfl, rfl⟩
theorem d159_30 : mj_At 159 30 (.putfield 170) 33 [4, 10, 0, 567] (.null) := ⟨3, (congrArg (fun z => mj_at z 30) f159).trans rfl, rfl⟩
theorem d159_33 : mj_At 159 33 (.aload_n 0) 34 [0] (.null) := ⟨1, (congrArg (fun z => mj_at z 33) f159).trans rfl, rfl⟩
theorem d159_34 : mj_At 159 34 (.dup) 35 [] (.null) := ⟨1, (congrArg (fun z => mj_at z 34) f159).trans rfl, rfl⟩
theorem d159_35 : mj_At 159 35 (.getfield 164) 38 [4, 7, 564] (.null) := ⟨3, (congrArg (fun z => mj_at z 35) f159).trans rfl, rfl⟩
theorem d159_38 : mj_At 159 38 (.iload_n 2) 39 [2] (.null) := ⟨1, (congrArg (fun z => mj_at z 38) f159).trans rfl, rfl⟩
theorem d159_39 : mj_At 159 39 (.ifCond .eq (7)) 42 [46] (.null) := ⟨3, (congrArg (fun z => mj_at z 39) f159).trans rfl, rfl⟩
theorem d159_42 : mj_At 159 42 (.iconst (1)) 43 [] (.int 1) := ⟨1, (congrArg (fun z => mj_at z 42) f159).trans rfl, rfl⟩
theorem d159_43 : mj_At 159 43 (.goto (4)) 46 [47] (.null) := ⟨3, (congrArg (fun z => mj_at z 43) f159).trans rfl, rfl⟩
theorem d159_46 : mj_At 159 46 (.iconst (0)) 47 [] (.int 0) := ⟨1, (congrArg (fun z => mj_at z 46) f159).trans rfl, rfl⟩
theorem d159_47 : mj_At 159 47 (.iadd) 48 [] (.null) := ⟨1, (congrArg (fun z => mj_at z 47) f159).trans rfl, rfl⟩
theorem d159_48 : mj_At 159 48 (.putfield 164) 51 [4, 7, 0, 564] (.null) := ⟨3, (congrArg (fun z => mj_at z 48) f159).trans rfl, rfl⟩
theorem d159_51 : mj_At 159 51 (.iload_n 2) 52 [2] (.null) := ⟨1, (congrArg (fun z => mj_at z 51) f159).trans rfl, rfl⟩
theorem d159_52 : mj_At 159 52 (.ireturn) 53 [1] (.null) := ⟨1, (congrArg (fun z => mj_at z 52) f159).trans rfl, rfl⟩
theorem e159_0 {c : mj_C} {x1 : Int32} {L : Nat} {ps : List (Option (Option Nat))}   : mj_EV 159 0 [some (.ref 52), some (.int x1), none] [] (w_al L ps) c = (mj_then 159 8 [some (.ref 52), some (.int x1), none] [] (mj_EV 157 0 [some (.ref 52), some (.int (c 52 7))] [] (w_al L ps) c)) := (mj_aload_n d159_0 rfl (mj_aload_n d159_1 rfl (mj_getI d159_2 w_52 rfl (mj_invV [some (.ref 52), some (.int (c 52 7))] [] d159_5 rfl rfl rfl w_52 rfl rfl))))
theorem e159_8 {c : mj_C} {x1 : Int32} {z0 : Int32} {L : Nat} {ps : List (Option (Option Nat))}   : mj_EV 159 8 [some (.ref 52), some (.int x1), none] [.int z0] (w_al L ps) c = (mj_then 159 17 [some (.ref 52), some (.int x1), none] [] (mj_EV 93 0 [some (.int z0), some (.int (nI 48)), some (.int ((nI 48) + x1))] [] (w_al L ps) c)) := (mj_bipush d159_8 (mj_bipush d159_10 (mj_iload_n d159_12 rfl (mj_iadd d159_13 (mj_invS [some (.int z0), some (.int (nI 48)), some (.int ((nI 48) + x1))] [] d159_14 (by decide) rfl rfl rfl rfl)))))
theorem e159_17 {c : mj_C} {x1 : Int32} {z0 : Int32} {L : Nat} {ps : List (Option (Option Nat))}   : mj_EV 159 17 [some (.ref 52), some (.int x1), none] [.int z0] (w_al L ps) c = (mj_then 159 27 [some (.ref 52), some (.int x1), some (.int z0)] [.ref 52] (mj_EV 157 0 [some (.ref 52), some (.int (c 52 7))] [] (w_al L ps) c)) := (mj_istore_n [some (.ref 52), some (.int x1), some (.int z0)] d159_17 rfl rfl (mj_aload_n d159_18 rfl (mj_aload_n d159_19 rfl (mj_aload_n d159_20 rfl (mj_getI d159_21 w_52 rfl (mj_invV [some (.ref 52), some (.int (c 52 7))] [.ref 52] d159_24 rfl rfl rfl w_52 rfl rfl))))))
theorem e159_27 {c : mj_C} {x1 : Int32} {x2 : Int32} {z1 : Int32} {L : Nat} {ps : List (Option (Option Nat))}   : mj_EV 159 27 [some (.ref 52), some (.int x1), some (.int x2)] [.int z1, .ref 52] (w_al L ps) c = (if x2 = nI 0 then (if (decide (x2 = nI 0) || decide (x2 = nI 1)) = true then some (some (.int x2), (w_al L ps), (mj_u (mj_u c 52 10 (z1 - (nI 48))) 52 7 (((mj_u c 52 10 (z1 - (nI 48))) 52 7) + (nI 0)))) else none) else (if (decide (x2 = nI 0) || decide (x2 = nI 1)) = true then some (some (.int x2), (w_al L ps), (mj_u (mj_u c 52 10 (z1 - (nI 48))) 52 7 (((mj_u c 52 10 (z1 - (nI 48))) 52 7) + (nI 1)))) else none)) := (mj_bipush d159_27 (mj_isub d159_29 (mj_putI d159_30 w_52 rfl (mj_aload_n d159_33 rfl (mj_dupR d159_34 (mj_getI d159_35 w_52 rfl (mj_iload_n d159_38 rfl (mj_ifeq d159_39 (mj_iconst d159_46 (mj_iadd d159_47 (mj_putI d159_48 w_52 rfl (mj_iload_n d159_51 rfl (mj_zret d159_52))))) (mj_iconst d159_42 (mj_goto d159_43 (mj_iadd d159_47 (mj_putI d159_48 w_52 rfl (mj_iload_n d159_51 rfl (mj_zret d159_52))))))))))))))
/-- SqueezedLinesModel.readsValue()Z -/
theorem f160 : mj_cd 160 = mj_c160 := rfl
theorem d160_0 : mj_At 160 0 (.aload_n 0) 1 [0] (.null) := ⟨1, (congrArg (fun z => mj_at z 0) f160).trans rfl, rfl⟩
theorem d160_1 : mj_At 160 1 (.bipush (9)) 3 [] (.int 9) := ⟨2, (congrArg (fun z => mj_at z 1) f160).trans rfl, rfl⟩
theorem d160_3 : mj_At 160 3 (.invokevirtual 173) 6 [1, 159, 2, 4, 855, 857, 59, 69] (.null) := ⟨3, (congrArg (fun z => mj_at z 3) f160).trans rfl, rfl⟩
theorem d160_6 : mj_At 160 6 (.ifCond .ne (5)) 9 [11] (.null) := ⟨3, (congrArg (fun z => mj_at z 6) f160).trans rfl, rfl⟩
theorem d160_9 : mj_At 160 9 (.iconst (0)) 10 [] (.int 0) := ⟨1, (congrArg (fun z => mj_at z 9) f160).trans rfl, rfl⟩
theorem d160_10 : mj_At 160 10 (.ireturn) 11 [1] (.null) := ⟨1, (congrArg (fun z => mj_at z 10) f160).trans rfl, rfl⟩
theorem d160_11 : mj_At 160 11 (.aload_n 0) 12 [0] (.null) := ⟨1, (congrArg (fun z => mj_at z 11) f160).trans rfl, rfl⟩
theorem d160_12 : mj_At 160 12 (.getfield 170) 15 [4, 10, 567] (.null) := ⟨3, (congrArg (fun z => mj_at z 12) f160).trans rfl, rfl⟩
theorem d160_15 : mj_At 160 15 (.ifCond .le (7)) 18 [22] (.null) := ⟨3, (congrArg (fun z => mj_at z 15) f160).trans rfl, rfl⟩
theorem d160_18 : mj_At 160 18 (.iconst (1)) 19 [] (.int 1) := ⟨1, (congrArg (fun z => mj_at z 18) f160).trans rfl, rfl⟩
theorem d160_19 : mj_At 160 19 (.goto (4)) 22 [23] (.null) := ⟨3, (congrArg (fun z => mj_at z 19) f160).trans rfl, rfl⟩
theorem d160_22 : mj_At 160 22 (.iconst (0)) 23 [] (.int 0) := ⟨1, (congrArg (fun z => mj_at z 22) f160).trans rfl, rfl⟩
theorem d160_23 : mj_At 160 23 (.istore_n 1) 24 [1] (.null) := ⟨1, (congrArg (fun z => mj_at z 23) f160).trans rfl, rfl⟩
theorem d160_24 : mj_At 160 24 (.iload_n 1) 25 [1] (.null) := ⟨1, (congrArg (fun z => mj_at z 24) f160).trans rfl, rfl⟩
theorem d160_25 : mj_At 160 25 (.ifCond .eq (90)) 28 [115] (.null) := ⟨3, (congrArg (fun z => mj_at z 25) f160).trans rfl, rfl⟩
theorem d160_28 : mj_At 160 28 (.bipush (10)) 30 [] (.int 10) := ⟨2, (congrArg (fun z => mj_at z 28) f160).trans rfl, rfl⟩
theorem d160_30 : mj_At 160 30 (.aload_n 0) 31 [0] (.null) := ⟨1, (congrArg (fun z => mj_at z 30) f160).trans rfl, rfl⟩
theorem d160_31 : mj_At 160 31 (.getfield 170) 34 [4, 10, 567] (.null) := ⟨3, (congrArg (fun z => mj_at z 31) f160).trans rfl, rfl⟩
theorem d160_34 : mj_At 160 34 (.imul) 35 [] (.null) := ⟨1, (congrArg (fun z => mj_at z 34) f160).trans rfl, rfl⟩
theorem d160_35 : mj_At 160 35 (.aload_n 0) 36 [0] (.null) := ⟨1, (congrArg (fun z => mj_at z 35) f160).trans rfl, rfl⟩
theorem d160_36 : mj_At 160 36 (.aload_n 0) 37 [0] (.null) := ⟨1, (congrArg (fun z => mj_at z 36) f160).trans rfl, rfl⟩
theorem d160_37 : mj_At 160 37 (.getfield 164) 40 [4, 7, 564] (.null) := ⟨3, (congrArg (fun z => mj_at z 37) f160).trans rfl, rfl⟩
theorem d160_40 : mj_At 160 40 (.invokevirtual 167) 43 [1, 157, 2, 4, 859, 861, 60, 69] (.null) := ⟨3, (congrArg (fun z => mj_at z 40) f160).trans rfl, rfl⟩
theorem d160_43 : mj_At 160 43 (.iadd) 44 [] (.null) := ⟨1, (congrArg (fun z => mj_at z 43) f160).trans rfl, rfl⟩
theorem d160_44 : mj_At 160 44 (.bipush (48)) 46 [] (.int 48) := ⟨2, (congrArg (fun z => mj_at z 44) f160).trans rfl, rfl⟩
theorem d160_46 : mj_At 160 46 (.isub) 47 [] (.null) := ⟨1, (congrArg (fun z => mj_at z 46) f160).trans rfl, rfl⟩
theorem d160_47 : mj_At 160 47 (.istore_n 2) 48 [2] (.null) := ⟨1, (congrArg (fun z => mj_at z 47) f160).trans rfl, rfl⟩
theorem d160_48 : mj_At 160 48 (.aload_n 0) 49 [0] (.null) := ⟨1, (congrArg (fun z => mj_at z 48) f160).trans rfl, rfl⟩
theorem d160_49 : mj_At 160 49 (.aload_n 0) 50 [0] (.null) := ⟨1, (congrArg (fun z => mj_at z 49) f160).trans rfl, rfl⟩
theorem d160_50 : mj_At 160 50 (.getfield 164) 53 [4, 7, 564] (.null) := ⟨3, (congrArg (fun z => mj_at z 50) f160).trans rfl, rfl⟩
theorem d160_53 : mj_At 160 53 (.invokevirtual 167) 56 [1, 157, 2, 4, 859, 861, 60, 69] (.null) := ⟨3, (congrArg (fun z => mj_at z 53) f160).trans rfl, rfl⟩
theorem d160_56 : mj_At 160 56 (.bipush (48)) 58 [] (.int 48) := ⟨2, (congrArg (fun z => mj_at z 56) f160).trans rfl, rfl⟩
theorem d160_58 : mj_At 160 58 (.bipush (57)) 60 [] (.int 57) := ⟨2, (congrArg (fun z => mj_at z 58) f160).trans rfl, rfl⟩
theorem d160_60 : mj_At 160 60 (.invokestatic 33) 63 [0, 93, 3, 595, 596, 69] (.null) := ⟨3, (congrArg (fun z => mj_at z 60) f160).trans rfl, rfl⟩
theorem d160_63 : mj_At 160 63 (.ifCond .eq (13)) 66 [76] (.null) := ⟨3, (congrArg (fun z => mj_at z 63) f160).trans rfl, rfl⟩
theorem d160_66 : mj_At 160 66 (.iload_n 2) 67 [2] (.null) := ⟨1, (congrArg (fun z => mj_at z 66) f160).trans rfl, rfl⟩
theorem d160_67 : mj_At 160 67 (.ldc 41) 69 [634] (.int 65535) := ⟨2, (congrArg (fun z => mj_at z 67) f160).trans rfl, rfl⟩
theorem d160_69 : mj_At 160 69 (.if_icmp .gt (7)) 72 [76] (.null) := ⟨3, (congrArg (fun z => mj_at z 69) f160).trans rfl, rfl⟩
theorem d160_72 : mj_At 160 72 (.iconst (1)) 73 [] (.int 1) := ⟨1, (congrArg (fun z => mj_at z 72) f160).trans rfl, rfl⟩
theorem d160_73 : mj_At 160 73 (.goto (4)) 76 [77] (.null) := ⟨3, (congrArg (fun z => mj_at z 73) f160).trans rfl, rfl⟩
theorem d160_76 : mj_At 160 76 (.iconst (0)) 77 [] (.int 0) := ⟨1, (congrArg (fun z => mj_at z 76) f160).trans rfl, rfl⟩
theorem d160_77 : mj_At 160 77 (.istore_n 1) 78 [1] (.null) := ⟨1, (congrArg (fun z => mj_at z 77) f160).trans rfl, rfl⟩
theorem d160_78 : mj_At 160 78 (.aload_n 0) 79 [0] (.null) := ⟨1, (congrArg (fun z => mj_at z 78) f160).trans rfl, rfl⟩
theorem d160_79 : mj_At 160 79 (.iload_n 1) 80 [1] (.null) := ⟨1, (congrArg (fun z => mj_at z 79) f160).trans rfl, rfl⟩
theorem d160_80 : mj_At 160 80 (.ifCond .eq (7)) 83 [87] (.null) := ⟨3, (congrArg (fun z => mj_at z 80) f160).trans rfl, rfl⟩
theorem d160_83 : mj_At 160 83 (.iload_n 2) 84 [2] (.null) := ⟨1, (congrArg (fun z => mj_at z 83) f160).trans rfl, rfl⟩
theorem d160_84 : mj_At 160 84 (.goto (7)) 87 [91] (.null) := ⟨3, (congrArg (fun z => mj_at z 84) f160).trans rfl, rfl⟩
theorem d160_87 : mj_At 160 87 (.aload_n 0) 88 [0] (.null) := ⟨1, (congrArg (fun z => mj_at z 87) f160).trans rfl, rfl⟩
theorem d160_88 : mj_At 160 88 (.getfield 170) 91 [4, 10, 567] (.null) := ⟨3, (congrArg (fun z => mj_at z 88) f160).trans rfl, rfl⟩
theorem d160_91 : mj_At 160 91 (.putfield 170) 94 [4, 10, 0, 567] (.null) := ⟨3, (congrArg (fun z => mj_at z 91) f160).trans rfl, rfl⟩
theorem d160_94 : mj_At 160 94 (.aload_n 0) 95 [0] (.null) := ⟨1, (congrArg (fun z => mj_at z 94) f160).trans rfl, rfl⟩
theorem d160_95 : mj_At 160 95 (.dup) 96 [] (.null) := ⟨1, (congrArg (fun z => mj_at z 95) f160).trans rfl, rfl⟩
theorem d160_96 : mj_At 160 96 (.getfield 164) 99 [4, 7, 564] (.null) := ⟨3, (congrArg (fun z => mj_at z 96) f160).trans rfl, rfl⟩
theorem d160_99 : mj_At 160 99 (.iload_n 1) 100 [1] (.null) := ⟨1, (congrArg (fun z => mj_at z 99) f160).trans rfl, rfl⟩
theorem d160_100 : mj_At 160 100 (.ifCond .eq (7)) 103 [107] (.null) := ⟨3, (congrArg (fun z => mj_at z 100) f160).trans rfl, rfl⟩
theorem d160_103 : mj_At 160 103 (.iconst (1)) 104 [] (.int 1) := ⟨1, (congrArg (fun z => mj_at z 103) f160).trans rfl, rfl⟩
theorem d160_104 : mj_At 160 104 (.goto (4)) 107 [108] (.null) := ⟨3, (congrArg (fun z => mj_at z 104) f160).trans rfl, rfl⟩
theorem d160_107 : mj_At 160 107 (.iconst (0)) 108 [] (.int 0) := ⟨1, (congrArg (fun z => mj_at z 107) f160).trans rfl, rfl⟩
theorem d160_108 : mj_At 160 108 (.iadd) 109 [] (.null) := ⟨1, (congrArg (fun z => mj_at z 108) f160).trans rfl, rfl⟩
theorem d160_109 : mj_At 160 109 (.putfield 164) 112 [4, 7, 0, 564] (.null) := ⟨3, (congrArg (fun z => mj_at z 109) f160).trans rfl, rfl⟩
theorem d160_112 : mj_At 160 112 (.goto (-88)) 115 [24] (.null) := ⟨3, (congrArg (fun z => mj_at z 112) f160).trans rfl, rfl⟩
theorem d160_115 : mj_At 160 115 (.iconst (1)) 116 [] (.int 1) := ⟨1, (congrArg (fun z => mj_at z 115) f160).trans rfl, rfl⟩
theorem d160_116 : mj_At 160 116 (.ireturn) 117 [1] (.null) := ⟨1, (congrArg (fun z => mj_at z 116) f160).trans rfl, rfl⟩
theorem e160_0 {c : mj_C}  {L : Nat} {ps : List (Option (Option Nat))}   : mj_EV 160 0 [some (.ref 52), none, none] [] (w_al L ps) c = (mj_then 160 6 [some (.ref 52), none, none] [] (mj_EV 159 0 [some (.ref 52), some (.int (nI 9)), none] [] (w_al L ps) c)) := (mj_aload_n d160_0 rfl (mj_bipush d160_1 (mj_invV [some (.ref 52), some (.int (nI 9)), none] [] d160_3 rfl rfl rfl w_52 rfl rfl)))
theorem e160_6 {c : mj_C} {z0 : Int32} {L : Nat} {ps : List (Option (Option Nat))}   : mj_EV 160 6 [some (.ref 52), none, none] [.int z0] (w_al L ps) c = (if z0 = nI 0 then (some (some (.int (nI 0)), (w_al L ps), c)) else (if (c 52 10) ≤ nI 0 then mj_EV 160 24 [some (.ref 52), some (.int (nI 0)), none] [] (w_al L ps) c else mj_EV 160 24 [some (.ref 52), some (.int (nI 1)), none] [] (w_al L ps) c)) := (mj_ifne d160_6 (mj_aload_n d160_11 rfl (mj_getI d160_12 w_52 rfl (mj_ifle d160_15 (mj_iconst d160_22 (mj_istore_n [some (.ref 52), some (.int (nI 0)), none] d160_23 rfl rfl rfl)) (mj_iconst d160_18 (mj_goto d160_19 (mj_istore_n [some (.ref 52), some (.int (nI 1)), none] d160_23 rfl rfl rfl)))))) (mj_iconst d160_9 (mj_zret0 d160_10)))
theorem e160_24 {c : mj_C} {x1 : Int32} {o2 : Option Value} {L : Nat} {ps : List (Option (Option Nat))}   : mj_EV 160 24 [some (.ref 52), some (.int x1), o2] [] (w_al L ps) c = (if x1 = nI 0 then (some (some (.int (nI 1)), (w_al L ps), c)) else (mj_then 160 43 [some (.ref 52), some (.int x1), o2] [.int ((nI 10) * (c 52 10))] (mj_EV 157 0 [some (.ref 52), some (.int (c 52 7))] [] (w_al L ps) c))) := (mj_iload_n d160_24 rfl (mj_ifeq d160_25 (mj_iconst d160_115 (mj_zret1 d160_116)) (mj_bipush d160_28 (mj_aload_n d160_30 rfl (mj_getI d160_31 w_52 rfl (mj_imul d160_34 (mj_aload_n d160_35 rfl (mj_aload_n d160_36 rfl (mj_getI d160_37 w_52 rfl (mj_invV [some (.ref 52), some (.int (c 52 7))] [.int ((nI 10) * (c 52 10))] d160_40 rfl rfl rfl w_52 rfl rfl))))))))))
theorem e160_43 {c : mj_C} {x1 : Int32} {o2 : Option Value} {z0 : Int32} {z1 : Int32} {L : Nat} {ps : List (Option (Option Nat))}   : mj_EV 160 43 [some (.ref 52), some (.int x1), o2] [.int z1, .int z0] (w_al L ps) c = (mj_then 160 56 [some (.ref 52), some (.int x1), some (.int ((z0 + z1) - (nI 48)))] [] (mj_EV 157 0 [some (.ref 52), some (.int (c 52 7))] [] (w_al L ps) c)) := (mj_iadd d160_43 (mj_bipush d160_44 (mj_isub d160_46 (mj_istore_n [some (.ref 52), some (.int x1), some (.int ((z0 + z1) - (nI 48)))] d160_47 rfl rfl (mj_aload_n d160_48 rfl (mj_aload_n d160_49 rfl (mj_getI d160_50 w_52 rfl (mj_invV [some (.ref 52), some (.int (c 52 7))] [] d160_53 rfl rfl rfl w_52 rfl rfl))))))))
theorem e160_56 {c : mj_C} {x1 : Int32} {x2 : Int32} {z0 : Int32} {L : Nat} {ps : List (Option (Option Nat))}   : mj_EV 160 56 [some (.ref 52), some (.int x1), some (.int x2)] [.int z0] (w_al L ps) c = (mj_then 160 63 [some (.ref 52), some (.int x1), some (.int x2)] [] (mj_EV 93 0 [some (.int z0), some (.int (nI 48)), some (.int (nI 57))] [] (w_al L ps) c)) := (mj_bipush d160_56 (mj_bipush d160_58 (mj_invS [some (.int z0), some (.int (nI 48)), some (.int (nI 57))] [] d160_60 (by decide) rfl rfl rfl rfl)))
theorem e160_63 {c : mj_C} {x1 : Int32} {x2 : Int32} {z0 : Int32} {L : Nat} {ps : List (Option (Option Nat))}   : mj_EV 160 63 [some (.ref 52), some (.int x1), some (.int x2)] [.int z0] (w_al L ps) c = (if z0 = nI 0 then mj_EV 160 76 [some (.ref 52), some (.int x1), some (.int x2)] [] (w_al L ps) c else (if (nI 65535) < x2 then mj_EV 160 76 [some (.ref 52), some (.int x1), some (.int x2)] [] (w_al L ps) c else mj_EV 160 77 [some (.ref 52), some (.int x1), some (.int x2)] [.int (nI 1)] (w_al L ps) c)) := (mj_ifeq d160_63 rfl (mj_iload_n d160_66 rfl (mj_ldc d160_67 (mj_icgt d160_69 rfl (mj_iconst d160_72 (mj_goto d160_73 rfl))))))
theorem e160_76 {c : mj_C} {x1 : Int32} {x2 : Int32} {L : Nat} {ps : List (Option (Option Nat))}   : mj_EV 160 76 [some (.ref 52), some (.int x1), some (.int x2)] [] (w_al L ps) c = mj_EV 160 77 [some (.ref 52), some (.int x1), some (.int x2)] [.int (nI 0)] (w_al L ps) c := (mj_iconst d160_76 rfl)
theorem e160_77 {c : mj_C} {x1 : Int32} {x2 : Int32} {z0 : Int32} {L : Nat} {ps : List (Option (Option Nat))}   : mj_EV 160 77 [some (.ref 52), some (.int x1), some (.int x2)] [.int z0] (w_al L ps) c = (if z0 = nI 0 then (if z0 = nI 0 then mj_EV 160 24 [some (.ref 52), some (.int z0), some (.int x2)] [] (w_al L ps) (mj_u (mj_u c 52 10 (c 52 10)) 52 7 (((mj_u c 52 10 (c 52 10)) 52 7) + (nI 0))) else mj_EV 160 24 [some (.ref 52), some (.int z0), some (.int x2)] [] (w_al L ps) (mj_u (mj_u c 52 10 (c 52 10)) 52 7 (((mj_u c 52 10 (c 52 10)) 52 7) + (nI 1)))) else (if z0 = nI 0 then mj_EV 160 24 [some (.ref 52), some (.int z0), some (.int x2)] [] (w_al L ps) (mj_u (mj_u c 52 10 x2) 52 7 (((mj_u c 52 10 x2) 52 7) + (nI 0))) else mj_EV 160 24 [some (.ref 52), some (.int z0), some (.int x2)] [] (w_al L ps) (mj_u (mj_u c 52 10 x2) 52 7 (((mj_u c 52 10 x2) 52 7) + (nI 1))))) := (mj_istore_n [some (.ref 52), some (.int z0), some (.int x2)] d160_77 rfl rfl (mj_aload_n d160_78 rfl (mj_iload_n d160_79 rfl (mj_ifeq d160_80 (mj_aload_n d160_87 rfl (mj_getI d160_88 w_52 rfl (mj_putI d160_91 w_52 rfl (mj_aload_n d160_94 rfl (mj_dupR d160_95 (mj_getI d160_96 w_52 rfl (mj_iload_n d160_99 rfl (mj_ifeq d160_100 (mj_iconst d160_107 (mj_iadd d160_108 (mj_putI d160_109 w_52 rfl (mj_goto d160_112 rfl)))) (mj_iconst d160_103 (mj_goto d160_104 (mj_iadd d160_108 (mj_putI d160_109 w_52 rfl (mj_goto d160_112 rfl))))))))))))) (mj_iload_n d160_83 rfl (mj_goto d160_84 (mj_putI d160_91 w_52 rfl (mj_aload_n d160_94 rfl (mj_dupR d160_95 (mj_getI d160_96 w_52 rfl (mj_iload_n d160_99 rfl (mj_ifeq d160_100 (mj_iconst d160_107 (mj_iadd d160_108 (mj_putI d160_109 w_52 rfl (mj_goto d160_112 rfl)))) (mj_iconst d160_103 (mj_goto d160_104 (mj_iadd d160_108 (mj_putI d160_109 w_52 rfl (mj_goto d160_112 rfl)))))))))))))))))
/-- SqueezedLinesModel.readsEntry()Z -/
theorem f161 : mj_cd 161 = mj_c161 := rfl
theorem d161_0 : mj_At 161 0 (.aload_n 0) 1 [0] (.null) := ⟨1, (congrArg (fun z => mj_at z 0) f161).trans rfl, rfl⟩
theorem d161_1 : mj_At 161 1 (.bipush (9)) 3 [] (.int 9) := ⟨2, (congrArg (fun z => mj_at z 1) f161).trans rfl, rfl⟩
theorem d161_3 : mj_At 161 3 (.invokevirtual 173) 6 [1, 159, 2, 4, 855, 857, 59, 69] (.null) := ⟨3, (congrArg (fun z => mj_at z 3) f161).trans rfl, rfl⟩
theorem d161_6 : mj_At 161 6 (.istore_n 1) 7 [1] (.null) := ⟨1, (congrArg (fun z => mj_at z 6) f161).trans rfl, rfl⟩
theorem d161_7 : mj_At 161 7 (.aload_n 0) 8 [0] (.null) := ⟨1, (congrArg (fun z => mj_at z 7) f161).trans rfl, rfl⟩
theorem d161_8 : mj_At 161 8 (.aload_n 0) 9 [0] (.null) := ⟨1, (congrArg (fun z => mj_at z 8) f161).trans rfl, rfl⟩
theorem d161_9 : mj_At 161 9 (.getfield 170) 12 [4, 10, 567] (.null) := ⟨3, (congrArg (fun z => mj_at z 9) f161).trans rfl, rfl⟩
theorem d161_12 : mj_At 161 12 (.putfield 176) 15 [4, 8, 0, 565] (.null) := ⟨3, (congrArg (fun z => mj_at z 12) f161).trans rfl, rfl⟩
theorem d161_15 : mj_At 161 15 (.iload_n 1) 16 [1] (.null) := ⟨1, (congrArg (fun z => mj_at z 15) f161).trans rfl, rfl⟩
theorem d161_16 : mj_At 161 16 (.ifCond .eq (25)) 19 [41] (.null) := ⟨3, (congrArg (fun z => mj_at z 16) f161).trans rfl, rfl⟩
theorem d161_19 : mj_At 161 19 (.aload_n 0) 20 [0] (.null) := ⟨1, (congrArg (fun z => mj_at z 19) f161).trans rfl, rfl⟩
theorem d161_20 : mj_At 161 20 (.bipush (58)) 22 [] (.int 58) := ⟨2, (congrArg (fun z => mj_at z 20) f161).trans rfl, rfl⟩
theorem d161_22 : mj_At 161 22 (.invokevirtual 179) 25 [1, 158, 2, 4, 863, 865, 61, 69] (.null) := ⟨3, (congrArg (fun z => mj_at z 22) f161).trans rfl, rfl⟩
theorem d161_25 : mj_At 161 25 (.ifCond .eq (16)) 28 [41] (.null) := ⟨3, (congrArg (fun z => mj_at z 25) f161).trans rfl, rfl⟩
theorem d161_28 : mj_At 161 28 (.aload_n 0) 29 [0] (.null) := ⟨1, (congrArg (fun z => mj_at z 28) f161).trans rfl, rfl⟩
theorem d161_29 : mj_At 161 29 (.bipush (7)) 31 [] (.int 7) := ⟨2, (congrArg (fun z => mj_at z 29) f161).trans rfl, rfl⟩
theorem d161_31 : mj_At 161 31 (.invokevirtual 173) 34 [1, 159, 2, 4, 855, 857, 59, 69] (.null) := ⟨3, (congrArg (fun z => mj_at z 31) f161).trans rfl, rfl⟩
theorem d161_34 : mj_At 161 34 (.ifCond .eq (7)) 37 [41] (.null) := ⟨3, (congrArg (fun z => mj_at z 34) f161).trans rfl, rfl⟩
theorem d161_37 : mj_At 161 37 (.iconst (1)) 38 [] (.int 1) := ⟨1, (congrArg (fun z => mj_at z 37) f161).trans rfl, rfl⟩
theorem d161_38 : mj_At 161 38 (.goto (4)) 41 [42] (.null) := ⟨3, (congrArg (fun z => mj_at z 38) f161).trans rfl, rfl⟩
theorem d161_41 : mj_At 161 41 (.iconst (0)) 42 [] (.int 0) := ⟨1, (congrArg (fun z => mj_at z 41) f161).trans rfl, rfl⟩
theorem d161_42 : mj_At 161 42 (.istore_n 1) 43 [1] (.null) := ⟨1, (congrArg (fun z => mj_at z 42) f161).trans rfl, rfl⟩
theorem d161_43 : mj_At 161 43 (.aload_n 0) 44 [0] (.null) := ⟨1, (congrArg (fun z => mj_at z 43) f161).trans rfl, rfl⟩
theorem d161_44 : mj_At 161 44 (.aload_n 0) 45 [0] (.null) := ⟨1, (congrArg (fun z => mj_at z 44) f161).trans rfl, rfl⟩
theorem d161_45 : mj_At 161 45 (.getfield 170) 48 [4, 10, 567] (.null) := ⟨3, (congrArg (fun z => mj_at z 45) f161).trans rfl, rfl⟩
theorem d161_48 : mj_At 161 48 (.putfield 182) 51 [4, 9, 0, 566] (.null) := ⟨3, (congrArg (fun z => mj_at z 48) f161).trans rfl, rfl⟩
theorem d161_51 : mj_At 161 51 (.iload_n 1) 52 [1] (.null) := ⟨1, (congrArg (fun z => mj_at z 51) f161).trans rfl, rfl⟩
theorem d161_52 : mj_At 161 52 (.ifCond .eq (19)) 55 [71] (.null) := ⟨3, (congrArg (fun z => mj_at z 52) f161).trans rfl, rfl⟩
theorem d161_55 : mj_At 161 55 (.aload_n 0) 56 [0] (.null) := ⟨1, (congrArg (fun z => mj_at z 55) f161).trans rfl, rfl⟩
theorem d161_56 : mj_At 161 56 (.bipush (61)) 58 [] (.int 61) := ⟨2, (congrArg (fun z => mj_at z 56) f161).trans rfl, rfl⟩
theorem d161_58 : mj_At 161 58 (.invokevirtual 179) 61 [1, 158, 2, 4, 863, 865, 61, 69] (.null) := ⟨3, (congrArg (fun z => mj_at z 58) f161).trans rfl, rfl⟩
theorem d161_61 : mj_At 161 61 (.ifCond .eq (10)) 64 [71] (.null) := ⟨3, (congrArg (fun z => mj_at z 61) f161).trans rfl, rfl⟩
theorem d161_64 : mj_At 161 64 (.aload_n 0) 65 [0] (.null) := ⟨1, (congrArg (fun z => mj_at z 64) f161).trans rfl, rfl⟩
theorem d161_65 : mj_At 161 65 (.invokevirtual 185) 68 [1, 160, 1, 4, 867, 869, 62, 69] (.null) := ⟨3, (congrArg (fun z => mj_at z 65) f161).trans rfl, rfl⟩
theorem d161_68 : mj_At 161 68 (.ifCond .ne (5)) 71 [73] (.null) := ⟨3, (congrArg (fun z => mj_at z 68) f161).trans rfl, rfl⟩
theorem d161_71 : mj_At 161 71 (.iconst (0)) 72 [] (.int 0) := ⟨1, (congrArg (fun z => mj_at z 71) f161).trans rfl, rfl⟩
theorem d161_72 : mj_At 161 72 (.ireturn) 73 [1] (.null) := ⟨1, (congrArg (fun z => mj_at z 72) f161).trans rfl, rfl⟩
theorem d161_73 : mj_At 161 73 (.aload_n 0) 74 [0] (.null) := ⟨1, (congrArg (fun z => mj_at z 73) f161).trans rfl, rfl⟩
theorem d161_74 : mj_At 161 74 (.bipush (42)) 76 [] (.int 42) := ⟨2, (congrArg (fun z => mj_at z 74) f161).trans rfl, rfl⟩
theorem d161_76 : mj_At 161 76 (.invokevirtual 179) 79 [1, 158, 2, 4, 863, 865, 61, 69] (.null) := ⟨3, (congrArg (fun z => mj_at z 76) f161).trans rfl, rfl⟩
theorem d161_79 : mj_At 161 79 (.ifCond .eq (29)) 82 [108] (.null) := ⟨3, (congrArg (fun z => mj_at z 79) f161).trans rfl, rfl⟩
theorem d161_82 : mj_At 161 82 (.iconst (0)) 83 [] (.int 0) := ⟨1, (congrArg (fun z => mj_at z 82) f161).trans rfl, rfl⟩
theorem d161_83 : mj_At 161 83 (.istore_n 2) 84 [2] (.null) := ⟨1, (congrArg (fun z => mj_at z 83) f161).trans rfl, rfl⟩
theorem d161_84 : mj_At 161 84 (.iload_n 2) 85 [2] (.null) := ⟨1, (congrArg (fun z => mj_at z 84) f161).trans rfl, rfl⟩
theorem d161_85 : mj_At 161 85 (.bipush (8)) 87 [] (.int 8) := ⟨2, (congrArg (fun z => mj_at z 85) f161).trans rfl, rfl⟩
theorem d161_87 : mj_At 161 87 (.if_icmp .ge (19)) 90 [106] (.null) := ⟨3, (congrArg (fun z => mj_at z 87) f161).trans rfl, rfl⟩
theorem d161_90 : mj_At 161 90 (.aload_n 0) 91 [0] (.null) := ⟨1, (congrArg (fun z => mj_at z 90) f161).trans rfl, rfl⟩
theorem d161_91 : mj_At 161 91 (.getfield 22) 94 [4, 6, 563] (.null) := ⟨3, (congrArg (fun z => mj_at z 91) f161).trans rfl, rfl⟩
theorem d161_94 : mj_At 161 94 (.iload_n 2) 95 [2] (.null) := ⟨1, (congrArg (fun z => mj_at z 94) f161).trans rfl, rfl⟩
theorem d161_95 : mj_At 161 95 (.aload_n 0) 96 [0] (.null) := ⟨1, (congrArg (fun z => mj_at z 95) f161).trans rfl, rfl⟩
theorem d161_96 : mj_At 161 96 (.getfield 170) 99 [4, 10, 567] (.null) := ⟨3, (congrArg (fun z => mj_at z 96) f161).trans rfl, rfl⟩
theorem d161_99 : mj_At 161 99 (.iastore) 100 [] (.null) := ⟨1, (congrArg (fun z => mj_at z 99) f161).trans rfl, rfl⟩
theorem d161_100 : mj_At 161 100 (.iinc 2 (1)) 103 [2] (.int 1) := ⟨3, (congrArg (fun z => mj_at z 100) f161).trans rfl, rfl⟩
theorem d161_103 : mj_At 161 103 (.goto (-19)) 106 [84] (.null) := ⟨3, (congrArg (fun z => mj_at z 103) f161).trans rfl, rfl⟩
theorem d161_106 : mj_At 161 106 (.iconst (1)) 107 [] (.int 1) := ⟨1, (congrArg (fun z => mj_at z 106) f161).trans rfl, rfl⟩
theorem d161_107 : mj_At 161 107 (.ireturn) 108 [1] (.null) := ⟨1, (congrArg (fun z => mj_at z 107) f161).trans rfl, rfl⟩
theorem d161_108 : mj_At 161 108 (.aload_n 0) 109 [0] (.null) := ⟨1, (congrArg (fun z => mj_at z 108) f161).trans rfl, rfl⟩
theorem d161_109 : mj_At 161 109 (.getfield 22) 112 [4, 6, 563] (.null) := ⟨3, (congrArg (fun z => mj_at z 109) f161).trans rfl, rfl⟩
theorem d161_112 : mj_At 161 112 (.iconst (0)) 113 [] (.int 0) := ⟨1, (congrArg (fun z => mj_at z 112) f161).trans rfl, rfl⟩
theorem d161_113 : mj_At 161 113 (.aload_n 0) 114 [0] (.null) := ⟨1, (congrArg (fun z => mj_at z 113) f161).trans rfl, rfl⟩
theorem d161_114 : mj_At 161 114 (.getfield 170) 117 [4, 10, 567] (.null) := ⟨3, (congrArg (fun z => mj_at z 114) f161).trans rfl, rfl⟩
theorem d161_117 : mj_At 161 117 (.iastore) 118 [] (.null) := ⟨1, (congrArg (fun z => mj_at z 117) f161).trans rfl, rfl⟩
theorem d161_118 : mj_At 161 118 (.iconst (1)) 119 [] (.int 1) := ⟨1, (congrArg (fun z => mj_at z 118) f161).trans rfl, rfl⟩
theorem d161_119 : mj_At 161 119 (.istore_n 2) 120 [2] (.null) := ⟨1, (congrArg (fun z => mj_at z 119) f161).trans rfl, rfl⟩
theorem d161_120 : mj_At 161 120 (.iload_n 2) 121 [2] (.null) := ⟨1, (congrArg (fun z => mj_at z 120) f161).trans rfl, rfl⟩
theorem d161_121 : mj_At 161 121 (.bipush (8)) 123 [] (.int 8) := ⟨2, (congrArg (fun z => mj_at z 121) f161).trans rfl, rfl⟩
theorem d161_123 : mj_At 161 123 (.if_icmp .ge (37)) 126 [160] (.null) := ⟨3, (congrArg (fun z => mj_at z 123) f161).trans rfl, rfl⟩
theorem d161_126 : mj_At 161 126 (.aload_n 0) 127 [0] (.null) := ⟨1, (congrArg (fun z => mj_at z 126) f161).trans rfl, rfl⟩
theorem d161_127 : mj_At 161 127 (.bipush (44)) 129 [] (.int 44) := ⟨2, (congrArg (fun z => mj_at z 127) f161).trans rfl, rfl⟩
theorem d161_129 : mj_At 161 129 (.invokevirtual 179) 132 [1, 158, 2, 4, 863, 865, 61, 69] (.null) := ⟨3, (congrArg (fun z => mj_at z 129) f161).trans rfl, rfl⟩
theorem d161_132 : mj_At 161 132 (.ifCond .eq (10)) 135 [142] (.null) := ⟨3, (congrArg (fun z => mj_at z 132) f161).trans rfl, rfl⟩
theorem d161_135 : mj_At 161 135 (.aload_n 0) 136 [0] (.null) := ⟨1, (congrArg (fun z => mj_at z 135) f161).trans rfl, rfl⟩
theorem d161_136 : mj_At 161 136 (.invokevirtual 185) 139 [1, 160, 1, 4, 867, 869, 62, 69] (.null) := ⟨3, (congrArg (fun z => mj_at z 136) f161).trans rfl, rfl⟩
theorem d161_139 : mj_At 161 139 (.ifCond .ne (5)) 142 [144] (.null) := ⟨3, (congrArg (fun z => mj_at z 139) f161).trans rfl, rfl⟩
theorem d161_142 : mj_At 161 142 (.iconst (0)) 143 [] (.int 0) := ⟨1, (congrArg (fun z => mj_at z 142) f161).trans rfl, rfl⟩
theorem d161_143 : mj_At 161 143 (.ireturn) 144 [1] (.null) := ⟨1, (congrArg (fun z => mj_at z 143) f161).trans rfl, rfl⟩
theorem d161_144 : mj_At 161 144 (.aload_n 0) 145 [0] (.null) := ⟨1, (congrArg (fun z => mj_at z 144) f161).trans rfl, rfl⟩
theorem d161_145 : mj_At 161 145 (.getfield 22) 148 [4, 6, 563] (.null) := ⟨3, (congrArg (fun z => mj_at z 145) f161).trans rfl, rfl⟩
theorem d161_148 : mj_At 161 148 (.iload_n 2) 149 [2] (.null) := ⟨1, (congrArg (fun z => mj_at z 148) f161).trans rfl, rfl⟩
theorem d161_149 : mj_At 161 149 (.aload_n 0) 150 [0] (.null) := ⟨1, (congrArg (fun z => mj_at z 149) f161).trans rfl, rfl⟩
theorem d161_150 : mj_At 161 150 (.getfield 170) 153 [4, 10, 567] (.null) := ⟨3, (congrArg (fun z => mj_at z 150) f161).trans rfl, rfl⟩
theorem d161_153 : mj_At 161 153 (.iastore) 154 [] (.null) := ⟨1, (congrArg (fun z => mj_at z 153) f161).trans rfl, rfl⟩
theorem d161_154 : mj_At 161 154 (.iinc 2 (1)) 157 [2] (.int 1) := ⟨3, (congrArg (fun z => mj_at z 154) f161).trans rfl, rfl⟩
theorem d161_157 : mj_At 161 157 (.goto (-37)) 160 [120] (.null) := ⟨3, (congrArg (fun z => mj_at z 157) f161).trans rfl, rfl⟩
theorem d161_160 : mj_At 161 160 (.iconst (1)) 161 [] (.int 1) := ⟨1, (congrArg (fun z => mj_at z 160) f161).trans rfl, rfl⟩
theorem d161_161 : mj_At 161 161 (.ireturn) 162 [1] (.null) := ⟨1, (congrArg (fun z => mj_at z 161) f161).trans rfl, rfl⟩
theorem e161_0 {c : mj_C}  {L : Nat} {ps : List (Option (Option Nat))}   : mj_EV 161 0 [some (.ref 52), none, none] [] (w_al L ps) c = (mj_then 161 6 [some (.ref 52), none, none] [] (mj_EV 159 0 [some (.ref 52), some (.int (nI 9)), none] [] (w_al L ps) c)) := (mj_aload_n d161_0 rfl (mj_bipush d161_1 (mj_invV [some (.ref 52), some (.int (nI 9)), none] [] d161_3 rfl rfl rfl w_52 rfl rfl)))
theorem e161_6 {c : mj_C} {z0 : Int32} {L : Nat} {ps : List (Option (Option Nat))}   : mj_EV 161 6 [some (.ref 52), none, none] [.int z0] (w_al L ps) c = (if z0 = nI 0 then (if (nI 0) = nI 0 then (some (some (.int (nI 0)), (w_al L ps), (mj_u (mj_u c 52 8 (c 52 10)) 52 9 ((mj_u c 52 8 (c 52 10)) 52 10)))) else (mj_then 161 61 [some (.ref 52), some (.int (nI 0)), none] [] (mj_EV 158 0 [some (.ref 52), some (.int (nI 61)), none] [] (w_al L ps) (mj_u (mj_u c 52 8 (c 52 10)) 52 9 ((mj_u c 52 8 (c 52 10)) 52 10))))) else (mj_then 161 25 [some (.ref 52), some (.int z0), none] [] (mj_EV 158 0 [some (.ref 52), some (.int (nI 58)), none] [] (w_al L ps) (mj_u c 52 8 (c 52 10))))) := (mj_istore_n [some (.ref 52), some (.int z0), none] d161_6 rfl rfl (mj_aload_n d161_7 rfl (mj_aload_n d161_8 rfl (mj_getI d161_9 w_52 rfl (mj_putI d161_12 w_52 rfl (mj_iload_n d161_15 rfl (mj_ifeq d161_16 (mj_iconst d161_41 (mj_istore_n [some (.ref 52), some (.int (nI 0)), none] d161_42 rfl rfl (mj_aload_n d161_43 rfl (mj_aload_n d161_44 rfl (mj_getI d161_45 w_52 rfl (mj_putI d161_48 w_52 rfl (mj_iload_n d161_51 rfl (mj_ifeq d161_52 (mj_iconst d161_71 (mj_zret0 d161_72)) (mj_aload_n d161_55 rfl (mj_bipush d161_56 (mj_invV [some (.ref 52), some (.int (nI 61)), none] [] d161_58 rfl rfl rfl w_52 rfl rfl))))))))))) (mj_aload_n d161_19 rfl (mj_bipush d161_20 (mj_invV [some (.ref 52), some (.int (nI 58)), none] [] d161_22 rfl rfl rfl w_52 rfl rfl))))))))))
theorem e161_25 {c : mj_C} {x1 : Int32} {z0 : Int32} {L : Nat} {ps : List (Option (Option Nat))}   : mj_EV 161 25 [some (.ref 52), some (.int x1), none] [.int z0] (w_al L ps) c = (if z0 = nI 0 then (if (nI 0) = nI 0 then (some (some (.int (nI 0)), (w_al L ps), (mj_u c 52 9 (c 52 10)))) else (mj_then 161 61 [some (.ref 52), some (.int (nI 0)), none] [] (mj_EV 158 0 [some (.ref 52), some (.int (nI 61)), none] [] (w_al L ps) (mj_u c 52 9 (c 52 10))))) else (mj_then 161 34 [some (.ref 52), some (.int x1), none] [] (mj_EV 159 0 [some (.ref 52), some (.int (nI 7)), none] [] (w_al L ps) c))) := (mj_ifeq d161_25 (mj_iconst d161_41 (mj_istore_n [some (.ref 52), some (.int (nI 0)), none] d161_42 rfl rfl (mj_aload_n d161_43 rfl (mj_aload_n d161_44 rfl (mj_getI d161_45 w_52 rfl (mj_putI d161_48 w_52 rfl (mj_iload_n d161_51 rfl (mj_ifeq d161_52 (mj_iconst d161_71 (mj_zret0 d161_72)) (mj_aload_n d161_55 rfl (mj_bipush d161_56 (mj_invV [some (.ref 52), some (.int (nI 61)), none] [] d161_58 rfl rfl rfl w_52 rfl rfl))))))))))) (mj_aload_n d161_28 rfl (mj_bipush d161_29 (mj_invV [some (.ref 52), some (.int (nI 7)), none] [] d161_31 rfl rfl rfl w_52 rfl rfl))))
theorem e161_34 {c : mj_C} {x1 : Int32} {z0 : Int32} {L : Nat} {ps : List (Option (Option Nat))}   : mj_EV 161 34 [some (.ref 52), some (.int x1), none] [.int z0] (w_al L ps) c = (if z0 = nI 0 then (if (nI 0) = nI 0 then (some (some (.int (nI 0)), (w_al L ps), (mj_u c 52 9 (c 52 10)))) else (mj_then 161 61 [some (.ref 52), some (.int (nI 0)), none] [] (mj_EV 158 0 [some (.ref 52), some (.int (nI 61)), none] [] (w_al L ps) (mj_u c 52 9 (c 52 10))))) else (if (nI 1) = nI 0 then (some (some (.int (nI 0)), (w_al L ps), (mj_u c 52 9 (c 52 10)))) else (mj_then 161 61 [some (.ref 52), some (.int (nI 1)), none] [] (mj_EV 158 0 [some (.ref 52), some (.int (nI 61)), none] [] (w_al L ps) (mj_u c 52 9 (c 52 10)))))) := (mj_ifeq d161_34 (mj_iconst d161_41 (mj_istore_n [some (.ref 52), some (.int (nI 0)), none] d161_42 rfl rfl (mj_aload_n d161_43 rfl (mj_aload_n d161_44 rfl (mj_getI d161_45 w_52 rfl (mj_putI d161_48 w_52 rfl (mj_iload_n d161_51 rfl (mj_ifeq d161_52 (mj_iconst d161_71 (mj_zret0 d161_72)) (mj_aload_n d161_55 rfl (mj_bipush d161_56 (mj_invV [some (.ref 52), some (.int (nI 61)), none] [] d161_58 rfl rfl rfl w_52 rfl rfl))))))))))) (mj_iconst d161_37 (mj_goto d161_38 (mj_istore_n [some (.ref 52), some (.int (nI 1)), none] d161_42 rfl rfl (mj_aload_n d161_43 rfl (mj_aload_n d161_44 rfl (mj_getI d161_45 w_52 rfl (mj_putI d161_48 w_52 rfl (mj_iload_n d161_51 rfl (mj_ifeq d161_52 (mj_iconst d161_71 (mj_zret0 d161_72)) (mj_aload_n d161_55 rfl (mj_bipush d161_56 (mj_invV [some (.ref 52), some (.int (nI 61)), none] [] d161_58 rfl rfl rfl w_52 rfl rfl)))))))))))))
theorem e161_61 {c : mj_C} {x1 : Int32} {z0 : Int32} {L : Nat} {ps : List (Option (Option Nat))}   : mj_EV 161 61 [some (.ref 52), some (.int x1), none] [.int z0] (w_al L ps) c = (if z0 = nI 0 then (some (some (.int (nI 0)), (w_al L ps), c)) else (mj_then 161 68 [some (.ref 52), some (.int x1), none] [] (mj_EV 160 0 [some (.ref 52), none, none] [] (w_al L ps) c))) := (mj_ifeq d161_61 (mj_iconst d161_71 (mj_zret0 d161_72)) (mj_aload_n d161_64 rfl (mj_invV [some (.ref 52), none, none] [] d161_65 rfl rfl rfl w_52 rfl rfl)))
theorem e161_68 {c : mj_C} {x1 : Int32} {z0 : Int32} {L : Nat} {ps : List (Option (Option Nat))}   : mj_EV 161 68 [some (.ref 52), some (.int x1), none] [.int z0] (w_al L ps) c = (if z0 = nI 0 then (some (some (.int (nI 0)), (w_al L ps), c)) else (mj_then 161 79 [some (.ref 52), some (.int x1), none] [] (mj_EV 158 0 [some (.ref 52), some (.int (nI 42)), none] [] (w_al L ps) c))) := (mj_ifne d161_68 (mj_aload_n d161_73 rfl (mj_bipush d161_74 (mj_invV [some (.ref 52), some (.int (nI 42)), none] [] d161_76 rfl rfl rfl w_52 rfl rfl))) (mj_iconst d161_71 (mj_zret0 d161_72)))
theorem e161_79 {c : mj_C} {x1 : Int32} {z0 : Int32} {L : Nat} {ps : List (Option (Option Nat))}   : mj_EV 161 79 [some (.ref 52), some (.int x1), none] [.int z0] (w_al L ps) c = (if z0 = nI 0 then (if mj_in (nI 0) 8 = true then mj_EV 161 120 [some (.ref 52), some (.int x1), some (.int (nI 1))] [] (w_al L ps) (mj_u c 57 (nI 0).toNatClampNeg (c 52 10)) else none) else mj_EV 161 84 [some (.ref 52), some (.int x1), some (.int (nI 0))] [] (w_al L ps) c) := (mj_ifeq d161_79 (mj_aload_n d161_108 rfl (mj_getR d161_109 w_52 rfl (mj_iconst d161_112 (mj_aload_n d161_113 rfl (mj_getI d161_114 w_52 rfl (mj_iast d161_117 w_57 (mj_iconst d161_118 (mj_istore_n [some (.ref 52), some (.int x1), some (.int (nI 1))] d161_119 rfl rfl rfl)))))))) (mj_iconst d161_82 (mj_istore_n [some (.ref 52), some (.int x1), some (.int (nI 0))] d161_83 rfl rfl rfl)))
theorem e161_84 {c : mj_C} {x1 : Int32} {x2 : Int32} {L : Nat} {ps : List (Option (Option Nat))}   : mj_EV 161 84 [some (.ref 52), some (.int x1), some (.int x2)] [] (w_al L ps) c = (if (nI 8) ≤ x2 then (some (some (.int (nI 1)), (w_al L ps), c)) else (if mj_in x2 8 = true then mj_EV 161 84 [some (.ref 52), some (.int x1), some (.int (x2 + (nI 1)))] [] (w_al L ps) (mj_u c 57 x2.toNatClampNeg (c 52 10)) else none)) := (mj_iload_n d161_84 rfl (mj_bipush d161_85 (mj_icge d161_87 (mj_iconst d161_106 (mj_zret1 d161_107)) (mj_aload_n d161_90 rfl (mj_getR d161_91 w_52 rfl (mj_iload_n d161_94 rfl (mj_aload_n d161_95 rfl (mj_getI d161_96 w_52 rfl (mj_iast d161_99 w_57 (mj_iinc [some (.ref 52), some (.int x1), some (.int (x2 + (nI 1)))] d161_100 rfl rfl rfl (mj_goto d161_103 rfl)))))))))))
theorem e161_120 {c : mj_C} {x1 : Int32} {x2 : Int32} {L : Nat} {ps : List (Option (Option Nat))}   : mj_EV 161 120 [some (.ref 52), some (.int x1), some (.int x2)] [] (w_al L ps) c = (if (nI 8) ≤ x2 then (some (some (.int (nI 1)), (w_al L ps), c)) else (mj_then 161 132 [some (.ref 52), some (.int x1), some (.int x2)] [] (mj_EV 158 0 [some (.ref 52), some (.int (nI 44)), none] [] (w_al L ps) c))) := (mj_iload_n d161_120 rfl (mj_bipush d161_121 (mj_icge d161_123 (mj_iconst d161_160 (mj_zret1 d161_161)) (mj_aload_n d161_126 rfl (mj_bipush d161_127 (mj_invV [some (.ref 52), some (.int (nI 44)), none] [] d161_129 rfl rfl rfl w_52 rfl rfl))))))
theorem e161_132 {c : mj_C} {x1 : Int32} {x2 : Int32} {z0 : Int32} {L : Nat} {ps : List (Option (Option Nat))}   : mj_EV 161 132 [some (.ref 52), some (.int x1), some (.int x2)] [.int z0] (w_al L ps) c = (if z0 = nI 0 then (some (some (.int (nI 0)), (w_al L ps), c)) else (mj_then 161 139 [some (.ref 52), some (.int x1), some (.int x2)] [] (mj_EV 160 0 [some (.ref 52), none, none] [] (w_al L ps) c))) := (mj_ifeq d161_132 (mj_iconst d161_142 (mj_zret0 d161_143)) (mj_aload_n d161_135 rfl (mj_invV [some (.ref 52), none, none] [] d161_136 rfl rfl rfl w_52 rfl rfl)))
theorem e161_139 {c : mj_C} {x1 : Int32} {x2 : Int32} {z0 : Int32} {L : Nat} {ps : List (Option (Option Nat))}   : mj_EV 161 139 [some (.ref 52), some (.int x1), some (.int x2)] [.int z0] (w_al L ps) c = (if z0 = nI 0 then (some (some (.int (nI 0)), (w_al L ps), c)) else (if mj_in x2 8 = true then mj_EV 161 120 [some (.ref 52), some (.int x1), some (.int (x2 + (nI 1)))] [] (w_al L ps) (mj_u c 57 x2.toNatClampNeg (c 52 10)) else none)) := (mj_ifne d161_139 (mj_aload_n d161_144 rfl (mj_getR d161_145 w_52 rfl (mj_iload_n d161_148 rfl (mj_aload_n d161_149 rfl (mj_getI d161_150 w_52 rfl (mj_iast d161_153 w_57 (mj_iinc [some (.ref 52), some (.int x1), some (.int (x2 + (nI 1)))] d161_154 rfl rfl rfl (mj_goto d161_157 rfl)))))))) (mj_iconst d161_142 (mj_zret0 d161_143)))
/-- SqueezedLinesModel.findError()I -/
theorem f162 : mj_cd 162 = mj_c162 := rfl
theorem d162_0 : mj_At 162 0 (.aload_n 0) 1 [0] (.null) := ⟨1, (congrArg (fun z => mj_at z 0) f162).trans rfl, rfl⟩
theorem d162_1 : mj_At 162 1 (.iconst (0)) 2 [] (.int 0) := ⟨1, (congrArg (fun z => mj_at z 1) f162).trans rfl, rfl⟩
theorem d162_2 : mj_At 162 2 (.putfield 164) 5 [4, 7, 0, 564] (.null) := ⟨3, (congrArg (fun z => mj_at z 2) f162).trans rfl, rfl⟩
theorem d162_5 : mj_At 162 5 (.aload_n 0) 6 [0] (.null) := ⟨1, (congrArg (fun z => mj_at z 5) f162).trans rfl, rfl⟩
theorem d162_6 : mj_At 162 6 (.invokevirtual 189) 9 [1, 161, 1, 4, 851, 853, 58, 69] (.null) := ⟨3, (congrArg (fun z => mj_at z 6) f162).trans rfl, rfl⟩
theorem d162_9 : mj_At 162 9 (.ifCond .ne (8)) 12 [17] (.null) := ⟨3, (congrArg (fun z => mj_at z 9) f162).trans rfl, rfl⟩
theorem d162_12 : mj_At 162 12 (.aload_n 0) 13 [0] (.null) := ⟨1, (congrArg (fun z => mj_at z 12) f162).trans rfl, rfl⟩
theorem d162_13 : mj_At 162 13 (.getfield 164) 16 [4, 7, 564] (.null) := ⟨3, (congrArg (fun z => mj_at z 13) f162).trans rfl, rfl⟩
theorem d162_16 : mj_At 162 16 (.ireturn) 17 [0] (.null) := ⟨1, (congrArg (fun z => mj_at z 16) f162).trans rfl, rfl⟩
theorem d162_17 : mj_At 162 17 (.aload_n 0) 18 [0] (.null) := ⟨1, (congrArg (fun z => mj_at z 17) f162).trans rfl, rfl⟩
theorem d162_18 : mj_At 162 18 (.getfield 164) 21 [4, 7, 564] (.null) := ⟨3, (congrArg (fun z => mj_at z 18) f162).trans rfl, rfl⟩
theorem d162_21 : mj_At 162 21 (.aload_n 0) 22 [0] (.null) := ⟨1, (congrArg (fun z => mj_at z 21) f162).trans rfl, rfl⟩
theorem d162_22 : mj_At 162 22 (.getfield 161) 25 [4, 5, 562] (.null) := ⟨3, (congrArg (fun z => mj_at z 22) f162).trans rfl, rfl⟩
theorem d162_25 : mj_At 162 25 (.if_icmp .ne (6)) 28 [31] (.null) := ⟨3, (congrArg (fun z => mj_at z 25) f162).trans rfl, rfl⟩
theorem d162_28 : mj_At 162 28 (.bipush (-6)) 30 [] (.int (-6)) := ⟨2, (congrArg (fun z => mj_at z 28) f162).trans rfl, rfl⟩
theorem d162_30 : mj_At 162 30 (.ireturn) 31 [0] (.null) := ⟨1, (congrArg (fun z => mj_at z 30) f162).trans rfl, rfl⟩
theorem d162_31 : mj_At 162 31 (.aload_n 0) 32 [0] (.null) := ⟨1, (congrArg (fun z => mj_at z 31) f162).trans rfl, rfl⟩
theorem d162_32 : mj_At 162 32 (.bipush (59)) 34 [] (.int 59) := ⟨2, (congrArg (fun z => mj_at z 32) f162).trans rfl, rfl⟩
theorem d162_34 : mj_At 162 34 (.invokevirtual 179) 37 [1, 158, 2, 4, 863, 865, 61, 69] (.null) := ⟨3, (congrArg (fun z => mj_at z 34) f162).trans rfl, rfl⟩
theorem d162_37 : mj_At 162 37 (.ifCond .ne (-32)) 40 [5] (.null) := ⟨3, (congrArg (fun z => mj_at z 37) f162).trans rfl, rfl⟩
theorem d162_40 : mj_At 162 40 (.aload_n 0) 41 [0] (.null) := ⟨1, (congrArg (fun z => mj_at z 40) f162).trans rfl, rfl⟩
theorem d162_41 : mj_At 162 41 (.getfield 164) 44 [4, 7, 564] (.null) := ⟨3, (congrArg (fun z => mj_at z 41) f162).trans rfl, rfl⟩
theorem d162_44 : mj_At 162 44 (.ireturn) 45 [0] (.null) := ⟨1, (congrArg (fun z => mj_at z 44) f162).trans rfl, rfl⟩
theorem e162_0 {c : mj_C}  {L : Nat} {ps : List (Option (Option Nat))}   : mj_EV 162 0 [some (.ref 52)] [] (w_al L ps) c = mj_EV 162 5 [some (.ref 52)] [] (w_al L ps) (mj_u c 52 7 (nI 0)) := (mj_aload_n d162_0 rfl (mj_iconst d162_1 (mj_putI d162_2 w_52 rfl rfl)))
theorem e162_5 {c : mj_C}  {L : Nat} {ps : List (Option (Option Nat))}   : mj_EV 162 5 [some (.ref 52)] [] (w_al L ps) c = (mj_then 162 9 [some (.ref 52)] [] (mj_EV 161 0 [some (.ref 52), none, none] [] (w_al L ps) c)) := (mj_aload_n d162_5 rfl (mj_invV [some (.ref 52), none, none] [] d162_6 rfl rfl rfl w_52 rfl rfl))
theorem e162_9 {c : mj_C} {z0 : Int32} {L : Nat} {ps : List (Option (Option Nat))}   : mj_EV 162 9 [some (.ref 52)] [.int z0] (w_al L ps) c = (if z0 = nI 0 then (some (some (.int (c 52 7)), (w_al L ps), c)) else (if (c 52 7) = (c 52 5) then (some (some (.int (-6)), (w_al L ps), c)) else (mj_then 162 37 [some (.ref 52)] [] (mj_EV 158 0 [some (.ref 52), some (.int (nI 59)), none] [] (w_al L ps) c)))) := (mj_ifne d162_9 (mj_aload_n d162_17 rfl (mj_getI d162_18 w_52 rfl (mj_aload_n d162_21 rfl (mj_getI d162_22 w_52 rfl (mj_icne d162_25 (mj_aload_n d162_31 rfl (mj_bipush d162_32 (mj_invV [some (.ref 52), some (.int (nI 59)), none] [] d162_34 rfl rfl rfl w_52 rfl rfl))) (mj_bipush d162_28 (mj_iret d162_30))))))) (mj_aload_n d162_12 rfl (mj_getI d162_13 w_52 rfl (mj_iret d162_16))))
theorem e162_37 {c : mj_C} {z0 : Int32} {L : Nat} {ps : List (Option (Option Nat))}   : mj_EV 162 37 [some (.ref 52)] [.int z0] (w_al L ps) c = (if z0 = nI 0 then (some (some (.int (c 52 7)), (w_al L ps), c)) else mj_EV 162 5 [some (.ref 52)] [] (w_al L ps) c) := (mj_ifne d162_37 rfl (mj_aload_n d162_40 rfl (mj_getI d162_41 w_52 rfl (mj_iret d162_44))))
/-- SqueezedLinesModel.syntaxError()I -/
theorem f163 : mj_cd 163 = mj_c163 := rfl
theorem d163_0 : mj_At 163 0 (.aload_n 0) 1 [0] (.null) := ⟨1, (congrArg (fun z => mj_at z 0) f163).trans rfl, rfl⟩
theorem d163_1 : mj_At 163 1 (.invokevirtual 192) 4 [1, 162, 1, 4, 847, 849, 57, 69] (.null) := ⟨3, (congrArg (fun z => mj_at z 1) f163).trans rfl, rfl⟩
theorem d163_4 : mj_At 163 4 (.ireturn) 5 [0] (.null) := ⟨1, (congrArg (fun z => mj_at z 4) f163).trans rfl, rfl⟩
theorem e163_0 {c : mj_C}  {L : Nat} {ps : List (Option (Option Nat))}   : mj_EV 163 0 [some (.ref 52)] [] (w_al L ps) c = (mj_then 163 4 [some (.ref 52)] [] (mj_EV 162 0 [some (.ref 52)] [] (w_al L ps) c)) := (mj_aload_n d163_0 rfl (mj_invV [some (.ref 52)] [] d163_1 rfl rfl rfl w_52 rfl rfl))
theorem e163_4 {c : mj_C} {z0 : Int32} {L : Nat} {ps : List (Option (Option Nat))}   : mj_EV 163 4 [some (.ref 52)] [.int z0] (w_al L ps) c = (some (some (.int z0), (w_al L ps), c)) := (mj_iret d163_4)
/-- SqueezedLinesModel.readLines()I -/
theorem f164 : mj_cd 164 = mj_c164 := rfl
theorem d164_0 : mj_At 164 0 (.aload_n 0) 1 [0] (.null) := ⟨1, (congrArg (fun z => mj_at z 0) f164).trans rfl, rfl⟩
theorem d164_1 : mj_At 164 1 (.invokevirtual 192) 4 [1, 162, 1, 4, 847, 849, 57, 69] (.null) := ⟨3, (congrArg (fun z => mj_at z 1) f164).trans rfl, rfl⟩
theorem d164_4 : mj_At 164 4 (.bipush (-6)) 6 [] (.int (-6)) := ⟨2, (congrArg (fun z => mj_at z 4) f164).trans rfl, rfl⟩
theorem d164_6 : mj_At 164 6 (.if_icmp .eq (6)) 9 [12] (.null) := ⟨3, (congrArg (fun z => mj_at z 6) f164).trans rfl, rfl⟩
theorem d164_9 : mj_At 164 9 (.bipush (-5)) 11 [] (.int (-5)) := ⟨2, (congrArg (fun z => mj_at z 9) f164).trans rfl, rfl⟩
theorem d164_11 : mj_At 164 11 (.ireturn) 12 [0] (.null) := ⟨1, (congrArg (fun z => mj_at z 11) f164).trans rfl, rfl⟩
theorem d164_12 : mj_At 164 12 (.aload_n 0) 13 [0] (.null) := ⟨1, (congrArg (fun z => mj_at z 12) f164).trans rfl, rfl⟩
theorem d164_13 : mj_At 164 13 (.invokevirtual 112) 16 [1, 95, 1, 4, 679, 681, 40, 69] (.null) := ⟨3, (congrArg (fun z => mj_at z 13) f164).trans rfl, rfl⟩
theorem d164_16 : mj_At 164 16 (.iconst (0)) 17 [] (.int 0) := ⟨1, (congrArg (fun z => mj_at z 16) f164).trans rfl, rfl⟩
theorem d164_17 : mj_At 164 17 (.istore_n 1) 18 [1] (.null) := ⟨1, (congrArg (fun z => mj_at z 17) f164).trans rfl, rfl⟩
theorem d164_18 : mj_At 164 18 (.aload_n 0) 19 [0] (.null) := ⟨1, (congrArg (fun z => mj_at z 18) f164).trans rfl, rfl⟩
theorem d164_19 : mj_At 164 19 (.iconst (0)) 20 [] (.int 0) := ⟨1, (congrArg (fun z => mj_at z 19) f164).trans rfl, rfl⟩
theorem d164_20 : mj_At 164 20 (.putfield 164) 23 [4, 7, 0, 564] (.null) := ⟨3, (congrArg (fun z => mj_at z 20) f164).trans rfl, rfl⟩
theorem d164_23 : mj_At 164 23 (.iconst (1)) 24 [] (.int 1) := ⟨1, (congrArg (fun z => mj_at z 23) f164).trans rfl, rfl⟩
theorem d164_24 : mj_At 164 24 (.istore_n 2) 25 [2] (.null) := ⟨1, (congrArg (fun z => mj_at z 24) f164).trans rfl, rfl⟩
theorem d164_25 : mj_At 164 25 (.iload_n 2) 26 [2] (.null) := ⟨1, (congrArg (fun z => mj_at z 25) f164).trans rfl, rfl⟩
theorem d164_26 : mj_At 164 26 (.ifCond .eq (80)) 29 [106] (.null) := ⟨3, (congrArg (fun z => mj_at z 26) f164).trans rfl, rfl⟩
theorem d164_29 : mj_At 164 29 (.aload_n 0) 30 [0] (.null) := ⟨1, (congrArg (fun z => mj_at z 29) f164).trans rfl, rfl⟩
theorem d164_30 : mj_At 164 30 (.getfield 164) 33 [4, 7, 564] (.null) := ⟨3, (congrArg (fun z => mj_at z 30) f164).trans rfl, rfl⟩
theorem d164_33 : mj_At 164 33 (.aload_n 0) 34 [0] (.null) := ⟨1, (congrArg (fun z => mj_at z 33) f164).trans rfl, rfl⟩
theorem d164_34 : mj_At 164 34 (.getfield 161) 37 [4, 5, 562] (.null) := ⟨3, (congrArg (fun z => mj_at z 34) f164).trans rfl, rfl⟩
theorem d164_37 : mj_At 164 37 (.if_icmp .ge (69)) 40 [106] (.null) := ⟨3, (congrArg (fun z => mj_at z 37) f164).trans rfl, rfl⟩
theorem d164_40 : mj_At 164 40 (.aload_n 0) 41 [0] (.null) := ⟨1, (congrArg (fun z => mj_at z 40) f164).trans rfl, rfl⟩
theorem d164_41 : mj_At 164 41 (.invokevirtual 189) 44 [1, 161, 1, 4, 851, 853, 58, 69] (.null) := ⟨3, (congrArg (fun z => mj_at z 41) f164).trans rfl, rfl⟩
theorem d164_44 : mj_At 164 44 (.pop) 45 [] (.null) := ⟨1, (congrArg (fun z => mj_at z 44) f164).trans rfl, rfl⟩
theorem d164_45 : mj_At 164 45 (.aload_n 0) 46 [0] (.null) := ⟨1, (congrArg (fun z => mj_at z 45) f164).trans rfl, rfl⟩
theorem d164_46 : mj_At 164 46 (.bipush (59)) 48 [] (.int 59) := ⟨2, (congrArg (fun z => mj_at z 46) f164).trans rfl, rfl⟩
theorem d164_48 : mj_At 164 48 (.invokevirtual 179) 51 [1, 158, 2, 4, 863, 865, 61, 69] (.null) := ⟨3, (congrArg (fun z => mj_at z 48) f164).trans rfl, rfl⟩
theorem d164_51 : mj_At 164 51 (.pop) 52 [] (.null) := ⟨1, (congrArg (fun z => mj_at z 51) f164).trans rfl, rfl⟩
theorem d164_52 : mj_At 164 52 (.aload_n 0) 53 [0] (.null) := ⟨1, (congrArg (fun z => mj_at z 52) f164).trans rfl, rfl⟩
theorem d164_53 : mj_At 164 53 (.aload_n 0) 54 [0] (.null) := ⟨1, (congrArg (fun z => mj_at z 53) f164).trans rfl, rfl⟩
theorem d164_54 : mj_At 164 54 (.getfield 176) 57 [4, 8, 565] (.null) := ⟨3, (congrArg (fun z => mj_at z 54) f164).trans rfl, rfl⟩
theorem d164_57 : mj_At 164 57 (.invokevirtual 84) 60 [1, 96, 2, 4, 602, 604, 24, 69] (.null) := ⟨3, (congrArg (fun z => mj_at z 57) f164).trans rfl, rfl⟩
theorem d164_60 : mj_At 164 60 (.ifCond .eq (22)) 63 [82] (.null) := ⟨3, (congrArg (fun z => mj_at z 60) f164).trans rfl, rfl⟩
theorem d164_63 : mj_At 164 63 (.aload_n 0) 64 [0] (.null) := ⟨1, (congrArg (fun z => mj_at z 63) f164).trans rfl, rfl⟩
theorem d164_64 : mj_At 164 64 (.aload_n 0) 65 [0] (.null) := ⟨1, (congrArg (fun z => mj_at z 64) f164).trans rfl, rfl⟩
theorem d164_65 : mj_At 164 65 (.getfield 176) 68 [4, 8, 565] (.null) := ⟨3, (congrArg (fun z => mj_at z 65) f164).trans rfl, rfl⟩
theorem d164_68 : mj_At 164 68 (.aload_n 0) 69 [0] (.null) := ⟨1, (congrArg (fun z => mj_at z 68) f164).trans rfl, rfl⟩
theorem d164_69 : mj_At 164 69 (.getfield 182) 72 [4, 9, 566] (.null) := ⟨3, (congrArg (fun z => mj_at z 69) f164).trans rfl, rfl⟩
theorem d164_72 : mj_At 164 72 (.invokevirtual 109) 75 [1, 120, 3, 4, 726, 728, 45, 69] (.null) := ⟨3, (congrArg (fun z => mj_at z 72) f164).trans rfl, rfl⟩
theorem d164_75 : mj_At 164 75 (.ifCond .eq (7)) 78 [82] (.null) := ⟨3, (congrArg (fun z => mj_at z 75) f164).trans rfl, rfl⟩
theorem d164_78 : mj_At 164 78 (.iconst (1)) 79 [] (.int 1) := ⟨1, (congrArg (fun z => mj_at z 78) f164).trans rfl, rfl⟩
theorem d164_79 : mj_At 164 79 (.goto (4)) 82 [83] (.null) := ⟨3, (congrArg (fun z => mj_at z 79) f164).trans rfl, rfl⟩
theorem d164_82 : mj_At 164 82 (.iconst (0)) 83 [] (.int 0) := ⟨1, (congrArg (fun z => mj_at z 82) f164).trans rfl, rfl⟩
theorem d164_83 : mj_At 164 83 (.istore_n 2) 84 [2] (.null) := ⟨1, (congrArg (fun z => mj_at z 83) f164).trans rfl, rfl⟩
theorem d164_84 : mj_At 164 84 (.iload_n 2) 85 [2] (.null) := ⟨1, (congrArg (fun z => mj_at z 84) f164).trans rfl, rfl⟩
theorem d164_85 : mj_At 164 85 (.ifCond .eq (-60)) 88 [25] (.null) := ⟨3, (congrArg (fun z => mj_at z 85) f164).trans rfl, rfl⟩
theorem d164_88 : mj_At 164 88 (.aload_n 0) 89 [0] (.null) := ⟨1, (congrArg (fun z => mj_at z 88) f164).trans rfl, rfl⟩
theorem d164_89 : mj_At 164 89 (.aload_n 0) 90 [0] (.null) := ⟨1, (congrArg (fun z => mj_at z 89) f164).trans rfl, rfl⟩
theorem d164_90 : mj_At 164 90 (.getfield 176) 93 [4, 8, 565] (.null) := ⟨3, (congrArg (fun z => mj_at z 90) f164).trans rfl, rfl⟩
theorem d164_93 : mj_At 164 93 (.aload_n 0) 94 [0] (.null) := ⟨1, (congrArg (fun z => mj_at z 93) f164).trans rfl, rfl⟩
theorem d164_94 : mj_At 164 94 (.getfield 182) 97 [4, 9, 566] (.null) := ⟨3, (congrArg (fun z => mj_at z 94) f164).trans rfl, rfl⟩
theorem d164_97 : mj_At 164 97 (.invokevirtual 94) 100 [1, 117, 3, 4, 734, 736, 47, 69] (.null) := ⟨3, (congrArg (fun z => mj_at z 97) f164).trans rfl, rfl⟩
theorem d164_100 : mj_At 164 100 (.iinc 1 (1)) 103 [1] (.int 1) := ⟨3, (congrArg (fun z => mj_at z 100) f164).trans rfl, rfl⟩
theorem d164_103 : mj_At 164 103 (.goto (-78)) 106 [25] (.null) := ⟨3, (congrArg (fun z => mj_at z 103) f164).trans rfl, rfl⟩
theorem d164_106 : mj_At 164 106 (.aload_n 0) 107 [0] (.null) := ⟨1, (congrArg (fun z => mj_at z 106) f164).trans rfl, rfl⟩
theorem d164_107 : mj_At 164 107 (.iconst (0)) 108 [] (.int 0) := ⟨1, (congrArg (fun z => mj_at z 107) f164).trans rfl, rfl⟩
theorem d164_108 : mj_At 164 108 (.putfield 161) 111 [4, 5, 0, 562] (.null) := ⟨3, (congrArg (fun z => mj_at z 108) f164).trans rfl, rfl⟩
theorem d164_111 : mj_At 164 111 (.iload_n 1) 112 [1] (.null) := ⟨1, (congrArg (fun z => mj_at z 111) f164).trans rfl, rfl⟩
theorem d164_112 : mj_At 164 112 (.ireturn) 113 [0] (.null) := ⟨1, (congrArg (fun z => mj_at z 112) f164).trans rfl, rfl⟩
theorem e164_0 {c : mj_C}  {L : Nat} {ps : List (Option (Option Nat))}   : mj_EV 164 0 [some (.ref 52), none, none] [] (w_al L ps) c = (mj_then 164 4 [some (.ref 52), none, none] [] (mj_EV 162 0 [some (.ref 52)] [] (w_al L ps) c)) := (mj_aload_n d164_0 rfl (mj_invV [some (.ref 52)] [] d164_1 rfl rfl rfl w_52 rfl rfl))
theorem e164_4 {c : mj_C} {z0 : Int32} {L : Nat} {ps : List (Option (Option Nat))}   : mj_EV 164 4 [some (.ref 52), none, none] [.int z0] (w_al L ps) c = (if z0 = (-6) then (mj_then 164 16 [some (.ref 52), none, none] [] (mj_EV 95 0 [some (.ref 52), none] [] (w_al L ps) c)) else (some (some (.int (-5)), (w_al L ps), c))) := (mj_bipush d164_4 (mj_iceq d164_6 (mj_aload_n d164_12 rfl (mj_invV [some (.ref 52), none] [] d164_13 rfl rfl rfl w_52 rfl rfl)) (mj_bipush d164_9 (mj_iret d164_11))))
theorem e164_16 {c : mj_C}  {L : Nat} {ps : List (Option (Option Nat))}   : mj_EV 164 16 [some (.ref 52), none, none] [] (w_al L ps) c = mj_EV 164 25 [some (.ref 52), some (.int (nI 0)), some (.int (nI 1))] [] (w_al L ps) (mj_u c 52 7 (nI 0)) := (mj_iconst d164_16 (mj_istore_n [some (.ref 52), some (.int (nI 0)), none] d164_17 rfl rfl (mj_aload_n d164_18 rfl (mj_iconst d164_19 (mj_putI d164_20 w_52 rfl (mj_iconst d164_23 (mj_istore_n [some (.ref 52), some (.int (nI 0)), some (.int (nI 1))] d164_24 rfl rfl rfl)))))))
theorem e164_25 {c : mj_C} {x1 : Int32} {x2 : Int32} {L : Nat} {ps : List (Option (Option Nat))}   : mj_EV 164 25 [some (.ref 52), some (.int x1), some (.int x2)] [] (w_al L ps) c = (if x2 = nI 0 then (some (some (.int x1), (w_al L ps), (mj_u c 52 5 (nI 0)))) else (if (c 52 5) ≤ (c 52 7) then (some (some (.int x1), (w_al L ps), (mj_u c 52 5 (nI 0)))) else (mj_then 164 44 [some (.ref 52), some (.int x1), some (.int x2)] [] (mj_EV 161 0 [some (.ref 52), none, none] [] (w_al L ps) c)))) := (mj_iload_n d164_25 rfl (mj_ifeq d164_26 (mj_aload_n d164_106 rfl (mj_iconst d164_107 (mj_putI d164_108 w_52 rfl (mj_iload_n d164_111 rfl (mj_iret d164_112))))) (mj_aload_n d164_29 rfl (mj_getI d164_30 w_52 rfl (mj_aload_n d164_33 rfl (mj_getI d164_34 w_52 rfl (mj_icge d164_37 (mj_aload_n d164_106 rfl (mj_iconst d164_107 (mj_putI d164_108 w_52 rfl (mj_iload_n d164_111 rfl (mj_iret d164_112))))) (mj_aload_n d164_40 rfl (mj_invV [some (.ref 52), none, none] [] d164_41 rfl rfl rfl w_52 rfl rfl)))))))))
theorem e164_44 {c : mj_C} {x1 : Int32} {x2 : Int32} {z0 : Int32} {L : Nat} {ps : List (Option (Option Nat))}   : mj_EV 164 44 [some (.ref 52), some (.int x1), some (.int x2)] [.int z0] (w_al L ps) c = (mj_then 164 51 [some (.ref 52), some (.int x1), some (.int x2)] [] (mj_EV 158 0 [some (.ref 52), some (.int (nI 59)), none] [] (w_al L ps) c)) := (mj_popI d164_44 (mj_aload_n d164_45 rfl (mj_bipush d164_46 (mj_invV [some (.ref 52), some (.int (nI 59)), none] [] d164_48 rfl rfl rfl w_52 rfl rfl))))
theorem e164_51 {c : mj_C} {x1 : Int32} {x2 : Int32} {z0 : Int32} {L : Nat} {ps : List (Option (Option Nat))}   : mj_EV 164 51 [some (.ref 52), some (.int x1), some (.int x2)] [.int z0] (w_al L ps) c = (mj_then 164 60 [some (.ref 52), some (.int x1), some (.int x2)] [] (mj_EV 96 0 [some (.ref 52), some (.int (c 52 8))] [] (w_al L ps) c)) := (mj_popI d164_51 (mj_aload_n d164_52 rfl (mj_aload_n d164_53 rfl (mj_getI d164_54 w_52 rfl (mj_invV [some (.ref 52), some (.int (c 52 8))] [] d164_57 rfl rfl rfl w_52 rfl rfl)))))
theorem e164_60 {c : mj_C} {x1 : Int32} {x2 : Int32} {z0 : Int32} {L : Nat} {ps : List (Option (Option Nat))}   : mj_EV 164 60 [some (.ref 52), some (.int x1), some (.int x2)] [.int z0] (w_al L ps) c = (if z0 = nI 0 then (if (nI 0) = nI 0 then mj_EV 164 25 [some (.ref 52), some (.int x1), some (.int (nI 0))] [] (w_al L ps) c else (mj_then 164 100 [some (.ref 52), some (.int x1), some (.int (nI 0))] [] (mj_EV 117 0 [some (.ref 52), some (.int (c 52 8)), some (.int (c 52 9)), none] [] (w_al L ps) c))) else (mj_then 164 75 [some (.ref 52), some (.int x1), some (.int x2)] [] (mj_EV 120 0 [some (.ref 52), some (.int (c 52 8)), some (.int (c 52 9))] [] (w_al L ps) c))) := (mj_ifeq d164_60 (mj_iconst d164_82 (mj_istore_n [some (.ref 52), some (.int x1), some (.int (nI 0))] d164_83 rfl rfl (mj_iload_n d164_84 rfl (mj_ifeq d164_85 rfl (mj_aload_n d164_88 rfl (mj_aload_n d164_89 rfl (mj_getI d164_90 w_52 rfl (mj_aload_n d164_93 rfl (mj_getI d164_94 w_52 rfl (mj_invV [some (.ref 52), some (.int (c 52 8)), some (.int (c 52 9)), none] [] d164_97 rfl rfl rfl w_52 rfl rfl)))))))))) (mj_aload_n d164_63 rfl (mj_aload_n d164_64 rfl (mj_getI d164_65 w_52 rfl (mj_aload_n d164_68 rfl (mj_getI d164_69 w_52 rfl (mj_invV [some (.ref 52), some (.int (c 52 8)), some (.int (c 52 9))] [] d164_72 rfl rfl rfl w_52 rfl rfl)))))))
theorem e164_75 {c : mj_C} {x1 : Int32} {x2 : Int32} {z0 : Int32} {L : Nat} {ps : List (Option (Option Nat))}   : mj_EV 164 75 [some (.ref 52), some (.int x1), some (.int x2)] [.int z0] (w_al L ps) c = (if z0 = nI 0 then (if (nI 0) = nI 0 then mj_EV 164 25 [some (.ref 52), some (.int x1), some (.int (nI 0))] [] (w_al L ps) c else (mj_then 164 100 [some (.ref 52), some (.int x1), some (.int (nI 0))] [] (mj_EV 117 0 [some (.ref 52), some (.int (c 52 8)), some (.int (c 52 9)), none] [] (w_al L ps) c))) else (if (nI 1) = nI 0 then mj_EV 164 25 [some (.ref 52), some (.int x1), some (.int (nI 1))] [] (w_al L ps) c else (mj_then 164 100 [some (.ref 52), some (.int x1), some (.int (nI 1))] [] (mj_EV 117 0 [some (.ref 52), some (.int (c 52 8)), some (.int (c 52 9)), none] [] (w_al L ps) c)))) := (mj_ifeq d164_75 (mj_iconst d164_82 (mj_istore_n [some (.ref 52), some (.int x1), some (.int (nI 0))] d164_83 rfl rfl (mj_iload_n d164_84 rfl (mj_ifeq d164_85 rfl (mj_aload_n d164_88 rfl (mj_aload_n d164_89 rfl (mj_getI d164_90 w_52 rfl (mj_aload_n d164_93 rfl (mj_getI d164_94 w_52 rfl (mj_invV [some (.ref 52), some (.int (c 52 8)), some (.int (c 52 9)), none] [] d164_97 rfl rfl rfl w_52 rfl rfl)))))))))) (mj_iconst d164_78 (mj_goto d164_79 (mj_istore_n [some (.ref 52), some (.int x1), some (.int (nI 1))] d164_83 rfl rfl (mj_iload_n d164_84 rfl (mj_ifeq d164_85 rfl (mj_aload_n d164_88 rfl (mj_aload_n d164_89 rfl (mj_getI d164_90 w_52 rfl (mj_aload_n d164_93 rfl (mj_getI d164_94 w_52 rfl (mj_invV [some (.ref 52), some (.int (c 52 8)), some (.int (c 52 9)), none] [] d164_97 rfl rfl rfl w_52 rfl rfl))))))))))))
theorem e164_100 {c : mj_C} {x1 : Int32} {x2 : Int32} {L : Nat} {ps : List (Option (Option Nat))}   : mj_EV 164 100 [some (.ref 52), some (.int x1), some (.int x2)] [] (w_al L ps) c = mj_EV 164 25 [some (.ref 52), some (.int (x1 + (nI 1))), some (.int x2)] [] (w_al L ps) c := (mj_iinc [some (.ref 52), some (.int (x1 + (nI 1))), some (.int x2)] d164_100 rfl rfl rfl (mj_goto d164_103 rfl))
/-- SqueezedLinesModel.undo()I -/
theorem f165 : mj_cd 165 = mj_c165 := rfl
theorem d165_0 : mj_At 165 0 (.aload_n 0) 1 [0] (.null) := ⟨1, (congrArg (fun z => mj_at z 0) f165).trans rfl, rfl⟩
theorem d165_1 : mj_At 165 1 (.getfield 25) 4 [4, 3, 560] (.null) := ⟨3, (congrArg (fun z => mj_at z 1) f165).trans rfl, rfl⟩
theorem d165_4 : mj_At 165 4 (.ifCond .ne (6)) 7 [10] (.null) := ⟨3, (congrArg (fun z => mj_at z 4) f165).trans rfl, rfl⟩
theorem d165_7 : mj_At 165 7 (.bipush (-3)) 9 [] (.int (-3)) := ⟨2, (congrArg (fun z => mj_at z 7) f165).trans rfl, rfl⟩
theorem d165_9 : mj_At 165 9 (.ireturn) 10 [0] (.null) := ⟨1, (congrArg (fun z => mj_at z 9) f165).trans rfl, rfl⟩
theorem d165_10 : mj_At 165 10 (.aload_n 0) 11 [0] (.null) := ⟨1, (congrArg (fun z => mj_at z 10) f165).trans rfl, rfl⟩
theorem d165_11 : mj_At 165 11 (.dup) 12 [] (.null) := ⟨1, (congrArg (fun z => mj_at z 11) f165).trans rfl, rfl⟩
theorem d165_12 : mj_At 165 12 (.getfield 25) 15 [4, 3, 560] (.null) := ⟨3, (congrArg (fun z => mj_at z 12) f165).trans rfl, rfl⟩
theorem d165_15 : mj_At 165 15 (.iconst (1)) 16 [] (.int 1) := ⟨1, (congrArg (fun z => mj_at z 15) f165).trans rfl, rfl⟩
theorem d165_16 : mj_At 165 16 (.isub) 17 [] (.null) := ⟨1, (congrArg (fun z => mj_at z 16) f165).trans rfl, rfl⟩
theorem d165_17 : mj_At 165 17 (.putfield 25) 20 [4, 3, 0, 560] (.null) := ⟨3, (congrArg (fun z => mj_at z 17) f165).trans rfl, rfl⟩
theorem d165_20 : mj_At 165 20 (.aload_n 0) 21 [0] (.null) := ⟨1, (congrArg (fun z => mj_at z 20) f165).trans rfl, rfl⟩
theorem d165_21 : mj_At 165 21 (.getfield 16) 24 [4, 2, 559] (.null) := ⟨3, (congrArg (fun z => mj_at z 21) f165).trans rfl, rfl⟩
theorem d165_24 : mj_At 165 24 (.aload_n 0) 25 [0] (.null) := ⟨1, (congrArg (fun z => mj_at z 24) f165).trans rfl, rfl⟩
theorem d165_25 : mj_At 165 25 (.getfield 25) 28 [4, 3, 560] (.null) := ⟨3, (congrArg (fun z => mj_at z 25) f165).trans rfl, rfl⟩
theorem d165_28 : mj_At 165 28 (.sipush (674)) 31 [] (.int 674) := ⟨3, (congrArg (fun z => mj_at z 28) f165).trans rfl, rfl⟩
theorem d165_31 : mj_At 165 31 (.imul) 32 [] (.null) := ⟨1, (congrArg (fun z => mj_at z 31) f165).trans rfl, rfl⟩
theorem d165_32 : mj_At 165 32 (.aload_n 0) 33 [0] (.null) := ⟨1, (congrArg (fun z => mj_at z 32) f165).trans rfl, rfl⟩
theorem d165_33 : mj_At 165 33 (.getfield 7) 36 [4, 0, 557] (.null) := ⟨3, (congrArg (fun z => mj_at z 33) f165).trans rfl, rfl⟩
theorem d165_36 : mj_At 165 36 (.iconst (0)) 37 [] (.int 0) := ⟨1, (congrArg (fun z => mj_at z 36) f165).trans rfl, rfl⟩
theorem d165_37 : mj_At 165 37 (.invokestatic 29) 40 [0, 94, 4, 652, 653, 69] (.null) := ⟨3, (congrArg (fun z => mj_at z 37) f165).trans rfl, rfl⟩
theorem d165_40 : mj_At 165 40 (.aload_n 0) 41 [0] (.null) := ⟨1, (congrArg (fun z => mj_at z 40) f165).trans rfl, rfl⟩
theorem d165_41 : mj_At 165 41 (.getfield 25) 44 [4, 3, 560] (.null) := ⟨3, (congrArg (fun z => mj_at z 41) f165).trans rfl, rfl⟩
theorem d165_44 : mj_At 165 44 (.ireturn) 45 [0] (.null) := ⟨1, (congrArg (fun z => mj_at z 44) f165).trans rfl, rfl⟩
theorem e165_0 {c : mj_C}  {L : Nat} {ps : List (Option (Option Nat))}   : mj_EV 165 0 [some (.ref 52)] [] (w_al L ps) c = (if (c 52 3) = nI 0 then (some (some (.int (-3)), (w_al L ps), c)) else (mj_then 165 40 [some (.ref 52)] [] (mj_EV 94 0 [some (.ref 55), some (.int (((mj_u c 52 3 ((c 52 3) - (nI 1))) 52 3) * (nI 674))), some (.ref 53), some (.int (nI 0)), none] [] (w_al L ps) (mj_u c 52 3 ((c 52 3) - (nI 1)))))) := (mj_aload_n d165_0 rfl (mj_getI d165_1 w_52 rfl (mj_ifne d165_4 (mj_aload_n d165_10 rfl (mj_dupR d165_11 (mj_getI d165_12 w_52 rfl (mj_iconst d165_15 (mj_isub d165_16 (mj_putI d165_17 w_52 rfl (mj_aload_n d165_20 rfl (mj_getR d165_21 w_52 rfl (mj_aload_n d165_24 rfl (mj_getI d165_25 w_52 rfl (mj_sipush d165_28 (mj_imul d165_31 (mj_aload_n d165_32 rfl (mj_getR d165_33 w_52 rfl (mj_iconst d165_36 (mj_invS [some (.ref 55), some (.int (((mj_u c 52 3 ((c 52 3) - (nI 1))) 52 3) * (nI 674))), some (.ref 53), some (.int (nI 0)), none] [] d165_37 (by decide) rfl rfl rfl rfl)))))))))))))))) (mj_bipush d165_7 (mj_iret d165_9)))))
theorem e165_40 {c : mj_C}  {L : Nat} {ps : List (Option (Option Nat))}   : mj_EV 165 40 [some (.ref 52)] [] (w_al L ps) c = (some (some (.int (c 52 3)), (w_al L ps), c)) := (mj_aload_n d165_40 rfl (mj_getI d165_41 w_52 rfl (mj_iret d165_44)))
/-- SqueezedLinesModel.digest()J -/
theorem f166 : mj_cd 166 = mj_c166 := rfl
theorem d166_0 : mj_At 166 0 (.ldc2_w 195) 3 [883] (.long 432) := ⟨3, (congrArg (fun z => mj_at z 0) f166).trans rfl, rfl⟩
theorem d166_3 : mj_At 166 3 (.lstore_n 1) 4 [1] (.null) := ⟨1, (congrArg (fun z => mj_at z 3) f166).trans rfl, rfl⟩
theorem d166_4 : mj_At 166 4 (.iconst (0)) 5 [] (.int 0) := ⟨1, (congrArg (fun z => mj_at z 4) f166).trans rfl, rfl⟩
theorem d166_5 : mj_At 166 5 (.istore_n 3) 6 [3] (.null) := ⟨1, (congrArg (fun z => mj_at z 5) f166).trans rfl, rfl⟩
theorem d166_6 : mj_At 166 6 (.iload_n 3) 7 [3] (.null) := ⟨1, (congrArg (fun z => mj_at z 6) f166).trans rfl, rfl⟩
theorem d166_7 : mj_At 166 7 (.bipush (8)) 9 [] (.int 8) := ⟨2, (congrArg (fun z => mj_at z 7) f166).trans rfl, rfl⟩
theorem d166_9 : mj_At 166 9 (.if_icmp .gt (22)) 12 [31] (.null) := ⟨3, (congrArg (fun z => mj_at z 9) f166).trans rfl, rfl⟩
theorem d166_12 : mj_At 166 12 (.ldc2_w 197) 15 [884] (.long 31) := ⟨3, (congrArg (fun z => mj_at z 12) f166).trans rfl, rfl⟩
theorem d166_15 : mj_At 166 15 (.lload_n 1) 16 [1] (.null) := ⟨1, (congrArg (fun z => mj_at z 15) f166).trans rfl, rfl⟩
theorem d166_16 : mj_At 166 16 (.lmul) 17 [] (.null) := ⟨1, (congrArg (fun z => mj_at z 16) f166).trans rfl, rfl⟩
theorem d166_17 : mj_At 166 17 (.aload_n 0) 18 [0] (.null) := ⟨1, (congrArg (fun z => mj_at z 17) f166).trans rfl, rfl⟩
theorem d166_18 : mj_At 166 18 (.iload_n 3) 19 [3] (.null) := ⟨1, (congrArg (fun z => mj_at z 18) f166).trans rfl, rfl⟩
theorem d166_19 : mj_At 166 19 (.invokevirtual 140) 22 [1, 137, 2, 4, 759, 761, 48, 69] (.null) := ⟨3, (congrArg (fun z => mj_at z 19) f166).trans rfl, rfl⟩
theorem d166_22 : mj_At 166 22 (.i2l) 23 [] (.null) := ⟨1, (congrArg (fun z => mj_at z 22) f166).trans rfl, rfl⟩
theorem d166_23 : mj_At 166 23 (.ladd) 24 [] (.null) := ⟨1, (congrArg (fun z => mj_at z 23) f166).trans rfl, rfl⟩
theorem d166_24 : mj_At 166 24 (.lstore_n 1) 25 [1] (.null) := ⟨1, (congrArg (fun z => mj_at z 24) f166).trans rfl, rfl⟩
theorem d166_25 : mj_At 166 25 (.iinc 3 (1)) 28 [3] (.int 1) := ⟨3, (congrArg (fun z => mj_at z 25) f166).trans rfl, rfl⟩
theorem d166_28 : mj_At 166 28 (.goto (-22)) 31 [6] (.null) := ⟨3, (congrArg (fun z => mj_at z 28) f166).trans rfl, rfl⟩
theorem d166_31 : mj_At 166 31 (.iconst (0)) 32 [] (.int 0) := ⟨1, (congrArg (fun z => mj_at z 31) f166).trans rfl, rfl⟩
theorem d166_32 : mj_At 166 32 (.istore_n 3) 33 [3] (.null) := ⟨1, (congrArg (fun z => mj_at z 32) f166).trans rfl, rfl⟩
theorem d166_33 : mj_At 166 33 (.iload_n 3) 34 [3] (.null) := ⟨1, (congrArg (fun z => mj_at z 33) f166).trans rfl, rfl⟩
theorem d166_34 : mj_At 166 34 (.bipush (10)) 36 [] (.int 10) := ⟨2, (congrArg (fun z => mj_at z 34) f166).trans rfl, rfl⟩
theorem d166_36 : mj_At 166 36 (.if_icmp .ge (120)) 39 [156] (.null) := ⟨3, (congrArg (fun z => mj_at z 36) f166).trans rfl, rfl⟩
theorem d166_39 : mj_At 166 39 (.aload_n 0) 40 [0] (.null) := ⟨1, (congrArg (fun z => mj_at z 39) f166).trans rfl, rfl⟩
theorem d166_40 : mj_At 166 40 (.iload_n 3) 41 [3] (.null) := ⟨1, (congrArg (fun z => mj_at z 40) f166).trans rfl, rfl⟩
theorem d166_41 : mj_At 166 41 (.invokevirtual 84) 44 [1, 96, 2, 4, 602, 604, 24, 69] (.null) := ⟨3, (congrArg (fun z => mj_at z 41) f166).trans rfl, rfl⟩
theorem d166_44 : mj_At 166 44 (.ifCond .eq (106)) 47 [150] (.null) := ⟨3, (congrArg (fun z => mj_at z 44) f166).trans rfl, rfl⟩
theorem d166_47 : mj_At 166 47 (.ldc2_w 197) 50 [884] (.long 31) := ⟨3, (congrArg (fun z => mj_at z 47) f166).trans rfl, rfl⟩
theorem d166_50 : mj_At 166 50 (.lload_n 1) 51 [1] (.null) := ⟨1, (congrArg (fun z => mj_at z 50) f166).trans rfl, rfl⟩
theorem d166_51 : mj_At 166 51 (.lmul) 52 [] (.null) := ⟨1, (congrArg (fun z => mj_at z 51) f166).trans rfl, rfl⟩
theorem d166_52 : mj_At 166 52 (.iload_n 3) 53 [3] (.null) := ⟨1, (congrArg (fun z => mj_at z 52) f166).trans rfl, rfl⟩
theorem d166_53 : mj_At 166 53 (.i2l) 54 [] (.null) := ⟨1, (congrArg (fun z => mj_at z 53) f166).trans rfl, rfl⟩
theorem d166_54 : mj_At 166 54 (.ladd) 55 [] (.null) := ⟨1, (congrArg (fun z => mj_at z 54) f166).trans rfl, rfl⟩
theorem d166_55 : mj_At 166 55 (.lstore_n 1) 56 [1] (.null) := ⟨1, (congrArg (fun z => mj_at z 55) f166).trans rfl, rfl⟩
theorem d166_56 : mj_At 166 56 (.iconst (0)) 57 [] (.int 0) := ⟨1, (congrArg (fun z => mj_at z 56) f166).trans rfl, rfl⟩
theorem d166_57 : mj_At 166 57 (.istore 4) 59 [4] (.null) := ⟨2, (congrArg (fun z => mj_at z 57) f166).trans rfl, rfl⟩
theorem d166_59 : mj_At 166 59 (.iload 4) 61 [4] (.null) := ⟨2, (congrArg (fun z => mj_at z 59) f166).trans rfl, rfl⟩
theorem d166_61 : mj_At 166 61 (.iconst (4)) 62 [] (.int 4) := ⟨1, (congrArg (fun z => mj_at z 61) f166).trans rfl, rfl⟩
theorem d166_62 : mj_At 166 62 (.if_icmp .gt (24)) 65 [86] (.null) := ⟨3, (congrArg (fun z => mj_at z 62) f166).trans rfl, rfl⟩
theorem d166_65 : mj_At 166 65 (.ldc2_w 197) 68 [884] (.long 31) := ⟨3, (congrArg (fun z => mj_at z 65) f166).trans rfl, rfl⟩
theorem d166_68 : mj_At 166 68 (.lload_n 1) 69 [1] (.null) := ⟨1, (congrArg (fun z => mj_at z 68) f166).trans rfl, rfl⟩
theorem d166_69 : mj_At 166 69 (.lmul) 70 [] (.null) := ⟨1, (congrArg (fun z => mj_at z 69) f166).trans rfl, rfl⟩
theorem d166_70 : mj_At 166 70 (.aload_n 0) 71 [0] (.null) := ⟨1, (congrArg (fun z => mj_at z 70) f166).trans rfl, rfl⟩
theorem d166_71 : mj_At 166 71 (.iload_n 3) 72 [3] (.null) := ⟨1, (congrArg (fun z => mj_at z 71) f166).trans rfl, rfl⟩
theorem d166_72 : mj_At 166 72 (.iload 4) 74 [4] (.null) := ⟨2, (congrArg (fun z => mj_at z 72) f166).trans rfl, rfl⟩
theorem d166_74 : mj_At 166 74 (.invokevirtual 143) 77 [1, 140, 3, 4, 779, 781, 51, 69] (.null) := ⟨3, (congrArg (fun z => mj_at z 74) f166).trans rfl, rfl⟩
theorem d166_77 : mj_At 166 77 (.i2l) 78 [] (.null) := ⟨1, (congrArg (fun z => mj_at z 77) f166).trans rfl, rfl⟩
theorem d166_78 : mj_At 166 78 (.ladd) 79 [] (.null) := ⟨1, (congrArg (fun z => mj_at z 78) f166).trans rfl, rfl⟩
theorem d166_79 : mj_At 166 79 (.lstore_n 1) 80 [1] (.null) := ⟨1, (congrArg (fun z => mj_at z 79) f166).trans rfl, rfl⟩
theorem d166_80 : mj_At 166 80 (.iinc 4 (1)) 83 [4] (.int 1) := ⟨3, (congrArg (fun z => mj_at z 80) f166).trans rfl, rfl⟩
theorem d166_83 : mj_At 166 83 (.goto (-24)) 86 [59] (.null) := ⟨3, (congrArg (fun z => mj_at z 83) f166).trans rfl, rfl⟩
theorem d166_86 : mj_At 166 86 (.iconst (0)) 87 [] (.int 0) := ⟨1, (congrArg (fun z => mj_at z 86) f166).trans rfl, rfl⟩
theorem d166_87 : mj_At 166 87 (.istore 4) 89 [4] (.null) := ⟨2, (congrArg (fun z => mj_at z 87) f166).trans rfl, rfl⟩
theorem d166_89 : mj_At 166 89 (.iload 4) 91 [4] (.null) := ⟨2, (congrArg (fun z => mj_at z 89) f166).trans rfl, rfl⟩
theorem d166_91 : mj_At 166 91 (.bipush (8)) 93 [] (.int 8) := ⟨2, (congrArg (fun z => mj_at z 91) f166).trans rfl, rfl⟩
theorem d166_93 : mj_At 166 93 (.if_icmp .ge (57)) 96 [150] (.null) := ⟨3, (congrArg (fun z => mj_at z 93) f166).trans rfl, rfl⟩
theorem d166_96 : mj_At 166 96 (.ldc2_w 197) 99 [884] (.long 31) := ⟨3, (congrArg (fun z => mj_at z 96) f166).trans rfl, rfl⟩
theorem d166_99 : mj_At 166 99 (.lload_n 1) 100 [1] (.null) := ⟨1, (congrArg (fun z => mj_at z 99) f166).trans rfl, rfl⟩
theorem d166_100 : mj_At 166 100 (.lmul) 101 [] (.null) := ⟨1, (congrArg (fun z => mj_at z 100) f166).trans rfl, rfl⟩
theorem d166_101 : mj_At 166 101 (.aload_n 0) 102 [0] (.null) := ⟨1, (congrArg (fun z => mj_at z 101) f166).trans rfl, rfl⟩
theorem d166_102 : mj_At 166 102 (.iload_n 3) 103 [3] (.null) := ⟨1, (congrArg (fun z => mj_at z 102) f166).trans rfl, rfl⟩
theorem d166_103 : mj_At 166 103 (.iload 4) 105 [4] (.null) := ⟨2, (congrArg (fun z => mj_at z 103) f166).trans rfl, rfl⟩
theorem d166_105 : mj_At 166 105 (.invokevirtual 52) 108 [1, 102, 3, 4, 626, 628, 30, 69] (.null) := ⟨3, (congrArg (fun z => mj_at z 105) f166).trans rfl, rfl⟩
theorem d166_108 : mj_At 166 108 (.i2l) 109 [] (.null) := ⟨1, (congrArg (fun z => mj_at z 108) f166).trans rfl, rfl⟩
theorem d166_109 : mj_At 166 109 (.ladd) 110 [] (.null) := ⟨1, (congrArg (fun z => mj_at z 109) f166).trans rfl, rfl⟩
theorem d166_110 : mj_At 166 110 (.lstore_n 1) 111 [1] (.null) := ⟨1, (congrArg (fun z => mj_at z 110) f166).trans rfl, rfl⟩
theorem d166_111 : mj_At 166 111 (.iconst (0)) 112 [] (.int 0) := ⟨1, (congrArg (fun z => mj_at z 111) f166).trans rfl, rfl⟩
theorem d166_112 : mj_At 166 112 (.istore 5) 114 [5] (.null) := ⟨2, (congrArg (fun z => mj_at z 112) f166).trans rfl, rfl⟩
theorem d166_114 : mj_At 166 114 (.iload 5) 116 [5] (.null) := ⟨2, (congrArg (fun z => mj_at z 114) f166).trans rfl, rfl⟩
theorem d166_116 : mj_At 166 116 (.bipush (8)) 118 [] (.int 8) := ⟨2, (congrArg (fun z => mj_at z 116) f166).trans rfl, rfl⟩
theorem d166_118 : mj_At 166 118 (.if_icmp .ge (26)) 121 [144] (.null) := ⟨3, (congrArg (fun z => mj_at z 118) f166).trans rfl, rfl⟩
theorem d166_121 : mj_At 166 121 (.ldc2_w 197) 124 [884] (.long 31) := ⟨3, (congrArg (fun z => mj_at z 121) f166).trans rfl, rfl⟩
theorem d166_124 : mj_At 166 124 (.lload_n 1) 125 [1] (.null) := ⟨1, (congrArg (fun z => mj_at z 124) f166).trans rfl, rfl⟩
theorem d166_125 : mj_At 166 125 (.lmul) 126 [] (.null) := ⟨1, (congrArg (fun z => mj_at z 125) f166).trans rfl, rfl⟩
theorem d166_126 : mj_At 166 126 (.aload_n 0) 127 [0] (.null) := ⟨1, (congrArg (fun z => mj_at z 126) f166).trans rfl, rfl⟩
theorem d166_127 : mj_At 166 127 (.iload_n 3) 128 [3] (.null) := ⟨1, (congrArg (fun z => mj_at z 127) f166).trans rfl, rfl⟩
theorem d166_128 : mj_At 166 128 (.iload 4) 130 [4] (.null) := ⟨2, (congrArg (fun z => mj_at z 128) f166).trans rfl, rfl⟩
theorem d166_130 : mj_At 166 130 (.iload 5) 132 [5] (.null) := ⟨2, (congrArg (fun z => mj_at z 130) f166).trans rfl, rfl⟩
theorem d166_132 : mj_At 166 132 (.invokevirtual 42) 135 [1, 99, 4, 4, 635, 637, 32, 69] (.null) := ⟨3, (congrArg (fun z => mj_at z 132) f166).trans rfl, rfl⟩
theorem d166_135 : mj_At 166 135 (.i2l) 136 [] (.null) := ⟨1, (congrArg (fun z => mj_at z 135) f166).trans rfl, rfl⟩
theorem d166_136 : mj_At 166 136 (.ladd) 137 [] (.null) := ⟨1, (congrArg (fun z => mj_at z 136) f166).trans rfl, rfl⟩
theorem d166_137 : mj_At 166 137 (.lstore_n 1) 138 [1] (.null) := ⟨1, (congrArg (fun z => mj_at z 137) f166).trans rfl, rfl⟩
theorem d166_138 : mj_At 166 138 (.iinc 5 (1)) 141 [5] (.int 1) := ⟨3, (congrArg (fun z => mj_at z 138) f166).trans rfl, rfl⟩
theorem d166_141 : mj_At 166 141 (.goto (-27)) 144 [114] (.null) := ⟨3, (congrArg (fun z => mj_at z 141) f166).trans rfl, rfl⟩
theorem d166_144 : mj_At 166 144 (.iinc 4 (1)) 147 [4] (.int 1) := ⟨3, (congrArg (fun z => mj_at z 144) f166).trans rfl, rfl⟩
theorem d166_147 : mj_At 166 147 (.goto (-58)) 150 [89] (.null) := ⟨3, (congrArg (fun z => mj_at z 147) f166).trans rfl, rfl⟩
theorem d166_150 : mj_At 166 150 (.iinc 3 (1)) 153 [3] (.int 1) := ⟨3, (congrArg (fun z => mj_at z 150) f166).trans rfl, rfl⟩
theorem d166_153 : mj_At 166 153 (.goto (-120)) 156 [33] (.null) := ⟨3, (congrArg (fun z => mj_at z 153) f166).trans rfl, rfl⟩
theorem d166_156 : mj_At 166 156 (.iconst (0)) 157 [] (.int 0) := ⟨1, (congrArg (fun z => mj_at z 156) f166).trans rfl, rfl⟩
theorem d166_157 : mj_At 166 157 (.istore_n 3) 158 [3] (.null) := ⟨1, (congrArg (fun z => mj_at z 157) f166).trans rfl, rfl⟩
theorem d166_158 : mj_At 166 158 (.iload_n 3) 159 [3] (.null) := ⟨1, (congrArg (fun z => mj_at z 158) f166).trans rfl, rfl⟩
theorem d166_159 : mj_At 166 159 (.iconst (4)) 160 [] (.int 4) := ⟨1, (congrArg (fun z => mj_at z 159) f166).trans rfl, rfl⟩
theorem d166_160 : mj_At 166 160 (.if_icmp .gt (22)) 163 [182] (.null) := ⟨3, (congrArg (fun z => mj_at z 160) f166).trans rfl, rfl⟩
theorem d166_163 : mj_At 166 163 (.ldc2_w 197) 166 [884] (.long 31) := ⟨3, (congrArg (fun z => mj_at z 163) f166).trans rfl, rfl⟩
theorem d166_166 : mj_At 166 166 (.lload_n 1) 167 [1] (.null) := ⟨1, (congrArg (fun z => mj_at z 166) f166).trans rfl, rfl⟩
theorem d166_167 : mj_At 166 167 (.lmul) 168 [] (.null) := ⟨1, (congrArg (fun z => mj_at z 167) f166).trans rfl, rfl⟩
theorem d166_168 : mj_At 166 168 (.aload_n 0) 169 [0] (.null) := ⟨1, (congrArg (fun z => mj_at z 168) f166).trans rfl, rfl⟩
theorem d166_169 : mj_At 166 169 (.iload_n 3) 170 [3] (.null) := ⟨1, (congrArg (fun z => mj_at z 169) f166).trans rfl, rfl⟩
theorem d166_170 : mj_At 166 170 (.invokevirtual 149) 173 [1, 144, 2, 4, 795, 797, 53, 69] (.null) := ⟨3, (congrArg (fun z => mj_at z 170) f166).trans rfl, rfl⟩
theorem d166_173 : mj_At 166 173 (.i2l) 174 [] (.null) := ⟨1, (congrArg (fun z => mj_at z 173) f166).trans rfl, rfl⟩
theorem d166_174 : mj_At 166 174 (.ladd) 175 [] (.null) := ⟨1, (congrArg (fun z => mj_at z 174) f166).trans rfl, rfl⟩
theorem d166_175 : mj_At 166 175 (.lstore_n 1) 176 [1] (.null) := ⟨1, (congrArg (fun z => mj_at z 175) f166).trans rfl, rfl⟩
theorem d166_176 : mj_At 166 176 (.iinc 3 (1)) 179 [3] (.int 1) := ⟨3, (congrArg (fun z => mj_at z 176) f166).trans rfl, rfl⟩
theorem d166_179 : mj_At 166 179 (.goto (-21)) 182 [158] (.null) := ⟨3, (congrArg (fun z => mj_at z 179) f166).trans rfl, rfl⟩
theorem d166_182 : mj_At 166 182 (.iconst (0)) 183 [] (.int 0) := ⟨1, (congrArg (fun z => mj_at z 182) f166).trans rfl, rfl⟩
theorem d166_183 : mj_At 166 183 (.istore_n 3) 184 [3] (.null) := ⟨1, (congrArg (fun z => mj_at z 183) f166).trans rfl, rfl⟩
theorem d166_184 : mj_At 166 184 (.iload_n 3) 185 [3] (.null) := ⟨1, (congrArg (fun z => mj_at z 184) f166).trans rfl, rfl⟩
theorem d166_185 : mj_At 166 185 (.iconst (4)) 186 [] (.int 4) := ⟨1, (congrArg (fun z => mj_at z 185) f166).trans rfl, rfl⟩
theorem d166_186 : mj_At 166 186 (.if_icmp .ge (37)) 189 [223] (.null) := ⟨3, (congrArg (fun z => mj_at z 186) f166).trans rfl, rfl⟩
theorem d166_189 : mj_At 166 189 (.ldc2_w 197) 192 [884] (.long 31) := ⟨3, (congrArg (fun z => mj_at z 189) f166).trans rfl, rfl⟩
theorem d166_192 : mj_At 166 192 (.lload_n 1) 193 [1] (.null) := ⟨1, (congrArg (fun z => mj_at z 192) f166).trans rfl, rfl⟩
theorem d166_193 : mj_At 166 193 (.lmul) 194 [] (.null) := ⟨1, (congrArg (fun z => mj_at z 193) f166).trans rfl, rfl⟩
theorem d166_194 : mj_At 166 194 (.aload_n 0) 195 [0] (.null) := ⟨1, (congrArg (fun z => mj_at z 194) f166).trans rfl, rfl⟩
theorem d166_195 : mj_At 166 195 (.iload_n 3) 196 [3] (.null) := ⟨1, (congrArg (fun z => mj_at z 195) f166).trans rfl, rfl⟩
theorem d166_196 : mj_At 166 196 (.iconst (0)) 197 [] (.int 0) := ⟨1, (congrArg (fun z => mj_at z 196) f166).trans rfl, rfl⟩
theorem d166_197 : mj_At 166 197 (.invokevirtual 152) 200 [1, 146, 3, 4, 803, 805, 54, 69] (.null) := ⟨3, (congrArg (fun z => mj_at z 197) f166).trans rfl, rfl⟩
theorem d166_200 : mj_At 166 200 (.i2l) 201 [] (.null) := ⟨1, (congrArg (fun z => mj_at z 200) f166).trans rfl, rfl⟩
theorem d166_201 : mj_At 166 201 (.ladd) 202 [] (.null) := ⟨1, (congrArg (fun z => mj_at z 201) f166).trans rfl, rfl⟩
theorem d166_202 : mj_At 166 202 (.lstore_n 1) 203 [1] (.null) := ⟨1, (congrArg (fun z => mj_at z 202) f166).trans rfl, rfl⟩
theorem d166_203 : mj_At 166 203 (.ldc2_w 197) 206 [884] (.long 31) := ⟨3, (congrArg (fun z => mj_at z 203) f166).trans rfl, rfl⟩
theorem d166_206 : mj_At 166 206 (.lload_n 1) 207 [1] (.null) := ⟨1, (congrArg (fun z => mj_at z 206) f166).trans rfl, rfl⟩
theorem d166_207 : mj_At 166 207 (.lmul) 208 [] (.null) := ⟨1, (congrArg (fun z => mj_at z 207) f166).trans rfl, rfl⟩
theorem d166_208 : mj_At 166 208 (.aload_n 0) 209 [0] (.null) := ⟨1, (congrArg (fun z => mj_at z 208) f166).trans rfl, rfl⟩
theorem d166_209 : mj_At 166 209 (.iload_n 3) 210 [3] (.null) := ⟨1, (congrArg (fun z => mj_at z 209) f166).trans rfl, rfl⟩
theorem d166_210 : mj_At 166 210 (.iconst (1)) 211 [] (.int 1) := ⟨1, (congrArg (fun z => mj_at z 210) f166).trans rfl, rfl⟩
theorem d166_211 : mj_At 166 211 (.invokevirtual 152) 214 [1, 146, 3, 4, 803, 805, 54, 69] (.null) := ⟨3, (congrArg (fun z => mj_at z 211) f166).trans rfl, rfl⟩
theorem d166_214 : mj_At 166 214 (.i2l) 215 [] (.null) := ⟨1, (congrArg (fun z => mj_at z 214) f166).trans rfl, rfl⟩
theorem d166_215 : mj_At 166 215 (.ladd) 216 [] (.null) := ⟨1, (congrArg (fun z => mj_at z 215) f166).trans rfl, rfl⟩
theorem d166_216 : mj_At 166 216 (.lstore_n 1) 217 [1] (.null) := ⟨1, (congrArg (fun z => mj_at z 216) f166).trans rfl, rfl⟩
theorem d166_217 : mj_At 166 217 (.iinc 3 (1)) 220 [3] (.int 1) := ⟨3, (congrArg (fun z => mj_at z 217) f166).trans rfl, rfl⟩
theorem d166_220 : mj_At 166 220 (.goto (-36)) 223 [184] (.null) := ⟨3, (congrArg (fun z => mj_at z 220) f166).trans rfl, rfl⟩
theorem d166_223 : mj_At 166 223 (.ldc2_w 197) 226 [884] (.long 31) := ⟨3, (congrArg (fun z => mj_at z 223) f166).trans rfl, rfl⟩
theorem d166_226 : mj_At 166 226 (.lload_n 1) 227 [1] (.null) := ⟨1, (congrArg (fun z => mj_at z 226) f166).trans rfl, rfl⟩
theorem d166_227 : mj_At 166 227 (.lmul) 228 [] (.null) := ⟨1, (congrArg (fun z => mj_at z 227) f166).trans rfl, rfl⟩
theorem d166_228 : mj_At 166 228 (.aload_n 0) 229 [0] (.null) := ⟨1, (congrArg (fun z => mj_at z 228) f166).trans rfl, rfl⟩
theorem d166_229 : mj_At 166 229 (.invokevirtual 155) 232 [1, 151, 1, 4, 823, 825, 55, 69] (.null) := ⟨3, (congrArg (fun z => mj_at z 229) f166).trans rfl, rfl⟩
theorem d166_232 : mj_At 166 232 (.i2l) 233 [] (.null) := ⟨1, (congrArg (fun z => mj_at z 232) f166).trans rfl, rfl⟩
theorem d166_233 : mj_At 166 233 (.ladd) 234 [] (.null) := ⟨1, (congrArg (fun z => mj_at z 233) f166).trans rfl, rfl⟩
theorem d166_234 : mj_At 166 234 (.lstore_n 1) 235 [1] (.null) := ⟨1, (congrArg (fun z => mj_at z 234) f166).trans rfl, rfl⟩
theorem d166_235 : mj_At 166 235 (.ldc2_w 197) 238 [884] (.long 31) := ⟨3, (congrArg (fun z => mj_at z 235) f166).trans rfl, rfl⟩
theorem d166_238 : mj_At 166 238 (.lload_n 1) 239 [1] (.null) := ⟨1, (congrArg (fun z => mj_at z 238) f166).trans rfl, rfl⟩
theorem d166_239 : mj_At 166 239 (.lmul) 240 [] (.null) := ⟨1, (congrArg (fun z => mj_at z 239) f166).trans rfl, rfl⟩
theorem d166_240 : mj_At 166 240 (.aload_n 0) 241 [0] (.null) := ⟨1, (congrArg (fun z => mj_at z 240) f166).trans rfl, rfl⟩
theorem d166_241 : mj_At 166 241 (.invokevirtual 158) 244 [1, 153, 1, 4, 831, 833, 56, 69] (.null) := ⟨3, (congrArg (fun z => mj_at z 241) f166).trans rfl, rfl⟩
theorem d166_244 : mj_At 166 244 (.i2l) 245 [] (.null) := ⟨1, (congrArg (fun z => mj_at z 244) f166).trans rfl, rfl⟩
theorem d166_245 : mj_At 166 245 (.ladd) 246 [] (.null) := ⟨1, (congrArg (fun z => mj_at z 245) f166).trans rfl, rfl⟩
theorem d166_246 : mj_At 166 246 (.lreturn) 247 [] (.null) := ⟨1, (congrArg (fun z => mj_at z 246) f166).trans rfl, rfl⟩
theorem e166_0 {c : mj_C}  {L : Nat} {ps : List (Option (Option Nat))}   : mj_EV 166 0 [some (.ref 52), none, none, none, none, none] [] (w_al L ps) c = mj_EV 166 6 [some (.ref 52), some (.long 432), none, some (.int (nI 0)), none, none] [] (w_al L ps) c := (mj_ldc2_w d166_0 (mj_lstore_n [some (.ref 52), some (.long 432), none, none, none, none] d166_3 rfl rfl (mj_iconst d166_4 (mj_istore_n [some (.ref 52), some (.long 432), none, some (.int (nI 0)), none, none] d166_5 rfl rfl rfl))))
theorem e166_6 {c : mj_C} {w1 : Int64} {x3 : Int32} {L : Nat} {ps : List (Option (Option Nat))}   : mj_EV 166 6 [some (.ref 52), some (.long w1), none, some (.int x3), none, none] [] (w_al L ps) c = (if (nI 8) < x3 then mj_EV 166 33 [some (.ref 52), some (.long w1), none, some (.int (nI 0)), none, none] [] (w_al L ps) c else (mj_then 166 22 [some (.ref 52), some (.long w1), none, some (.int x3), none, none] [.long (31 * w1)] (mj_EV 137 0 [some (.ref 52), some (.int x3)] [] (w_al L ps) c))) := (mj_iload_n d166_6 rfl (mj_bipush d166_7 (mj_icgt d166_9 (mj_iconst d166_31 (mj_istore_n [some (.ref 52), some (.long w1), none, some (.int (nI 0)), none, none] d166_32 rfl rfl rfl)) (mj_ldc2_w d166_12 (mj_lload_n d166_15 rfl (mj_lmul d166_16 (mj_aload_n d166_17 rfl (mj_iload_n d166_18 rfl (mj_invV [some (.ref 52), some (.int x3)] [.long (31 * w1)] d166_19 rfl rfl rfl w_52 rfl rfl)))))))))
theorem e166_22 {c : mj_C} {w1 : Int64} {x3 : Int32} {z0 : Int64} {z1 : Int32} {L : Nat} {ps : List (Option (Option Nat))}   : mj_EV 166 22 [some (.ref 52), some (.long w1), none, some (.int x3), none, none] [.int z1, .long z0] (w_al L ps) c = mj_EV 166 6 [some (.ref 52), some (.long (z0 + (Int32.toInt64 z1))), none, some (.int (x3 + (nI 1))), none, none] [] (w_al L ps) c := (mj_i2l d166_22 (mj_ladd d166_23 (mj_lstore_n [some (.ref 52), some (.long (z0 + (Int32.toInt64 z1))), none, some (.int x3), none, none] d166_24 rfl rfl (mj_iinc [some (.ref 52), some (.long (z0 + (Int32.toInt64 z1))), none, some (.int (x3 + (nI 1))), none, none] d166_25 rfl rfl rfl (mj_goto d166_28 rfl)))))
theorem e166_33 {c : mj_C} {w1 : Int64} {x3 : Int32} {o4 : Option Value} {o5 : Option Value} {L : Nat} {ps : List (Option (Option Nat))}   : mj_EV 166 33 [some (.ref 52), some (.long w1), none, some (.int x3), o4, o5] [] (w_al L ps) c = (if (nI 10) ≤ x3 then mj_EV 166 158 [some (.ref 52), some (.long w1), none, some (.int (nI 0)), o4, o5] [] (w_al L ps) c else (mj_then 166 44 [some (.ref 52), some (.long w1), none, some (.int x3), o4, o5] [] (mj_EV 96 0 [some (.ref 52), some (.int x3)] [] (w_al L ps) c))) := (mj_iload_n d166_33 rfl (mj_bipush d166_34 (mj_icge d166_36 (mj_iconst d166_156 (mj_istore_n [some (.ref 52), some (.long w1), none, some (.int (nI 0)), o4, o5] d166_157 rfl rfl rfl)) (mj_aload_n d166_39 rfl (mj_iload_n d166_40 rfl (mj_invV [some (.ref 52), some (.int x3)] [] d166_41 rfl rfl rfl w_52 rfl rfl))))))
theorem e166_44 {c : mj_C} {w1 : Int64} {x3 : Int32} {o4 : Option Value} {o5 : Option Value} {z0 : Int32} {L : Nat} {ps : List (Option (Option Nat))}   : mj_EV 166 44 [some (.ref 52), some (.long w1), none, some (.int x3), o4, o5] [.int z0] (w_al L ps) c = (if z0 = nI 0 then mj_EV 166 33 [some (.ref 52), some (.long w1), none, some (.int (x3 + (nI 1))), o4, o5] [] (w_al L ps) c else mj_EV 166 59 [some (.ref 52), some (.long ((31 * w1) + (Int32.toInt64 x3))), none, some (.int x3), some (.int (nI 0)), o5] [] (w_al L ps) c) := (mj_ifeq d166_44 (mj_iinc [some (.ref 52), some (.long w1), none, some (.int (x3 + (nI 1))), o4, o5] d166_150 rfl rfl rfl (mj_goto d166_153 rfl)) (mj_ldc2_w d166_47 (mj_lload_n d166_50 rfl (mj_lmul d166_51 (mj_iload_n d166_52 rfl (mj_i2l d166_53 (mj_ladd d166_54 (mj_lstore_n [some (.ref 52), some (.long ((31 * w1) + (Int32.toInt64 x3))), none, some (.int x3), o4, o5] d166_55 rfl rfl (mj_iconst d166_56 (mj_istore [some (.ref 52), some (.long ((31 * w1) + (Int32.toInt64 x3))), none, some (.int x3), some (.int (nI 0)), o5] d166_57 rfl rfl rfl))))))))))
theorem e166_59 {c : mj_C} {w1 : Int64} {x3 : Int32} {x4 : Int32} {o5 : Option Value} {L : Nat} {ps : List (Option (Option Nat))}   : mj_EV 166 59 [some (.ref 52), some (.long w1), none, some (.int x3), some (.int x4), o5] [] (w_al L ps) c = (if (nI 4) < x4 then mj_EV 166 89 [some (.ref 52), some (.long w1), none, some (.int x3), some (.int (nI 0)), o5] [] (w_al L ps) c else (mj_then 166 77 [some (.ref 52), some (.long w1), none, some (.int x3), some (.int x4), o5] [.long (31 * w1)] (mj_EV 140 0 [some (.ref 52), some (.int x3), some (.int x4)] [] (w_al L ps) c))) := (mj_iload d166_59 rfl (mj_iconst d166_61 (mj_icgt d166_62 (mj_iconst d166_86 (mj_istore [some (.ref 52), some (.long w1), none, some (.int x3), some (.int (nI 0)), o5] d166_87 rfl rfl rfl)) (mj_ldc2_w d166_65 (mj_lload_n d166_68 rfl (mj_lmul d166_69 (mj_aload_n d166_70 rfl (mj_iload_n d166_71 rfl (mj_iload d166_72 rfl (mj_invV [some (.ref 52), some (.int x3), some (.int x4)] [.long (31 * w1)] d166_74 rfl rfl rfl w_52 rfl rfl))))))))))
theorem e166_77 {c : mj_C} {w1 : Int64} {x3 : Int32} {x4 : Int32} {o5 : Option Value} {z0 : Int64} {z1 : Int32} {L : Nat} {ps : List (Option (Option Nat))}   : mj_EV 166 77 [some (.ref 52), some (.long w1), none, some (.int x3), some (.int x4), o5] [.int z1, .long z0] (w_al L ps) c = mj_EV 166 59 [some (.ref 52), some (.long (z0 + (Int32.toInt64 z1))), none, some (.int x3), some (.int (x4 + (nI 1))), o5] [] (w_al L ps) c := (mj_i2l d166_77 (mj_ladd d166_78 (mj_lstore_n [some (.ref 52), some (.long (z0 + (Int32.toInt64 z1))), none, some (.int x3), some (.int x4), o5] d166_79 rfl rfl (mj_iinc [some (.ref 52), some (.long (z0 + (Int32.toInt64 z1))), none, some (.int x3), some (.int (x4 + (nI 1))), o5] d166_80 rfl rfl rfl (mj_goto d166_83 rfl)))))
theorem e166_89 {c : mj_C} {w1 : Int64} {x3 : Int32} {x4 : Int32} {o5 : Option Value} {L : Nat} {ps : List (Option (Option Nat))}   : mj_EV 166 89 [some (.ref 52), some (.long w1), none, some (.int x3), some (.int x4), o5] [] (w_al L ps) c = (if (nI 8) ≤ x4 then mj_EV 166 33 [some (.ref 52), some (.long w1), none, some (.int (x3 + (nI 1))), some (.int x4), o5] [] (w_al L ps) c else (mj_then 166 108 [some (.ref 52), some (.long w1), none, some (.int x3), some (.int x4), o5] [.long (31 * w1)] (mj_EV 102 0 [some (.ref 52), some (.int x3), some (.int x4), none, none] [] (w_al L ps) c))) := (mj_iload d166_89 rfl (mj_bipush d166_91 (mj_icge d166_93 (mj_iinc [some (.ref 52), some (.long w1), none, some (.int (x3 + (nI 1))), some (.int x4), o5] d166_150 rfl rfl rfl (mj_goto d166_153 rfl)) (mj_ldc2_w d166_96 (mj_lload_n d166_99 rfl (mj_lmul d166_100 (mj_aload_n d166_101 rfl (mj_iload_n d166_102 rfl (mj_iload d166_103 rfl (mj_invV [some (.ref 52), some (.int x3), some (.int x4), none, none] [.long (31 * w1)] d166_105 rfl rfl rfl w_52 rfl rfl))))))))))
theorem e166_108 {c : mj_C} {w1 : Int64} {x3 : Int32} {x4 : Int32} {o5 : Option Value} {z0 : Int64} {z1 : Int32} {L : Nat} {ps : List (Option (Option Nat))}   : mj_EV 166 108 [some (.ref 52), some (.long w1), none, some (.int x3), some (.int x4), o5] [.int z1, .long z0] (w_al L ps) c = mj_EV 166 114 [some (.ref 52), some (.long (z0 + (Int32.toInt64 z1))), none, some (.int x3), some (.int x4), some (.int (nI 0))] [] (w_al L ps) c := (mj_i2l d166_108 (mj_ladd d166_109 (mj_lstore_n [some (.ref 52), some (.long (z0 + (Int32.toInt64 z1))), none, some (.int x3), some (.int x4), o5] d166_110 rfl rfl (mj_iconst d166_111 (mj_istore [some (.ref 52), some (.long (z0 + (Int32.toInt64 z1))), none, some (.int x3), some (.int x4), some (.int (nI 0))] d166_112 rfl rfl rfl)))))
theorem e166_114 {c : mj_C} {w1 : Int64} {x3 : Int32} {x4 : Int32} {x5 : Int32} {L : Nat} {ps : List (Option (Option Nat))}   : mj_EV 166 114 [some (.ref 52), some (.long w1), none, some (.int x3), some (.int x4), some (.int x5)] [] (w_al L ps) c = (if (nI 8) ≤ x5 then mj_EV 166 89 [some (.ref 52), some (.long w1), none, some (.int x3), some (.int (x4 + (nI 1))), some (.int x5)] [] (w_al L ps) c else (mj_then 166 135 [some (.ref 52), some (.long w1), none, some (.int x3), some (.int x4), some (.int x5)] [.long (31 * w1)] (mj_EV 99 0 [some (.ref 52), some (.int x3), some (.int x4), some (.int x5)] [] (w_al L ps) c))) := (mj_iload d166_114 rfl (mj_bipush d166_116 (mj_icge d166_118 (mj_iinc [some (.ref 52), some (.long w1), none, some (.int x3), some (.int (x4 + (nI 1))), some (.int x5)] d166_144 rfl rfl rfl (mj_goto d166_147 rfl)) (mj_ldc2_w d166_121 (mj_lload_n d166_124 rfl (mj_lmul d166_125 (mj_aload_n d166_126 rfl (mj_iload_n d166_127 rfl (mj_iload d166_128 rfl (mj_iload d166_130 rfl (mj_invV [some (.ref 52), some (.int x3), some (.int x4), some (.int x5)] [.long (31 * w1)] d166_132 rfl rfl rfl w_52 rfl rfl)))))))))))
theorem e166_135 {c : mj_C} {w1 : Int64} {x3 : Int32} {x4 : Int32} {x5 : Int32} {z0 : Int64} {z1 : Int32} {L : Nat} {ps : List (Option (Option Nat))}   : mj_EV 166 135 [some (.ref 52), some (.long w1), none, some (.int x3), some (.int x4), some (.int x5)] [.int z1, .long z0] (w_al L ps) c = mj_EV 166 114 [some (.ref 52), some (.long (z0 + (Int32.toInt64 z1))), none, some (.int x3), some (.int x4), some (.int (x5 + (nI 1)))] [] (w_al L ps) c := (mj_i2l d166_135 (mj_ladd d166_136 (mj_lstore_n [some (.ref 52), some (.long (z0 + (Int32.toInt64 z1))), none, some (.int x3), some (.int x4), some (.int x5)] d166_137 rfl rfl (mj_iinc [some (.ref 52), some (.long (z0 + (Int32.toInt64 z1))), none, some (.int x3), some (.int x4), some (.int (x5 + (nI 1)))] d166_138 rfl rfl rfl (mj_goto d166_141 rfl)))))
theorem e166_158 {c : mj_C} {w1 : Int64} {x3 : Int32} {o4 : Option Value} {o5 : Option Value} {L : Nat} {ps : List (Option (Option Nat))}   : mj_EV 166 158 [some (.ref 52), some (.long w1), none, some (.int x3), o4, o5] [] (w_al L ps) c = (if (nI 4) < x3 then mj_EV 166 184 [some (.ref 52), some (.long w1), none, some (.int (nI 0)), o4, o5] [] (w_al L ps) c else (mj_then 166 173 [some (.ref 52), some (.long w1), none, some (.int x3), o4, o5] [.long (31 * w1)] (mj_EV 144 0 [some (.ref 52), some (.int x3), none, none, none] [] (w_al L ps) c))) := (mj_iload_n d166_158 rfl (mj_iconst d166_159 (mj_icgt d166_160 (mj_iconst d166_182 (mj_istore_n [some (.ref 52), some (.long w1), none, some (.int (nI 0)), o4, o5] d166_183 rfl rfl rfl)) (mj_ldc2_w d166_163 (mj_lload_n d166_166 rfl (mj_lmul d166_167 (mj_aload_n d166_168 rfl (mj_iload_n d166_169 rfl (mj_invV [some (.ref 52), some (.int x3), none, none, none] [.long (31 * w1)] d166_170 rfl rfl rfl w_52 rfl rfl)))))))))
theorem e166_173 {c : mj_C} {w1 : Int64} {x3 : Int32} {o4 : Option Value} {o5 : Option Value} {z0 : Int64} {z1 : Int32} {L : Nat} {ps : List (Option (Option Nat))}   : mj_EV 166 173 [some (.ref 52), some (.long w1), none, some (.int x3), o4, o5] [.int z1, .long z0] (w_al L ps) c = mj_EV 166 158 [some (.ref 52), some (.long (z0 + (Int32.toInt64 z1))), none, some (.int (x3 + (nI 1))), o4, o5] [] (w_al L ps) c := (mj_i2l d166_173 (mj_ladd d166_174 (mj_lstore_n [some (.ref 52), some (.long (z0 + (Int32.toInt64 z1))), none, some (.int x3), o4, o5] d166_175 rfl rfl (mj_iinc [some (.ref 52), some (.long (z0 + (Int32.toInt64 z1))), none, some (.int (x3 + (nI 1))), o4, o5] d166_176 rfl rfl rfl (mj_goto d166_179 rfl)))))
theorem e166_184 {c : mj_C} {w1 : Int64} {x3 : Int32} {o4 : Option Value} {o5 : Option Value} {L : Nat} {ps : List (Option (Option Nat))}   : mj_EV 166 184 [some (.ref 52), some (.long w1), none, some (.int x3), o4, o5] [] (w_al L ps) c = (if (nI 4) ≤ x3 then (mj_then 166 232 [some (.ref 52), some (.long w1), none, some (.int x3), o4, o5] [.long (31 * w1)] (mj_EV 151 0 [some (.ref 52), none, none, none, none] [] (w_al L ps) c)) else (mj_then 166 200 [some (.ref 52), some (.long w1), none, some (.int x3), o4, o5] [.long (31 * w1)] (mj_EV 146 0 [some (.ref 52), some (.int x3), some (.int (nI 0))] [] (w_al L ps) c))) := (mj_iload_n d166_184 rfl (mj_iconst d166_185 (mj_icge d166_186 (mj_ldc2_w d166_223 (mj_lload_n d166_226 rfl (mj_lmul d166_227 (mj_aload_n d166_228 rfl (mj_invV [some (.ref 52), none, none, none, none] [.long (31 * w1)] d166_229 rfl rfl rfl w_52 rfl rfl))))) (mj_ldc2_w d166_189 (mj_lload_n d166_192 rfl (mj_lmul d166_193 (mj_aload_n d166_194 rfl (mj_iload_n d166_195 rfl (mj_iconst d166_196 (mj_invV [some (.ref 52), some (.int x3), some (.int (nI 0))] [.long (31 * w1)] d166_197 rfl rfl rfl w_52 rfl rfl))))))))))
theorem e166_200 {c : mj_C} {w1 : Int64} {x3 : Int32} {o4 : Option Value} {o5 : Option Value} {z0 : Int64} {z1 : Int32} {L : Nat} {ps : List (Option (Option Nat))}   : mj_EV 166 200 [some (.ref 52), some (.long w1), none, some (.int x3), o4, o5] [.int z1, .long z0] (w_al L ps) c = (mj_then 166 214 [some (.ref 52), some (.long (z0 + (Int32.toInt64 z1))), none, some (.int x3), o4, o5] [.long (31 * (z0 + (Int32.toInt64 z1)))] (mj_EV 146 0 [some (.ref 52), some (.int x3), some (.int (nI 1))] [] (w_al L ps) c)) := (mj_i2l d166_200 (mj_ladd d166_201 (mj_lstore_n [some (.ref 52), some (.long (z0 + (Int32.toInt64 z1))), none, some (.int x3), o4, o5] d166_202 rfl rfl (mj_ldc2_w d166_203 (mj_lload_n d166_206 rfl (mj_lmul d166_207 (mj_aload_n d166_208 rfl (mj_iload_n d166_209 rfl (mj_iconst d166_210 (mj_invV [some (.ref 52), some (.int x3), some (.int (nI 1))] [.long (31 * (z0 + (Int32.toInt64 z1)))] d166_211 rfl rfl rfl w_52 rfl rfl))))))))))
theorem e166_214 {c : mj_C} {w1 : Int64} {x3 : Int32} {o4 : Option Value} {o5 : Option Value} {z0 : Int64} {z1 : Int32} {L : Nat} {ps : List (Option (Option Nat))}   : mj_EV 166 214 [some (.ref 52), some (.long w1), none, some (.int x3), o4, o5] [.int z1, .long z0] (w_al L ps) c = mj_EV 166 184 [some (.ref 52), some (.long (z0 + (Int32.toInt64 z1))), none, some (.int (x3 + (nI 1))), o4, o5] [] (w_al L ps) c := (mj_i2l d166_214 (mj_ladd d166_215 (mj_lstore_n [some (.ref 52), some (.long (z0 + (Int32.toInt64 z1))), none, some (.int x3), o4, o5] d166_216 rfl rfl (mj_iinc [some (.ref 52), some (.long (z0 + (Int32.toInt64 z1))), none, some (.int (x3 + (nI 1))), o4, o5] d166_217 rfl rfl rfl (mj_goto d166_220 rfl)))))
theorem e166_232 {c : mj_C} {w1 : Int64} {x3 : Int32} {o4 : Option Value} {o5 : Option Value} {z0 : Int64} {z1 : Int32} {L : Nat} {ps : List (Option (Option Nat))}   : mj_EV 166 232 [some (.ref 52), some (.long w1), none, some (.int x3), o4, o5] [.int z1, .long z0] (w_al L ps) c = (mj_then 166 244 [some (.ref 52), some (.long (z0 + (Int32.toInt64 z1))), none, some (.int x3), o4, o5] [.long (31 * (z0 + (Int32.toInt64 z1)))] (mj_EV 153 0 [some (.ref 52), none] [] (w_al L ps) c)) := (mj_i2l d166_232 (mj_ladd d166_233 (mj_lstore_n [some (.ref 52), some (.long (z0 + (Int32.toInt64 z1))), none, some (.int x3), o4, o5] d166_234 rfl rfl (mj_ldc2_w d166_235 (mj_lload_n d166_238 rfl (mj_lmul d166_239 (mj_aload_n d166_240 rfl (mj_invV [some (.ref 52), none] [.long (31 * (z0 + (Int32.toInt64 z1)))] d166_241 rfl rfl rfl w_52 rfl rfl))))))))
theorem e166_244 {c : mj_C} {w1 : Int64} {x3 : Int32} {o4 : Option Value} {o5 : Option Value} {z0 : Int64} {z1 : Int32} {L : Nat} {ps : List (Option (Option Nat))}   : mj_EV 166 244 [some (.ref 52), some (.long w1), none, some (.int x3), o4, o5] [.int z1, .long z0] (w_al L ps) c = (some (some (.long (z0 + (Int32.toInt64 z1))), (w_al L ps), c)) := (mj_i2l d166_244 (mj_ladd d166_245 (mj_lret d166_246)))
