/-- SqueezedLinesLaw.cell([II)I -/
theorem f92 : mj_cd 92 = mj_c92 := rfl
theorem d92_0 : mj_At 92 0 (.iload_n 1) 1 [1] (.null) := ⟨1, (congrArg (fun z => mj_at z 0) f92).trans rfl, rfl⟩
theorem d92_1 : mj_At 92 1 (.aload_n 0) 2 [0] (.null) := ⟨1, (congrArg (fun z => mj_at z 1) f92).trans rfl, rfl⟩
theorem d92_2 : mj_At 92 2 (.arraylength) 3 [] (.null) := ⟨1, (congrArg (fun z => mj_at z 2) f92).trans rfl, rfl⟩
theorem d92_3 : mj_At 92 3 (.if_icmp .ge (9)) 6 [12] (.null) := ⟨3, (congrArg (fun z => mj_at z 3) f92).trans rfl, rfl⟩
theorem d92_6 : mj_At 92 6 (.aload_n 0) 7 [0] (.null) := ⟨1, (congrArg (fun z => mj_at z 6) f92).trans rfl, rfl⟩
theorem d92_7 : mj_At 92 7 (.iload_n 1) 8 [1] (.null) := ⟨1, (congrArg (fun z => mj_at z 7) f92).trans rfl, rfl⟩
theorem d92_8 : mj_At 92 8 (.iaload) 9 [] (.null) := ⟨1, (congrArg (fun z => mj_at z 8) f92).trans rfl, rfl⟩
theorem d92_9 : mj_At 92 9 (.goto (12)) 12 [21] (.null) := ⟨3, (congrArg (fun z => mj_at z 9) f92).trans rfl, rfl⟩
theorem d92_12 : mj_At 92 12 (.ldc 7) 14 [362] (.int 1033861973) := ⟨2, (congrArg (fun z => mj_at z 12) f92).trans rfl, rfl⟩
theorem d92_14 : mj_At 92 14 (.iload_n 1) 15 [1] (.null) := ⟨1, (congrArg (fun z => mj_at z 14) f92).trans rfl, rfl⟩
theorem d92_15 : mj_At 92 15 (.iconst (1)) 16 [] (.int 1) := ⟨1, (congrArg (fun z => mj_at z 15) f92).trans rfl, rfl⟩
theorem d92_16 : mj_At 92 16 (.iadd) 17 [] (.null) := ⟨1, (congrArg (fun z => mj_at z 16) f92).trans rfl, rfl⟩
theorem d92_17 : mj_At 92 17 (.imul) 18 [] (.null) := ⟨1, (congrArg (fun z => mj_at z 17) f92).trans rfl, rfl⟩
theorem d92_18 : mj_At 92 18 (.ldc 8) 20 [363] (.int 751363239) := ⟨2, (congrArg (fun z => mj_at z 18) f92).trans rfl, rfl⟩
theorem d92_20 : mj_At 92 20 (.iadd) 21 [] (.null) := ⟨1, (congrArg (fun z => mj_at z 20) f92).trans rfl, rfl⟩
theorem d92_21 : mj_At 92 21 (.ireturn) 22 [0] (.null) := ⟨1, (congrArg (fun z => mj_at z 21) f92).trans rfl, rfl⟩
theorem e92_0 {c : mj_C} {x1 : Int32} {L : Nat} {ps : List (Option (Option Nat))} {rest : List mj_K}   : mj_EV 92 0 [some (.ref 0), some (.int x1)] [] (w_sh L ps rest) c = (if (Int32.ofNat L) ≤ x1 then (some (some (.int (((nI 1033861973) * (x1 + (nI 1))) + (nI 751363239))), (w_sh L ps rest), c)) else (if mj_in x1 L = true then (some (some (.int (c 0 x1.toNatClampNeg)), (w_sh L ps rest), c)) else none)) := (mj_iload_n d92_0 rfl (mj_aload_n d92_1 rfl (mj_alen d92_2 w_0 rfl (mj_icge d92_3 (mj_ldc d92_12 (mj_iload_n d92_14 rfl (mj_iconst d92_15 (mj_iadd d92_16 (mj_imul d92_17 (mj_ldc d92_18 (mj_iadd d92_20 (mj_iret d92_21)))))))) (mj_aload_n d92_6 rfl (mj_iload_n d92_7 rfl (mj_roald d92_8 w_0 rfl (mj_goto d92_9 (mj_iret d92_21)))))))))
/-- SqueezedLinesLaw.low(II)I -/
theorem f93 : mj_cd 93 = mj_c93 := rfl
theorem d93_0 : mj_At 93 0 (.iload_n 0) 1 [0] (.null) := ⟨1, (congrArg (fun z => mj_at z 0) f93).trans rfl, rfl⟩
theorem d93_1 : mj_At 93 1 (.ldc 9) 3 [367] (.int 2147483647) := ⟨2, (congrArg (fun z => mj_at z 1) f93).trans rfl, rfl⟩
theorem d93_3 : mj_At 93 3 (.iand) 4 [] (.null) := ⟨1, (congrArg (fun z => mj_at z 3) f93).trans rfl, rfl⟩
theorem d93_4 : mj_At 93 4 (.iload_n 1) 5 [1] (.null) := ⟨1, (congrArg (fun z => mj_at z 4) f93).trans rfl, rfl⟩
theorem d93_5 : mj_At 93 5 (.irem) 6 [] (.null) := ⟨1, (congrArg (fun z => mj_at z 5) f93).trans rfl, rfl⟩
theorem d93_6 : mj_At 93 6 (.ireturn) 7 [0] (.null) := ⟨1, (congrArg (fun z => mj_at z 6) f93).trans rfl, rfl⟩
theorem e93_0 {c : mj_C} {x0 : Int32} {x1 : Int32} {L : Nat} {ps : List (Option (Option Nat))} {rest : List mj_K}   : mj_EV 93 0 [some (.int x0), some (.int x1)] [] (w_sh L ps rest) c = (if (!decide (x1 = nI 0)) = true then (some (some (.int ((x0 &&& (nI 2147483647)) - (x0 &&& (nI 2147483647)) / x1 * x1)), (w_sh L ps rest), c)) else none) := (mj_iload_n d93_0 rfl (mj_ldc d93_1 (mj_iand d93_3 (mj_iload_n d93_4 rfl (mj_irem d93_5 (mj_iret d93_6))))))
/-- SqueezedLinesLaw.row(I[I[I[I)[I -/
theorem f94 : mj_cd 94 = mj_c94 := rfl
theorem d94_0 : mj_At 94 0 (.iload_n 0) 1 [0] (.null) := ⟨1, (congrArg (fun z => mj_at z 0) f94).trans rfl, rfl⟩
theorem d94_1 : mj_At 94 1 (.ifCond .ne (7)) 4 [8] (.null) := ⟨3, (congrArg (fun z => mj_at z 1) f94).trans rfl, rfl⟩
theorem d94_4 : mj_At 94 4 (.aload_n 1) 5 [1] (.null) := ⟨1, (congrArg (fun z => mj_at z 4) f94).trans rfl, rfl⟩
theorem d94_5 : mj_At 94 5 (.goto (13)) 8 [18] (.null) := ⟨3, (congrArg (fun z => mj_at z 5) f94).trans rfl, rfl⟩
theorem d94_8 : mj_At 94 8 (.iload_n 0) 9 [0] (.null) := ⟨1, (congrArg (fun z => mj_at z 8) f94).trans rfl, rfl⟩
theorem d94_9 : mj_At 94 9 (.iconst (1)) 10 [] (.int 1) := ⟨1, (congrArg (fun z => mj_at z 9) f94).trans rfl, rfl⟩
theorem d94_10 : mj_At 94 10 (.if_icmp .ne (7)) 13 [17] (.null) := ⟨3, (congrArg (fun z => mj_at z 10) f94).trans rfl, rfl⟩
theorem d94_13 : mj_At 94 13 (.aload_n 2) 14 [2] (.null) := ⟨1, (congrArg (fun z => mj_at z 13) f94).trans rfl, rfl⟩
theorem d94_14 : mj_At 94 14 (.goto (4)) 17 [18] (.null) := ⟨3, (congrArg (fun z => mj_at z 14) f94).trans rfl, rfl⟩
theorem d94_17 : mj_At 94 17 (.aload_n 3) 18 [3] (.null) := ⟨1, (congrArg (fun z => mj_at z 17) f94).trans rfl, rfl⟩
theorem d94_18 : mj_At 94 18 (.areturn) 19 [] (.null) := ⟨1, (congrArg (fun z => mj_at z 18) f94).trans rfl, rfl⟩
theorem e94_0 {c : mj_C} {x0 : Int32} {L : Nat} {ps : List (Option (Option Nat))} {rest : List mj_K} {a na : Nat} (ha : (w_sh L ps rest)[a]? = some (0, na, [])) {b nb : Nat} (hb : (w_sh L ps rest)[b]? = some (0, nb, [])) {d nd : Nat} (hd : (w_sh L ps rest)[d]? = some (0, nd, []))  : mj_EV 94 0 [some (.int x0), some (.ref a), some (.ref b), some (.ref d)] [] (w_sh L ps rest) c = (if x0 = nI 0 then (some (some (.ref a), (w_sh L ps rest), c)) else (if x0 = (nI 1) then (some (some (.ref b), (w_sh L ps rest), c)) else (some (some (.ref d), (w_sh L ps rest), c)))) := (mj_iload_n d94_0 rfl (mj_ifne d94_1 (mj_iload_n d94_8 rfl (mj_iconst d94_9 (mj_icne d94_10 (mj_aload_n d94_17 rfl (mj_aret d94_18)) (mj_aload_n d94_13 rfl (mj_goto d94_14 (mj_aret d94_18)))))) (mj_aload_n d94_4 rfl (mj_goto d94_5 (mj_aret d94_18)))))
/-- SqueezedLinesLaw.form(I[I)I -/
theorem f95 : mj_cd 95 = mj_c95 := rfl
theorem d95_0 : mj_At 95 0 (.iconst (1)) 1 [] (.int 1) := ⟨1, (congrArg (fun z => mj_at z 0) f95).trans rfl, rfl⟩
theorem d95_1 : mj_At 95 1 (.istore_n 2) 2 [2] (.null) := ⟨1, (congrArg (fun z => mj_at z 1) f95).trans rfl, rfl⟩
theorem d95_2 : mj_At 95 2 (.iconst (1)) 3 [] (.int 1) := ⟨1, (congrArg (fun z => mj_at z 2) f95).trans rfl, rfl⟩
theorem d95_3 : mj_At 95 3 (.istore_n 3) 4 [3] (.null) := ⟨1, (congrArg (fun z => mj_at z 3) f95).trans rfl, rfl⟩
theorem d95_4 : mj_At 95 4 (.iconst (1)) 5 [] (.int 1) := ⟨1, (congrArg (fun z => mj_at z 4) f95).trans rfl, rfl⟩
theorem d95_5 : mj_At 95 5 (.istore 4) 7 [4] (.null) := ⟨2, (congrArg (fun z => mj_at z 5) f95).trans rfl, rfl⟩
theorem d95_7 : mj_At 95 7 (.iconst (1)) 8 [] (.int 1) := ⟨1, (congrArg (fun z => mj_at z 7) f95).trans rfl, rfl⟩
theorem d95_8 : mj_At 95 8 (.istore 5) 10 [5] (.null) := ⟨2, (congrArg (fun z => mj_at z 8) f95).trans rfl, rfl⟩
theorem d95_10 : mj_At 95 10 (.bipush (8)) 12 [] (.int 8) := ⟨2, (congrArg (fun z => mj_at z 10) f95).trans rfl, rfl⟩
theorem d95_12 : mj_At 95 12 (.iload_n 0) 13 [0] (.null) := ⟨1, (congrArg (fun z => mj_at z 12) f95).trans rfl, rfl⟩
theorem d95_13 : mj_At 95 13 (.imul) 14 [] (.null) := ⟨1, (congrArg (fun z => mj_at z 13) f95).trans rfl, rfl⟩
theorem d95_14 : mj_At 95 14 (.istore 6) 16 [6] (.null) := ⟨2, (congrArg (fun z => mj_at z 14) f95).trans rfl, rfl⟩
theorem d95_16 : mj_At 95 16 (.iload 6) 18 [6] (.null) := ⟨2, (congrArg (fun z => mj_at z 16) f95).trans rfl, rfl⟩
theorem d95_18 : mj_At 95 18 (.bipush (8)) 20 [] (.int 8) := ⟨2, (congrArg (fun z => mj_at z 18) f95).trans rfl, rfl⟩
theorem d95_20 : mj_At 95 20 (.iload_n 0) 21 [0] (.null) := ⟨1, (congrArg (fun z => mj_at z 20) f95).trans rfl, rfl⟩
theorem d95_21 : mj_At 95 21 (.imul) 22 [] (.null) := ⟨1, (congrArg (fun z => mj_at z 21) f95).trans rfl, rfl⟩
theorem d95_22 : mj_At 95 22 (.bipush (8)) 24 [] (.int 8) := ⟨2, (congrArg (fun z => mj_at z 22) f95).trans rfl, rfl⟩
theorem d95_24 : mj_At 95 24 (.iadd) 25 [] (.null) := ⟨1, (congrArg (fun z => mj_at z 24) f95).trans rfl, rfl⟩
theorem d95_25 : mj_At 95 25 (.if_icmp .ge (128)) 28 [153] (.null) := ⟨3, (congrArg (fun z => mj_at z 25) f95).trans rfl, rfl⟩
theorem d95_28 : mj_At 95 28 (.iload_n 2) 29 [2] (.null) := ⟨1, (congrArg (fun z => mj_at z 28) f95).trans rfl, rfl⟩
theorem d95_29 : mj_At 95 29 (.ifCond .eq (14)) 32 [43] (.null) := ⟨3, (congrArg (fun z => mj_at z 29) f95).trans rfl, rfl⟩
theorem d95_32 : mj_At 95 32 (.aload_n 1) 33 [1] (.null) := ⟨1, (congrArg (fun z => mj_at z 32) f95).trans rfl, rfl⟩
theorem d95_33 : mj_At 95 33 (.iload 6) 35 [6] (.null) := ⟨2, (congrArg (fun z => mj_at z 33) f95).trans rfl, rfl⟩
theorem d95_35 : mj_At 95 35 (.iaload) 36 [] (.null) := ⟨1, (congrArg (fun z => mj_at z 35) f95).trans rfl, rfl⟩
theorem d95_36 : mj_At 95 36 (.ifCond .ne (7)) 39 [43] (.null) := ⟨3, (congrArg (fun z => mj_at z 36) f95).trans rfl, rfl⟩
theorem d95_39 : mj_At 95 39 (.iconst (1)) 40 [] (.int 1) := ⟨1, (congrArg (fun z => mj_at z 39) f95).trans rfl, rfl⟩
theorem d95_40 : mj_At 95 40 (.goto (4)) 43 [44] (.null) := ⟨3, (congrArg (fun z => mj_at z 40) f95).trans rfl, rfl⟩
theorem d95_43 : mj_At 95 43 (.iconst (0)) 44 [] (.int 0) := ⟨1, (congrArg (fun z => mj_at z 43) f95).trans rfl, rfl⟩
theorem d95_44 : mj_At 95 44 (.istore_n 2) 45 [2] (.null) := ⟨1, (congrArg (fun z => mj_at z 44) f95).trans rfl, rfl⟩
theorem d95_45 : mj_At 95 45 (.iload 5) 47 [5] (.null) := ⟨2, (congrArg (fun z => mj_at z 45) f95).trans rfl, rfl⟩
theorem d95_47 : mj_At 95 47 (.ifCond .eq (17)) 50 [64] (.null) := ⟨3, (congrArg (fun z => mj_at z 47) f95).trans rfl, rfl⟩
theorem d95_50 : mj_At 95 50 (.aload_n 1) 51 [1] (.null) := ⟨1, (congrArg (fun z => mj_at z 50) f95).trans rfl, rfl⟩
theorem d95_51 : mj_At 95 51 (.iload 6) 53 [6] (.null) := ⟨2, (congrArg (fun z => mj_at z 51) f95).trans rfl, rfl⟩
theorem d95_53 : mj_At 95 53 (.iaload) 54 [] (.null) := ⟨1, (congrArg (fun z => mj_at z 53) f95).trans rfl, rfl⟩
theorem d95_54 : mj_At 95 54 (.sipush (256)) 57 [] (.int 256) := ⟨3, (congrArg (fun z => mj_at z 54) f95).trans rfl, rfl⟩
theorem d95_57 : mj_At 95 57 (.if_icmp .ge (7)) 60 [64] (.null) := ⟨3, (congrArg (fun z => mj_at z 57) f95).trans rfl, rfl⟩
theorem d95_60 : mj_At 95 60 (.iconst (1)) 61 [] (.int 1) := ⟨1, (congrArg (fun z => mj_at z 60) f95).trans rfl, rfl⟩
theorem d95_61 : mj_At 95 61 (.goto (4)) 64 [65] (.null) := ⟨3, (congrArg (fun z => mj_at z 61) f95).trans rfl, rfl⟩
theorem d95_64 : mj_At 95 64 (.iconst (0)) 65 [] (.int 0) := ⟨1, (congrArg (fun z => mj_at z 64) f95).trans rfl, rfl⟩
theorem d95_65 : mj_At 95 65 (.istore 5) 67 [5] (.null) := ⟨2, (congrArg (fun z => mj_at z 65) f95).trans rfl, rfl⟩
theorem d95_67 : mj_At 95 67 (.bipush (8)) 69 [] (.int 8) := ⟨2, (congrArg (fun z => mj_at z 67) f95).trans rfl, rfl⟩
theorem d95_69 : mj_At 95 69 (.iload_n 0) 70 [0] (.null) := ⟨1, (congrArg (fun z => mj_at z 69) f95).trans rfl, rfl⟩
theorem d95_70 : mj_At 95 70 (.imul) 71 [] (.null) := ⟨1, (congrArg (fun z => mj_at z 70) f95).trans rfl, rfl⟩
theorem d95_71 : mj_At 95 71 (.istore 7) 73 [7] (.null) := ⟨2, (congrArg (fun z => mj_at z 71) f95).trans rfl, rfl⟩
theorem d95_73 : mj_At 95 73 (.iload 7) 75 [7] (.null) := ⟨2, (congrArg (fun z => mj_at z 73) f95).trans rfl, rfl⟩
theorem d95_75 : mj_At 95 75 (.iload 6) 77 [6] (.null) := ⟨2, (congrArg (fun z => mj_at z 75) f95).trans rfl, rfl⟩
theorem d95_77 : mj_At 95 77 (.if_icmp .ge (70)) 80 [147] (.null) := ⟨3, (congrArg (fun z => mj_at z 77) f95).trans rfl, rfl⟩
theorem d95_80 : mj_At 95 80 (.iload_n 3) 81 [3] (.null) := ⟨1, (congrArg (fun z => mj_at z 80) f95).trans rfl, rfl⟩
theorem d95_81 : mj_At 95 81 (.ifCond .eq (18)) 84 [99] (.null) := ⟨3, (congrArg (fun z => mj_at z 81) f95).trans rfl, rfl⟩
theorem d95_84 : mj_At 95 84 (.aload_n 1) 85 [1] (.null) := ⟨1, (congrArg (fun z => mj_at z 84) f95).trans rfl, rfl⟩
theorem d95_85 : mj_At 95 85 (.iload 6) 87 [6] (.null) := ⟨2, (congrArg (fun z => mj_at z 85) f95).trans rfl, rfl⟩
theorem d95_87 : mj_At 95 87 (.iaload) 88 [] (.null) := ⟨1, (congrArg (fun z => mj_at z 87) f95).trans rfl, rfl⟩
theorem d95_88 : mj_At 95 88 (.aload_n 1) 89 [1] (.null) := ⟨1, (congrArg (fun z => mj_at z 88) f95).trans rfl, rfl⟩
theorem d95_89 : mj_At 95 89 (.iload 7) 91 [7] (.null) := ⟨2, (congrArg (fun z => mj_at z 89) f95).trans rfl, rfl⟩
theorem d95_91 : mj_At 95 91 (.iaload) 92 [] (.null) := ⟨1, (congrArg (fun z => mj_at z 91) f95).trans rfl, rfl⟩
theorem d95_92 : mj_At 95 92 (.if_icmp .ne (7)) 95 [99] (.null) := ⟨3, (congrArg (fun z => mj_at z 92) f95).trans rfl, rfl⟩
theorem d95_95 : mj_At 95 95 (.iconst (1)) 96 [] (.int 1) := ⟨1, (congrArg (fun z => mj_at z 95) f95).trans rfl, rfl⟩
theorem d95_96 : mj_At 95 96 (.goto (4)) 99 [100] (.null) := ⟨3, (congrArg (fun z => mj_at z 96) f95).trans rfl, rfl⟩
theorem d95_99 : mj_At 95 99 (.iconst (0)) 100 [] (.int 0) := ⟨1, (congrArg (fun z => mj_at z 99) f95).trans rfl, rfl⟩
theorem d95_100 : mj_At 95 100 (.istore_n 3) 101 [3] (.null) := ⟨1, (congrArg (fun z => mj_at z 100) f95).trans rfl, rfl⟩
theorem d95_101 : mj_At 95 101 (.iload 4) 103 [4] (.null) := ⟨2, (congrArg (fun z => mj_at z 101) f95).trans rfl, rfl⟩
theorem d95_103 : mj_At 95 103 (.ifCond .eq (35)) 106 [138] (.null) := ⟨3, (congrArg (fun z => mj_at z 103) f95).trans rfl, rfl⟩
theorem d95_106 : mj_At 95 106 (.aload_n 1) 107 [1] (.null) := ⟨1, (congrArg (fun z => mj_at z 106) f95).trans rfl, rfl⟩
theorem d95_107 : mj_At 95 107 (.iload 6) 109 [6] (.null) := ⟨2, (congrArg (fun z => mj_at z 107) f95).trans rfl, rfl⟩
theorem d95_109 : mj_At 95 109 (.iaload) 110 [] (.null) := ⟨1, (congrArg (fun z => mj_at z 109) f95).trans rfl, rfl⟩
theorem d95_110 : mj_At 95 110 (.aload_n 1) 111 [1] (.null) := ⟨1, (congrArg (fun z => mj_at z 110) f95).trans rfl, rfl⟩
theorem d95_111 : mj_At 95 111 (.iload 7) 113 [7] (.null) := ⟨2, (congrArg (fun z => mj_at z 111) f95).trans rfl, rfl⟩
theorem d95_113 : mj_At 95 113 (.iaload) 114 [] (.null) := ⟨1, (congrArg (fun z => mj_at z 113) f95).trans rfl, rfl⟩
theorem d95_114 : mj_At 95 114 (.isub) 115 [] (.null) := ⟨1, (congrArg (fun z => mj_at z 114) f95).trans rfl, rfl⟩
theorem d95_115 : mj_At 95 115 (.bipush (16)) 117 [] (.int 16) := ⟨2, (congrArg (fun z => mj_at z 115) f95).trans rfl, rfl⟩
theorem d95_117 : mj_At 95 117 (.if_icmp .ge (21)) 120 [138] (.null) := ⟨3, (congrArg (fun z => mj_at z 117) f95).trans rfl, rfl⟩
theorem d95_120 : mj_At 95 120 (.aload_n 1) 121 [1] (.null) := ⟨1, (congrArg (fun z => mj_at z 120) f95).trans rfl, rfl⟩
theorem d95_121 : mj_At 95 121 (.iload 7) 123 [7] (.null) := ⟨2, (congrArg (fun z => mj_at z 121) f95).trans rfl, rfl⟩
theorem d95_123 : mj_At 95 123 (.iaload) 124 [] (.null) := ⟨1, (congrArg (fun z => mj_at z 123) f95).trans rfl, rfl⟩
theorem d95_124 : mj_At 95 124 (.aload_n 1) 125 [1] (.null) := ⟨1, (congrArg (fun z => mj_at z 124) f95).trans rfl, rfl⟩
theorem d95_125 : mj_At 95 125 (.iload 6) 127 [6] (.null) := ⟨2, (congrArg (fun z => mj_at z 125) f95).trans rfl, rfl⟩
theorem d95_127 : mj_At 95 127 (.iaload) 128 [] (.null) := ⟨1, (congrArg (fun z => mj_at z 127) f95).trans rfl, rfl⟩
theorem d95_128 : mj_At 95 128 (.isub) 129 [] (.null) := ⟨1, (congrArg (fun z => mj_at z 128) f95).trans rfl, rfl⟩
theorem d95_129 : mj_At 95 129 (.bipush (16)) 131 [] (.int 16) := ⟨2, (congrArg (fun z => mj_at z 129) f95).trans rfl, rfl⟩
theorem d95_131 : mj_At 95 131 (.if_icmp .ge (7)) 134 [138] (.null) := ⟨3, (congrArg (fun z => mj_at z 131) f95).trans rfl, rfl⟩
theorem d95_134 : mj_At 95 134 (.iconst (1)) 135 [] (.int 1) := ⟨1, (congrArg (fun z => mj_at z 134) f95).trans rfl, rfl⟩
theorem d95_135 : mj_At 95 135 (.goto (4)) 138 [139] (.null) := ⟨3, (congrArg (fun z => mj_at z 135) f95).trans rfl, rfl⟩
theorem d95_138 : mj_At 95 138 (.iconst (0)) 139 [] (.int 0) := ⟨1, (congrArg (fun z => mj_at z 138) f95).trans rfl, rfl⟩
theorem d95_139 : mj_At 95 139 (.istore 4) 141 [4] (.null) := ⟨2, (congrArg (fun z => mj_at z 139) f95).trans rfl, rfl⟩
theorem d95_141 : mj_At 95 141 (.iinc 7 (1)) 144 [7] (.int 1) := ⟨3, (congrArg (fun z => mj_at z 141) f95).trans rfl, rfl⟩
theorem d95_144 : mj_At 95 144 (.goto (-71)) 147 [73] (.null) := ⟨3, (congrArg (fun z => mj_at z 144) f95).trans rfl, rfl⟩
theorem d95_147 : mj_At 95 147 (.iinc 6 (1)) 150 [6] (.int 1) := ⟨3, (congrArg (fun z => mj_at z 147) f95).trans rfl, rfl⟩
theorem d95_150 : mj_At 95 150 (.goto (-134)) 153 [16] (.null) := ⟨3, (congrArg (fun z => mj_at z 150) f95).trans rfl, rfl⟩
theorem d95_153 : mj_At 95 153 (.iload_n 2) 154 [2] (.null) := ⟨1, (congrArg (fun z => mj_at z 153) f95).trans rfl, rfl⟩
theorem d95_154 : mj_At 95 154 (.ifCond .eq (7)) 157 [161] (.null) := ⟨3, (congrArg (fun z => mj_at z 154) f95).trans rfl, rfl⟩
theorem d95_157 : mj_At 95 157 (.iconst (0)) 158 [] (.int 0) := ⟨1, (congrArg (fun z => mj_at z 157) f95).trans rfl, rfl⟩
theorem d95_158 : mj_At 95 158 (.goto (30)) 161 [188] (.null) := ⟨3, (congrArg (fun z => mj_at z 158) f95).trans rfl, rfl⟩
theorem d95_161 : mj_At 95 161 (.iload_n 3) 162 [3] (.null) := ⟨1, (congrArg (fun z => mj_at z 161) f95).trans rfl, rfl⟩
theorem d95_162 : mj_At 95 162 (.ifCond .eq (7)) 165 [169] (.null) := ⟨3, (congrArg (fun z => mj_at z 162) f95).trans rfl, rfl⟩
theorem d95_165 : mj_At 95 165 (.iconst (1)) 166 [] (.int 1) := ⟨1, (congrArg (fun z => mj_at z 165) f95).trans rfl, rfl⟩
theorem d95_166 : mj_At 95 166 (.goto (22)) 169 [188] (.null) := ⟨3, (congrArg (fun z => mj_at z 166) f95).trans rfl, rfl⟩
theorem d95_169 : mj_At 95 169 (.iload 4) 171 [4] (.null) := ⟨2, (congrArg (fun z => mj_at z 169) f95).trans rfl, rfl⟩
theorem d95_171 : mj_At 95 171 (.ifCond .eq (7)) 174 [178] (.null) := ⟨3, (congrArg (fun z => mj_at z 171) f95).trans rfl, rfl⟩
theorem d95_174 : mj_At 95 174 (.iconst (2)) 175 [] (.int 2) := ⟨1, (congrArg (fun z => mj_at z 174) f95).trans rfl, rfl⟩
theorem d95_175 : mj_At 95 175 (.goto (13)) 178 [188] (.null) := ⟨3, (congrArg (fun z => mj_at z 175) f95).trans rfl, rfl⟩
theorem d95_178 : mj_At 95 178 (.iload 5) 180 [5] (.null) := ⟨2, (congrArg (fun z => mj_at z 178) f95).trans rfl, rfl⟩
theorem d95_180 : mj_At 95 180 (.ifCond .eq (7)) 183 [187] (.null) := ⟨3, (congrArg (fun z => mj_at z 180) f95).trans rfl, rfl⟩
theorem d95_183 : mj_At 95 183 (.iconst (3)) 184 [] (.int 3) := ⟨1, (congrArg (fun z => mj_at z 183) f95).trans rfl, rfl⟩
theorem d95_184 : mj_At 95 184 (.goto (4)) 187 [188] (.null) := ⟨3, (congrArg (fun z => mj_at z 184) f95).trans rfl, rfl⟩
theorem d95_187 : mj_At 95 187 (.iconst (4)) 188 [] (.int 4) := ⟨1, (congrArg (fun z => mj_at z 187) f95).trans rfl, rfl⟩
theorem d95_188 : mj_At 95 188 (.ireturn) 189 [0] (.null) := ⟨1, (congrArg (fun z => mj_at z 188) f95).trans rfl, rfl⟩
theorem e95_0 {c : mj_C} {x0 : Int32} {L : Nat} {ps : List (Option (Option Nat))} {rest : List mj_K} {a na : Nat} (ha : (w_sh L ps rest)[a]? = some (0, na, []))  : mj_EV 95 0 [some (.int x0), some (.ref a), none, none, none, none, none, none] [] (w_sh L ps rest) c = mj_EV 95 16 [some (.int x0), some (.ref a), some (.int (nI 1)), some (.int (nI 1)), some (.int (nI 1)), some (.int (nI 1)), some (.int ((nI 8) * x0)), none] [] (w_sh L ps rest) c := (mj_iconst d95_0 (mj_istore_n [some (.int x0), some (.ref a), some (.int (nI 1)), none, none, none, none, none] d95_1 rfl rfl (mj_iconst d95_2 (mj_istore_n [some (.int x0), some (.ref a), some (.int (nI 1)), some (.int (nI 1)), none, none, none, none] d95_3 rfl rfl (mj_iconst d95_4 (mj_istore [some (.int x0), some (.ref a), some (.int (nI 1)), some (.int (nI 1)), some (.int (nI 1)), none, none, none] d95_5 rfl rfl (mj_iconst d95_7 (mj_istore [some (.int x0), some (.ref a), some (.int (nI 1)), some (.int (nI 1)), some (.int (nI 1)), some (.int (nI 1)), none, none] d95_8 rfl rfl (mj_bipush d95_10 (mj_iload_n d95_12 rfl (mj_imul d95_13 (mj_istore [some (.int x0), some (.ref a), some (.int (nI 1)), some (.int (nI 1)), some (.int (nI 1)), some (.int (nI 1)), some (.int ((nI 8) * x0)), none] d95_14 rfl rfl rfl))))))))))))
theorem e95_16 {c : mj_C} {x0 : Int32} {x2 : Int32} {x3 : Int32} {x4 : Int32} {x5 : Int32} {x6 : Int32} {o7 : Option Value} {L : Nat} {ps : List (Option (Option Nat))} {rest : List mj_K} {a na : Nat} (ha : (w_sh L ps rest)[a]? = some (0, na, []))  : mj_EV 95 16 [some (.int x0), some (.ref a), some (.int x2), some (.int x3), some (.int x4), some (.int x5), some (.int x6), o7] [] (w_sh L ps rest) c = (if (((nI 8) * x0) + (nI 8)) ≤ x6 then (if x2 = nI 0 then (if x3 = nI 0 then (if x4 = nI 0 then (if x5 = nI 0 then (some (some (.int (nI 4)), (w_sh L ps rest), c)) else (some (some (.int (nI 3)), (w_sh L ps rest), c))) else (some (some (.int (nI 2)), (w_sh L ps rest), c))) else (some (some (.int (nI 1)), (w_sh L ps rest), c))) else (some (some (.int (nI 0)), (w_sh L ps rest), c))) else (if x2 = nI 0 then mj_EV 95 43 [some (.int x0), some (.ref a), some (.int x2), some (.int x3), some (.int x4), some (.int x5), some (.int x6), o7] [] (w_sh L ps rest) c else (if mj_in x6 na = true then (if (c a x6.toNatClampNeg) = nI 0 then mj_EV 95 44 [some (.int x0), some (.ref a), some (.int x2), some (.int x3), some (.int x4), some (.int x5), some (.int x6), o7] [.int (nI 1)] (w_sh L ps rest) c else mj_EV 95 43 [some (.int x0), some (.ref a), some (.int x2), some (.int x3), some (.int x4), some (.int x5), some (.int x6), o7] [] (w_sh L ps rest) c) else none))) := (mj_iload d95_16 rfl (mj_bipush d95_18 (mj_iload_n d95_20 rfl (mj_imul d95_21 (mj_bipush d95_22 (mj_iadd d95_24 (mj_icge d95_25 (mj_iload_n d95_153 rfl (mj_ifeq d95_154 (mj_iload_n d95_161 rfl (mj_ifeq d95_162 (mj_iload d95_169 rfl (mj_ifeq d95_171 (mj_iload d95_178 rfl (mj_ifeq d95_180 (mj_iconst d95_187 (mj_iret d95_188)) (mj_iconst d95_183 (mj_goto d95_184 (mj_iret d95_188))))) (mj_iconst d95_174 (mj_goto d95_175 (mj_iret d95_188))))) (mj_iconst d95_165 (mj_goto d95_166 (mj_iret d95_188))))) (mj_iconst d95_157 (mj_goto d95_158 (mj_iret d95_188))))) (mj_iload_n d95_28 rfl (mj_ifeq d95_29 rfl (mj_aload_n d95_32 rfl (mj_iload d95_33 rfl (mj_iald d95_35 ha (mj_ifne d95_36 rfl (mj_iconst d95_39 (mj_goto d95_40 rfl)))))))))))))))
theorem e95_43 {c : mj_C} {x0 : Int32} {x2 : Int32} {x3 : Int32} {x4 : Int32} {x5 : Int32} {x6 : Int32} {o7 : Option Value} {L : Nat} {ps : List (Option (Option Nat))} {rest : List mj_K} {a na : Nat} (ha : (w_sh L ps rest)[a]? = some (0, na, []))  : mj_EV 95 43 [some (.int x0), some (.ref a), some (.int x2), some (.int x3), some (.int x4), some (.int x5), some (.int x6), o7] [] (w_sh L ps rest) c = mj_EV 95 44 [some (.int x0), some (.ref a), some (.int x2), some (.int x3), some (.int x4), some (.int x5), some (.int x6), o7] [.int (nI 0)] (w_sh L ps rest) c := (mj_iconst d95_43 rfl)
theorem e95_44 {c : mj_C} {x0 : Int32} {x2 : Int32} {x3 : Int32} {x4 : Int32} {x5 : Int32} {x6 : Int32} {o7 : Option Value} {z0 : Int32} {L : Nat} {ps : List (Option (Option Nat))} {rest : List mj_K} {a na : Nat} (ha : (w_sh L ps rest)[a]? = some (0, na, []))  : mj_EV 95 44 [some (.int x0), some (.ref a), some (.int x2), some (.int x3), some (.int x4), some (.int x5), some (.int x6), o7] [.int z0] (w_sh L ps rest) c = (if x5 = nI 0 then mj_EV 95 73 [some (.int x0), some (.ref a), some (.int z0), some (.int x3), some (.int x4), some (.int (nI 0)), some (.int x6), some (.int ((nI 8) * x0))] [] (w_sh L ps rest) c else (if mj_in x6 na = true then (if (nI 256) ≤ (c a x6.toNatClampNeg) then mj_EV 95 73 [some (.int x0), some (.ref a), some (.int z0), some (.int x3), some (.int x4), some (.int (nI 0)), some (.int x6), some (.int ((nI 8) * x0))] [] (w_sh L ps rest) c else mj_EV 95 73 [some (.int x0), some (.ref a), some (.int z0), some (.int x3), some (.int x4), some (.int (nI 1)), some (.int x6), some (.int ((nI 8) * x0))] [] (w_sh L ps rest) c) else none)) := (mj_istore_n [some (.int x0), some (.ref a), some (.int z0), some (.int x3), some (.int x4), some (.int x5), some (.int x6), o7] d95_44 rfl rfl (mj_iload d95_45 rfl (mj_ifeq d95_47 (mj_iconst d95_64 (mj_istore [some (.int x0), some (.ref a), some (.int z0), some (.int x3), some (.int x4), some (.int (nI 0)), some (.int x6), o7] d95_65 rfl rfl (mj_bipush d95_67 (mj_iload_n d95_69 rfl (mj_imul d95_70 (mj_istore [some (.int x0), some (.ref a), some (.int z0), some (.int x3), some (.int x4), some (.int (nI 0)), some (.int x6), some (.int ((nI 8) * x0))] d95_71 rfl rfl rfl)))))) (mj_aload_n d95_50 rfl (mj_iload d95_51 rfl (mj_iald d95_53 ha (mj_sipush d95_54 (mj_icge d95_57 (mj_iconst d95_64 (mj_istore [some (.int x0), some (.ref a), some (.int z0), some (.int x3), some (.int x4), some (.int (nI 0)), some (.int x6), o7] d95_65 rfl rfl (mj_bipush d95_67 (mj_iload_n d95_69 rfl (mj_imul d95_70 (mj_istore [some (.int x0), some (.ref a), some (.int z0), some (.int x3), some (.int x4), some (.int (nI 0)), some (.int x6), some (.int ((nI 8) * x0))] d95_71 rfl rfl rfl)))))) (mj_iconst d95_60 (mj_goto d95_61 (mj_istore [some (.int x0), some (.ref a), some (.int z0), some (.int x3), some (.int x4), some (.int (nI 1)), some (.int x6), o7] d95_65 rfl rfl (mj_bipush d95_67 (mj_iload_n d95_69 rfl (mj_imul d95_70 (mj_istore [some (.int x0), some (.ref a), some (.int z0), some (.int x3), some (.int x4), some (.int (nI 1)), some (.int x6), some (.int ((nI 8) * x0))] d95_71 rfl rfl rfl)))))))))))))))
theorem e95_73 {c : mj_C} {x0 : Int32} {x2 : Int32} {x3 : Int32} {x4 : Int32} {x5 : Int32} {x6 : Int32} {x7 : Int32} {L : Nat} {ps : List (Option (Option Nat))} {rest : List mj_K} {a na : Nat} (ha : (w_sh L ps rest)[a]? = some (0, na, []))  : mj_EV 95 73 [some (.int x0), some (.ref a), some (.int x2), some (.int x3), some (.int x4), some (.int x5), some (.int x6), some (.int x7)] [] (w_sh L ps rest) c = (if x6 ≤ x7 then mj_EV 95 16 [some (.int x0), some (.ref a), some (.int x2), some (.int x3), some (.int x4), some (.int x5), some (.int (x6 + (nI 1))), some (.int x7)] [] (w_sh L ps rest) c else (if x3 = nI 0 then mj_EV 95 99 [some (.int x0), some (.ref a), some (.int x2), some (.int x3), some (.int x4), some (.int x5), some (.int x6), some (.int x7)] [] (w_sh L ps rest) c else (if mj_in x6 na = true then (if mj_in x7 na = true then (if (c a x6.toNatClampNeg) = (c a x7.toNatClampNeg) then mj_EV 95 100 [some (.int x0), some (.ref a), some (.int x2), some (.int x3), some (.int x4), some (.int x5), some (.int x6), some (.int x7)] [.int (nI 1)] (w_sh L ps rest) c else mj_EV 95 99 [some (.int x0), some (.ref a), some (.int x2), some (.int x3), some (.int x4), some (.int x5), some (.int x6), some (.int x7)] [] (w_sh L ps rest) c) else none) else none))) := (mj_iload d95_73 rfl (mj_iload d95_75 rfl (mj_icge d95_77 (mj_iinc [some (.int x0), some (.ref a), some (.int x2), some (.int x3), some (.int x4), some (.int x5), some (.int (x6 + (nI 1))), some (.int x7)] d95_147 rfl rfl rfl (mj_goto d95_150 rfl)) (mj_iload_n d95_80 rfl (mj_ifeq d95_81 rfl (mj_aload_n d95_84 rfl (mj_iload d95_85 rfl (mj_iald d95_87 ha (mj_aload_n d95_88 rfl (mj_iload d95_89 rfl (mj_iald d95_91 ha (mj_icne d95_92 rfl (mj_iconst d95_95 (mj_goto d95_96 rfl))))))))))))))
theorem e95_99 {c : mj_C} {x0 : Int32} {x2 : Int32} {x3 : Int32} {x4 : Int32} {x5 : Int32} {x6 : Int32} {x7 : Int32} {L : Nat} {ps : List (Option (Option Nat))} {rest : List mj_K} {a na : Nat} (ha : (w_sh L ps rest)[a]? = some (0, na, []))  : mj_EV 95 99 [some (.int x0), some (.ref a), some (.int x2), some (.int x3), some (.int x4), some (.int x5), some (.int x6), some (.int x7)] [] (w_sh L ps rest) c = mj_EV 95 100 [some (.int x0), some (.ref a), some (.int x2), some (.int x3), some (.int x4), some (.int x5), some (.int x6), some (.int x7)] [.int (nI 0)] (w_sh L ps rest) c := (mj_iconst d95_99 rfl)
theorem e95_100 {c : mj_C} {x0 : Int32} {x2 : Int32} {x3 : Int32} {x4 : Int32} {x5 : Int32} {x6 : Int32} {x7 : Int32} {z0 : Int32} {L : Nat} {ps : List (Option (Option Nat))} {rest : List mj_K} {a na : Nat} (ha : (w_sh L ps rest)[a]? = some (0, na, []))  : mj_EV 95 100 [some (.int x0), some (.ref a), some (.int x2), some (.int x3), some (.int x4), some (.int x5), some (.int x6), some (.int x7)] [.int z0] (w_sh L ps rest) c = (if x4 = nI 0 then mj_EV 95 73 [some (.int x0), some (.ref a), some (.int x2), some (.int z0), some (.int (nI 0)), some (.int x5), some (.int x6), some (.int (x7 + (nI 1)))] [] (w_sh L ps rest) c else (if mj_in x6 na = true then (if mj_in x7 na = true then (if (nI 16) ≤ ((c a x6.toNatClampNeg) - (c a x7.toNatClampNeg)) then mj_EV 95 73 [some (.int x0), some (.ref a), some (.int x2), some (.int z0), some (.int (nI 0)), some (.int x5), some (.int x6), some (.int (x7 + (nI 1)))] [] (w_sh L ps rest) c else (if mj_in x7 na = true then (if mj_in x6 na = true then (if (nI 16) ≤ ((c a x7.toNatClampNeg) - (c a x6.toNatClampNeg)) then mj_EV 95 73 [some (.int x0), some (.ref a), some (.int x2), some (.int z0), some (.int (nI 0)), some (.int x5), some (.int x6), some (.int (x7 + (nI 1)))] [] (w_sh L ps rest) c else mj_EV 95 73 [some (.int x0), some (.ref a), some (.int x2), some (.int z0), some (.int (nI 1)), some (.int x5), some (.int x6), some (.int (x7 + (nI 1)))] [] (w_sh L ps rest) c) else none) else none)) else none) else none)) := (mj_istore_n [some (.int x0), some (.ref a), some (.int x2), some (.int z0), some (.int x4), some (.int x5), some (.int x6), some (.int x7)] d95_100 rfl rfl (mj_iload d95_101 rfl (mj_ifeq d95_103 (mj_iconst d95_138 (mj_istore [some (.int x0), some (.ref a), some (.int x2), some (.int z0), some (.int (nI 0)), some (.int x5), some (.int x6), some (.int x7)] d95_139 rfl rfl (mj_iinc [some (.int x0), some (.ref a), some (.int x2), some (.int z0), some (.int (nI 0)), some (.int x5), some (.int x6), some (.int (x7 + (nI 1)))] d95_141 rfl rfl rfl (mj_goto d95_144 rfl)))) (mj_aload_n d95_106 rfl (mj_iload d95_107 rfl (mj_iald d95_109 ha (mj_aload_n d95_110 rfl (mj_iload d95_111 rfl (mj_iald d95_113 ha (mj_isub d95_114 (mj_bipush d95_115 (mj_icge d95_117 (mj_iconst d95_138 (mj_istore [some (.int x0), some (.ref a), some (.int x2), some (.int z0), some (.int (nI 0)), some (.int x5), some (.int x6), some (.int x7)] d95_139 rfl rfl (mj_iinc [some (.int x0), some (.ref a), some (.int x2), some (.int z0), some (.int (nI 0)), some (.int x5), some (.int x6), some (.int (x7 + (nI 1)))] d95_141 rfl rfl rfl (mj_goto d95_144 rfl)))) (mj_aload_n d95_120 rfl (mj_iload d95_121 rfl (mj_iald d95_123 ha (mj_aload_n d95_124 rfl (mj_iload d95_125 rfl (mj_iald d95_127 ha (mj_isub d95_128 (mj_bipush d95_129 (mj_icge d95_131 (mj_iconst d95_138 (mj_istore [some (.int x0), some (.ref a), some (.int x2), some (.int z0), some (.int (nI 0)), some (.int x5), some (.int x6), some (.int x7)] d95_139 rfl rfl (mj_iinc [some (.int x0), some (.ref a), some (.int x2), some (.int z0), some (.int (nI 0)), some (.int x5), some (.int x6), some (.int (x7 + (nI 1)))] d95_141 rfl rfl rfl (mj_goto d95_144 rfl)))) (mj_iconst d95_134 (mj_goto d95_135 (mj_istore [some (.int x0), some (.ref a), some (.int x2), some (.int z0), some (.int (nI 1)), some (.int x5), some (.int x6), some (.int x7)] d95_139 rfl rfl (mj_iinc [some (.int x0), some (.ref a), some (.int x2), some (.int z0), some (.int (nI 1)), some (.int x5), some (.int x6), some (.int (x7 + (nI 1)))] d95_141 rfl rfl rfl (mj_goto d95_144 rfl))))))))))))))))))))))))))
/-- SqueezedLinesLaw.size(I)I -/
theorem f96 : mj_cd 96 = mj_c96 := rfl
theorem d96_0 : mj_At 96 0 (.iload_n 0) 1 [0] (.null) := ⟨1, (congrArg (fun z => mj_at z 0) f96).trans rfl, rfl⟩
theorem d96_1 : mj_At 96 1 (.iconst (2)) 2 [] (.int 2) := ⟨1, (congrArg (fun z => mj_at z 1) f96).trans rfl, rfl⟩
theorem d96_2 : mj_At 96 2 (.if_icmp .ge (7)) 5 [9] (.null) := ⟨3, (congrArg (fun z => mj_at z 2) f96).trans rfl, rfl⟩
theorem d96_5 : mj_At 96 5 (.iload_n 0) 6 [0] (.null) := ⟨1, (congrArg (fun z => mj_at z 5) f96).trans rfl, rfl⟩
theorem d96_6 : mj_At 96 6 (.goto (16)) 9 [22] (.null) := ⟨3, (congrArg (fun z => mj_at z 6) f96).trans rfl, rfl⟩
theorem d96_9 : mj_At 96 9 (.iload_n 0) 10 [0] (.null) := ⟨1, (congrArg (fun z => mj_at z 9) f96).trans rfl, rfl⟩
theorem d96_10 : mj_At 96 10 (.iconst (4)) 11 [] (.int 4) := ⟨1, (congrArg (fun z => mj_at z 10) f96).trans rfl, rfl⟩
theorem d96_11 : mj_At 96 11 (.if_icmp .ne (8)) 14 [19] (.null) := ⟨3, (congrArg (fun z => mj_at z 11) f96).trans rfl, rfl⟩
theorem d96_14 : mj_At 96 14 (.bipush (8)) 16 [] (.int 8) := ⟨2, (congrArg (fun z => mj_at z 14) f96).trans rfl, rfl⟩
theorem d96_16 : mj_At 96 16 (.goto (6)) 19 [22] (.null) := ⟨3, (congrArg (fun z => mj_at z 16) f96).trans rfl, rfl⟩
theorem d96_19 : mj_At 96 19 (.iload_n 0) 20 [0] (.null) := ⟨1, (congrArg (fun z => mj_at z 19) f96).trans rfl, rfl⟩
theorem d96_20 : mj_At 96 20 (.iconst (1)) 21 [] (.int 1) := ⟨1, (congrArg (fun z => mj_at z 20) f96).trans rfl, rfl⟩
theorem d96_21 : mj_At 96 21 (.iadd) 22 [] (.null) := ⟨1, (congrArg (fun z => mj_at z 21) f96).trans rfl, rfl⟩
theorem d96_22 : mj_At 96 22 (.ireturn) 23 [0] (.null) := ⟨1, (congrArg (fun z => mj_at z 22) f96).trans rfl, rfl⟩
theorem e96_0 {c : mj_C} {x0 : Int32} {L : Nat} {ps : List (Option (Option Nat))} {rest : List mj_K}   : mj_EV 96 0 [some (.int x0)] [] (w_sh L ps rest) c = (if (nI 2) ≤ x0 then (if x0 = (nI 4) then (some (some (.int (nI 8)), (w_sh L ps rest), c)) else (some (some (.int (x0 + (nI 1))), (w_sh L ps rest), c))) else (some (some (.int x0), (w_sh L ps rest), c))) := (mj_iload_n d96_0 rfl (mj_iconst d96_1 (mj_icge d96_2 (mj_iload_n d96_9 rfl (mj_iconst d96_10 (mj_icne d96_11 (mj_iload_n d96_19 rfl (mj_iconst d96_20 (mj_iadd d96_21 (mj_iret d96_22)))) (mj_bipush d96_14 (mj_goto d96_16 (mj_iret d96_22)))))) (mj_iload_n d96_5 rfl (mj_goto d96_6 (mj_iret d96_22))))))
/-- SqueezedLinesLaw.beside(I[I)I -/
theorem f97 : mj_cd 97 = mj_c97 := rfl
theorem d97_0 : mj_At 97 0 (.iconst (0)) 1 [] (.int 0) := ⟨1, (congrArg (fun z => mj_at z 0) f97).trans rfl, rfl⟩
theorem d97_1 : mj_At 97 1 (.istore_n 2) 2 [2] (.null) := ⟨1, (congrArg (fun z => mj_at z 1) f97).trans rfl, rfl⟩
theorem d97_2 : mj_At 97 2 (.iconst (0)) 3 [] (.int 0) := ⟨1, (congrArg (fun z => mj_at z 2) f97).trans rfl, rfl⟩
theorem d97_3 : mj_At 97 3 (.istore_n 3) 4 [3] (.null) := ⟨1, (congrArg (fun z => mj_at z 3) f97).trans rfl, rfl⟩
theorem d97_4 : mj_At 97 4 (.iload_n 3) 5 [3] (.null) := ⟨1, (congrArg (fun z => mj_at z 4) f97).trans rfl, rfl⟩
theorem d97_5 : mj_At 97 5 (.bipush (8)) 7 [] (.int 8) := ⟨2, (congrArg (fun z => mj_at z 5) f97).trans rfl, rfl⟩
theorem d97_7 : mj_At 97 7 (.if_icmp .ge (31)) 10 [38] (.null) := ⟨3, (congrArg (fun z => mj_at z 7) f97).trans rfl, rfl⟩
theorem d97_10 : mj_At 97 10 (.iload_n 2) 11 [2] (.null) := ⟨1, (congrArg (fun z => mj_at z 10) f97).trans rfl, rfl⟩
theorem d97_11 : mj_At 97 11 (.iload_n 3) 12 [3] (.null) := ⟨1, (congrArg (fun z => mj_at z 11) f97).trans rfl, rfl⟩
theorem d97_12 : mj_At 97 12 (.aload_n 1) 13 [1] (.null) := ⟨1, (congrArg (fun z => mj_at z 12) f97).trans rfl, rfl⟩
theorem d97_13 : mj_At 97 13 (.invokestatic 10) 16 [0, 95, 2, 371, 372, 17] (.null) := ⟨3, (congrArg (fun z => mj_at z 13) f97).trans rfl, rfl⟩
theorem d97_16 : mj_At 97 16 (.invokestatic 16) 19 [0, 96, 1, 377, 378, 17] (.null) := ⟨3, (congrArg (fun z => mj_at z 16) f97).trans rfl, rfl⟩
theorem d97_19 : mj_At 97 19 (.iload_n 0) 20 [0] (.null) := ⟨1, (congrArg (fun z => mj_at z 19) f97).trans rfl, rfl⟩
theorem d97_20 : mj_At 97 20 (.if_icmp .le (9)) 23 [29] (.null) := ⟨3, (congrArg (fun z => mj_at z 20) f97).trans rfl, rfl⟩
theorem d97_23 : mj_At 97 23 (.iconst (1)) 24 [] (.int 1) := ⟨1, (congrArg (fun z => mj_at z 23) f97).trans rfl, rfl⟩
theorem d97_24 : mj_At 97 24 (.iload_n 3) 25 [3] (.null) := ⟨1, (congrArg (fun z => mj_at z 24) f97).trans rfl, rfl⟩
theorem d97_25 : mj_At 97 25 (.ishl) 26 [] (.null) := ⟨1, (congrArg (fun z => mj_at z 25) f97).trans rfl, rfl⟩
theorem d97_26 : mj_At 97 26 (.goto (4)) 29 [30] (.null) := ⟨3, (congrArg (fun z => mj_at z 26) f97).trans rfl, rfl⟩
theorem d97_29 : mj_At 97 29 (.iconst (0)) 30 [] (.int 0) := ⟨1, (congrArg (fun z => mj_at z 29) f97).trans rfl, rfl⟩
theorem d97_30 : mj_At 97 30 (.ior) 31 [] (.null) := ⟨1, (congrArg (fun z => mj_at z 30) f97).trans rfl, rfl⟩
theorem d97_31 : mj_At 97 31 (.istore_n 2) 32 [2] (.null) := ⟨1, (congrArg (fun z => mj_at z 31) f97).trans rfl, rfl⟩
theorem d97_32 : mj_At 97 32 (.iinc 3 (1)) 35 [3] (.int 1) := ⟨3, (congrArg (fun z => mj_at z 32) f97).trans rfl, rfl⟩
theorem d97_35 : mj_At 97 35 (.goto (-31)) 38 [4] (.null) := ⟨3, (congrArg (fun z => mj_at z 35) f97).trans rfl, rfl⟩
theorem d97_38 : mj_At 97 38 (.iload_n 2) 39 [2] (.null) := ⟨1, (congrArg (fun z => mj_at z 38) f97).trans rfl, rfl⟩
theorem d97_39 : mj_At 97 39 (.ireturn) 40 [0] (.null) := ⟨1, (congrArg (fun z => mj_at z 39) f97).trans rfl, rfl⟩
theorem e97_0 {c : mj_C} {x0 : Int32} {L : Nat} {ps : List (Option (Option Nat))} {rest : List mj_K} {a na : Nat} (ha : (w_sh L ps rest)[a]? = some (0, na, []))  : mj_EV 97 0 [some (.int x0), some (.ref a), none, none] [] (w_sh L ps rest) c = mj_EV 97 4 [some (.int x0), some (.ref a), some (.int (nI 0)), some (.int (nI 0))] [] (w_sh L ps rest) c := (mj_iconst d97_0 (mj_istore_n [some (.int x0), some (.ref a), some (.int (nI 0)), none] d97_1 rfl rfl (mj_iconst d97_2 (mj_istore_n [some (.int x0), some (.ref a), some (.int (nI 0)), some (.int (nI 0))] d97_3 rfl rfl rfl))))
theorem e97_4 {c : mj_C} {x0 : Int32} {x2 : Int32} {x3 : Int32} {L : Nat} {ps : List (Option (Option Nat))} {rest : List mj_K} {a na : Nat} (ha : (w_sh L ps rest)[a]? = some (0, na, []))  : mj_EV 97 4 [some (.int x0), some (.ref a), some (.int x2), some (.int x3)] [] (w_sh L ps rest) c = (if (nI 8) ≤ x3 then (some (some (.int x2), (w_sh L ps rest), c)) else (mj_then 97 16 [some (.int x0), some (.ref a), some (.int x2), some (.int x3)] [.int x2] (mj_EV 95 0 [some (.int x3), some (.ref a), none, none, none, none, none, none] [] (w_sh L ps rest) c))) := (mj_iload_n d97_4 rfl (mj_bipush d97_5 (mj_icge d97_7 (mj_iload_n d97_38 rfl (mj_iret d97_39)) (mj_iload_n d97_10 rfl (mj_iload_n d97_11 rfl (mj_aload_n d97_12 rfl (mj_invS [some (.int x3), some (.ref a), none, none, none, none, none, none] [.int x2] d97_13 (by decide) rfl rfl rfl rfl)))))))
theorem e97_16 {c : mj_C} {x0 : Int32} {x2 : Int32} {x3 : Int32} {z0 : Int32} {z1 : Int32} {L : Nat} {ps : List (Option (Option Nat))} {rest : List mj_K} {a na : Nat} (ha : (w_sh L ps rest)[a]? = some (0, na, []))  : mj_EV 97 16 [some (.int x0), some (.ref a), some (.int x2), some (.int x3)] [.int z1, .int z0] (w_sh L ps rest) c = (mj_then 97 19 [some (.int x0), some (.ref a), some (.int x2), some (.int x3)] [.int z0] (mj_EV 96 0 [some (.int z1)] [] (w_sh L ps rest) c)) := (mj_invS [some (.int z1)] [.int z0] d97_16 (by decide) rfl rfl rfl rfl)
theorem e97_19 {c : mj_C} {x0 : Int32} {x2 : Int32} {x3 : Int32} {z0 : Int32} {z1 : Int32} {L : Nat} {ps : List (Option (Option Nat))} {rest : List mj_K} {a na : Nat} (ha : (w_sh L ps rest)[a]? = some (0, na, []))  : mj_EV 97 19 [some (.int x0), some (.ref a), some (.int x2), some (.int x3)] [.int z1, .int z0] (w_sh L ps rest) c = (if z1 ≤ x0 then mj_EV 97 4 [some (.int x0), some (.ref a), some (.int (z0 ||| (nI 0))), some (.int (x3 + (nI 1)))] [] (w_sh L ps rest) c else mj_EV 97 4 [some (.int x0), some (.ref a), some (.int (z0 ||| ((nI 1) <<< (x3 &&& 31)))), some (.int (x3 + (nI 1)))] [] (w_sh L ps rest) c) := (mj_iload_n d97_19 rfl (mj_icle d97_20 (mj_iconst d97_29 (mj_ior d97_30 (mj_istore_n [some (.int x0), some (.ref a), some (.int (z0 ||| (nI 0))), some (.int x3)] d97_31 rfl rfl (mj_iinc [some (.int x0), some (.ref a), some (.int (z0 ||| (nI 0))), some (.int (x3 + (nI 1)))] d97_32 rfl rfl rfl (mj_goto d97_35 rfl))))) (mj_iconst d97_23 (mj_iload_n d97_24 rfl (mj_ishl d97_25 (mj_goto d97_26 (mj_ior d97_30 (mj_istore_n [some (.int x0), some (.ref a), some (.int (z0 ||| ((nI 1) <<< (x3 &&& 31)))), some (.int x3)] d97_31 rfl rfl (mj_iinc [some (.int x0), some (.ref a), some (.int (z0 ||| ((nI 1) <<< (x3 &&& 31)))), some (.int (x3 + (nI 1)))] d97_32 rfl rfl rfl (mj_goto d97_35 rfl))))))))))
/-- SqueezedLinesLaw.ones(I)I -/
theorem f98 : mj_cd 98 = mj_c98 := rfl
theorem d98_0 : mj_At 98 0 (.iconst (0)) 1 [] (.int 0) := ⟨1, (congrArg (fun z => mj_at z 0) f98).trans rfl, rfl⟩
theorem d98_1 : mj_At 98 1 (.istore_n 1) 2 [1] (.null) := ⟨1, (congrArg (fun z => mj_at z 1) f98).trans rfl, rfl⟩
theorem d98_2 : mj_At 98 2 (.iload_n 0) 3 [0] (.null) := ⟨1, (congrArg (fun z => mj_at z 2) f98).trans rfl, rfl⟩
theorem d98_3 : mj_At 98 3 (.istore_n 2) 4 [2] (.null) := ⟨1, (congrArg (fun z => mj_at z 3) f98).trans rfl, rfl⟩
theorem d98_4 : mj_At 98 4 (.iload_n 2) 5 [2] (.null) := ⟨1, (congrArg (fun z => mj_at z 4) f98).trans rfl, rfl⟩
theorem d98_5 : mj_At 98 5 (.ifCond .eq (15)) 8 [20] (.null) := ⟨3, (congrArg (fun z => mj_at z 5) f98).trans rfl, rfl⟩
theorem d98_8 : mj_At 98 8 (.iinc 1 (1)) 11 [1] (.int 1) := ⟨3, (congrArg (fun z => mj_at z 8) f98).trans rfl, rfl⟩
theorem d98_11 : mj_At 98 11 (.iload_n 2) 12 [2] (.null) := ⟨1, (congrArg (fun z => mj_at z 11) f98).trans rfl, rfl⟩
theorem d98_12 : mj_At 98 12 (.iload_n 2) 13 [2] (.null) := ⟨1, (congrArg (fun z => mj_at z 12) f98).trans rfl, rfl⟩
theorem d98_13 : mj_At 98 13 (.iconst (1)) 14 [] (.int 1) := ⟨1, (congrArg (fun z => mj_at z 13) f98).trans rfl, rfl⟩
theorem d98_14 : mj_At 98 14 (.isub) 15 [] (.null) := ⟨1, (congrArg (fun z => mj_at z 14) f98).trans rfl, rfl⟩
theorem d98_15 : mj_At 98 15 (.iand) 16 [] (.null) := ⟨1, (congrArg (fun z => mj_at z 15) f98).trans rfl, rfl⟩
theorem d98_16 : mj_At 98 16 (.istore_n 2) 17 [2] (.null) := ⟨1, (congrArg (fun z => mj_at z 16) f98).trans rfl, rfl⟩
theorem d98_17 : mj_At 98 17 (.goto (-13)) 20 [4] (.null) := ⟨3, (congrArg (fun z => mj_at z 17) f98).trans rfl, rfl⟩
theorem d98_20 : mj_At 98 20 (.iload_n 1) 21 [1] (.null) := ⟨1, (congrArg (fun z => mj_at z 20) f98).trans rfl, rfl⟩
theorem d98_21 : mj_At 98 21 (.ireturn) 22 [0] (.null) := ⟨1, (congrArg (fun z => mj_at z 21) f98).trans rfl, rfl⟩
theorem e98_0 {c : mj_C} {x0 : Int32} {L : Nat} {ps : List (Option (Option Nat))} {rest : List mj_K}   : mj_EV 98 0 [some (.int x0), none, none] [] (w_sh L ps rest) c = mj_EV 98 4 [some (.int x0), some (.int (nI 0)), some (.int x0)] [] (w_sh L ps rest) c := (mj_iconst d98_0 (mj_istore_n [some (.int x0), some (.int (nI 0)), none] d98_1 rfl rfl (mj_iload_n d98_2 rfl (mj_istore_n [some (.int x0), some (.int (nI 0)), some (.int x0)] d98_3 rfl rfl rfl))))
theorem e98_4 {c : mj_C} {x0 : Int32} {x1 : Int32} {x2 : Int32} {L : Nat} {ps : List (Option (Option Nat))} {rest : List mj_K}   : mj_EV 98 4 [some (.int x0), some (.int x1), some (.int x2)] [] (w_sh L ps rest) c = (if x2 = nI 0 then (some (some (.int x1), (w_sh L ps rest), c)) else mj_EV 98 4 [some (.int x0), some (.int (x1 + (nI 1))), some (.int (x2 &&& (x2 - (nI 1))))] [] (w_sh L ps rest) c) := (mj_iload_n d98_4 rfl (mj_ifeq d98_5 (mj_iload_n d98_20 rfl (mj_iret d98_21)) (mj_iinc [some (.int x0), some (.int (x1 + (nI 1))), some (.int x2)] d98_8 rfl rfl rfl (mj_iload_n d98_11 rfl (mj_iload_n d98_12 rfl (mj_iconst d98_13 (mj_isub d98_14 (mj_iand d98_15 (mj_istore_n [some (.int x0), some (.int (x1 + (nI 1))), some (.int (x2 &&& (x2 - (nI 1))))] d98_16 rfl rfl (mj_goto d98_17 rfl))))))))))
/-- SqueezedLinesLaw.units(I[I)I -/
theorem f99 : mj_cd 99 = mj_c99 := rfl
theorem d99_0 : mj_At 99 0 (.iconst (1)) 1 [] (.int 1) := ⟨1, (congrArg (fun z => mj_at z 0) f99).trans rfl, rfl⟩
theorem d99_1 : mj_At 99 1 (.bipush (8)) 3 [] (.int 8) := ⟨2, (congrArg (fun z => mj_at z 1) f99).trans rfl, rfl⟩
theorem d99_3 : mj_At 99 3 (.iload_n 0) 4 [0] (.null) := ⟨1, (congrArg (fun z => mj_at z 3) f99).trans rfl, rfl⟩
theorem d99_4 : mj_At 99 4 (.iload_n 0) 5 [0] (.null) := ⟨1, (congrArg (fun z => mj_at z 4) f99).trans rfl, rfl⟩
theorem d99_5 : mj_At 99 5 (.aload_n 1) 6 [1] (.null) := ⟨1, (congrArg (fun z => mj_at z 5) f99).trans rfl, rfl⟩
theorem d99_6 : mj_At 99 6 (.invokestatic 20) 9 [0, 97, 2, 374, 375, 17] (.null) := ⟨3, (congrArg (fun z => mj_at z 6) f99).trans rfl, rfl⟩
theorem d99_9 : mj_At 99 9 (.invokestatic 23) 12 [0, 98, 1, 380, 381, 17] (.null) := ⟨3, (congrArg (fun z => mj_at z 9) f99).trans rfl, rfl⟩
theorem d99_12 : mj_At 99 12 (.iadd) 13 [] (.null) := ⟨1, (congrArg (fun z => mj_at z 12) f99).trans rfl, rfl⟩
theorem d99_13 : mj_At 99 13 (.imul) 14 [] (.null) := ⟨1, (congrArg (fun z => mj_at z 13) f99).trans rfl, rfl⟩
theorem d99_14 : mj_At 99 14 (.iadd) 15 [] (.null) := ⟨1, (congrArg (fun z => mj_at z 14) f99).trans rfl, rfl⟩
theorem d99_15 : mj_At 99 15 (.ireturn) 16 [0] (.null) := ⟨1, (congrArg (fun z => mj_at z 15) f99).trans rfl, rfl⟩
theorem e99_0 {c : mj_C} {x0 : Int32} {L : Nat} {ps : List (Option (Option Nat))} {rest : List mj_K} {a na : Nat} (ha : (w_sh L ps rest)[a]? = some (0, na, []))  : mj_EV 99 0 [some (.int x0), some (.ref a)] [] (w_sh L ps rest) c = (mj_then 99 9 [some (.int x0), some (.ref a)] [.int x0, .int (nI 8), .int (nI 1)] (mj_EV 97 0 [some (.int x0), some (.ref a), none, none] [] (w_sh L ps rest) c)) := (mj_iconst d99_0 (mj_bipush d99_1 (mj_iload_n d99_3 rfl (mj_iload_n d99_4 rfl (mj_aload_n d99_5 rfl (mj_invS [some (.int x0), some (.ref a), none, none] [.int x0, .int (nI 8), .int (nI 1)] d99_6 (by decide) rfl rfl rfl rfl))))))
theorem e99_9 {c : mj_C} {x0 : Int32} {z0 : Int32} {z1 : Int32} {z2 : Int32} {z3 : Int32} {L : Nat} {ps : List (Option (Option Nat))} {rest : List mj_K} {a na : Nat} (ha : (w_sh L ps rest)[a]? = some (0, na, []))  : mj_EV 99 9 [some (.int x0), some (.ref a)] [.int z3, .int z2, .int z1, .int z0] (w_sh L ps rest) c = (mj_then 99 12 [some (.int x0), some (.ref a)] [.int z2, .int z1, .int z0] (mj_EV 98 0 [some (.int z3), none, none] [] (w_sh L ps rest) c)) := (mj_invS [some (.int z3), none, none] [.int z2, .int z1, .int z0] d99_9 (by decide) rfl rfl rfl rfl)
theorem e99_12 {c : mj_C} {x0 : Int32} {z0 : Int32} {z1 : Int32} {z2 : Int32} {z3 : Int32} {L : Nat} {ps : List (Option (Option Nat))} {rest : List mj_K} {a na : Nat} (ha : (w_sh L ps rest)[a]? = some (0, na, []))  : mj_EV 99 12 [some (.int x0), some (.ref a)] [.int z3, .int z2, .int z1, .int z0] (w_sh L ps rest) c = (some (some (.int (z0 + (z1 * (z2 + z3)))), (w_sh L ps rest), c)) := (mj_iadd d99_12 (mj_imul d99_13 (mj_iadd d99_14 (mj_iret d99_15))))
/-- SqueezedLinesLaw.best(I[I)I -/
theorem f100 : mj_cd 100 = mj_c100 := rfl
theorem d100_0 : mj_At 100 0 (.bipush (8)) 2 [] (.int 8) := ⟨2, (congrArg (fun z => mj_at z 0) f100).trans rfl, rfl⟩
theorem d100_2 : mj_At 100 2 (.istore_n 2) 3 [2] (.null) := ⟨1, (congrArg (fun z => mj_at z 2) f100).trans rfl, rfl⟩
theorem d100_3 : mj_At 100 3 (.iconst (3)) 4 [] (.int 3) := ⟨1, (congrArg (fun z => mj_at z 3) f100).trans rfl, rfl⟩
theorem d100_4 : mj_At 100 4 (.istore_n 3) 5 [3] (.null) := ⟨1, (congrArg (fun z => mj_at z 4) f100).trans rfl, rfl⟩
theorem d100_5 : mj_At 100 5 (.iload_n 3) 6 [3] (.null) := ⟨1, (congrArg (fun z => mj_at z 5) f100).trans rfl, rfl⟩
theorem d100_6 : mj_At 100 6 (.ifCond .lt (45)) 9 [51] (.null) := ⟨3, (congrArg (fun z => mj_at z 6) f100).trans rfl, rfl⟩
theorem d100_9 : mj_At 100 9 (.iload_n 3) 10 [3] (.null) := ⟨1, (congrArg (fun z => mj_at z 9) f100).trans rfl, rfl⟩
theorem d100_10 : mj_At 100 10 (.invokestatic 16) 13 [0, 96, 1, 377, 378, 17] (.null) := ⟨3, (congrArg (fun z => mj_at z 10) f100).trans rfl, rfl⟩
theorem d100_13 : mj_At 100 13 (.aload_n 1) 14 [1] (.null) := ⟨1, (congrArg (fun z => mj_at z 13) f100).trans rfl, rfl⟩
theorem d100_14 : mj_At 100 14 (.invokestatic 20) 17 [0, 97, 2, 374, 375, 17] (.null) := ⟨3, (congrArg (fun z => mj_at z 14) f100).trans rfl, rfl⟩
theorem d100_17 : mj_At 100 17 (.invokestatic 23) 20 [0, 98, 1, 380, 381, 17] (.null) := ⟨3, (congrArg (fun z => mj_at z 17) f100).trans rfl, rfl⟩
theorem d100_20 : mj_At 100 20 (.iload_n 0) 21 [0] (.null) := ⟨1, (congrArg (fun z => mj_at z 20) f100).trans rfl, rfl⟩
theorem d100_21 : mj_At 100 21 (.if_icmp .gt (24)) 24 [45] (.null) := ⟨3, (congrArg (fun z => mj_at z 21) f100).trans rfl, rfl⟩
theorem d100_24 : mj_At 100 24 (.iload_n 3) 25 [3] (.null) := ⟨1, (congrArg (fun z => mj_at z 24) f100).trans rfl, rfl⟩
theorem d100_25 : mj_At 100 25 (.invokestatic 16) 28 [0, 96, 1, 377, 378, 17] (.null) := ⟨3, (congrArg (fun z => mj_at z 25) f100).trans rfl, rfl⟩
theorem d100_28 : mj_At 100 28 (.aload_n 1) 29 [1] (.null) := ⟨1, (congrArg (fun z => mj_at z 28) f100).trans rfl, rfl⟩
theorem d100_29 : mj_At 100 29 (.invokestatic 26) 32 [0, 99, 2, 383, 384, 17] (.null) := ⟨3, (congrArg (fun z => mj_at z 29) f100).trans rfl, rfl⟩
theorem d100_32 : mj_At 100 32 (.iload_n 2) 33 [2] (.null) := ⟨1, (congrArg (fun z => mj_at z 32) f100).trans rfl, rfl⟩
theorem d100_33 : mj_At 100 33 (.aload_n 1) 34 [1] (.null) := ⟨1, (congrArg (fun z => mj_at z 33) f100).trans rfl, rfl⟩
theorem d100_34 : mj_At 100 34 (.invokestatic 26) 37 [0, 99, 2, 383, 384, 17] (.null) := ⟨3, (congrArg (fun z => mj_at z 34) f100).trans rfl, rfl⟩
theorem d100_37 : mj_At 100 37 (.if_icmp .gt (8)) 40 [45] (.null) := ⟨3, (congrArg (fun z => mj_at z 37) f100).trans rfl, rfl⟩
theorem d100_40 : mj_At 100 40 (.iload_n 3) 41 [3] (.null) := ⟨1, (congrArg (fun z => mj_at z 40) f100).trans rfl, rfl⟩
theorem d100_41 : mj_At 100 41 (.invokestatic 16) 44 [0, 96, 1, 377, 378, 17] (.null) := ⟨3, (congrArg (fun z => mj_at z 41) f100).trans rfl, rfl⟩
theorem d100_44 : mj_At 100 44 (.istore_n 2) 45 [2] (.null) := ⟨1, (congrArg (fun z => mj_at z 44) f100).trans rfl, rfl⟩
theorem d100_45 : mj_At 100 45 (.iinc 3 (-1)) 48 [3] (.int (-1)) := ⟨3, (congrArg (fun z => mj_at z 45) f100).trans rfl, rfl⟩
theorem d100_48 : mj_At 100 48 (.goto (-43)) 51 [5] (.null) := ⟨3, (congrArg (fun z => mj_at z 48) f100).trans rfl, rfl⟩
theorem d100_51 : mj_At 100 51 (.iload_n 2) 52 [2] (.null) := ⟨1, (congrArg (fun z => mj_at z 51) f100).trans rfl, rfl⟩
theorem d100_52 : mj_At 100 52 (.ireturn) 53 [0] (.null) := ⟨1, (congrArg (fun z => mj_at z 52) f100).trans rfl, rfl⟩
theorem e100_0 {c : mj_C} {x0 : Int32} {L : Nat} {ps : List (Option (Option Nat))} {rest : List mj_K} {a na : Nat} (ha : (w_sh L ps rest)[a]? = some (0, na, []))  : mj_EV 100 0 [some (.int x0), some (.ref a), none, none] [] (w_sh L ps rest) c = mj_EV 100 5 [some (.int x0), some (.ref a), some (.int (nI 8)), some (.int (nI 3))] [] (w_sh L ps rest) c := (mj_bipush d100_0 (mj_istore_n [some (.int x0), some (.ref a), some (.int (nI 8)), none] d100_2 rfl rfl (mj_iconst d100_3 (mj_istore_n [some (.int x0), some (.ref a), some (.int (nI 8)), some (.int (nI 3))] d100_4 rfl rfl rfl))))
theorem e100_5 {c : mj_C} {x0 : Int32} {x2 : Int32} {x3 : Int32} {L : Nat} {ps : List (Option (Option Nat))} {rest : List mj_K} {a na : Nat} (ha : (w_sh L ps rest)[a]? = some (0, na, []))  : mj_EV 100 5 [some (.int x0), some (.ref a), some (.int x2), some (.int x3)] [] (w_sh L ps rest) c = (if x3 < nI 0 then (some (some (.int x2), (w_sh L ps rest), c)) else (mj_then 100 13 [some (.int x0), some (.ref a), some (.int x2), some (.int x3)] [] (mj_EV 96 0 [some (.int x3)] [] (w_sh L ps rest) c))) := (mj_iload_n d100_5 rfl (mj_iflt d100_6 (mj_iload_n d100_51 rfl (mj_iret d100_52)) (mj_iload_n d100_9 rfl (mj_invS [some (.int x3)] [] d100_10 (by decide) rfl rfl rfl rfl))))
theorem e100_13 {c : mj_C} {x0 : Int32} {x2 : Int32} {x3 : Int32} {z0 : Int32} {L : Nat} {ps : List (Option (Option Nat))} {rest : List mj_K} {a na : Nat} (ha : (w_sh L ps rest)[a]? = some (0, na, []))  : mj_EV 100 13 [some (.int x0), some (.ref a), some (.int x2), some (.int x3)] [.int z0] (w_sh L ps rest) c = (mj_then 100 17 [some (.int x0), some (.ref a), some (.int x2), some (.int x3)] [] (mj_EV 97 0 [some (.int z0), some (.ref a), none, none] [] (w_sh L ps rest) c)) := (mj_aload_n d100_13 rfl (mj_invS [some (.int z0), some (.ref a), none, none] [] d100_14 (by decide) rfl rfl rfl rfl))
theorem e100_17 {c : mj_C} {x0 : Int32} {x2 : Int32} {x3 : Int32} {z0 : Int32} {L : Nat} {ps : List (Option (Option Nat))} {rest : List mj_K} {a na : Nat} (ha : (w_sh L ps rest)[a]? = some (0, na, []))  : mj_EV 100 17 [some (.int x0), some (.ref a), some (.int x2), some (.int x3)] [.int z0] (w_sh L ps rest) c = (mj_then 100 20 [some (.int x0), some (.ref a), some (.int x2), some (.int x3)] [] (mj_EV 98 0 [some (.int z0), none, none] [] (w_sh L ps rest) c)) := (mj_invS [some (.int z0), none, none] [] d100_17 (by decide) rfl rfl rfl rfl)
theorem e100_20 {c : mj_C} {x0 : Int32} {x2 : Int32} {x3 : Int32} {z0 : Int32} {L : Nat} {ps : List (Option (Option Nat))} {rest : List mj_K} {a na : Nat} (ha : (w_sh L ps rest)[a]? = some (0, na, []))  : mj_EV 100 20 [some (.int x0), some (.ref a), some (.int x2), some (.int x3)] [.int z0] (w_sh L ps rest) c = (if x0 < z0 then mj_EV 100 5 [some (.int x0), some (.ref a), some (.int x2), some (.int (x3 + (-1)))] [] (w_sh L ps rest) c else (mj_then 100 28 [some (.int x0), some (.ref a), some (.int x2), some (.int x3)] [] (mj_EV 96 0 [some (.int x3)] [] (w_sh L ps rest) c))) := (mj_iload_n d100_20 rfl (mj_icgt d100_21 (mj_iinc [some (.int x0), some (.ref a), some (.int x2), some (.int (x3 + (-1)))] d100_45 rfl rfl rfl (mj_goto d100_48 rfl)) (mj_iload_n d100_24 rfl (mj_invS [some (.int x3)] [] d100_25 (by decide) rfl rfl rfl rfl))))
theorem e100_28 {c : mj_C} {x0 : Int32} {x2 : Int32} {x3 : Int32} {z0 : Int32} {L : Nat} {ps : List (Option (Option Nat))} {rest : List mj_K} {a na : Nat} (ha : (w_sh L ps rest)[a]? = some (0, na, []))  : mj_EV 100 28 [some (.int x0), some (.ref a), some (.int x2), some (.int x3)] [.int z0] (w_sh L ps rest) c = (mj_then 100 32 [some (.int x0), some (.ref a), some (.int x2), some (.int x3)] [] (mj_EV 99 0 [some (.int z0), some (.ref a)] [] (w_sh L ps rest) c)) := (mj_aload_n d100_28 rfl (mj_invS [some (.int z0), some (.ref a)] [] d100_29 (by decide) rfl rfl rfl rfl))
theorem e100_32 {c : mj_C} {x0 : Int32} {x2 : Int32} {x3 : Int32} {z0 : Int32} {L : Nat} {ps : List (Option (Option Nat))} {rest : List mj_K} {a na : Nat} (ha : (w_sh L ps rest)[a]? = some (0, na, []))  : mj_EV 100 32 [some (.int x0), some (.ref a), some (.int x2), some (.int x3)] [.int z0] (w_sh L ps rest) c = (mj_then 100 37 [some (.int x0), some (.ref a), some (.int x2), some (.int x3)] [.int z0] (mj_EV 99 0 [some (.int x2), some (.ref a)] [] (w_sh L ps rest) c)) := (mj_iload_n d100_32 rfl (mj_aload_n d100_33 rfl (mj_invS [some (.int x2), some (.ref a)] [.int z0] d100_34 (by decide) rfl rfl rfl rfl)))
theorem e100_37 {c : mj_C} {x0 : Int32} {x2 : Int32} {x3 : Int32} {z0 : Int32} {z1 : Int32} {L : Nat} {ps : List (Option (Option Nat))} {rest : List mj_K} {a na : Nat} (ha : (w_sh L ps rest)[a]? = some (0, na, []))  : mj_EV 100 37 [some (.int x0), some (.ref a), some (.int x2), some (.int x3)] [.int z1, .int z0] (w_sh L ps rest) c = (if z1 < z0 then mj_EV 100 5 [some (.int x0), some (.ref a), some (.int x2), some (.int (x3 + (-1)))] [] (w_sh L ps rest) c else (mj_then 100 44 [some (.int x0), some (.ref a), some (.int x2), some (.int x3)] [] (mj_EV 96 0 [some (.int x3)] [] (w_sh L ps rest) c))) := (mj_icgt d100_37 (mj_iinc [some (.int x0), some (.ref a), some (.int x2), some (.int (x3 + (-1)))] d100_45 rfl rfl rfl (mj_goto d100_48 rfl)) (mj_iload_n d100_40 rfl (mj_invS [some (.int x3)] [] d100_41 (by decide) rfl rfl rfl rfl)))
theorem e100_44 {c : mj_C} {x0 : Int32} {x2 : Int32} {x3 : Int32} {z0 : Int32} {L : Nat} {ps : List (Option (Option Nat))} {rest : List mj_K} {a na : Nat} (ha : (w_sh L ps rest)[a]? = some (0, na, []))  : mj_EV 100 44 [some (.int x0), some (.ref a), some (.int x2), some (.int x3)] [.int z0] (w_sh L ps rest) c = mj_EV 100 5 [some (.int x0), some (.ref a), some (.int z0), some (.int (x3 + (-1)))] [] (w_sh L ps rest) c := (mj_istore_n [some (.int x0), some (.ref a), some (.int z0), some (.int x3)] d100_44 rfl rfl (mj_iinc [some (.int x0), some (.ref a), some (.int z0), some (.int (x3 + (-1)))] d100_45 rfl rfl rfl (mj_goto d100_48 rfl)))
