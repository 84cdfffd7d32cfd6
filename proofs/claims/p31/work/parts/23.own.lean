/-- SqueezedLines.isRoom(I)Z -/
theorem f5 : mj_cd 5 = mj_c5 := rfl
theorem d5_0 : mj_At 5 0 (.iload_n 0) 1 [0] (.null) := ⟨1, (congrArg (fun z => mj_at z 0) f5).trans rfl, rfl⟩
theorem d5_1 : mj_At 5 1 (.ifCond .lt (13)) 4 [14] (.null) := ⟨3, (congrArg (fun z => mj_at z 1) f5).trans rfl, rfl⟩
theorem d5_4 : mj_At 5 4 (.iload_n 0) 5 [0] (.null) := ⟨1, (congrArg (fun z => mj_at z 4) f5).trans rfl, rfl⟩
theorem d5_5 : mj_At 5 5 (.bipush (8)) 7 [] (.int 8) := ⟨2, (congrArg (fun z => mj_at z 5) f5).trans rfl, rfl⟩
theorem d5_7 : mj_At 5 7 (.if_icmp .gt (7)) 10 [14] (.null) := ⟨3, (congrArg (fun z => mj_at z 7) f5).trans rfl, rfl⟩
theorem d5_10 : mj_At 5 10 (.iconst (1)) 11 [] (.int 1) := ⟨1, (congrArg (fun z => mj_at z 10) f5).trans rfl, rfl⟩
theorem d5_11 : mj_At 5 11 (.goto (4)) 14 [15] (.null) := ⟨3, (congrArg (fun z => mj_at z 11) f5).trans rfl, rfl⟩
theorem d5_14 : mj_At 5 14 (.iconst (0)) 15 [] (.int 0) := ⟨1, (congrArg (fun z => mj_at z 14) f5).trans rfl, rfl⟩
theorem d5_15 : mj_At 5 15 (.ireturn) 16 [1] (.null) := ⟨1, (congrArg (fun z => mj_at z 15) f5).trans rfl, rfl⟩
theorem e5_0 {c : mj_C} {x0 : Int32} {L : Nat} {ps : List (Option (Option Nat))} {rest : List mj_K}   : mj_EV 5 0 [some (.int x0)] [] (w_sh L ps rest) c = (if x0 < nI 0 then (some (some (.int (nI 0)), (w_sh L ps rest), c)) else (if (nI 8) < x0 then (some (some (.int (nI 0)), (w_sh L ps rest), c)) else (some (some (.int (nI 1)), (w_sh L ps rest), c)))) := (mj_iload_n d5_0 rfl (mj_iflt d5_1 (mj_iconst d5_14 (mj_zret0 d5_15)) (mj_iload_n d5_4 rfl (mj_bipush d5_5 (mj_icgt d5_7 (mj_iconst d5_14 (mj_zret0 d5_15)) (mj_iconst d5_10 (mj_goto d5_11 (mj_zret1 d5_15))))))))
/-- SqueezedLines$State.hasPage(I)Z -/
theorem f6 : mj_cd 6 = mj_c6 := rfl
theorem d6_0 : mj_At 6 0 (.iload_n 1) 1 [1] (.null) := ⟨1, (congrArg (fun z => mj_at z 0) f6).trans rfl, rfl⟩
theorem d6_1 : mj_At 6 1 (.ifCond .lt (23)) 4 [24] (.null) := ⟨3, (congrArg (fun z => mj_at z 1) f6).trans rfl, rfl⟩
theorem d6_4 : mj_At 6 4 (.iload_n 1) 5 [1] (.null) := ⟨1, (congrArg (fun z => mj_at z 4) f6).trans rfl, rfl⟩
theorem d6_5 : mj_At 6 5 (.bipush (10)) 7 [] (.int 10) := ⟨2, (congrArg (fun z => mj_at z 5) f6).trans rfl, rfl⟩
theorem d6_7 : mj_At 6 7 (.if_icmp .ge (17)) 10 [24] (.null) := ⟨3, (congrArg (fun z => mj_at z 7) f6).trans rfl, rfl⟩
theorem d6_10 : mj_At 6 10 (.aload_n 0) 11 [0] (.null) := ⟨1, (congrArg (fun z => mj_at z 10) f6).trans rfl, rfl⟩
theorem d6_11 : mj_At 6 11 (.getfield 34) 14 [2, 7, 56] (.null) := ⟨3, (congrArg (fun z => mj_at z 11) f6).trans rfl, rfl⟩
theorem d6_14 : mj_At 6 14 (.iload_n 1) 15 [1] (.null) := ⟨1, (congrArg (fun z => mj_at z 14) f6).trans rfl, rfl⟩
theorem d6_15 : mj_At 6 15 (.iaload) 16 [] (.null) := ⟨1, (congrArg (fun z => mj_at z 15) f6).trans rfl, rfl⟩
theorem d6_16 : mj_At 6 16 (.iconst (-1)) 17 [] (.int (-1)) := ⟨1, (congrArg (fun z => mj_at z 16) f6).trans rfl, rfl⟩
theorem d6_17 : mj_At 6 17 (.if_icmp .eq (7)) 20 [24] (.null) := ⟨3, (congrArg (fun z => mj_at z 17) f6).trans rfl, rfl⟩
theorem d6_20 : mj_At 6 20 (.iconst (1)) 21 [] (.int 1) := ⟨1, (congrArg (fun z => mj_at z 20) f6).trans rfl, rfl⟩
theorem d6_21 : mj_At 6 21 (.goto (4)) 24 [25] (.null) := ⟨3, (congrArg (fun z => mj_at z 21) f6).trans rfl, rfl⟩
theorem d6_24 : mj_At 6 24 (.iconst (0)) 25 [] (.int 0) := ⟨1, (congrArg (fun z => mj_at z 24) f6).trans rfl, rfl⟩
theorem d6_25 : mj_At 6 25 (.ireturn) 26 [1] (.null) := ⟨1, (congrArg (fun z => mj_at z 25) f6).trans rfl, rfl⟩
theorem e6_0 {c : mj_C} {x1 : Int32} {L : Nat} {ps : List (Option (Option Nat))} {rest : List mj_K}   : mj_EV 6 0 [some (.ref 3), some (.int x1)] [] (w_sh L ps rest) c = (if x1 < nI 0 then (some (some (.int (nI 0)), (w_sh L ps rest), c)) else (if (nI 10) ≤ x1 then (some (some (.int (nI 0)), (w_sh L ps rest), c)) else (if mj_in x1 10 = true then (if (c 6 x1.toNatClampNeg) = (-1) then (some (some (.int (nI 0)), (w_sh L ps rest), c)) else (some (some (.int (nI 1)), (w_sh L ps rest), c))) else none))) := (mj_iload_n d6_0 rfl (mj_iflt d6_1 (mj_iconst d6_24 (mj_zret0 d6_25)) (mj_iload_n d6_4 rfl (mj_bipush d6_5 (mj_icge d6_7 (mj_iconst d6_24 (mj_zret0 d6_25)) (mj_aload_n d6_10 rfl (mj_getR d6_11 w_3 rfl (mj_iload_n d6_14 rfl (mj_iald d6_15 w_6 (mj_iconst d6_16 (mj_iceq d6_17 (mj_iconst d6_24 (mj_zret0 d6_25)) (mj_iconst d6_20 (mj_goto d6_21 (mj_zret1 d6_25))))))))))))))
/-- SqueezedLines.placeOfForms(I)I -/
theorem f7 : mj_cd 7 = mj_c7 := rfl
theorem d7_0 : mj_At 7 0 (.iload_n 0) 1 [0] (.null) := ⟨1, (congrArg (fun z => mj_at z 0) f7).trans rfl, rfl⟩
theorem d7_1 : mj_At 7 1 (.bipush (8)) 3 [] (.int 8) := ⟨2, (congrArg (fun z => mj_at z 1) f7).trans rfl, rfl⟩
theorem d7_3 : mj_At 7 3 (.imul) 4 [] (.null) := ⟨1, (congrArg (fun z => mj_at z 3) f7).trans rfl, rfl⟩
theorem d7_4 : mj_At 7 4 (.ireturn) 5 [0] (.null) := ⟨1, (congrArg (fun z => mj_at z 4) f7).trans rfl, rfl⟩
theorem e7_0 {c : mj_C} {x0 : Int32} {L : Nat} {ps : List (Option (Option Nat))} {rest : List mj_K}   : mj_EV 7 0 [some (.int x0)] [] (w_sh L ps rest) c = (some (some (.int (x0 * (nI 8))), (w_sh L ps rest), c)) := (mj_iload_n d7_0 rfl (mj_bipush d7_1 (mj_imul d7_3 (mj_iret d7_4))))
/-- SqueezedLines.besideCount([III)I -/
theorem f8 : mj_cd 8 = mj_c8 := rfl
theorem d8_0 : mj_At 8 0 (.iconst (0)) 1 [] (.int 0) := ⟨1, (congrArg (fun z => mj_at z 0) f8).trans rfl, rfl⟩
theorem d8_1 : mj_At 8 1 (.istore_n 3) 2 [3] (.null) := ⟨1, (congrArg (fun z => mj_at z 1) f8).trans rfl, rfl⟩
theorem d8_2 : mj_At 8 2 (.iconst (0)) 3 [] (.int 0) := ⟨1, (congrArg (fun z => mj_at z 2) f8).trans rfl, rfl⟩
theorem d8_3 : mj_At 8 3 (.istore 4) 5 [4] (.null) := ⟨2, (congrArg (fun z => mj_at z 3) f8).trans rfl, rfl⟩
theorem d8_5 : mj_At 8 5 (.iload 4) 7 [4] (.null) := ⟨2, (congrArg (fun z => mj_at z 5) f8).trans rfl, rfl⟩
theorem d8_7 : mj_At 8 7 (.bipush (8)) 9 [] (.int 8) := ⟨2, (congrArg (fun z => mj_at z 7) f8).trans rfl, rfl⟩
theorem d8_9 : mj_At 8 9 (.if_icmp .ge (26)) 12 [35] (.null) := ⟨3, (congrArg (fun z => mj_at z 9) f8).trans rfl, rfl⟩
theorem d8_12 : mj_At 8 12 (.getstatic 158) 15 [170] (.null) := ⟨3, (congrArg (fun z => mj_at z 12) f8).trans rfl, rfl⟩
theorem d8_15 : mj_At 8 15 (.aload_n 0) 16 [0] (.null) := ⟨1, (congrArg (fun z => mj_at z 15) f8).trans rfl, rfl⟩
theorem d8_16 : mj_At 8 16 (.iload_n 1) 17 [1] (.null) := ⟨1, (congrArg (fun z => mj_at z 16) f8).trans rfl, rfl⟩
theorem d8_17 : mj_At 8 17 (.iload 4) 19 [4] (.null) := ⟨2, (congrArg (fun z => mj_at z 17) f8).trans rfl, rfl⟩
theorem d8_19 : mj_At 8 19 (.iadd) 20 [] (.null) := ⟨1, (congrArg (fun z => mj_at z 19) f8).trans rfl, rfl⟩
theorem d8_20 : mj_At 8 20 (.iaload) 21 [] (.null) := ⟨1, (congrArg (fun z => mj_at z 20) f8).trans rfl, rfl⟩
theorem d8_21 : mj_At 8 21 (.iaload) 22 [] (.null) := ⟨1, (congrArg (fun z => mj_at z 21) f8).trans rfl, rfl⟩
theorem d8_22 : mj_At 8 22 (.iload_n 2) 23 [2] (.null) := ⟨1, (congrArg (fun z => mj_at z 22) f8).trans rfl, rfl⟩
theorem d8_23 : mj_At 8 23 (.if_icmp .le (6)) 26 [29] (.null) := ⟨3, (congrArg (fun z => mj_at z 23) f8).trans rfl, rfl⟩
theorem d8_26 : mj_At 8 26 (.iinc 3 (1)) 29 [3] (.int 1) := ⟨3, (congrArg (fun z => mj_at z 26) f8).trans rfl, rfl⟩
theorem d8_29 : mj_At 8 29 (.iinc 4 (1)) 32 [4] (.int 1) := ⟨3, (congrArg (fun z => mj_at z 29) f8).trans rfl, rfl⟩
theorem d8_32 : mj_At 8 32 (.goto (-27)) 35 [5] (.null) := ⟨3, (congrArg (fun z => mj_at z 32) f8).trans rfl, rfl⟩
theorem d8_35 : mj_At 8 35 (.iload_n 3) 36 [3] (.null) := ⟨1, (congrArg (fun z => mj_at z 35) f8).trans rfl, rfl⟩
theorem d8_36 : mj_At 8 36 (.ireturn) 37 [0] (.null) := ⟨1, (congrArg (fun z => mj_at z 36) f8).trans rfl, rfl⟩
theorem e8_0 {c : mj_C} {x1 : Int32} {x2 : Int32} {L : Nat} {ps : List (Option (Option Nat))} {rest : List mj_K} {a na : Nat} (ha : (w_sh L ps rest)[a]? = some (0, na, []))  : mj_EV 8 0 [some (.ref a), some (.int x1), some (.int x2), none, none] [] (w_sh L ps rest) c = mj_EV 8 5 [some (.ref a), some (.int x1), some (.int x2), some (.int (nI 0)), some (.int (nI 0))] [] (w_sh L ps rest) c := (mj_iconst d8_0 (mj_istore_n [some (.ref a), some (.int x1), some (.int x2), some (.int (nI 0)), none] d8_1 rfl rfl (mj_iconst d8_2 (mj_istore [some (.ref a), some (.int x1), some (.int x2), some (.int (nI 0)), some (.int (nI 0))] d8_3 rfl rfl rfl))))
theorem e8_5 {c : mj_C} {x1 : Int32} {x2 : Int32} {x3 : Int32} {x4 : Int32} {L : Nat} {ps : List (Option (Option Nat))} {rest : List mj_K} {a na : Nat} (ha : (w_sh L ps rest)[a]? = some (0, na, []))  : mj_EV 8 5 [some (.ref a), some (.int x1), some (.int x2), some (.int x3), some (.int x4)] [] (w_sh L ps rest) c = (if (nI 8) ≤ x4 then (some (some (.int x3), (w_sh L ps rest), c)) else (if mj_in (x1 + x4) na = true then (if mj_in (c a (x1 + x4).toNatClampNeg) 5 = true then (if (c 1 (c a (x1 + x4).toNatClampNeg).toNatClampNeg) ≤ x2 then mj_EV 8 5 [some (.ref a), some (.int x1), some (.int x2), some (.int x3), some (.int (x4 + (nI 1)))] [] (w_sh L ps rest) c else mj_EV 8 5 [some (.ref a), some (.int x1), some (.int x2), some (.int (x3 + (nI 1))), some (.int (x4 + (nI 1)))] [] (w_sh L ps rest) c) else none) else none)) := (mj_iload d8_5 rfl (mj_bipush d8_7 (mj_icge d8_9 (mj_iload_n d8_35 rfl (mj_iret d8_36)) (mj_gets d8_12 (mj_aload_n d8_15 rfl (mj_iload_n d8_16 rfl (mj_iload d8_17 rfl (mj_iadd d8_19 (mj_iald d8_20 ha (mj_roald d8_21 w_1 rfl (mj_iload_n d8_22 rfl (mj_icle d8_23 (mj_iinc [some (.ref a), some (.int x1), some (.int x2), some (.int x3), some (.int (x4 + (nI 1)))] d8_29 rfl rfl rfl (mj_goto d8_32 rfl)) (mj_iinc [some (.ref a), some (.int x1), some (.int x2), some (.int (x3 + (nI 1))), some (.int x4)] d8_26 rfl rfl rfl (mj_iinc [some (.ref a), some (.int x1), some (.int x2), some (.int (x3 + (nI 1))), some (.int (x4 + (nI 1)))] d8_29 rfl rfl rfl (mj_goto d8_32 rfl)))))))))))))))
/-- SqueezedLines.besideCountOf(I)I -/
theorem f9 : mj_cd 9 = mj_c9 := rfl
theorem d9_0 : mj_At 9 0 (.aload_n 0) 1 [0] (.null) := ⟨1, (congrArg (fun z => mj_at z 0) f9).trans rfl, rfl⟩
theorem d9_1 : mj_At 9 1 (.getfield 12) 4 [3, 0, 122] (.null) := ⟨3, (congrArg (fun z => mj_at z 1) f9).trans rfl, rfl⟩
theorem d9_4 : mj_At 9 4 (.getfield 255) 7 [2, 6, 55] (.null) := ⟨3, (congrArg (fun z => mj_at z 4) f9).trans rfl, rfl⟩
theorem d9_7 : mj_At 9 7 (.iload_n 1) 8 [1] (.null) := ⟨1, (congrArg (fun z => mj_at z 7) f9).trans rfl, rfl⟩
theorem d9_8 : mj_At 9 8 (.invokestatic 258) 11 [0, 7, 1, 164, 165, 18] (.null) := ⟨3, (congrArg (fun z => mj_at z 8) f9).trans rfl, rfl⟩
theorem d9_11 : mj_At 9 11 (.aload_n 0) 12 [0] (.null) := ⟨1, (congrArg (fun z => mj_at z 11) f9).trans rfl, rfl⟩
theorem d9_12 : mj_At 9 12 (.getfield 12) 15 [3, 0, 122] (.null) := ⟨3, (congrArg (fun z => mj_at z 12) f9).trans rfl, rfl⟩
theorem d9_15 : mj_At 9 15 (.getfield 89) 18 [2, 7, 57] (.null) := ⟨3, (congrArg (fun z => mj_at z 15) f9).trans rfl, rfl⟩
theorem d9_18 : mj_At 9 18 (.iload_n 1) 19 [1] (.null) := ⟨1, (congrArg (fun z => mj_at z 18) f9).trans rfl, rfl⟩
theorem d9_19 : mj_At 9 19 (.iaload) 20 [] (.null) := ⟨1, (congrArg (fun z => mj_at z 19) f9).trans rfl, rfl⟩
theorem d9_20 : mj_At 9 20 (.invokestatic 251) 23 [0, 8, 3, 167, 168, 18] (.null) := ⟨3, (congrArg (fun z => mj_at z 20) f9).trans rfl, rfl⟩
theorem d9_23 : mj_At 9 23 (.ireturn) 24 [0] (.null) := ⟨1, (congrArg (fun z => mj_at z 23) f9).trans rfl, rfl⟩
theorem e9_0 {c : mj_C} {x1 : Int32} {L : Nat} {ps : List (Option (Option Nat))} {rest : List mj_K}   : mj_EV 9 0 [some (.ref 2), some (.int x1)] [] (w_sh L ps rest) c = (mj_then 9 11 [some (.ref 2), some (.int x1)] [.ref 5] (mj_EV 7 0 [some (.int x1)] [] (w_sh L ps rest) c)) := (mj_aload_n d9_0 rfl (mj_getR d9_1 w_2 rfl (mj_getR d9_4 w_3 rfl (mj_iload_n d9_7 rfl (mj_invS [some (.int x1)] [.ref 5] d9_8 (by decide) rfl rfl rfl rfl)))))
theorem e9_11 {c : mj_C} {x1 : Int32} {z1 : Int32} {L : Nat} {ps : List (Option (Option Nat))} {rest : List mj_K}   : mj_EV 9 11 [some (.ref 2), some (.int x1)] [.int z1, .ref 5] (w_sh L ps rest) c = (if mj_in x1 10 = true then (mj_then 9 23 [some (.ref 2), some (.int x1)] [] (mj_EV 8 0 [some (.ref 5), some (.int z1), some (.int (c 6 x1.toNatClampNeg)), none, none] [] (w_sh L ps rest) c)) else none) := (mj_aload_n d9_11 rfl (mj_getR d9_12 w_2 rfl (mj_getR d9_15 w_3 rfl (mj_iload_n d9_18 rfl (mj_iald d9_19 w_6 (mj_invS [some (.ref 5), some (.int z1), some (.int (c 6 x1.toNatClampNeg)), none, none] [] d9_20 (by decide) rfl rfl rfl rfl))))))
theorem e9_23 {c : mj_C} {x1 : Int32} {z0 : Int32} {L : Nat} {ps : List (Option (Option Nat))} {rest : List mj_K}   : mj_EV 9 23 [some (.ref 2), some (.int x1)] [.int z0] (w_sh L ps rest) c = (some (some (.int z0), (w_sh L ps rest), c)) := (mj_iret d9_23)
/-- SqueezedLines.pageSize(II)I -/
theorem f10 : mj_cd 10 = mj_c10 := rfl
theorem d10_0 : mj_At 10 0 (.iconst (1)) 1 [] (.int 1) := ⟨1, (congrArg (fun z => mj_at z 0) f10).trans rfl, rfl⟩
theorem d10_1 : mj_At 10 1 (.bipush (8)) 3 [] (.int 8) := ⟨2, (congrArg (fun z => mj_at z 1) f10).trans rfl, rfl⟩
theorem d10_3 : mj_At 10 3 (.iload_n 0) 4 [0] (.null) := ⟨1, (congrArg (fun z => mj_at z 3) f10).trans rfl, rfl⟩
theorem d10_4 : mj_At 10 4 (.imul) 5 [] (.null) := ⟨1, (congrArg (fun z => mj_at z 4) f10).trans rfl, rfl⟩
theorem d10_5 : mj_At 10 5 (.iadd) 6 [] (.null) := ⟨1, (congrArg (fun z => mj_at z 5) f10).trans rfl, rfl⟩
theorem d10_6 : mj_At 10 6 (.bipush (8)) 8 [] (.int 8) := ⟨2, (congrArg (fun z => mj_at z 6) f10).trans rfl, rfl⟩
theorem d10_8 : mj_At 10 8 (.iload_n 1) 9 [1] (.null) := ⟨1, (congrArg (fun z => mj_at z 8) f10).trans rfl, rfl⟩
theorem d10_9 : mj_At 10 9 (.imul) 10 [] (.null) := ⟨1, (congrArg (fun z => mj_at z 9) f10).trans rfl, rfl⟩
theorem d10_10 : mj_At 10 10 (.iadd) 11 [] (.null) := ⟨1, (congrArg (fun z => mj_at z 10) f10).trans rfl, rfl⟩
theorem d10_11 : mj_At 10 11 (.ireturn) 12 [0] (.null) := ⟨1, (congrArg (fun z => mj_at z 11) f10).trans rfl, rfl⟩
theorem e10_0 {c : mj_C} {x0 : Int32} {x1 : Int32} {L : Nat} {ps : List (Option (Option Nat))} {rest : List mj_K}   : mj_EV 10 0 [some (.int x0), some (.int x1)] [] (w_sh L ps rest) c = (some (some (.int (((nI 1) + ((nI 8) * x0)) + ((nI 8) * x1))), (w_sh L ps rest), c)) := (mj_iconst d10_0 (mj_bipush d10_1 (mj_iload_n d10_3 rfl (mj_imul d10_4 (mj_iadd d10_5 (mj_bipush d10_6 (mj_iload_n d10_8 rfl (mj_imul d10_9 (mj_iadd d10_10 (mj_iret d10_11))))))))))
/-- SqueezedLines.bestSlot([III)I -/
theorem f11 : mj_cd 11 = mj_c11 := rfl
theorem d11_0 : mj_At 11 0 (.bipush (8)) 2 [] (.int 8) := ⟨2, (congrArg (fun z => mj_at z 0) f11).trans rfl, rfl⟩
theorem d11_2 : mj_At 11 2 (.istore_n 3) 3 [3] (.null) := ⟨1, (congrArg (fun z => mj_at z 2) f11).trans rfl, rfl⟩
theorem d11_3 : mj_At 11 3 (.bipush (8)) 5 [] (.int 8) := ⟨2, (congrArg (fun z => mj_at z 3) f11).trans rfl, rfl⟩
theorem d11_5 : mj_At 11 5 (.iconst (0)) 6 [] (.int 0) := ⟨1, (congrArg (fun z => mj_at z 5) f11).trans rfl, rfl⟩
theorem d11_6 : mj_At 11 6 (.invokestatic 248) 9 [0, 10, 2, 183, 184, 18] (.null) := ⟨3, (congrArg (fun z => mj_at z 6) f11).trans rfl, rfl⟩
theorem d11_9 : mj_At 11 9 (.istore 4) 11 [4] (.null) := ⟨2, (congrArg (fun z => mj_at z 9) f11).trans rfl, rfl⟩
theorem d11_11 : mj_At 11 11 (.iconst (4)) 12 [] (.int 4) := ⟨1, (congrArg (fun z => mj_at z 11) f11).trans rfl, rfl⟩
theorem d11_12 : mj_At 11 12 (.istore 5) 14 [5] (.null) := ⟨2, (congrArg (fun z => mj_at z 12) f11).trans rfl, rfl⟩
theorem d11_14 : mj_At 11 14 (.iload 5) 16 [5] (.null) := ⟨2, (congrArg (fun z => mj_at z 14) f11).trans rfl, rfl⟩
theorem d11_16 : mj_At 11 16 (.ifCond .lt (56)) 19 [72] (.null) := ⟨3, (congrArg (fun z => mj_at z 16) f11).trans rfl, rfl⟩
theorem d11_19 : mj_At 11 19 (.getstatic 158) 22 [170] (.null) := ⟨3, (congrArg (fun z => mj_at z 19) f11).trans rfl, rfl⟩
theorem d11_22 : mj_At 11 22 (.iload 5) 24 [5] (.null) := ⟨2, (congrArg (fun z => mj_at z 22) f11).trans rfl, rfl⟩
theorem d11_24 : mj_At 11 24 (.iaload) 25 [] (.null) := ⟨1, (congrArg (fun z => mj_at z 24) f11).trans rfl, rfl⟩
theorem d11_25 : mj_At 11 25 (.istore 6) 27 [6] (.null) := ⟨2, (congrArg (fun z => mj_at z 25) f11).trans rfl, rfl⟩
theorem d11_27 : mj_At 11 27 (.aload_n 0) 28 [0] (.null) := ⟨1, (congrArg (fun z => mj_at z 27) f11).trans rfl, rfl⟩
theorem d11_28 : mj_At 11 28 (.iload_n 1) 29 [1] (.null) := ⟨1, (congrArg (fun z => mj_at z 28) f11).trans rfl, rfl⟩
theorem d11_29 : mj_At 11 29 (.iload 6) 31 [6] (.null) := ⟨2, (congrArg (fun z => mj_at z 29) f11).trans rfl, rfl⟩
theorem d11_31 : mj_At 11 31 (.invokestatic 251) 34 [0, 8, 3, 167, 168, 18] (.null) := ⟨3, (congrArg (fun z => mj_at z 31) f11).trans rfl, rfl⟩
theorem d11_34 : mj_At 11 34 (.istore 7) 36 [7] (.null) := ⟨2, (congrArg (fun z => mj_at z 34) f11).trans rfl, rfl⟩
theorem d11_36 : mj_At 11 36 (.iload 7) 38 [7] (.null) := ⟨2, (congrArg (fun z => mj_at z 36) f11).trans rfl, rfl⟩
theorem d11_38 : mj_At 11 38 (.iload_n 2) 39 [2] (.null) := ⟨1, (congrArg (fun z => mj_at z 38) f11).trans rfl, rfl⟩
theorem d11_39 : mj_At 11 39 (.if_icmp .gt (27)) 42 [66] (.null) := ⟨3, (congrArg (fun z => mj_at z 39) f11).trans rfl, rfl⟩
theorem d11_42 : mj_At 11 42 (.iload 6) 44 [6] (.null) := ⟨2, (congrArg (fun z => mj_at z 42) f11).trans rfl, rfl⟩
theorem d11_44 : mj_At 11 44 (.iload 7) 46 [7] (.null) := ⟨2, (congrArg (fun z => mj_at z 44) f11).trans rfl, rfl⟩
theorem d11_46 : mj_At 11 46 (.invokestatic 248) 49 [0, 10, 2, 183, 184, 18] (.null) := ⟨3, (congrArg (fun z => mj_at z 46) f11).trans rfl, rfl⟩
theorem d11_49 : mj_At 11 49 (.iload 4) 51 [4] (.null) := ⟨2, (congrArg (fun z => mj_at z 49) f11).trans rfl, rfl⟩
theorem d11_51 : mj_At 11 51 (.if_icmp .gt (15)) 54 [66] (.null) := ⟨3, (congrArg (fun z => mj_at z 51) f11).trans rfl, rfl⟩
theorem d11_54 : mj_At 11 54 (.iload 6) 56 [6] (.null) := ⟨2, (congrArg (fun z => mj_at z 54) f11).trans rfl, rfl⟩
theorem d11_56 : mj_At 11 56 (.istore_n 3) 57 [3] (.null) := ⟨1, (congrArg (fun z => mj_at z 56) f11).trans rfl, rfl⟩
theorem d11_57 : mj_At 11 57 (.iload 6) 59 [6] (.null) := ⟨2, (congrArg (fun z => mj_at z 57) f11).trans rfl, rfl⟩
theorem d11_59 : mj_At 11 59 (.iload 7) 61 [7] (.null) := ⟨2, (congrArg (fun z => mj_at z 59) f11).trans rfl, rfl⟩
theorem d11_61 : mj_At 11 61 (.invokestatic 248) 64 [0, 10, 2, 183, 184, 18] (.null) := ⟨3, (congrArg (fun z => mj_at z 61) f11).trans rfl, rfl⟩
theorem d11_64 : mj_At 11 64 (.istore 4) 66 [4] (.null) := ⟨2, (congrArg (fun z => mj_at z 64) f11).trans rfl, rfl⟩
theorem d11_66 : mj_At 11 66 (.iinc 5 (-1)) 69 [5] (.int (-1)) := ⟨3, (congrArg (fun z => mj_at z 66) f11).trans rfl, rfl⟩
theorem d11_69 : mj_At 11 69 (.goto (-55)) 72 [14] (.null) := ⟨3, (congrArg (fun z => mj_at z 69) f11).trans rfl, rfl⟩
theorem d11_72 : mj_At 11 72 (.iload_n 3) 73 [3] (.null) := ⟨1, (congrArg (fun z => mj_at z 72) f11).trans rfl, rfl⟩
theorem d11_73 : mj_At 11 73 (.ireturn) 74 [0] (.null) := ⟨1, (congrArg (fun z => mj_at z 73) f11).trans rfl, rfl⟩
theorem e11_0 {c : mj_C} {x1 : Int32} {x2 : Int32} {L : Nat} {ps : List (Option (Option Nat))} {rest : List mj_K} {a na : Nat} (ha : (w_sh L ps rest)[a]? = some (0, na, []))  : mj_EV 11 0 [some (.ref a), some (.int x1), some (.int x2), none, none, none, none, none] [] (w_sh L ps rest) c = (mj_then 11 9 [some (.ref a), some (.int x1), some (.int x2), some (.int (nI 8)), none, none, none, none] [] (mj_EV 10 0 [some (.int (nI 8)), some (.int (nI 0))] [] (w_sh L ps rest) c)) := (mj_bipush d11_0 (mj_istore_n [some (.ref a), some (.int x1), some (.int x2), some (.int (nI 8)), none, none, none, none] d11_2 rfl rfl (mj_bipush d11_3 (mj_iconst d11_5 (mj_invS [some (.int (nI 8)), some (.int (nI 0))] [] d11_6 (by decide) rfl rfl rfl rfl)))))
theorem e11_9 {c : mj_C} {x1 : Int32} {x2 : Int32} {x3 : Int32} {z0 : Int32} {L : Nat} {ps : List (Option (Option Nat))} {rest : List mj_K} {a na : Nat} (ha : (w_sh L ps rest)[a]? = some (0, na, []))  : mj_EV 11 9 [some (.ref a), some (.int x1), some (.int x2), some (.int x3), none, none, none, none] [.int z0] (w_sh L ps rest) c = mj_EV 11 14 [some (.ref a), some (.int x1), some (.int x2), some (.int x3), some (.int z0), some (.int (nI 4)), none, none] [] (w_sh L ps rest) c := (mj_istore [some (.ref a), some (.int x1), some (.int x2), some (.int x3), some (.int z0), none, none, none] d11_9 rfl rfl (mj_iconst d11_11 (mj_istore [some (.ref a), some (.int x1), some (.int x2), some (.int x3), some (.int z0), some (.int (nI 4)), none, none] d11_12 rfl rfl rfl)))
theorem e11_14 {c : mj_C} {x1 : Int32} {x2 : Int32} {x3 : Int32} {x4 : Int32} {x5 : Int32} {o6 : Option Value} {o7 : Option Value} {L : Nat} {ps : List (Option (Option Nat))} {rest : List mj_K} {a na : Nat} (ha : (w_sh L ps rest)[a]? = some (0, na, []))  : mj_EV 11 14 [some (.ref a), some (.int x1), some (.int x2), some (.int x3), some (.int x4), some (.int x5), o6, o7] [] (w_sh L ps rest) c = (if x5 < nI 0 then (some (some (.int x3), (w_sh L ps rest), c)) else (if mj_in x5 5 = true then (mj_then 11 34 [some (.ref a), some (.int x1), some (.int x2), some (.int x3), some (.int x4), some (.int x5), some (.int (c 1 x5.toNatClampNeg)), o7] [] (mj_EV 8 0 [some (.ref a), some (.int x1), some (.int (c 1 x5.toNatClampNeg)), none, none] [] (w_sh L ps rest) c)) else none)) := (mj_iload d11_14 rfl (mj_iflt d11_16 (mj_iload_n d11_72 rfl (mj_iret d11_73)) (mj_gets d11_19 (mj_iload d11_22 rfl (mj_roald d11_24 w_1 rfl (mj_istore [some (.ref a), some (.int x1), some (.int x2), some (.int x3), some (.int x4), some (.int x5), some (.int (c 1 x5.toNatClampNeg)), o7] d11_25 rfl rfl (mj_aload_n d11_27 rfl (mj_iload_n d11_28 rfl (mj_iload d11_29 rfl (mj_invS [some (.ref a), some (.int x1), some (.int (c 1 x5.toNatClampNeg)), none, none] [] d11_31 (by decide) rfl rfl rfl rfl))))))))))
theorem e11_34 {c : mj_C} {x1 : Int32} {x2 : Int32} {x3 : Int32} {x4 : Int32} {x5 : Int32} {x6 : Int32} {o7 : Option Value} {z0 : Int32} {L : Nat} {ps : List (Option (Option Nat))} {rest : List mj_K} {a na : Nat} (ha : (w_sh L ps rest)[a]? = some (0, na, []))  : mj_EV 11 34 [some (.ref a), some (.int x1), some (.int x2), some (.int x3), some (.int x4), some (.int x5), some (.int x6), o7] [.int z0] (w_sh L ps rest) c = (if x2 < z0 then mj_EV 11 14 [some (.ref a), some (.int x1), some (.int x2), some (.int x3), some (.int x4), some (.int (x5 + (-1))), some (.int x6), some (.int z0)] [] (w_sh L ps rest) c else (mj_then 11 49 [some (.ref a), some (.int x1), some (.int x2), some (.int x3), some (.int x4), some (.int x5), some (.int x6), some (.int z0)] [] (mj_EV 10 0 [some (.int x6), some (.int z0)] [] (w_sh L ps rest) c))) := (mj_istore [some (.ref a), some (.int x1), some (.int x2), some (.int x3), some (.int x4), some (.int x5), some (.int x6), some (.int z0)] d11_34 rfl rfl (mj_iload d11_36 rfl (mj_iload_n d11_38 rfl (mj_icgt d11_39 (mj_iinc [some (.ref a), some (.int x1), some (.int x2), some (.int x3), some (.int x4), some (.int (x5 + (-1))), some (.int x6), some (.int z0)] d11_66 rfl rfl rfl (mj_goto d11_69 rfl)) (mj_iload d11_42 rfl (mj_iload d11_44 rfl (mj_invS [some (.int x6), some (.int z0)] [] d11_46 (by decide) rfl rfl rfl rfl)))))))
theorem e11_49 {c : mj_C} {x1 : Int32} {x2 : Int32} {x3 : Int32} {x4 : Int32} {x5 : Int32} {x6 : Int32} {x7 : Int32} {z0 : Int32} {L : Nat} {ps : List (Option (Option Nat))} {rest : List mj_K} {a na : Nat} (ha : (w_sh L ps rest)[a]? = some (0, na, []))  : mj_EV 11 49 [some (.ref a), some (.int x1), some (.int x2), some (.int x3), some (.int x4), some (.int x5), some (.int x6), some (.int x7)] [.int z0] (w_sh L ps rest) c = (if x4 < z0 then mj_EV 11 14 [some (.ref a), some (.int x1), some (.int x2), some (.int x3), some (.int x4), some (.int (x5 + (-1))), some (.int x6), some (.int x7)] [] (w_sh L ps rest) c else (mj_then 11 64 [some (.ref a), some (.int x1), some (.int x2), some (.int x6), some (.int x4), some (.int x5), some (.int x6), some (.int x7)] [] (mj_EV 10 0 [some (.int x6), some (.int x7)] [] (w_sh L ps rest) c))) := (mj_iload d11_49 rfl (mj_icgt d11_51 (mj_iinc [some (.ref a), some (.int x1), some (.int x2), some (.int x3), some (.int x4), some (.int (x5 + (-1))), some (.int x6), some (.int x7)] d11_66 rfl rfl rfl (mj_goto d11_69 rfl)) (mj_iload d11_54 rfl (mj_istore_n [some (.ref a), some (.int x1), some (.int x2), some (.int x6), some (.int x4), some (.int x5), some (.int x6), some (.int x7)] d11_56 rfl rfl (mj_iload d11_57 rfl (mj_iload d11_59 rfl (mj_invS [some (.int x6), some (.int x7)] [] d11_61 (by decide) rfl rfl rfl rfl)))))))
theorem e11_64 {c : mj_C} {x1 : Int32} {x2 : Int32} {x3 : Int32} {x4 : Int32} {x5 : Int32} {x6 : Int32} {x7 : Int32} {z0 : Int32} {L : Nat} {ps : List (Option (Option Nat))} {rest : List mj_K} {a na : Nat} (ha : (w_sh L ps rest)[a]? = some (0, na, []))  : mj_EV 11 64 [some (.ref a), some (.int x1), some (.int x2), some (.int x3), some (.int x4), some (.int x5), some (.int x6), some (.int x7)] [.int z0] (w_sh L ps rest) c = mj_EV 11 14 [some (.ref a), some (.int x1), some (.int x2), some (.int x3), some (.int z0), some (.int (x5 + (-1))), some (.int x6), some (.int x7)] [] (w_sh L ps rest) c := (mj_istore [some (.ref a), some (.int x1), some (.int x2), some (.int x3), some (.int z0), some (.int x5), some (.int x6), some (.int x7)] d11_64 rfl rfl (mj_iinc [some (.ref a), some (.int x1), some (.int x2), some (.int x3), some (.int z0), some (.int (x5 + (-1))), some (.int x6), some (.int x7)] d11_66 rfl rfl rfl (mj_goto d11_69 rfl)))
/-- SqueezedLines.bestSlotOf(II)I -/
theorem f12 : mj_cd 12 = mj_c12 := rfl
theorem d12_0 : mj_At 12 0 (.aload_n 0) 1 [0] (.null) := ⟨1, (congrArg (fun z => mj_at z 0) f12).trans rfl, rfl⟩
theorem d12_1 : mj_At 12 1 (.getfield 12) 4 [3, 0, 122] (.null) := ⟨3, (congrArg (fun z => mj_at z 1) f12).trans rfl, rfl⟩
theorem d12_4 : mj_At 12 4 (.getfield 255) 7 [2, 6, 55] (.null) := ⟨3, (congrArg (fun z => mj_at z 4) f12).trans rfl, rfl⟩
theorem d12_7 : mj_At 12 7 (.iload_n 1) 8 [1] (.null) := ⟨1, (congrArg (fun z => mj_at z 7) f12).trans rfl, rfl⟩
theorem d12_8 : mj_At 12 8 (.invokestatic 258) 11 [0, 7, 1, 164, 165, 18] (.null) := ⟨3, (congrArg (fun z => mj_at z 8) f12).trans rfl, rfl⟩
theorem d12_11 : mj_At 12 11 (.iload_n 2) 12 [2] (.null) := ⟨1, (congrArg (fun z => mj_at z 11) f12).trans rfl, rfl⟩
theorem d12_12 : mj_At 12 12 (.invokestatic 264) 15 [0, 11, 3, 180, 181, 18] (.null) := ⟨3, (congrArg (fun z => mj_at z 12) f12).trans rfl, rfl⟩
theorem d12_15 : mj_At 12 15 (.ireturn) 16 [0] (.null) := ⟨1, (congrArg (fun z => mj_at z 15) f12).trans rfl, rfl⟩
theorem e12_0 {c : mj_C} {x1 : Int32} {x2 : Int32} {L : Nat} {ps : List (Option (Option Nat))} {rest : List mj_K}   : mj_EV 12 0 [some (.ref 2), some (.int x1), some (.int x2)] [] (w_sh L ps rest) c = (mj_then 12 11 [some (.ref 2), some (.int x1), some (.int x2)] [.ref 5] (mj_EV 7 0 [some (.int x1)] [] (w_sh L ps rest) c)) := (mj_aload_n d12_0 rfl (mj_getR d12_1 w_2 rfl (mj_getR d12_4 w_3 rfl (mj_iload_n d12_7 rfl (mj_invS [some (.int x1)] [.ref 5] d12_8 (by decide) rfl rfl rfl rfl)))))
theorem e12_11 {c : mj_C} {x1 : Int32} {x2 : Int32} {z1 : Int32} {L : Nat} {ps : List (Option (Option Nat))} {rest : List mj_K}   : mj_EV 12 11 [some (.ref 2), some (.int x1), some (.int x2)] [.int z1, .ref 5] (w_sh L ps rest) c = (mj_then 12 15 [some (.ref 2), some (.int x1), some (.int x2)] [] (mj_EV 11 0 [some (.ref 5), some (.int z1), some (.int x2), none, none, none, none, none] [] (w_sh L ps rest) c)) := (mj_iload_n d12_11 rfl (mj_invS [some (.ref 5), some (.int z1), some (.int x2), none, none, none, none, none] [] d12_12 (by decide) rfl rfl rfl rfl))
theorem e12_15 {c : mj_C} {x1 : Int32} {x2 : Int32} {z0 : Int32} {L : Nat} {ps : List (Option (Option Nat))} {rest : List mj_K}   : mj_EV 12 15 [some (.ref 2), some (.int x1), some (.int x2)] [.int z0] (w_sh L ps rest) c = (some (some (.int z0), (w_sh L ps rest), c)) := (mj_iret d12_15)
/-- SqueezedLines.bestSizeOf(II)I -/
theorem f13 : mj_cd 13 = mj_c13 := rfl
theorem d13_0 : mj_At 13 0 (.aload_n 0) 1 [0] (.null) := ⟨1, (congrArg (fun z => mj_at z 0) f13).trans rfl, rfl⟩
theorem d13_1 : mj_At 13 1 (.iload_n 1) 2 [1] (.null) := ⟨1, (congrArg (fun z => mj_at z 1) f13).trans rfl, rfl⟩
theorem d13_2 : mj_At 13 2 (.iload_n 2) 3 [2] (.null) := ⟨1, (congrArg (fun z => mj_at z 2) f13).trans rfl, rfl⟩
theorem d13_3 : mj_At 13 3 (.invokevirtual 92) 6 [1, 12, 3, 3, 176, 178, 3, 18] (.null) := ⟨3, (congrArg (fun z => mj_at z 3) f13).trans rfl, rfl⟩
theorem d13_6 : mj_At 13 6 (.istore_n 3) 7 [3] (.null) := ⟨1, (congrArg (fun z => mj_at z 6) f13).trans rfl, rfl⟩
theorem d13_7 : mj_At 13 7 (.iload_n 3) 8 [3] (.null) := ⟨1, (congrArg (fun z => mj_at z 7) f13).trans rfl, rfl⟩
theorem d13_8 : mj_At 13 8 (.aload_n 0) 9 [0] (.null) := ⟨1, (congrArg (fun z => mj_at z 8) f13).trans rfl, rfl⟩
theorem d13_9 : mj_At 13 9 (.getfield 12) 12 [3, 0, 122] (.null) := ⟨3, (congrArg (fun z => mj_at z 9) f13).trans rfl, rfl⟩
theorem d13_12 : mj_At 13 12 (.getfield 255) 15 [2, 6, 55] (.null) := ⟨3, (congrArg (fun z => mj_at z 12) f13).trans rfl, rfl⟩
theorem d13_15 : mj_At 13 15 (.iload_n 1) 16 [1] (.null) := ⟨1, (congrArg (fun z => mj_at z 15) f13).trans rfl, rfl⟩
theorem d13_16 : mj_At 13 16 (.invokestatic 258) 19 [0, 7, 1, 164, 165, 18] (.null) := ⟨3, (congrArg (fun z => mj_at z 16) f13).trans rfl, rfl⟩
theorem d13_19 : mj_At 13 19 (.iload_n 3) 20 [3] (.null) := ⟨1, (congrArg (fun z => mj_at z 19) f13).trans rfl, rfl⟩
theorem d13_20 : mj_At 13 20 (.invokestatic 251) 23 [0, 8, 3, 167, 168, 18] (.null) := ⟨3, (congrArg (fun z => mj_at z 20) f13).trans rfl, rfl⟩
theorem d13_23 : mj_At 13 23 (.invokestatic 248) 26 [0, 10, 2, 183, 184, 18] (.null) := ⟨3, (congrArg (fun z => mj_at z 23) f13).trans rfl, rfl⟩
theorem d13_26 : mj_At 13 26 (.ireturn) 27 [0] (.null) := ⟨1, (congrArg (fun z => mj_at z 26) f13).trans rfl, rfl⟩
theorem e13_0 {c : mj_C} {x1 : Int32} {x2 : Int32} {L : Nat} {ps : List (Option (Option Nat))} {rest : List mj_K}   : mj_EV 13 0 [some (.ref 2), some (.int x1), some (.int x2), none] [] (w_sh L ps rest) c = (mj_then 13 6 [some (.ref 2), some (.int x1), some (.int x2), none] [] (mj_EV 12 0 [some (.ref 2), some (.int x1), some (.int x2)] [] (w_sh L ps rest) c)) := (mj_aload_n d13_0 rfl (mj_iload_n d13_1 rfl (mj_iload_n d13_2 rfl (mj_invV [some (.ref 2), some (.int x1), some (.int x2)] [] d13_3 rfl rfl rfl w_2 rfl rfl))))
theorem e13_6 {c : mj_C} {x1 : Int32} {x2 : Int32} {z0 : Int32} {L : Nat} {ps : List (Option (Option Nat))} {rest : List mj_K}   : mj_EV 13 6 [some (.ref 2), some (.int x1), some (.int x2), none] [.int z0] (w_sh L ps rest) c = (mj_then 13 19 [some (.ref 2), some (.int x1), some (.int x2), some (.int z0)] [.ref 5, .int z0] (mj_EV 7 0 [some (.int x1)] [] (w_sh L ps rest) c)) := (mj_istore_n [some (.ref 2), some (.int x1), some (.int x2), some (.int z0)] d13_6 rfl rfl (mj_iload_n d13_7 rfl (mj_aload_n d13_8 rfl (mj_getR d13_9 w_2 rfl (mj_getR d13_12 w_3 rfl (mj_iload_n d13_15 rfl (mj_invS [some (.int x1)] [.ref 5, .int z0] d13_16 (by decide) rfl rfl rfl rfl)))))))
theorem e13_19 {c : mj_C} {x1 : Int32} {x2 : Int32} {x3 : Int32} {z0 : Int32} {z2 : Int32} {L : Nat} {ps : List (Option (Option Nat))} {rest : List mj_K}   : mj_EV 13 19 [some (.ref 2), some (.int x1), some (.int x2), some (.int x3)] [.int z2, .ref 5, .int z0] (w_sh L ps rest) c = (mj_then 13 23 [some (.ref 2), some (.int x1), some (.int x2), some (.int x3)] [.int z0] (mj_EV 8 0 [some (.ref 5), some (.int z2), some (.int x3), none, none] [] (w_sh L ps rest) c)) := (mj_iload_n d13_19 rfl (mj_invS [some (.ref 5), some (.int z2), some (.int x3), none, none] [.int z0] d13_20 (by decide) rfl rfl rfl rfl))
theorem e13_23 {c : mj_C} {x1 : Int32} {x2 : Int32} {x3 : Int32} {z0 : Int32} {z1 : Int32} {L : Nat} {ps : List (Option (Option Nat))} {rest : List mj_K}   : mj_EV 13 23 [some (.ref 2), some (.int x1), some (.int x2), some (.int x3)] [.int z1, .int z0] (w_sh L ps rest) c = (mj_then 13 26 [some (.ref 2), some (.int x1), some (.int x2), some (.int x3)] [] (mj_EV 10 0 [some (.int z0), some (.int z1)] [] (w_sh L ps rest) c)) := (mj_invS [some (.int z0), some (.int z1)] [] d13_23 (by decide) rfl rfl rfl rfl)
theorem e13_26 {c : mj_C} {x1 : Int32} {x2 : Int32} {x3 : Int32} {z0 : Int32} {L : Nat} {ps : List (Option (Option Nat))} {rest : List mj_K}   : mj_EV 13 26 [some (.ref 2), some (.int x1), some (.int x2), some (.int x3)] [.int z0] (w_sh L ps rest) c = (some (some (.int z0), (w_sh L ps rest), c)) := (mj_iret d13_26)
/-- SqueezedLines.sizeOfPage(I)I -/
theorem f14 : mj_cd 14 = mj_c14 := rfl
theorem d14_0 : mj_At 14 0 (.aload_n 0) 1 [0] (.null) := ⟨1, (congrArg (fun z => mj_at z 0) f14).trans rfl, rfl⟩
theorem d14_1 : mj_At 14 1 (.getfield 12) 4 [3, 0, 122] (.null) := ⟨3, (congrArg (fun z => mj_at z 1) f14).trans rfl, rfl⟩
theorem d14_4 : mj_At 14 4 (.getfield 89) 7 [2, 7, 57] (.null) := ⟨3, (congrArg (fun z => mj_at z 4) f14).trans rfl, rfl⟩
theorem d14_7 : mj_At 14 7 (.iload_n 1) 8 [1] (.null) := ⟨1, (congrArg (fun z => mj_at z 7) f14).trans rfl, rfl⟩
theorem d14_8 : mj_At 14 8 (.iaload) 9 [] (.null) := ⟨1, (congrArg (fun z => mj_at z 8) f14).trans rfl, rfl⟩
theorem d14_9 : mj_At 14 9 (.aload_n 0) 10 [0] (.null) := ⟨1, (congrArg (fun z => mj_at z 9) f14).trans rfl, rfl⟩
theorem d14_10 : mj_At 14 10 (.iload_n 1) 11 [1] (.null) := ⟨1, (congrArg (fun z => mj_at z 10) f14).trans rfl, rfl⟩
theorem d14_11 : mj_At 14 11 (.invokevirtual 261) 14 [1, 9, 2, 3, 160, 162, 1, 18] (.null) := ⟨3, (congrArg (fun z => mj_at z 11) f14).trans rfl, rfl⟩
theorem d14_14 : mj_At 14 14 (.invokestatic 248) 17 [0, 10, 2, 183, 184, 18] (.null) := ⟨3, (congrArg (fun z => mj_at z 14) f14).trans rfl, rfl⟩
theorem d14_17 : mj_At 14 17 (.ireturn) 18 [0] (.null) := ⟨1, (congrArg (fun z => mj_at z 17) f14).trans rfl, rfl⟩
theorem e14_0 {c : mj_C} {x1 : Int32} {L : Nat} {ps : List (Option (Option Nat))} {rest : List mj_K}   : mj_EV 14 0 [some (.ref 2), some (.int x1)] [] (w_sh L ps rest) c = (if mj_in x1 10 = true then (mj_then 14 14 [some (.ref 2), some (.int x1)] [.int (c 6 x1.toNatClampNeg)] (mj_EV 9 0 [some (.ref 2), some (.int x1)] [] (w_sh L ps rest) c)) else none) := (mj_aload_n d14_0 rfl (mj_getR d14_1 w_2 rfl (mj_getR d14_4 w_3 rfl (mj_iload_n d14_7 rfl (mj_iald d14_8 w_6 (mj_aload_n d14_9 rfl (mj_iload_n d14_10 rfl (mj_invV [some (.ref 2), some (.int x1)] [.int (c 6 x1.toNatClampNeg)] d14_11 rfl rfl rfl w_2 rfl rfl))))))))
theorem e14_14 {c : mj_C} {x1 : Int32} {z0 : Int32} {z1 : Int32} {L : Nat} {ps : List (Option (Option Nat))} {rest : List mj_K}   : mj_EV 14 14 [some (.ref 2), some (.int x1)] [.int z1, .int z0] (w_sh L ps rest) c = (mj_then 14 17 [some (.ref 2), some (.int x1)] [] (mj_EV 10 0 [some (.int z0), some (.int z1)] [] (w_sh L ps rest) c)) := (mj_invS [some (.int z0), some (.int z1)] [] d14_14 (by decide) rfl rfl rfl rfl)
theorem e14_17 {c : mj_C} {x1 : Int32} {z0 : Int32} {L : Nat} {ps : List (Option (Option Nat))} {rest : List mj_K}   : mj_EV 14 17 [some (.ref 2), some (.int x1)] [.int z0] (w_sh L ps rest) c = (some (some (.int z0), (w_sh L ps rest), c)) := (mj_iret d14_17)
/-- SqueezedLines.sumWithRoom(I)I -/
theorem f15 : mj_cd 15 = mj_c15 := rfl
theorem d15_0 : mj_At 15 0 (.iconst (0)) 1 [] (.int 0) := ⟨1, (congrArg (fun z => mj_at z 0) f15).trans rfl, rfl⟩
theorem d15_1 : mj_At 15 1 (.istore_n 2) 2 [2] (.null) := ⟨1, (congrArg (fun z => mj_at z 1) f15).trans rfl, rfl⟩
theorem d15_2 : mj_At 15 2 (.iconst (0)) 3 [] (.int 0) := ⟨1, (congrArg (fun z => mj_at z 2) f15).trans rfl, rfl⟩
theorem d15_3 : mj_At 15 3 (.istore_n 3) 4 [3] (.null) := ⟨1, (congrArg (fun z => mj_at z 3) f15).trans rfl, rfl⟩
theorem d15_4 : mj_At 15 4 (.iload_n 3) 5 [3] (.null) := ⟨1, (congrArg (fun z => mj_at z 4) f15).trans rfl, rfl⟩
theorem d15_5 : mj_At 15 5 (.bipush (10)) 7 [] (.int 10) := ⟨2, (congrArg (fun z => mj_at z 5) f15).trans rfl, rfl⟩
theorem d15_7 : mj_At 15 7 (.if_icmp .ge (46)) 10 [53] (.null) := ⟨3, (congrArg (fun z => mj_at z 7) f15).trans rfl, rfl⟩
theorem d15_10 : mj_At 15 10 (.aload_n 0) 11 [0] (.null) := ⟨1, (congrArg (fun z => mj_at z 10) f15).trans rfl, rfl⟩
theorem d15_11 : mj_At 15 11 (.getfield 12) 14 [3, 0, 122] (.null) := ⟨3, (congrArg (fun z => mj_at z 11) f15).trans rfl, rfl⟩
theorem d15_14 : mj_At 15 14 (.iload_n 3) 15 [3] (.null) := ⟨1, (congrArg (fun z => mj_at z 14) f15).trans rfl, rfl⟩
theorem d15_15 : mj_At 15 15 (.invokevirtual 63) 18 [1, 6, 2, 2, 156, 157, 158, 19] (.null) := ⟨3, (congrArg (fun z => mj_at z 15) f15).trans rfl, rfl⟩
theorem d15_18 : mj_At 15 18 (.ifCond .eq (29)) 21 [47] (.null) := ⟨3, (congrArg (fun z => mj_at z 18) f15).trans rfl, rfl⟩
theorem d15_21 : mj_At 15 21 (.iload_n 2) 22 [2] (.null) := ⟨1, (congrArg (fun z => mj_at z 21) f15).trans rfl, rfl⟩
theorem d15_22 : mj_At 15 22 (.aload_n 0) 23 [0] (.null) := ⟨1, (congrArg (fun z => mj_at z 22) f15).trans rfl, rfl⟩
theorem d15_23 : mj_At 15 23 (.iload_n 3) 24 [3] (.null) := ⟨1, (congrArg (fun z => mj_at z 23) f15).trans rfl, rfl⟩
theorem d15_24 : mj_At 15 24 (.invokevirtual 261) 27 [1, 9, 2, 3, 160, 162, 1, 18] (.null) := ⟨3, (congrArg (fun z => mj_at z 24) f15).trans rfl, rfl⟩
theorem d15_27 : mj_At 15 27 (.iload_n 1) 28 [1] (.null) := ⟨1, (congrArg (fun z => mj_at z 27) f15).trans rfl, rfl⟩
theorem d15_28 : mj_At 15 28 (.if_icmp .le (12)) 31 [40] (.null) := ⟨3, (congrArg (fun z => mj_at z 28) f15).trans rfl, rfl⟩
theorem d15_31 : mj_At 15 31 (.aload_n 0) 32 [0] (.null) := ⟨1, (congrArg (fun z => mj_at z 31) f15).trans rfl, rfl⟩
theorem d15_32 : mj_At 15 32 (.iload_n 3) 33 [3] (.null) := ⟨1, (congrArg (fun z => mj_at z 32) f15).trans rfl, rfl⟩
theorem d15_33 : mj_At 15 33 (.iload_n 1) 34 [1] (.null) := ⟨1, (congrArg (fun z => mj_at z 33) f15).trans rfl, rfl⟩
theorem d15_34 : mj_At 15 34 (.invokevirtual 152) 37 [1, 13, 3, 3, 172, 174, 2, 18] (.null) := ⟨3, (congrArg (fun z => mj_at z 34) f15).trans rfl, rfl⟩
theorem d15_37 : mj_At 15 37 (.goto (8)) 40 [45] (.null) := ⟨3, (congrArg (fun z => mj_at z 37) f15).trans rfl, rfl⟩
theorem d15_40 : mj_At 15 40 (.aload_n 0) 41 [0] (.null) := ⟨1, (congrArg (fun z => mj_at z 40) f15).trans rfl, rfl⟩
theorem d15_41 : mj_At 15 41 (.iload_n 3) 42 [3] (.null) := ⟨1, (congrArg (fun z => mj_at z 41) f15).trans rfl, rfl⟩
theorem d15_42 : mj_At 15 42 (.invokevirtual 83) 45 [1, 14, 2, 3, 186, 188, 4, 18] (.null) := ⟨3, (congrArg (fun z => mj_at z 42) f15).trans rfl, rfl⟩
theorem d15_45 : mj_At 15 45 (.iadd) 46 [] (.null) := ⟨1, (congrArg (fun z => mj_at z 45) f15).trans rfl, rfl⟩
theorem d15_46 : mj_At 15 46 (.istore_n 2) 47 [2] (.null) := ⟨1, (congrArg (fun z => mj_at z 46) f15).trans rfl, rfl⟩
theorem d15_47 : mj_At 15 47 (.iinc 3 (1)) 50 [3] (.int 1) := ⟨3, (congrArg (fun z => mj_at z 47) f15).trans rfl, rfl⟩
theorem d15_50 : mj_At 15 50 (.goto (-46)) 53 [4] (.null) := ⟨3, (congrArg (fun z => mj_at z 50) f15).trans rfl, rfl⟩
theorem d15_53 : mj_At 15 53 (.iload_n 2) 54 [2] (.null) := ⟨1, (congrArg (fun z => mj_at z 53) f15).trans rfl, rfl⟩
theorem d15_54 : mj_At 15 54 (.ireturn) 55 [0] (.null) := ⟨1, (congrArg (fun z => mj_at z 54) f15).trans rfl, rfl⟩
theorem e15_0 {c : mj_C} {x1 : Int32} {L : Nat} {ps : List (Option (Option Nat))} {rest : List mj_K}   : mj_EV 15 0 [some (.ref 2), some (.int x1), none, none] [] (w_sh L ps rest) c = mj_EV 15 4 [some (.ref 2), some (.int x1), some (.int (nI 0)), some (.int (nI 0))] [] (w_sh L ps rest) c := (mj_iconst d15_0 (mj_istore_n [some (.ref 2), some (.int x1), some (.int (nI 0)), none] d15_1 rfl rfl (mj_iconst d15_2 (mj_istore_n [some (.ref 2), some (.int x1), some (.int (nI 0)), some (.int (nI 0))] d15_3 rfl rfl rfl))))
theorem e15_4 {c : mj_C} {x1 : Int32} {x2 : Int32} {x3 : Int32} {L : Nat} {ps : List (Option (Option Nat))} {rest : List mj_K}   : mj_EV 15 4 [some (.ref 2), some (.int x1), some (.int x2), some (.int x3)] [] (w_sh L ps rest) c = (if (nI 10) ≤ x3 then (some (some (.int x2), (w_sh L ps rest), c)) else (mj_then 15 18 [some (.ref 2), some (.int x1), some (.int x2), some (.int x3)] [] (mj_EV 6 0 [some (.ref 3), some (.int x3)] [] (w_sh L ps rest) c))) := (mj_iload_n d15_4 rfl (mj_bipush d15_5 (mj_icge d15_7 (mj_iload_n d15_53 rfl (mj_iret d15_54)) (mj_aload_n d15_10 rfl (mj_getR d15_11 w_2 rfl (mj_iload_n d15_14 rfl (mj_invV [some (.ref 3), some (.int x3)] [] d15_15 rfl rfl rfl w_3 rfl rfl)))))))
theorem e15_18 {c : mj_C} {x1 : Int32} {x2 : Int32} {x3 : Int32} {z0 : Int32} {L : Nat} {ps : List (Option (Option Nat))} {rest : List mj_K}   : mj_EV 15 18 [some (.ref 2), some (.int x1), some (.int x2), some (.int x3)] [.int z0] (w_sh L ps rest) c = (if z0 = nI 0 then mj_EV 15 4 [some (.ref 2), some (.int x1), some (.int x2), some (.int (x3 + (nI 1)))] [] (w_sh L ps rest) c else (mj_then 15 27 [some (.ref 2), some (.int x1), some (.int x2), some (.int x3)] [.int x2] (mj_EV 9 0 [some (.ref 2), some (.int x3)] [] (w_sh L ps rest) c))) := (mj_ifeq d15_18 (mj_iinc [some (.ref 2), some (.int x1), some (.int x2), some (.int (x3 + (nI 1)))] d15_47 rfl rfl rfl (mj_goto d15_50 rfl)) (mj_iload_n d15_21 rfl (mj_aload_n d15_22 rfl (mj_iload_n d15_23 rfl (mj_invV [some (.ref 2), some (.int x3)] [.int x2] d15_24 rfl rfl rfl w_2 rfl rfl)))))
theorem e15_27 {c : mj_C} {x1 : Int32} {x2 : Int32} {x3 : Int32} {z0 : Int32} {z1 : Int32} {L : Nat} {ps : List (Option (Option Nat))} {rest : List mj_K}   : mj_EV 15 27 [some (.ref 2), some (.int x1), some (.int x2), some (.int x3)] [.int z1, .int z0] (w_sh L ps rest) c = (if z1 ≤ x1 then (mj_then 15 45 [some (.ref 2), some (.int x1), some (.int x2), some (.int x3)] [.int z0] (mj_EV 14 0 [some (.ref 2), some (.int x3)] [] (w_sh L ps rest) c)) else (mj_then 15 37 [some (.ref 2), some (.int x1), some (.int x2), some (.int x3)] [.int z0] (mj_EV 13 0 [some (.ref 2), some (.int x3), some (.int x1), none] [] (w_sh L ps rest) c))) := (mj_iload_n d15_27 rfl (mj_icle d15_28 (mj_aload_n d15_40 rfl (mj_iload_n d15_41 rfl (mj_invV [some (.ref 2), some (.int x3)] [.int z0] d15_42 rfl rfl rfl w_2 rfl rfl))) (mj_aload_n d15_31 rfl (mj_iload_n d15_32 rfl (mj_iload_n d15_33 rfl (mj_invV [some (.ref 2), some (.int x3), some (.int x1), none] [.int z0] d15_34 rfl rfl rfl w_2 rfl rfl))))))
theorem e15_37 {c : mj_C} {x1 : Int32} {x2 : Int32} {x3 : Int32} {z0 : Int32} {z1 : Int32} {L : Nat} {ps : List (Option (Option Nat))} {rest : List mj_K}   : mj_EV 15 37 [some (.ref 2), some (.int x1), some (.int x2), some (.int x3)] [.int z1, .int z0] (w_sh L ps rest) c = mj_EV 15 45 [some (.ref 2), some (.int x1), some (.int x2), some (.int x3)] [.int z1, .int z0] (w_sh L ps rest) c := (mj_goto d15_37 rfl)
theorem e15_45 {c : mj_C} {x1 : Int32} {x2 : Int32} {x3 : Int32} {z0 : Int32} {z1 : Int32} {L : Nat} {ps : List (Option (Option Nat))} {rest : List mj_K}   : mj_EV 15 45 [some (.ref 2), some (.int x1), some (.int x2), some (.int x3)] [.int z1, .int z0] (w_sh L ps rest) c = mj_EV 15 4 [some (.ref 2), some (.int x1), some (.int (z0 + z1)), some (.int (x3 + (nI 1)))] [] (w_sh L ps rest) c := (mj_iadd d15_45 (mj_istore_n [some (.ref 2), some (.int x1), some (.int (z0 + z1)), some (.int x3)] d15_46 rfl rfl (mj_iinc [some (.ref 2), some (.int x1), some (.int (z0 + z1)), some (.int (x3 + (nI 1)))] d15_47 rfl rfl rfl (mj_goto d15_50 rfl))))
/-- SqueezedLines.sumOfSizes()I -/
theorem f16 : mj_cd 16 = mj_c16 := rfl
theorem d16_0 : mj_At 16 0 (.iconst (0)) 1 [] (.int 0) := ⟨1, (congrArg (fun z => mj_at z 0) f16).trans rfl, rfl⟩
theorem d16_1 : mj_At 16 1 (.istore_n 1) 2 [1] (.null) := ⟨1, (congrArg (fun z => mj_at z 1) f16).trans rfl, rfl⟩
theorem d16_2 : mj_At 16 2 (.iconst (0)) 3 [] (.int 0) := ⟨1, (congrArg (fun z => mj_at z 2) f16).trans rfl, rfl⟩
theorem d16_3 : mj_At 16 3 (.istore_n 2) 4 [2] (.null) := ⟨1, (congrArg (fun z => mj_at z 3) f16).trans rfl, rfl⟩
theorem d16_4 : mj_At 16 4 (.iload_n 2) 5 [2] (.null) := ⟨1, (congrArg (fun z => mj_at z 4) f16).trans rfl, rfl⟩
theorem d16_5 : mj_At 16 5 (.bipush (10)) 7 [] (.int 10) := ⟨2, (congrArg (fun z => mj_at z 5) f16).trans rfl, rfl⟩
theorem d16_7 : mj_At 16 7 (.if_icmp .ge (28)) 10 [35] (.null) := ⟨3, (congrArg (fun z => mj_at z 7) f16).trans rfl, rfl⟩
theorem d16_10 : mj_At 16 10 (.aload_n 0) 11 [0] (.null) := ⟨1, (congrArg (fun z => mj_at z 10) f16).trans rfl, rfl⟩
theorem d16_11 : mj_At 16 11 (.getfield 12) 14 [3, 0, 122] (.null) := ⟨3, (congrArg (fun z => mj_at z 11) f16).trans rfl, rfl⟩
theorem d16_14 : mj_At 16 14 (.iload_n 2) 15 [2] (.null) := ⟨1, (congrArg (fun z => mj_at z 14) f16).trans rfl, rfl⟩
theorem d16_15 : mj_At 16 15 (.invokevirtual 63) 18 [1, 6, 2, 2, 156, 157, 158, 19] (.null) := ⟨3, (congrArg (fun z => mj_at z 15) f16).trans rfl, rfl⟩
theorem d16_18 : mj_At 16 18 (.ifCond .eq (11)) 21 [29] (.null) := ⟨3, (congrArg (fun z => mj_at z 18) f16).trans rfl, rfl⟩
theorem d16_21 : mj_At 16 21 (.iload_n 1) 22 [1] (.null) := ⟨1, (congrArg (fun z => mj_at z 21) f16).trans rfl, rfl⟩
theorem d16_22 : mj_At 16 22 (.aload_n 0) 23 [0] (.null) := ⟨1, (congrArg (fun z => mj_at z 22) f16).trans rfl, rfl⟩
theorem d16_23 : mj_At 16 23 (.iload_n 2) 24 [2] (.null) := ⟨1, (congrArg (fun z => mj_at z 23) f16).trans rfl, rfl⟩
theorem d16_24 : mj_At 16 24 (.invokevirtual 83) 27 [1, 14, 2, 3, 186, 188, 4, 18] (.null) := ⟨3, (congrArg (fun z => mj_at z 24) f16).trans rfl, rfl⟩
theorem d16_27 : mj_At 16 27 (.iadd) 28 [] (.null) := ⟨1, (congrArg (fun z => mj_at z 27) f16).trans rfl, rfl⟩
theorem d16_28 : mj_At 16 28 (.istore_n 1) 29 [1] (.null) := ⟨1, (congrArg (fun z => mj_at z 28) f16).trans rfl, rfl⟩
theorem d16_29 : mj_At 16 29 (.iinc 2 (1)) 32 [2] (.int 1) := ⟨3, (congrArg (fun z => mj_at z 29) f16).trans rfl, rfl⟩
theorem d16_32 : mj_At 16 32 (.goto (-28)) 35 [4] (.null) := ⟨3, (congrArg (fun z => mj_at z 32) f16).trans rfl, rfl⟩
theorem d16_35 : mj_At 16 35 (.iload_n 1) 36 [1] (.null) := ⟨1, (congrArg (fun z => mj_at z 35) f16).trans rfl, rfl⟩
theorem d16_36 : mj_At 16 36 (.ireturn) 37 [0] (.null) := ⟨1, (congrArg (fun z => mj_at z 36) f16).trans rfl, rfl⟩
theorem e16_0 {c : mj_C}  {L : Nat} {ps : List (Option (Option Nat))} {rest : List mj_K}   : mj_EV 16 0 [some (.ref 2), none, none] [] (w_sh L ps rest) c = mj_EV 16 4 [some (.ref 2), some (.int (nI 0)), some (.int (nI 0))] [] (w_sh L ps rest) c := (mj_iconst d16_0 (mj_istore_n [some (.ref 2), some (.int (nI 0)), none] d16_1 rfl rfl (mj_iconst d16_2 (mj_istore_n [some (.ref 2), some (.int (nI 0)), some (.int (nI 0))] d16_3 rfl rfl rfl))))
theorem e16_4 {c : mj_C} {x1 : Int32} {x2 : Int32} {L : Nat} {ps : List (Option (Option Nat))} {rest : List mj_K}   : mj_EV 16 4 [some (.ref 2), some (.int x1), some (.int x2)] [] (w_sh L ps rest) c = (if (nI 10) ≤ x2 then (some (some (.int x1), (w_sh L ps rest), c)) else (mj_then 16 18 [some (.ref 2), some (.int x1), some (.int x2)] [] (mj_EV 6 0 [some (.ref 3), some (.int x2)] [] (w_sh L ps rest) c))) := (mj_iload_n d16_4 rfl (mj_bipush d16_5 (mj_icge d16_7 (mj_iload_n d16_35 rfl (mj_iret d16_36)) (mj_aload_n d16_10 rfl (mj_getR d16_11 w_2 rfl (mj_iload_n d16_14 rfl (mj_invV [some (.ref 3), some (.int x2)] [] d16_15 rfl rfl rfl w_3 rfl rfl)))))))
theorem e16_18 {c : mj_C} {x1 : Int32} {x2 : Int32} {z0 : Int32} {L : Nat} {ps : List (Option (Option Nat))} {rest : List mj_K}   : mj_EV 16 18 [some (.ref 2), some (.int x1), some (.int x2)] [.int z0] (w_sh L ps rest) c = (if z0 = nI 0 then mj_EV 16 4 [some (.ref 2), some (.int x1), some (.int (x2 + (nI 1)))] [] (w_sh L ps rest) c else (mj_then 16 27 [some (.ref 2), some (.int x1), some (.int x2)] [.int x1] (mj_EV 14 0 [some (.ref 2), some (.int x2)] [] (w_sh L ps rest) c))) := (mj_ifeq d16_18 (mj_iinc [some (.ref 2), some (.int x1), some (.int (x2 + (nI 1)))] d16_29 rfl rfl rfl (mj_goto d16_32 rfl)) (mj_iload_n d16_21 rfl (mj_aload_n d16_22 rfl (mj_iload_n d16_23 rfl (mj_invV [some (.ref 2), some (.int x2)] [.int x1] d16_24 rfl rfl rfl w_2 rfl rfl)))))
theorem e16_27 {c : mj_C} {x1 : Int32} {x2 : Int32} {z0 : Int32} {z1 : Int32} {L : Nat} {ps : List (Option (Option Nat))} {rest : List mj_K}   : mj_EV 16 27 [some (.ref 2), some (.int x1), some (.int x2)] [.int z1, .int z0] (w_sh L ps rest) c = mj_EV 16 4 [some (.ref 2), some (.int (z0 + z1)), some (.int (x2 + (nI 1)))] [] (w_sh L ps rest) c := (mj_iadd d16_27 (mj_istore_n [some (.ref 2), some (.int (z0 + z1)), some (.int x2)] d16_28 rfl rfl (mj_iinc [some (.ref 2), some (.int (z0 + z1)), some (.int (x2 + (nI 1)))] d16_29 rfl rfl rfl (mj_goto d16_32 rfl))))
/-- SqueezedLines.exceedsBound(I)Z -/
theorem f17 : mj_cd 17 = mj_c17 := rfl
theorem d17_0 : mj_At 17 0 (.iload_n 1) 1 [1] (.null) := ⟨1, (congrArg (fun z => mj_at z 0) f17).trans rfl, rfl⟩
theorem d17_1 : mj_At 17 1 (.aload_n 0) 2 [0] (.null) := ⟨1, (congrArg (fun z => mj_at z 1) f17).trans rfl, rfl⟩
theorem d17_2 : mj_At 17 2 (.getfield 12) 5 [3, 0, 122] (.null) := ⟨3, (congrArg (fun z => mj_at z 2) f17).trans rfl, rfl⟩
theorem d17_5 : mj_At 17 5 (.getfield 70) 8 [2, 1, 45] (.null) := ⟨3, (congrArg (fun z => mj_at z 5) f17).trans rfl, rfl⟩
theorem d17_8 : mj_At 17 8 (.if_icmp .le (15)) 11 [23] (.null) := ⟨3, (congrArg (fun z => mj_at z 8) f17).trans rfl, rfl⟩
theorem d17_11 : mj_At 17 11 (.iload_n 1) 12 [1] (.null) := ⟨1, (congrArg (fun z => mj_at z 11) f17).trans rfl, rfl⟩
theorem d17_12 : mj_At 17 12 (.aload_n 0) 13 [0] (.null) := ⟨1, (congrArg (fun z => mj_at z 12) f17).trans rfl, rfl⟩
theorem d17_13 : mj_At 17 13 (.invokevirtual 77) 16 [1, 16, 1, 3, 194, 196, 6, 18] (.null) := ⟨3, (congrArg (fun z => mj_at z 13) f17).trans rfl, rfl⟩
theorem d17_16 : mj_At 17 16 (.if_icmp .le (7)) 19 [23] (.null) := ⟨3, (congrArg (fun z => mj_at z 16) f17).trans rfl, rfl⟩
theorem d17_19 : mj_At 17 19 (.iconst (1)) 20 [] (.int 1) := ⟨1, (congrArg (fun z => mj_at z 19) f17).trans rfl, rfl⟩
theorem d17_20 : mj_At 17 20 (.goto (4)) 23 [24] (.null) := ⟨3, (congrArg (fun z => mj_at z 20) f17).trans rfl, rfl⟩
theorem d17_23 : mj_At 17 23 (.iconst (0)) 24 [] (.int 0) := ⟨1, (congrArg (fun z => mj_at z 23) f17).trans rfl, rfl⟩
theorem d17_24 : mj_At 17 24 (.ireturn) 25 [1] (.null) := ⟨1, (congrArg (fun z => mj_at z 24) f17).trans rfl, rfl⟩
theorem e17_0 {c : mj_C} {x1 : Int32} {L : Nat} {ps : List (Option (Option Nat))} {rest : List mj_K}   : mj_EV 17 0 [some (.ref 2), some (.int x1)] [] (w_sh L ps rest) c = (if x1 ≤ (c 3 1) then (some (some (.int (nI 0)), (w_sh L ps rest), c)) else (mj_then 17 16 [some (.ref 2), some (.int x1)] [.int x1] (mj_EV 16 0 [some (.ref 2), none, none] [] (w_sh L ps rest) c))) := (mj_iload_n d17_0 rfl (mj_aload_n d17_1 rfl (mj_getR d17_2 w_2 rfl (mj_getI d17_5 w_3 rfl (mj_icle d17_8 (mj_iconst d17_23 (mj_zret0 d17_24)) (mj_iload_n d17_11 rfl (mj_aload_n d17_12 rfl (mj_invV [some (.ref 2), none, none] [.int x1] d17_13 rfl rfl rfl w_2 rfl rfl))))))))
theorem e17_16 {c : mj_C} {x1 : Int32} {z0 : Int32} {z1 : Int32} {L : Nat} {ps : List (Option (Option Nat))} {rest : List mj_K}   : mj_EV 17 16 [some (.ref 2), some (.int x1)] [.int z1, .int z0] (w_sh L ps rest) c = (if z0 ≤ z1 then (some (some (.int (nI 0)), (w_sh L ps rest), c)) else (some (some (.int (nI 1)), (w_sh L ps rest), c))) := (mj_icle d17_16 (mj_iconst d17_23 (mj_zret0 d17_24)) (mj_iconst d17_19 (mj_goto d17_20 (mj_zret1 d17_24))))
/-- SqueezedLines$SavedStates.discardOldest()V -/
theorem f18 : mj_cd 18 = mj_c18 := rfl
theorem d18_0 : mj_At 18 0 (.aload_n 0) 1 [0] (.null) := ⟨1, (congrArg (fun z => mj_at z 0) f18).trans rfl, rfl⟩
theorem d18_1 : mj_At 18 1 (.getfield 11) 4 [1, 0, 93] (.null) := ⟨3, (congrArg (fun z => mj_at z 1) f18).trans rfl, rfl⟩
theorem d18_4 : mj_At 18 4 (.iconst (0)) 5 [] (.int 0) := ⟨1, (congrArg (fun z => mj_at z 4) f18).trans rfl, rfl⟩
theorem d18_5 : mj_At 18 5 (.aaload) 6 [] (.null) := ⟨1, (congrArg (fun z => mj_at z 5) f18).trans rfl, rfl⟩
theorem d18_6 : mj_At 18 6 (.astore_n 1) 7 [1] (.null) := ⟨1, (congrArg (fun z => mj_at z 6) f18).trans rfl, rfl⟩
theorem d18_7 : mj_At 18 7 (.iconst (1)) 8 [] (.int 1) := ⟨1, (congrArg (fun z => mj_at z 7) f18).trans rfl, rfl⟩
theorem d18_8 : mj_At 18 8 (.istore_n 2) 9 [2] (.null) := ⟨1, (congrArg (fun z => mj_at z 8) f18).trans rfl, rfl⟩
theorem d18_9 : mj_At 18 9 (.iload_n 2) 10 [2] (.null) := ⟨1, (congrArg (fun z => mj_at z 9) f18).trans rfl, rfl⟩
theorem d18_10 : mj_At 18 10 (.bipush (6)) 12 [] (.int 6) := ⟨2, (congrArg (fun z => mj_at z 10) f18).trans rfl, rfl⟩
theorem d18_12 : mj_At 18 12 (.if_icmp .ge (23)) 15 [35] (.null) := ⟨3, (congrArg (fun z => mj_at z 12) f18).trans rfl, rfl⟩
theorem d18_15 : mj_At 18 15 (.aload_n 0) 16 [0] (.null) := ⟨1, (congrArg (fun z => mj_at z 15) f18).trans rfl, rfl⟩
theorem d18_16 : mj_At 18 16 (.getfield 11) 19 [1, 0, 93] (.null) := ⟨3, (congrArg (fun z => mj_at z 16) f18).trans rfl, rfl⟩
theorem d18_19 : mj_At 18 19 (.iload_n 2) 20 [2] (.null) := ⟨1, (congrArg (fun z => mj_at z 19) f18).trans rfl, rfl⟩
theorem d18_20 : mj_At 18 20 (.iconst (1)) 21 [] (.int 1) := ⟨1, (congrArg (fun z => mj_at z 20) f18).trans rfl, rfl⟩
theorem d18_21 : mj_At 18 21 (.isub) 22 [] (.null) := ⟨1, (congrArg (fun z => mj_at z 21) f18).trans rfl, rfl⟩
theorem d18_22 : mj_At 18 22 (.aload_n 0) 23 [0] (.null) := ⟨1, (congrArg (fun z => mj_at z 22) f18).trans rfl, rfl⟩
theorem d18_23 : mj_At 18 23 (.getfield 11) 26 [1, 0, 93] (.null) := ⟨3, (congrArg (fun z => mj_at z 23) f18).trans rfl, rfl⟩
theorem d18_26 : mj_At 18 26 (.iload_n 2) 27 [2] (.null) := ⟨1, (congrArg (fun z => mj_at z 26) f18).trans rfl, rfl⟩
theorem d18_27 : mj_At 18 27 (.aaload) 28 [] (.null) := ⟨1, (congrArg (fun z => mj_at z 27) f18).trans rfl, rfl⟩
theorem d18_28 : mj_At 18 28 (.aastore) 29 [2] (.null) := ⟨1, (congrArg (fun z => mj_at z 28) f18).trans rfl, rfl⟩
theorem d18_29 : mj_At 18 29 (.iinc 2 (1)) 32 [2] (.int 1) := ⟨3, (congrArg (fun z => mj_at z 29) f18).trans rfl, rfl⟩
theorem d18_32 : mj_At 18 32 (.goto (-23)) 35 [9] (.null) := ⟨3, (congrArg (fun z => mj_at z 32) f18).trans rfl, rfl⟩
theorem d18_35 : mj_At 18 35 (.aload_n 0) 36 [0] (.null) := ⟨1, (congrArg (fun z => mj_at z 35) f18).trans rfl, rfl⟩
theorem d18_36 : mj_At 18 36 (.getfield 11) 39 [1, 0, 93] (.null) := ⟨3, (congrArg (fun z => mj_at z 36) f18).trans rfl, rfl⟩
theorem d18_39 : mj_At 18 39 (.iconst (5)) 40 [] (.int 5) := ⟨1, (congrArg (fun z => mj_at z 39) f18).trans rfl, rfl⟩
theorem d18_40 : mj_At 18 40 (.aload_n 1) 41 [1] (.null) := ⟨1, (congrArg (fun z => mj_at z 40) f18).trans rfl, rfl⟩
theorem d18_41 : mj_At 18 41 (.aastore) 42 [2] (.null) := ⟨1, (congrArg (fun z => mj_at z 41) f18).trans rfl, rfl⟩
theorem d18_42 : mj_At 18 42 (.aload_n 0) 43 [0] (.null) := ⟨1, (congrArg (fun z => mj_at z 42) f18).trans rfl, rfl⟩
theorem d18_43 : mj_At 18 43 (.iconst (5)) 44 [] (.int 5) := ⟨1, (congrArg (fun z => mj_at z 43) f18).trans rfl, rfl⟩
theorem d18_44 : mj_At 18 44 (.putfield 17) 47 [1, 1, 0, 94] (.null) := ⟨3, (congrArg (fun z => mj_at z 44) f18).trans rfl, rfl⟩
theorem d18_47 : mj_At 18 47 (.return_) 48 [] (.null) := ⟨1, (congrArg (fun z => mj_at z 47) f18).trans rfl, rfl⟩
theorem e18_0 {c : mj_C}  {L : Nat} {ps : List (Option (Option Nat))} {rest : List mj_K}  {b5 : Nat} (gi5 : mj_in (nI 0) 6 = true) (gb5 : (ps)[(nI 0).toNatClampNeg]? = some (some (some b5))) : mj_EV 18 0 [some (.ref 9), none, none] [] (w_sh L ps rest) c = mj_EV 18 9 [some (.ref 9), some (.ref b5), some (.int (nI 1))] [] (w_sh L ps rest) c := (mj_aload_n d18_0 rfl (mj_getR d18_1 w_9 rfl (mj_iconst d18_4 (mj_aald d18_5 w_10 gi5 gb5 (mj_astore_n [some (.ref 9), some (.ref b5), none] d18_6 rfl rfl (mj_iconst d18_7 (mj_istore_n [some (.ref 9), some (.ref b5), some (.int (nI 1))] d18_8 rfl rfl rfl)))))))
theorem e18_9 {c : mj_C} {b5 : Nat} {x2 : Int32} {L : Nat} {ps : List (Option (Option Nat))} {rest : List mj_K}   : mj_EV 18 9 [some (.ref 9), some (.ref b5), some (.int x2)] [] (w_sh L ps rest) c = (if (nI 6) ≤ x2 then mj_EV 18 35 [some (.ref 9), some (.ref b5), some (.int x2)] [] (w_sh L ps rest) c else mj_EV 18 15 [some (.ref 9), some (.ref b5), some (.int x2)] [] (w_sh L ps rest) c) := (mj_iload_n d18_9 rfl (mj_bipush d18_10 (mj_icge d18_12 rfl rfl)))
theorem e18_15 {c : mj_C} {b5 : Nat} {x2 : Int32} {L : Nat} {ps : List (Option (Option Nat))} {rest : List mj_K}   {b27 : Nat} (gi27 : mj_in x2 6 = true) (gb27 : (ps)[x2.toNatClampNeg]? = some (some (some b27))) (gj28 : mj_in (x2 - (nI 1)) 6 = true) (gl28 : Nat.blt (x2 - (nI 1)).toNatClampNeg (ps).length = true) {fb28 : List (Option (Option Nat))} {nb28 : Nat} (gv28 : (w_sh L ps rest)[b27]? = some (5, nb28, fb28)) : mj_EV 18 15 [some (.ref 9), some (.ref b5), some (.int x2)] [] (w_sh L ps rest) c = mj_EV 18 9 [some (.ref 9), some (.ref b5), some (.int (x2 + (nI 1)))] [] (w_sh L ((ps).set (x2 - (nI 1)).toNatClampNeg (some (some b27))) rest) c := (mj_aload_n d18_15 rfl (mj_getR d18_16 w_9 rfl (mj_iload_n d18_19 rfl (mj_iconst d18_20 (mj_isub d18_21 (mj_aload_n d18_22 rfl (mj_getR d18_23 w_9 rfl (mj_iload_n d18_26 rfl (mj_aald d18_27 w_10 gi27 gb27 (mj_aast (w_sh L ((ps).set (x2 - (nI 1)).toNatClampNeg (some (some b27))) rest) d18_28 w_10 gv28 gj28 gl28 rfl (mj_iinc [some (.ref 9), some (.ref b5), some (.int (x2 + (nI 1)))] d18_29 rfl rfl rfl (mj_goto d18_32 rfl))))))))))))
theorem e18_35 {c : mj_C} {b5 : Nat} {x2 : Int32} {L : Nat} {ps : List (Option (Option Nat))} {rest : List mj_K}  (gj41 : mj_in (nI 5) 6 = true) (gl41 : Nat.blt (nI 5).toNatClampNeg (ps).length = true) {fb41 : List (Option (Option Nat))} {nb41 : Nat} (gv41 : (w_sh L ps rest)[b5]? = some (5, nb41, fb41)) : mj_EV 18 35 [some (.ref 9), some (.ref b5), some (.int x2)] [] (w_sh L ps rest) c = (some (none, (w_sh L ((ps).set (nI 5).toNatClampNeg (some (some b5))) rest), (mj_u c 9 1 (nI 5)))) := (mj_aload_n d18_35 rfl (mj_getR d18_36 w_9 rfl (mj_iconst d18_39 (mj_aload_n d18_40 rfl (mj_aast (w_sh L ((ps).set (nI 5).toNatClampNeg (some (some b5))) rest) d18_41 w_10 gv41 gj41 gl41 rfl (mj_aload_n d18_42 rfl (mj_iconst d18_43 (mj_putI d18_44 w_9 rfl (mj_vret d18_47)))))))))
/-- SqueezedLines$State.becomeLike(LSqueezedLines$State;)V -/
theorem f19 : mj_cd 19 = mj_c19 := rfl
theorem d19_0 : mj_At 19 0 (.aload_n 0) 1 [0] (.null) := ⟨1, (congrArg (fun z => mj_at z 0) f19).trans rfl, rfl⟩
theorem d19_1 : mj_At 19 1 (.aload_n 1) 2 [1] (.null) := ⟨1, (congrArg (fun z => mj_at z 1) f19).trans rfl, rfl⟩
theorem d19_2 : mj_At 19 2 (.getfield 9) 5 [2, 0, 42] (.null) := ⟨3, (congrArg (fun z => mj_at z 2) f19).trans rfl, rfl⟩
theorem d19_5 : mj_At 19 5 (.putfield 9) 8 [2, 0, 0, 42] (.null) := ⟨3, (congrArg (fun z => mj_at z 5) f19).trans rfl, rfl⟩
theorem d19_8 : mj_At 19 8 (.aload_n 0) 9 [0] (.null) := ⟨1, (congrArg (fun z => mj_at z 8) f19).trans rfl, rfl⟩
theorem d19_9 : mj_At 19 9 (.aload_n 1) 10 [1] (.null) := ⟨1, (congrArg (fun z => mj_at z 9) f19).trans rfl, rfl⟩
theorem d19_10 : mj_At 19 10 (.getfield 15) 13 [2, 1, 44] (.null) := ⟨3, (congrArg (fun z => mj_at z 10) f19).trans rfl, rfl⟩
theorem d19_13 : mj_At 19 13 (.putfield 15) 16 [2, 1, 0, 44] (.null) := ⟨3, (congrArg (fun z => mj_at z 13) f19).trans rfl, rfl⟩
theorem d19_16 : mj_At 19 16 (.aload_n 0) 17 [0] (.null) := ⟨1, (congrArg (fun z => mj_at z 16) f19).trans rfl, rfl⟩
theorem d19_17 : mj_At 19 17 (.aload_n 1) 18 [1] (.null) := ⟨1, (congrArg (fun z => mj_at z 17) f19).trans rfl, rfl⟩
theorem d19_18 : mj_At 19 18 (.getfield 18) 21 [2, 2, 46] (.null) := ⟨3, (congrArg (fun z => mj_at z 18) f19).trans rfl, rfl⟩
theorem d19_21 : mj_At 19 21 (.putfield 18) 24 [2, 2, 0, 46] (.null) := ⟨3, (congrArg (fun z => mj_at z 21) f19).trans rfl, rfl⟩
theorem d19_24 : mj_At 19 24 (.aload_n 0) 25 [0] (.null) := ⟨1, (congrArg (fun z => mj_at z 24) f19).trans rfl, rfl⟩
theorem d19_25 : mj_At 19 25 (.aload_n 1) 26 [1] (.null) := ⟨1, (congrArg (fun z => mj_at z 25) f19).trans rfl, rfl⟩
theorem d19_26 : mj_At 19 26 (.getfield 21) 29 [2, 3, 48] (.null) := ⟨3, (congrArg (fun z => mj_at z 26) f19).trans rfl, rfl⟩
theorem d19_29 : mj_At 19 29 (.putfield 21) 32 [2, 3, 0, 48] (.null) := ⟨3, (congrArg (fun z => mj_at z 29) f19).trans rfl, rfl⟩
theorem d19_32 : mj_At 19 32 (.aload_n 0) 33 [0] (.null) := ⟨1, (congrArg (fun z => mj_at z 32) f19).trans rfl, rfl⟩
theorem d19_33 : mj_At 19 33 (.aload_n 1) 34 [1] (.null) := ⟨1, (congrArg (fun z => mj_at z 33) f19).trans rfl, rfl⟩
theorem d19_34 : mj_At 19 34 (.getfield 24) 37 [2, 4, 50] (.null) := ⟨3, (congrArg (fun z => mj_at z 34) f19).trans rfl, rfl⟩
theorem d19_37 : mj_At 19 37 (.putfield 24) 40 [2, 4, 0, 50] (.null) := ⟨3, (congrArg (fun z => mj_at z 37) f19).trans rfl, rfl⟩
theorem d19_40 : mj_At 19 40 (.aload_n 1) 41 [1] (.null) := ⟨1, (congrArg (fun z => mj_at z 40) f19).trans rfl, rfl⟩
theorem d19_41 : mj_At 19 41 (.getfield 27) 44 [2, 5, 52] (.null) := ⟨3, (congrArg (fun z => mj_at z 41) f19).trans rfl, rfl⟩
theorem d19_44 : mj_At 19 44 (.iconst (0)) 45 [] (.int 0) := ⟨1, (congrArg (fun z => mj_at z 44) f19).trans rfl, rfl⟩
theorem d19_45 : mj_At 19 45 (.aload_n 0) 46 [0] (.null) := ⟨1, (congrArg (fun z => mj_at z 45) f19).trans rfl, rfl⟩
theorem d19_46 : mj_At 19 46 (.getfield 27) 49 [2, 5, 52] (.null) := ⟨3, (congrArg (fun z => mj_at z 46) f19).trans rfl, rfl⟩
theorem d19_49 : mj_At 19 49 (.iconst (0)) 50 [] (.int 0) := ⟨1, (congrArg (fun z => mj_at z 49) f19).trans rfl, rfl⟩
theorem d19_50 : mj_At 19 50 (.sipush (640)) 53 [] (.int 640) := ⟨3, (congrArg (fun z => mj_at z 50) f19).trans rfl, rfl⟩
theorem d19_53 : mj_At 19 53 (.invokestatic 49) 56 [6, 210, 212, 211, 23] (.null) := ⟨3, (congrArg (fun z => mj_at z 53) f19).trans rfl, rfl⟩
theorem d19_56 : mj_At 19 56 (.aload_n 1) 57 [1] (.null) := ⟨1, (congrArg (fun z => mj_at z 56) f19).trans rfl, rfl⟩
theorem d19_57 : mj_At 19 57 (.getfield 31) 60 [2, 6, 54] (.null) := ⟨3, (congrArg (fun z => mj_at z 57) f19).trans rfl, rfl⟩
theorem d19_60 : mj_At 19 60 (.iconst (0)) 61 [] (.int 0) := ⟨1, (congrArg (fun z => mj_at z 60) f19).trans rfl, rfl⟩
theorem d19_61 : mj_At 19 61 (.aload_n 0) 62 [0] (.null) := ⟨1, (congrArg (fun z => mj_at z 61) f19).trans rfl, rfl⟩
theorem d19_62 : mj_At 19 62 (.getfield 31) 65 [2, 6, 54] (.null) := ⟨3, (congrArg (fun z => mj_at z 62) f19).trans rfl, rfl⟩
theorem d19_65 : mj_At 19 65 (.iconst (0)) 66 [] (.int 0) := ⟨1, (congrArg (fun z => mj_at z 65) f19).trans rfl, rfl⟩
theorem d19_66 : mj_At 19 66 (.bipush (80)) 68 [] (.int 80) := ⟨2, (congrArg (fun z => mj_at z 66) f19).trans rfl, rfl⟩
theorem d19_68 : mj_At 19 68 (.invokestatic 49) 71 [6, 210, 212, 211, 23] (.null) := ⟨3, (congrArg (fun z => mj_at z 68) f19).trans rfl, rfl⟩
theorem d19_71 : mj_At 19 71 (.aload_n 1) 72 [1] (.null) := ⟨1, (congrArg (fun z => mj_at z 71) f19).trans rfl, rfl⟩
theorem d19_72 : mj_At 19 72 (.getfield 34) 75 [2, 7, 56] (.null) := ⟨3, (congrArg (fun z => mj_at z 72) f19).trans rfl, rfl⟩
theorem d19_75 : mj_At 19 75 (.iconst (0)) 76 [] (.int 0) := ⟨1, (congrArg (fun z => mj_at z 75) f19).trans rfl, rfl⟩
theorem d19_76 : mj_At 19 76 (.aload_n 0) 77 [0] (.null) := ⟨1, (congrArg (fun z => mj_at z 76) f19).trans rfl, rfl⟩
theorem d19_77 : mj_At 19 77 (.getfield 34) 80 [2, 7, 56] (.null) := ⟨3, (congrArg (fun z => mj_at z 77) f19).trans rfl, rfl⟩
theorem d19_80 : mj_At 19 80 (.iconst (0)) 81 [] (.int 0) := ⟨1, (congrArg (fun z => mj_at z 80) f19).trans rfl, rfl⟩
theorem d19_81 : mj_At 19 81 (.bipush (10)) 83 [] (.int 10) := ⟨2, (congrArg (fun z => mj_at z 81) f19).trans rfl, rfl⟩
theorem d19_83 : mj_At 19 83 (.invokestatic 49) 86 [6, 210, 212, 211, 23] (.null) := ⟨3, (congrArg (fun z => mj_at z 83) f19).trans rfl, rfl⟩
theorem d19_86 : mj_At 19 86 (.aload_n 1) 87 [1] (.null) := ⟨1, (congrArg (fun z => mj_at z 86) f19).trans rfl, rfl⟩
theorem d19_87 : mj_At 19 87 (.getfield 37) 90 [2, 8, 58] (.null) := ⟨3, (congrArg (fun z => mj_at z 87) f19).trans rfl, rfl⟩
theorem d19_90 : mj_At 19 90 (.iconst (0)) 91 [] (.int 0) := ⟨1, (congrArg (fun z => mj_at z 90) f19).trans rfl, rfl⟩
theorem d19_91 : mj_At 19 91 (.aload_n 0) 92 [0] (.null) := ⟨1, (congrArg (fun z => mj_at z 91) f19).trans rfl, rfl⟩
theorem d19_92 : mj_At 19 92 (.getfield 37) 95 [2, 8, 58] (.null) := ⟨3, (congrArg (fun z => mj_at z 92) f19).trans rfl, rfl⟩
theorem d19_95 : mj_At 19 95 (.iconst (0)) 96 [] (.int 0) := ⟨1, (congrArg (fun z => mj_at z 95) f19).trans rfl, rfl⟩
theorem d19_96 : mj_At 19 96 (.iconst (4)) 97 [] (.int 4) := ⟨1, (congrArg (fun z => mj_at z 96) f19).trans rfl, rfl⟩
theorem d19_97 : mj_At 19 97 (.invokestatic 49) 100 [6, 210, 212, 211, 23] (.null) := ⟨3, (congrArg (fun z => mj_at z 97) f19).trans rfl, rfl⟩
theorem d19_100 : mj_At 19 100 (.aload_n 1) 101 [1] (.null) := ⟨1, (congrArg (fun z => mj_at z 100) f19).trans rfl, rfl⟩
theorem d19_101 : mj_At 19 101 (.getfield 40) 104 [2, 9, 60] (.null) := ⟨3, (congrArg (fun z => mj_at z 101) f19).trans rfl, rfl⟩
theorem d19_104 : mj_At 19 104 (.iconst (0)) 105 [] (.int 0) := ⟨1, (congrArg (fun z => mj_at z 104) f19).trans rfl, rfl⟩
theorem d19_105 : mj_At 19 105 (.aload_n 0) 106 [0] (.null) := ⟨1, (congrArg (fun z => mj_at z 105) f19).trans rfl, rfl⟩
theorem d19_106 : mj_At 19 106 (.getfield 40) 109 [2, 9, 60] (.null) := ⟨3, (congrArg (fun z => mj_at z 106) f19).trans rfl, rfl⟩
theorem d19_109 : mj_At 19 109 (.iconst (0)) 110 [] (.int 0) := ⟨1, (congrArg (fun z => mj_at z 109) f19).trans rfl, rfl⟩
theorem d19_110 : mj_At 19 110 (.iconst (4)) 111 [] (.int 4) := ⟨1, (congrArg (fun z => mj_at z 110) f19).trans rfl, rfl⟩
theorem d19_111 : mj_At 19 111 (.invokestatic 49) 114 [6, 210, 212, 211, 23] (.null) := ⟨3, (congrArg (fun z => mj_at z 111) f19).trans rfl, rfl⟩
theorem d19_114 : mj_At 19 114 (.return_) 115 [] (.null) := ⟨1, (congrArg (fun z => mj_at z 114) f19).trans rfl, rfl⟩
theorem e19_0 {c : mj_C}  {L : Nat} {ps : List (Option (Option Nat))} {rest : List mj_K} {a b a0 a1 a2 a3 a4 b0 b1 b2 b3 b4 : Nat} (ha : (w_sh L ps rest)[a]? = some (5, 10, [none, none, none, none, none, some (some a0), some (some a1), some (some a2), some (some a3), some (some a4)])) (hb : (w_sh L ps rest)[b]? = some (5, 10, [none, none, none, none, none, some (some b0), some (some b1), some (some b2), some (some b3), some (some b4)])) (ha0 : (w_sh L ps rest)[a0]? = some (0, 640, [])) (ha1 : (w_sh L ps rest)[a1]? = some (0, 80, [])) (ha2 : (w_sh L ps rest)[a2]? = some (0, 10, [])) (ha3 : (w_sh L ps rest)[a3]? = some (0, 4, [])) (ha4 : (w_sh L ps rest)[a4]? = some (0, 4, [])) (hb0 : (w_sh L ps rest)[b0]? = some (0, 640, [])) (hb1 : (w_sh L ps rest)[b1]? = some (0, 80, [])) (hb2 : (w_sh L ps rest)[b2]? = some (0, 10, [])) (hb3 : (w_sh L ps rest)[b3]? = some (0, 4, [])) (hb4 : (w_sh L ps rest)[b4]? = some (0, 4, []))  : mj_EV 19 0 [some (.ref a), some (.ref b)] [] (w_sh L ps rest) c = (if ((!decide ((nI 0) < nI 0) && (!decide ((nI 0) < nI 0) && !decide ((nI 640) < nI 0))) && (decide ((nI 0).toNatClampNeg + (nI 640).toNatClampNeg ≤ 640) && decide ((nI 0).toNatClampNeg + (nI 640).toNatClampNeg ≤ 640))) = true then (if ((!decide ((nI 0) < nI 0) && (!decide ((nI 0) < nI 0) && !decide ((nI 80) < nI 0))) && (decide ((nI 0).toNatClampNeg + (nI 80).toNatClampNeg ≤ 80) && decide ((nI 0).toNatClampNeg + (nI 80).toNatClampNeg ≤ 80))) = true then (if ((!decide ((nI 0) < nI 0) && (!decide ((nI 0) < nI 0) && !decide ((nI 10) < nI 0))) && (decide ((nI 0).toNatClampNeg + (nI 10).toNatClampNeg ≤ 10) && decide ((nI 0).toNatClampNeg + (nI 10).toNatClampNeg ≤ 10))) = true then (if ((!decide ((nI 0) < nI 0) && (!decide ((nI 0) < nI 0) && !decide ((nI 4) < nI 0))) && (decide ((nI 0).toNatClampNeg + (nI 4).toNatClampNeg ≤ 4) && decide ((nI 0).toNatClampNeg + (nI 4).toNatClampNeg ≤ 4))) = true then (if ((!decide ((nI 0) < nI 0) && (!decide ((nI 0) < nI 0) && !decide ((nI 4) < nI 0))) && (decide ((nI 0).toNatClampNeg + (nI 4).toNatClampNeg ≤ 4) && decide ((nI 0).toNatClampNeg + (nI 4).toNatClampNeg ≤ 4))) = true then (some (none, (w_sh L ps rest), (mj_cp (mj_cp (mj_cp (mj_cp (mj_cp (mj_u (mj_u (mj_u (mj_u (mj_u c a 0 (c b 0)) a 1 ((mj_u c a 0 (c b 0)) b 1)) a 2 ((mj_u (mj_u c a 0 (c b 0)) a 1 ((mj_u c a 0 (c b 0)) b 1)) b 2)) a 3 ((mj_u (mj_u (mj_u c a 0 (c b 0)) a 1 ((mj_u c a 0 (c b 0)) b 1)) a 2 ((mj_u (mj_u c a 0 (c b 0)) a 1 ((mj_u c a 0 (c b 0)) b 1)) b 2)) b 3)) a 4 ((mj_u (mj_u (mj_u (mj_u c a 0 (c b 0)) a 1 ((mj_u c a 0 (c b 0)) b 1)) a 2 ((mj_u (mj_u c a 0 (c b 0)) a 1 ((mj_u c a 0 (c b 0)) b 1)) b 2)) a 3 ((mj_u (mj_u (mj_u c a 0 (c b 0)) a 1 ((mj_u c a 0 (c b 0)) b 1)) a 2 ((mj_u (mj_u c a 0 (c b 0)) a 1 ((mj_u c a 0 (c b 0)) b 1)) b 2)) b 3)) b 4)) b0 a0 (nI 0).toNatClampNeg (nI 0).toNatClampNeg (nI 640).toNatClampNeg) b1 a1 (nI 0).toNatClampNeg (nI 0).toNatClampNeg (nI 80).toNatClampNeg) b2 a2 (nI 0).toNatClampNeg (nI 0).toNatClampNeg (nI 10).toNatClampNeg) b3 a3 (nI 0).toNatClampNeg (nI 0).toNatClampNeg (nI 4).toNatClampNeg) b4 a4 (nI 0).toNatClampNeg (nI 0).toNatClampNeg (nI 4).toNatClampNeg))) else none) else none) else none) else none) else none) := (mj_aload_n d19_0 rfl (mj_aload_n d19_1 rfl (mj_getI d19_2 hb rfl (mj_putI d19_5 ha rfl (mj_aload_n d19_8 rfl (mj_aload_n d19_9 rfl (mj_getI d19_10 hb rfl (mj_putI d19_13 ha rfl (mj_aload_n d19_16 rfl (mj_aload_n d19_17 rfl (mj_getI d19_18 hb rfl (mj_putI d19_21 ha rfl (mj_aload_n d19_24 rfl (mj_aload_n d19_25 rfl (mj_getI d19_26 hb rfl (mj_putI d19_29 ha rfl (mj_aload_n d19_32 rfl (mj_aload_n d19_33 rfl (mj_getI d19_34 hb rfl (mj_putI d19_37 ha rfl (mj_aload_n d19_40 rfl (mj_getR d19_41 hb rfl (mj_iconst d19_44 (mj_aload_n d19_45 rfl (mj_getR d19_46 ha rfl (mj_iconst d19_49 (mj_sipush d19_50 (mj_acpy d19_53 hb0 ha0 (mj_aload_n d19_56 rfl (mj_getR d19_57 hb rfl (mj_iconst d19_60 (mj_aload_n d19_61 rfl (mj_getR d19_62 ha rfl (mj_iconst d19_65 (mj_bipush d19_66 (mj_acpy d19_68 hb1 ha1 (mj_aload_n d19_71 rfl (mj_getR d19_72 hb rfl (mj_iconst d19_75 (mj_aload_n d19_76 rfl (mj_getR d19_77 ha rfl (mj_iconst d19_80 (mj_bipush d19_81 (mj_acpy d19_83 hb2 ha2 (mj_aload_n d19_86 rfl (mj_getR d19_87 hb rfl (mj_iconst d19_90 (mj_aload_n d19_91 rfl (mj_getR d19_92 ha rfl (mj_iconst d19_95 (mj_iconst d19_96 (mj_acpy d19_97 hb3 ha3 (mj_aload_n d19_100 rfl (mj_getR d19_101 hb rfl (mj_iconst d19_104 (mj_aload_n d19_105 rfl (mj_getR d19_106 ha rfl (mj_iconst d19_109 (mj_iconst d19_110 (mj_acpy d19_111 hb4 ha4 (mj_vret d19_114)))))))))))))))))))))))))))))))))))))))))))))))))))))))))))))
/-- SqueezedLines$SavedStates.keep(LSqueezedLines$State;)V -/
theorem f20 : mj_cd 20 = mj_c20 := rfl
theorem d20_0 : mj_At 20 0 (.aload_n 0) 1 [0] (.null) := ⟨1, (congrArg (fun z => mj_at z 0) f20).trans rfl, rfl⟩
theorem d20_1 : mj_At 20 1 (.getfield 17) 4 [1, 1, 94] (.null) := ⟨3, (congrArg (fun z => mj_at z 1) f20).trans rfl, rfl⟩
theorem d20_4 : mj_At 20 4 (.bipush (6)) 6 [] (.int 6) := ⟨2, (congrArg (fun z => mj_at z 4) f20).trans rfl, rfl⟩
theorem d20_6 : mj_At 20 6 (.if_icmp .lt (7)) 9 [13] (.null) := ⟨3, (congrArg (fun z => mj_at z 6) f20).trans rfl, rfl⟩
theorem d20_9 : mj_At 20 9 (.aload_n 0) 10 [0] (.null) := ⟨1, (congrArg (fun z => mj_at z 9) f20).trans rfl, rfl⟩
theorem d20_10 : mj_At 20 10 (.invokevirtual 22) 13 [1, 18, 1, 1, 202, 204, 7, 21] (.null) := ⟨3, (congrArg (fun z => mj_at z 10) f20).trans rfl, rfl⟩
theorem d20_13 : mj_At 20 13 (.aload_n 0) 14 [0] (.null) := ⟨1, (congrArg (fun z => mj_at z 13) f20).trans rfl, rfl⟩
theorem d20_14 : mj_At 20 14 (.getfield 11) 17 [1, 0, 93] (.null) := ⟨3, (congrArg (fun z => mj_at z 14) f20).trans rfl, rfl⟩
theorem d20_17 : mj_At 20 17 (.aload_n 0) 18 [0] (.null) := ⟨1, (congrArg (fun z => mj_at z 17) f20).trans rfl, rfl⟩
theorem d20_18 : mj_At 20 18 (.getfield 17) 21 [1, 1, 94] (.null) := ⟨3, (congrArg (fun z => mj_at z 18) f20).trans rfl, rfl⟩
theorem d20_21 : mj_At 20 21 (.aaload) 22 [] (.null) := ⟨1, (congrArg (fun z => mj_at z 21) f20).trans rfl, rfl⟩
theorem d20_22 : mj_At 20 22 (.aload_n 1) 23 [1] (.null) := ⟨1, (congrArg (fun z => mj_at z 22) f20).trans rfl, rfl⟩
theorem d20_23 : mj_At 20 23 (.invokevirtual 25) 26 [1, 19, 2, 2, 206, 207, 208, 19] (.null) := ⟨3, (congrArg (fun z => mj_at z 23) f20).trans rfl, rfl⟩
theorem d20_26 : mj_At 20 26 (.aload_n 0) 27 [0] (.null) := ⟨1, (congrArg (fun z => mj_at z 26) f20).trans rfl, rfl⟩
theorem d20_27 : mj_At 20 27 (.dup) 28 [] (.null) := ⟨1, (congrArg (fun z => mj_at z 27) f20).trans rfl, rfl⟩
theorem d20_28 : mj_At 20 28 (.getfield 17) 31 [1, 1, 94] (.null) := ⟨3, (congrArg (fun z => mj_at z 28) f20).trans rfl, rfl⟩
theorem d20_31 : mj_At 20 31 (.iconst (1)) 32 [] (.int 1) := ⟨1, (congrArg (fun z => mj_at z 31) f20).trans rfl, rfl⟩
theorem d20_32 : mj_At 20 32 (.iadd) 33 [] (.null) := ⟨1, (congrArg (fun z => mj_at z 32) f20).trans rfl, rfl⟩
theorem d20_33 : mj_At 20 33 (.putfield 17) 36 [1, 1, 0, 94] (.null) := ⟨3, (congrArg (fun z => mj_at z 33) f20).trans rfl, rfl⟩
theorem d20_36 : mj_At 20 36 (.return_) 37 [] (.null) := ⟨1, (congrArg (fun z => mj_at z 36) f20).trans rfl, rfl⟩
theorem e20_0 {c : mj_C}  {L : Nat} {ps : List (Option (Option Nat))} {rest : List mj_K}   : mj_EV 20 0 [some (.ref 9), some (.ref 3)] [] (w_sh L ps rest) c = (if (c 9 1) < (nI 6) then mj_EV 20 13 [some (.ref 9), some (.ref 3)] [] (w_sh L ps rest) c else (mj_then 20 13 [some (.ref 9), some (.ref 3)] [] (mj_EV 18 0 [some (.ref 9), none, none] [] (w_sh L ps rest) c))) := (mj_aload_n d20_0 rfl (mj_getI d20_1 w_9 rfl (mj_bipush d20_4 (mj_iclt d20_6 rfl (mj_aload_n d20_9 rfl (mj_invV [some (.ref 9), none, none] [] d20_10 rfl rfl rfl w_9 rfl rfl))))))
theorem e20_13 {c : mj_C}  {L : Nat} {ps : List (Option (Option Nat))} {rest : List mj_K}  {b21 : Nat} (gi21 : mj_in (c 9 1) 6 = true) (gb21 : (ps)[(c 9 1).toNatClampNeg]? = some (some (some b21))) {fw21 : List (Option (Option Nat))} {nw21 : Nat} (gw21 : (w_sh L ps rest)[b21]? = some (5, nw21, fw21)) : mj_EV 20 13 [some (.ref 9), some (.ref 3)] [] (w_sh L ps rest) c = (mj_then 20 26 [some (.ref 9), some (.ref 3)] [] (mj_EV 19 0 [some (.ref b21), some (.ref 3)] [] (w_sh L ps rest) c)) := (mj_aload_n d20_13 rfl (mj_getR d20_14 w_9 rfl (mj_aload_n d20_17 rfl (mj_getI d20_18 w_9 rfl (mj_aald d20_21 w_10 gi21 gb21 (mj_aload_n d20_22 rfl (mj_invV [some (.ref b21), some (.ref 3)] [] d20_23 rfl rfl rfl gw21 rfl rfl)))))))
theorem e20_26 {c : mj_C}  {L : Nat} {ps : List (Option (Option Nat))} {rest : List mj_K}   : mj_EV 20 26 [some (.ref 9), some (.ref 3)] [] (w_sh L ps rest) c = (some (none, (w_sh L ps rest), (mj_u c 9 1 ((c 9 1) + (nI 1))))) := (mj_aload_n d20_26 rfl (mj_dupR d20_27 (mj_getI d20_28 w_9 rfl (mj_iconst d20_31 (mj_iadd d20_32 (mj_putI d20_33 w_9 rfl (mj_vret d20_36)))))))
/-- SqueezedLines.layAnewIfTooFull(I)V -/
theorem f21 : mj_cd 21 = mj_c21 := rfl
theorem d21_0 : mj_At 21 0 (.aload_n 0) 1 [0] (.null) := ⟨1, (congrArg (fun z => mj_at z 0) f21).trans rfl, rfl⟩
theorem d21_1 : mj_At 21 1 (.iload_n 1) 2 [1] (.null) := ⟨1, (congrArg (fun z => mj_at z 1) f21).trans rfl, rfl⟩
theorem d21_2 : mj_At 21 2 (.invokevirtual 261) 5 [1, 9, 2, 3, 160, 162, 1, 18] (.null) := ⟨3, (congrArg (fun z => mj_at z 2) f21).trans rfl, rfl⟩
theorem d21_5 : mj_At 21 5 (.aload_n 0) 6 [0] (.null) := ⟨1, (congrArg (fun z => mj_at z 5) f21).trans rfl, rfl⟩
theorem d21_6 : mj_At 21 6 (.getfield 12) 9 [3, 0, 122] (.null) := ⟨3, (congrArg (fun z => mj_at z 6) f21).trans rfl, rfl⟩
theorem d21_9 : mj_At 21 9 (.getfield 60) 12 [2, 0, 43] (.null) := ⟨3, (congrArg (fun z => mj_at z 9) f21).trans rfl, rfl⟩
theorem d21_12 : mj_At 21 12 (.if_icmp .le (37)) 15 [49] (.null) := ⟨3, (congrArg (fun z => mj_at z 12) f21).trans rfl, rfl⟩
theorem d21_15 : mj_At 21 15 (.aload_n 0) 16 [0] (.null) := ⟨1, (congrArg (fun z => mj_at z 15) f21).trans rfl, rfl⟩
theorem d21_16 : mj_At 21 16 (.getfield 12) 19 [3, 0, 122] (.null) := ⟨3, (congrArg (fun z => mj_at z 16) f21).trans rfl, rfl⟩
theorem d21_19 : mj_At 21 19 (.getfield 89) 22 [2, 7, 57] (.null) := ⟨3, (congrArg (fun z => mj_at z 19) f21).trans rfl, rfl⟩
theorem d21_22 : mj_At 21 22 (.iload_n 1) 23 [1] (.null) := ⟨1, (congrArg (fun z => mj_at z 22) f21).trans rfl, rfl⟩
theorem d21_23 : mj_At 21 23 (.aload_n 0) 24 [0] (.null) := ⟨1, (congrArg (fun z => mj_at z 23) f21).trans rfl, rfl⟩
theorem d21_24 : mj_At 21 24 (.iload_n 1) 25 [1] (.null) := ⟨1, (congrArg (fun z => mj_at z 24) f21).trans rfl, rfl⟩
theorem d21_25 : mj_At 21 25 (.aload_n 0) 26 [0] (.null) := ⟨1, (congrArg (fun z => mj_at z 25) f21).trans rfl, rfl⟩
theorem d21_26 : mj_At 21 26 (.getfield 12) 29 [3, 0, 122] (.null) := ⟨3, (congrArg (fun z => mj_at z 26) f21).trans rfl, rfl⟩
theorem d21_29 : mj_At 21 29 (.getfield 60) 32 [2, 0, 43] (.null) := ⟨3, (congrArg (fun z => mj_at z 29) f21).trans rfl, rfl⟩
theorem d21_32 : mj_At 21 32 (.invokevirtual 92) 35 [1, 12, 3, 3, 176, 178, 3, 18] (.null) := ⟨3, (congrArg (fun z => mj_at z 32) f21).trans rfl, rfl⟩
theorem d21_35 : mj_At 21 35 (.iastore) 36 [] (.null) := ⟨1, (congrArg (fun z => mj_at z 35) f21).trans rfl, rfl⟩
theorem d21_36 : mj_At 21 36 (.aload_n 0) 37 [0] (.null) := ⟨1, (congrArg (fun z => mj_at z 36) f21).trans rfl, rfl⟩
theorem d21_37 : mj_At 21 37 (.getfield 12) 40 [3, 0, 122] (.null) := ⟨3, (congrArg (fun z => mj_at z 37) f21).trans rfl, rfl⟩
theorem d21_40 : mj_At 21 40 (.dup) 41 [] (.null) := ⟨1, (congrArg (fun z => mj_at z 40) f21).trans rfl, rfl⟩
theorem d21_41 : mj_At 21 41 (.getfield 146) 44 [2, 4, 51] (.null) := ⟨3, (congrArg (fun z => mj_at z 41) f21).trans rfl, rfl⟩
theorem d21_44 : mj_At 21 44 (.iconst (1)) 45 [] (.int 1) := ⟨1, (congrArg (fun z => mj_at z 44) f21).trans rfl, rfl⟩
theorem d21_45 : mj_At 21 45 (.iadd) 46 [] (.null) := ⟨1, (congrArg (fun z => mj_at z 45) f21).trans rfl, rfl⟩
theorem d21_46 : mj_At 21 46 (.putfield 146) 49 [2, 4, 0, 51] (.null) := ⟨3, (congrArg (fun z => mj_at z 46) f21).trans rfl, rfl⟩
theorem d21_49 : mj_At 21 49 (.return_) 50 [] (.null) := ⟨1, (congrArg (fun z => mj_at z 49) f21).trans rfl, rfl⟩
theorem e21_0 {c : mj_C} {x1 : Int32} {L : Nat} {ps : List (Option (Option Nat))} {rest : List mj_K}   : mj_EV 21 0 [some (.ref 2), some (.int x1)] [] (w_sh L ps rest) c = (mj_then 21 5 [some (.ref 2), some (.int x1)] [] (mj_EV 9 0 [some (.ref 2), some (.int x1)] [] (w_sh L ps rest) c)) := (mj_aload_n d21_0 rfl (mj_iload_n d21_1 rfl (mj_invV [some (.ref 2), some (.int x1)] [] d21_2 rfl rfl rfl w_2 rfl rfl)))
theorem e21_5 {c : mj_C} {x1 : Int32} {z0 : Int32} {L : Nat} {ps : List (Option (Option Nat))} {rest : List mj_K}   : mj_EV 21 5 [some (.ref 2), some (.int x1)] [.int z0] (w_sh L ps rest) c = (if z0 ≤ (c 3 0) then (some (none, (w_sh L ps rest), c)) else (mj_then 21 35 [some (.ref 2), some (.int x1)] [.int x1, .ref 6] (mj_EV 12 0 [some (.ref 2), some (.int x1), some (.int (c 3 0))] [] (w_sh L ps rest) c))) := (mj_aload_n d21_5 rfl (mj_getR d21_6 w_2 rfl (mj_getI d21_9 w_3 rfl (mj_icle d21_12 (mj_vret d21_49) (mj_aload_n d21_15 rfl (mj_getR d21_16 w_2 rfl (mj_getR d21_19 w_3 rfl (mj_iload_n d21_22 rfl (mj_aload_n d21_23 rfl (mj_iload_n d21_24 rfl (mj_aload_n d21_25 rfl (mj_getR d21_26 w_2 rfl (mj_getI d21_29 w_3 rfl (mj_invV [some (.ref 2), some (.int x1), some (.int (c 3 0))] [.int x1, .ref 6] d21_32 rfl rfl rfl w_2 rfl rfl))))))))))))))
theorem e21_35 {c : mj_C} {x1 : Int32} {z1 : Int32} {z2 : Int32} {L : Nat} {ps : List (Option (Option Nat))} {rest : List mj_K}   : mj_EV 21 35 [some (.ref 2), some (.int x1)] [.int z2, .int z1, .ref 6] (w_sh L ps rest) c = (if mj_in z1 10 = true then (some (none, (w_sh L ps rest), (mj_u (mj_u c 6 z1.toNatClampNeg z2) 3 4 (((mj_u c 6 z1.toNatClampNeg z2) 3 4) + (nI 1))))) else none) := (mj_iast d21_35 w_6 (mj_aload_n d21_36 rfl (mj_getR d21_37 w_2 rfl (mj_dupR d21_40 (mj_getI d21_41 w_3 rfl (mj_iconst d21_44 (mj_iadd d21_45 (mj_putI d21_46 w_3 rfl (mj_vret d21_49)))))))))
/-- SqueezedLines.setRoom(I)I -/
theorem f22 : mj_cd 22 = mj_c22 := rfl
theorem d22_0 : mj_At 22 0 (.iload_n 1) 1 [1] (.null) := ⟨1, (congrArg (fun z => mj_at z 0) f22).trans rfl, rfl⟩
theorem d22_1 : mj_At 22 1 (.invokestatic 45) 4 [0, 5, 1, 149, 150, 18] (.null) := ⟨3, (congrArg (fun z => mj_at z 1) f22).trans rfl, rfl⟩
theorem d22_4 : mj_At 22 4 (.ifCond .ne (6)) 7 [10] (.null) := ⟨3, (congrArg (fun z => mj_at z 4) f22).trans rfl, rfl⟩
theorem d22_7 : mj_At 22 7 (.bipush (-2)) 9 [] (.int (-2)) := ⟨2, (congrArg (fun z => mj_at z 7) f22).trans rfl, rfl⟩
theorem d22_9 : mj_At 22 9 (.ireturn) 10 [0] (.null) := ⟨1, (congrArg (fun z => mj_at z 9) f22).trans rfl, rfl⟩
theorem d22_10 : mj_At 22 10 (.aload_n 0) 11 [0] (.null) := ⟨1, (congrArg (fun z => mj_at z 10) f22).trans rfl, rfl⟩
theorem d22_11 : mj_At 22 11 (.aload_n 0) 12 [0] (.null) := ⟨1, (congrArg (fun z => mj_at z 11) f22).trans rfl, rfl⟩
theorem d22_12 : mj_At 22 12 (.iload_n 1) 13 [1] (.null) := ⟨1, (congrArg (fun z => mj_at z 12) f22).trans rfl, rfl⟩
theorem d22_13 : mj_At 22 13 (.invokevirtual 49) 16 [1, 15, 2, 3, 152, 154, 0, 18] (.null) := ⟨3, (congrArg (fun z => mj_at z 13) f22).trans rfl, rfl⟩
theorem d22_16 : mj_At 22 16 (.invokevirtual 53) 19 [1, 17, 2, 3, 190, 192, 5, 18] (.null) := ⟨3, (congrArg (fun z => mj_at z 16) f22).trans rfl, rfl⟩
theorem d22_19 : mj_At 22 19 (.ifCond .eq (6)) 22 [25] (.null) := ⟨3, (congrArg (fun z => mj_at z 19) f22).trans rfl, rfl⟩
theorem d22_22 : mj_At 22 22 (.bipush (-4)) 24 [] (.int (-4)) := ⟨2, (congrArg (fun z => mj_at z 22) f22).trans rfl, rfl⟩
theorem d22_24 : mj_At 22 24 (.ireturn) 25 [0] (.null) := ⟨1, (congrArg (fun z => mj_at z 24) f22).trans rfl, rfl⟩
theorem d22_25 : mj_At 22 25 (.aload_n 0) 26 [0] (.null) := ⟨1, (congrArg (fun z => mj_at z 25) f22).trans rfl, rfl⟩
theorem d22_26 : mj_At 22 26 (.getfield 19) 29 [3, 1, 123] (.null) := ⟨3, (congrArg (fun z => mj_at z 26) f22).trans rfl, rfl⟩
theorem d22_29 : mj_At 22 29 (.aload_n 0) 30 [0] (.null) := ⟨1, (congrArg (fun z => mj_at z 29) f22).trans rfl, rfl⟩
theorem d22_30 : mj_At 22 30 (.getfield 12) 33 [3, 0, 122] (.null) := ⟨3, (congrArg (fun z => mj_at z 30) f22).trans rfl, rfl⟩
theorem d22_33 : mj_At 22 33 (.invokevirtual 56) 36 [1, 20, 2, 1, 198, 199, 200, 21] (.null) := ⟨3, (congrArg (fun z => mj_at z 33) f22).trans rfl, rfl⟩
theorem d22_36 : mj_At 22 36 (.aload_n 0) 37 [0] (.null) := ⟨1, (congrArg (fun z => mj_at z 36) f22).trans rfl, rfl⟩
theorem d22_37 : mj_At 22 37 (.getfield 12) 40 [3, 0, 122] (.null) := ⟨3, (congrArg (fun z => mj_at z 37) f22).trans rfl, rfl⟩
theorem d22_40 : mj_At 22 40 (.getfield 60) 43 [2, 0, 43] (.null) := ⟨3, (congrArg (fun z => mj_at z 40) f22).trans rfl, rfl⟩
theorem d22_43 : mj_At 22 43 (.istore_n 2) 44 [2] (.null) := ⟨1, (congrArg (fun z => mj_at z 43) f22).trans rfl, rfl⟩
theorem d22_44 : mj_At 22 44 (.aload_n 0) 45 [0] (.null) := ⟨1, (congrArg (fun z => mj_at z 44) f22).trans rfl, rfl⟩
theorem d22_45 : mj_At 22 45 (.getfield 12) 48 [3, 0, 122] (.null) := ⟨3, (congrArg (fun z => mj_at z 45) f22).trans rfl, rfl⟩
theorem d22_48 : mj_At 22 48 (.iload_n 1) 49 [1] (.null) := ⟨1, (congrArg (fun z => mj_at z 48) f22).trans rfl, rfl⟩
theorem d22_49 : mj_At 22 49 (.putfield 60) 52 [2, 0, 0, 43] (.null) := ⟨3, (congrArg (fun z => mj_at z 49) f22).trans rfl, rfl⟩
theorem d22_52 : mj_At 22 52 (.iconst (0)) 53 [] (.int 0) := ⟨1, (congrArg (fun z => mj_at z 52) f22).trans rfl, rfl⟩
theorem d22_53 : mj_At 22 53 (.istore_n 3) 54 [3] (.null) := ⟨1, (congrArg (fun z => mj_at z 53) f22).trans rfl, rfl⟩
theorem d22_54 : mj_At 22 54 (.iload_n 3) 55 [3] (.null) := ⟨1, (congrArg (fun z => mj_at z 54) f22).trans rfl, rfl⟩
theorem d22_55 : mj_At 22 55 (.bipush (10)) 57 [] (.int 10) := ⟨2, (congrArg (fun z => mj_at z 55) f22).trans rfl, rfl⟩
theorem d22_57 : mj_At 22 57 (.if_icmp .ge (25)) 60 [82] (.null) := ⟨3, (congrArg (fun z => mj_at z 57) f22).trans rfl, rfl⟩
theorem d22_60 : mj_At 22 60 (.aload_n 0) 61 [0] (.null) := ⟨1, (congrArg (fun z => mj_at z 60) f22).trans rfl, rfl⟩
theorem d22_61 : mj_At 22 61 (.getfield 12) 64 [3, 0, 122] (.null) := ⟨3, (congrArg (fun z => mj_at z 61) f22).trans rfl, rfl⟩
theorem d22_64 : mj_At 22 64 (.iload_n 3) 65 [3] (.null) := ⟨1, (congrArg (fun z => mj_at z 64) f22).trans rfl, rfl⟩
theorem d22_65 : mj_At 22 65 (.invokevirtual 63) 68 [1, 6, 2, 2, 156, 157, 158, 19] (.null) := ⟨3, (congrArg (fun z => mj_at z 65) f22).trans rfl, rfl⟩
theorem d22_68 : mj_At 22 68 (.ifCond .eq (8)) 71 [76] (.null) := ⟨3, (congrArg (fun z => mj_at z 68) f22).trans rfl, rfl⟩
theorem d22_71 : mj_At 22 71 (.aload_n 0) 72 [0] (.null) := ⟨1, (congrArg (fun z => mj_at z 71) f22).trans rfl, rfl⟩
theorem d22_72 : mj_At 22 72 (.iload_n 3) 73 [3] (.null) := ⟨1, (congrArg (fun z => mj_at z 72) f22).trans rfl, rfl⟩
theorem d22_73 : mj_At 22 73 (.invokevirtual 66) 76 [1, 21, 2, 3, 213, 215, 8, 18] (.null) := ⟨3, (congrArg (fun z => mj_at z 73) f22).trans rfl, rfl⟩
theorem d22_76 : mj_At 22 76 (.iinc 3 (1)) 79 [3] (.int 1) := ⟨3, (congrArg (fun z => mj_at z 76) f22).trans rfl, rfl⟩
theorem d22_79 : mj_At 22 79 (.goto (-25)) 82 [54] (.null) := ⟨3, (congrArg (fun z => mj_at z 79) f22).trans rfl, rfl⟩
theorem d22_82 : mj_At 22 82 (.iload_n 2) 83 [2] (.null) := ⟨1, (congrArg (fun z => mj_at z 82) f22).trans rfl, rfl⟩
theorem d22_83 : mj_At 22 83 (.ireturn) 84 [0] (.null) := ⟨1, (congrArg (fun z => mj_at z 83) f22).trans rfl, rfl⟩
theorem e22_0 {c : mj_C} {x1 : Int32} {L : Nat} {ps : List (Option (Option Nat))} {rest : List mj_K}   : mj_EV 22 0 [some (.ref 2), some (.int x1), none, none] [] (w_sh L ps rest) c = (mj_then 22 4 [some (.ref 2), some (.int x1), none, none] [] (mj_EV 5 0 [some (.int x1)] [] (w_sh L ps rest) c)) := (mj_iload_n d22_0 rfl (mj_invS [some (.int x1)] [] d22_1 (by decide) rfl rfl rfl rfl))
theorem e22_4 {c : mj_C} {x1 : Int32} {z0 : Int32} {L : Nat} {ps : List (Option (Option Nat))} {rest : List mj_K}   : mj_EV 22 4 [some (.ref 2), some (.int x1), none, none] [.int z0] (w_sh L ps rest) c = (if z0 = nI 0 then (some (some (.int (-2)), (w_sh L ps rest), c)) else (mj_then 22 16 [some (.ref 2), some (.int x1), none, none] [.ref 2] (mj_EV 15 0 [some (.ref 2), some (.int x1), none, none] [] (w_sh L ps rest) c))) := (mj_ifne d22_4 (mj_aload_n d22_10 rfl (mj_aload_n d22_11 rfl (mj_iload_n d22_12 rfl (mj_invV [some (.ref 2), some (.int x1), none, none] [.ref 2] d22_13 rfl rfl rfl w_2 rfl rfl)))) (mj_bipush d22_7 (mj_iret d22_9)))
theorem e22_16 {c : mj_C} {x1 : Int32} {z1 : Int32} {L : Nat} {ps : List (Option (Option Nat))} {rest : List mj_K}   : mj_EV 22 16 [some (.ref 2), some (.int x1), none, none] [.int z1, .ref 2] (w_sh L ps rest) c = (mj_then 22 19 [some (.ref 2), some (.int x1), none, none] [] (mj_EV 17 0 [some (.ref 2), some (.int z1)] [] (w_sh L ps rest) c)) := (mj_invV [some (.ref 2), some (.int z1)] [] d22_16 rfl rfl rfl w_2 rfl rfl)
theorem e22_19 {c : mj_C} {x1 : Int32} {z0 : Int32} {L : Nat} {ps : List (Option (Option Nat))} {rest : List mj_K}   : mj_EV 22 19 [some (.ref 2), some (.int x1), none, none] [.int z0] (w_sh L ps rest) c = (if z0 = nI 0 then (mj_then 22 36 [some (.ref 2), some (.int x1), none, none] [] (mj_EV 20 0 [some (.ref 9), some (.ref 3)] [] (w_sh L ps rest) c)) else (some (some (.int (-4)), (w_sh L ps rest), c))) := (mj_ifeq d22_19 (mj_aload_n d22_25 rfl (mj_getR d22_26 w_2 rfl (mj_aload_n d22_29 rfl (mj_getR d22_30 w_2 rfl (mj_invV [some (.ref 9), some (.ref 3)] [] d22_33 rfl rfl rfl w_9 rfl rfl))))) (mj_bipush d22_22 (mj_iret d22_24)))
theorem e22_36 {c : mj_C} {x1 : Int32} {L : Nat} {ps : List (Option (Option Nat))} {rest : List mj_K}   : mj_EV 22 36 [some (.ref 2), some (.int x1), none, none] [] (w_sh L ps rest) c = mj_EV 22 54 [some (.ref 2), some (.int x1), some (.int (c 3 0)), some (.int (nI 0))] [] (w_sh L ps rest) (mj_u c 3 0 x1) := (mj_aload_n d22_36 rfl (mj_getR d22_37 w_2 rfl (mj_getI d22_40 w_3 rfl (mj_istore_n [some (.ref 2), some (.int x1), some (.int (c 3 0)), none] d22_43 rfl rfl (mj_aload_n d22_44 rfl (mj_getR d22_45 w_2 rfl (mj_iload_n d22_48 rfl (mj_putI d22_49 w_3 rfl (mj_iconst d22_52 (mj_istore_n [some (.ref 2), some (.int x1), some (.int (c 3 0)), some (.int (nI 0))] d22_53 rfl rfl rfl))))))))))
theorem e22_54 {c : mj_C} {x1 : Int32} {x2 : Int32} {x3 : Int32} {L : Nat} {ps : List (Option (Option Nat))} {rest : List mj_K}   : mj_EV 22 54 [some (.ref 2), some (.int x1), some (.int x2), some (.int x3)] [] (w_sh L ps rest) c = (if (nI 10) ≤ x3 then (some (some (.int x2), (w_sh L ps rest), c)) else (mj_then 22 68 [some (.ref 2), some (.int x1), some (.int x2), some (.int x3)] [] (mj_EV 6 0 [some (.ref 3), some (.int x3)] [] (w_sh L ps rest) c))) := (mj_iload_n d22_54 rfl (mj_bipush d22_55 (mj_icge d22_57 (mj_iload_n d22_82 rfl (mj_iret d22_83)) (mj_aload_n d22_60 rfl (mj_getR d22_61 w_2 rfl (mj_iload_n d22_64 rfl (mj_invV [some (.ref 3), some (.int x3)] [] d22_65 rfl rfl rfl w_3 rfl rfl)))))))
theorem e22_68 {c : mj_C} {x1 : Int32} {x2 : Int32} {x3 : Int32} {z0 : Int32} {L : Nat} {ps : List (Option (Option Nat))} {rest : List mj_K}   : mj_EV 22 68 [some (.ref 2), some (.int x1), some (.int x2), some (.int x3)] [.int z0] (w_sh L ps rest) c = (if z0 = nI 0 then mj_EV 22 76 [some (.ref 2), some (.int x1), some (.int x2), some (.int x3)] [] (w_sh L ps rest) c else (mj_then 22 76 [some (.ref 2), some (.int x1), some (.int x2), some (.int x3)] [] (mj_EV 21 0 [some (.ref 2), some (.int x3)] [] (w_sh L ps rest) c))) := (mj_ifeq d22_68 rfl (mj_aload_n d22_71 rfl (mj_iload_n d22_72 rfl (mj_invV [some (.ref 2), some (.int x3)] [] d22_73 rfl rfl rfl w_2 rfl rfl))))
theorem e22_76 {c : mj_C} {x1 : Int32} {x2 : Int32} {x3 : Int32} {L : Nat} {ps : List (Option (Option Nat))} {rest : List mj_K}   : mj_EV 22 76 [some (.ref 2), some (.int x1), some (.int x2), some (.int x3)] [] (w_sh L ps rest) c = mj_EV 22 54 [some (.ref 2), some (.int x1), some (.int x2), some (.int (x3 + (nI 1)))] [] (w_sh L ps rest) c := (mj_iinc [some (.ref 2), some (.int x1), some (.int x2), some (.int (x3 + (nI 1)))] d22_76 rfl rfl rfl (mj_goto d22_79 rfl))
/-- SqueezedLines.setBound(I)I -/
theorem f23 : mj_cd 23 = mj_c23 := rfl
theorem d23_0 : mj_At 23 0 (.iload_n 1) 1 [1] (.null) := ⟨1, (congrArg (fun z => mj_at z 0) f23).trans rfl, rfl⟩
theorem d23_1 : mj_At 23 1 (.bipush (20)) 3 [] (.int 20) := ⟨2, (congrArg (fun z => mj_at z 1) f23).trans rfl, rfl⟩
theorem d23_3 : mj_At 23 3 (.if_icmp .lt (10)) 6 [13] (.null) := ⟨3, (congrArg (fun z => mj_at z 3) f23).trans rfl, rfl⟩
theorem d23_6 : mj_At 23 6 (.iload_n 1) 7 [1] (.null) := ⟨1, (congrArg (fun z => mj_at z 6) f23).trans rfl, rfl⟩
theorem d23_7 : mj_At 23 7 (.sipush (999)) 10 [] (.int 999) := ⟨3, (congrArg (fun z => mj_at z 7) f23).trans rfl, rfl⟩
theorem d23_10 : mj_At 23 10 (.if_icmp .le (6)) 13 [16] (.null) := ⟨3, (congrArg (fun z => mj_at z 10) f23).trans rfl, rfl⟩
theorem d23_13 : mj_At 23 13 (.bipush (-2)) 15 [] (.int (-2)) := ⟨2, (congrArg (fun z => mj_at z 13) f23).trans rfl, rfl⟩
theorem d23_15 : mj_At 23 15 (.ireturn) 16 [0] (.null) := ⟨1, (congrArg (fun z => mj_at z 15) f23).trans rfl, rfl⟩
theorem d23_16 : mj_At 23 16 (.aload_n 0) 17 [0] (.null) := ⟨1, (congrArg (fun z => mj_at z 16) f23).trans rfl, rfl⟩
theorem d23_17 : mj_At 23 17 (.getfield 19) 20 [3, 1, 123] (.null) := ⟨3, (congrArg (fun z => mj_at z 17) f23).trans rfl, rfl⟩
theorem d23_20 : mj_At 23 20 (.aload_n 0) 21 [0] (.null) := ⟨1, (congrArg (fun z => mj_at z 20) f23).trans rfl, rfl⟩
theorem d23_21 : mj_At 23 21 (.getfield 12) 24 [3, 0, 122] (.null) := ⟨3, (congrArg (fun z => mj_at z 21) f23).trans rfl, rfl⟩
theorem d23_24 : mj_At 23 24 (.invokevirtual 56) 27 [1, 20, 2, 1, 198, 199, 200, 21] (.null) := ⟨3, (congrArg (fun z => mj_at z 24) f23).trans rfl, rfl⟩
theorem d23_27 : mj_At 23 27 (.aload_n 0) 28 [0] (.null) := ⟨1, (congrArg (fun z => mj_at z 27) f23).trans rfl, rfl⟩
theorem d23_28 : mj_At 23 28 (.getfield 12) 31 [3, 0, 122] (.null) := ⟨3, (congrArg (fun z => mj_at z 28) f23).trans rfl, rfl⟩
theorem d23_31 : mj_At 23 31 (.getfield 70) 34 [2, 1, 45] (.null) := ⟨3, (congrArg (fun z => mj_at z 31) f23).trans rfl, rfl⟩
theorem d23_34 : mj_At 23 34 (.istore_n 2) 35 [2] (.null) := ⟨1, (congrArg (fun z => mj_at z 34) f23).trans rfl, rfl⟩
theorem d23_35 : mj_At 23 35 (.aload_n 0) 36 [0] (.null) := ⟨1, (congrArg (fun z => mj_at z 35) f23).trans rfl, rfl⟩
theorem d23_36 : mj_At 23 36 (.getfield 12) 39 [3, 0, 122] (.null) := ⟨3, (congrArg (fun z => mj_at z 36) f23).trans rfl, rfl⟩
theorem d23_39 : mj_At 23 39 (.iload_n 1) 40 [1] (.null) := ⟨1, (congrArg (fun z => mj_at z 39) f23).trans rfl, rfl⟩
theorem d23_40 : mj_At 23 40 (.putfield 70) 43 [2, 1, 0, 45] (.null) := ⟨3, (congrArg (fun z => mj_at z 40) f23).trans rfl, rfl⟩
theorem d23_43 : mj_At 23 43 (.iload_n 2) 44 [2] (.null) := ⟨1, (congrArg (fun z => mj_at z 43) f23).trans rfl, rfl⟩
theorem d23_44 : mj_At 23 44 (.ireturn) 45 [0] (.null) := ⟨1, (congrArg (fun z => mj_at z 44) f23).trans rfl, rfl⟩
theorem e23_0 {c : mj_C} {x1 : Int32} {L : Nat} {ps : List (Option (Option Nat))} {rest : List mj_K}   : mj_EV 23 0 [some (.ref 2), some (.int x1), none] [] (w_sh L ps rest) c = (if x1 < (nI 20) then (some (some (.int (-2)), (w_sh L ps rest), c)) else (if x1 ≤ (nI 999) then (mj_then 23 27 [some (.ref 2), some (.int x1), none] [] (mj_EV 20 0 [some (.ref 9), some (.ref 3)] [] (w_sh L ps rest) c)) else (some (some (.int (-2)), (w_sh L ps rest), c)))) := (mj_iload_n d23_0 rfl (mj_bipush d23_1 (mj_iclt d23_3 (mj_bipush d23_13 (mj_iret d23_15)) (mj_iload_n d23_6 rfl (mj_sipush d23_7 (mj_icle d23_10 (mj_aload_n d23_16 rfl (mj_getR d23_17 w_2 rfl (mj_aload_n d23_20 rfl (mj_getR d23_21 w_2 rfl (mj_invV [some (.ref 9), some (.ref 3)] [] d23_24 rfl rfl rfl w_9 rfl rfl))))) (mj_bipush d23_13 (mj_iret d23_15))))))))
theorem e23_27 {c : mj_C} {x1 : Int32} {L : Nat} {ps : List (Option (Option Nat))} {rest : List mj_K}   : mj_EV 23 27 [some (.ref 2), some (.int x1), none] [] (w_sh L ps rest) c = (some (some (.int (c 3 1)), (w_sh L ps rest), (mj_u c 3 1 x1))) := (mj_aload_n d23_27 rfl (mj_getR d23_28 w_2 rfl (mj_getI d23_31 w_3 rfl (mj_istore_n [some (.ref 2), some (.int x1), some (.int (c 3 1))] d23_34 rfl rfl (mj_aload_n d23_35 rfl (mj_getR d23_36 w_2 rfl (mj_iload_n d23_39 rfl (mj_putI d23_40 w_3 rfl (mj_iload_n d23_43 rfl (mj_iret d23_44))))))))))
/-- SqueezedLines$State.lowestFreeNumber()I -/
theorem f24 : mj_cd 24 = mj_c24 := rfl
theorem d24_0 : mj_At 24 0 (.iconst (0)) 1 [] (.int 0) := ⟨1, (congrArg (fun z => mj_at z 0) f24).trans rfl, rfl⟩
theorem d24_1 : mj_At 24 1 (.istore_n 1) 2 [1] (.null) := ⟨1, (congrArg (fun z => mj_at z 1) f24).trans rfl, rfl⟩
theorem d24_2 : mj_At 24 2 (.iload_n 1) 3 [1] (.null) := ⟨1, (congrArg (fun z => mj_at z 2) f24).trans rfl, rfl⟩
theorem d24_3 : mj_At 24 3 (.bipush (10)) 5 [] (.int 10) := ⟨2, (congrArg (fun z => mj_at z 3) f24).trans rfl, rfl⟩
theorem d24_5 : mj_At 24 5 (.if_icmp .ge (21)) 8 [26] (.null) := ⟨3, (congrArg (fun z => mj_at z 5) f24).trans rfl, rfl⟩
theorem d24_8 : mj_At 24 8 (.aload_n 0) 9 [0] (.null) := ⟨1, (congrArg (fun z => mj_at z 8) f24).trans rfl, rfl⟩
theorem d24_9 : mj_At 24 9 (.getfield 34) 12 [2, 7, 56] (.null) := ⟨3, (congrArg (fun z => mj_at z 9) f24).trans rfl, rfl⟩
theorem d24_12 : mj_At 24 12 (.iload_n 1) 13 [1] (.null) := ⟨1, (congrArg (fun z => mj_at z 12) f24).trans rfl, rfl⟩
theorem d24_13 : mj_At 24 13 (.iaload) 14 [] (.null) := ⟨1, (congrArg (fun z => mj_at z 13) f24).trans rfl, rfl⟩
theorem d24_14 : mj_At 24 14 (.iconst (-1)) 15 [] (.int (-1)) := ⟨1, (congrArg (fun z => mj_at z 14) f24).trans rfl, rfl⟩
theorem d24_15 : mj_At 24 15 (.if_icmp .ne (5)) 18 [20] (.null) := ⟨3, (congrArg (fun z => mj_at z 15) f24).trans rfl, rfl⟩
theorem d24_18 : mj_At 24 18 (.iload_n 1) 19 [1] (.null) := ⟨1, (congrArg (fun z => mj_at z 18) f24).trans rfl, rfl⟩
theorem d24_19 : mj_At 24 19 (.ireturn) 20 [0] (.null) := ⟨1, (congrArg (fun z => mj_at z 19) f24).trans rfl, rfl⟩
theorem d24_20 : mj_At 24 20 (.iinc 1 (1)) 23 [1] (.int 1) := ⟨3, (congrArg (fun z => mj_at z 20) f24).trans rfl, rfl⟩
theorem d24_23 : mj_At 24 23 (.goto (-21)) 26 [2] (.null) := ⟨3, (congrArg (fun z => mj_at z 23) f24).trans rfl, rfl⟩
theorem d24_26 : mj_At 24 26 (.iconst (-1)) 27 [] (.int (-1)) := ⟨1, (congrArg (fun z => mj_at z 26) f24).trans rfl, rfl⟩
theorem d24_27 : mj_At 24 27 (.ireturn) 28 [0] (.null) := ⟨1, (congrArg (fun z => mj_at z 27) f24).trans rfl, rfl⟩
theorem e24_0 {c : mj_C}  {L : Nat} {ps : List (Option (Option Nat))} {rest : List mj_K}   : mj_EV 24 0 [some (.ref 3), none] [] (w_sh L ps rest) c = mj_EV 24 2 [some (.ref 3), some (.int (nI 0))] [] (w_sh L ps rest) c := (mj_iconst d24_0 (mj_istore_n [some (.ref 3), some (.int (nI 0))] d24_1 rfl rfl rfl))
theorem e24_2 {c : mj_C} {x1 : Int32} {L : Nat} {ps : List (Option (Option Nat))} {rest : List mj_K}   : mj_EV 24 2 [some (.ref 3), some (.int x1)] [] (w_sh L ps rest) c = (if (nI 10) ≤ x1 then (some (some (.int (-1)), (w_sh L ps rest), c)) else (if mj_in x1 10 = true then (if (c 6 x1.toNatClampNeg) = (-1) then (some (some (.int x1), (w_sh L ps rest), c)) else mj_EV 24 2 [some (.ref 3), some (.int (x1 + (nI 1)))] [] (w_sh L ps rest) c) else none)) := (mj_iload_n d24_2 rfl (mj_bipush d24_3 (mj_icge d24_5 (mj_iconst d24_26 (mj_iret d24_27)) (mj_aload_n d24_8 rfl (mj_getR d24_9 w_3 rfl (mj_iload_n d24_12 rfl (mj_iald d24_13 w_6 (mj_iconst d24_14 (mj_icne d24_15 (mj_iinc [some (.ref 3), some (.int (x1 + (nI 1)))] d24_20 rfl rfl rfl (mj_goto d24_23 rfl)) (mj_iload_n d24_18 rfl (mj_iret d24_19)))))))))))
/-- SqueezedLines.placeOfWords(II)I -/
theorem f25 : mj_cd 25 = mj_c25 := rfl
theorem d25_0 : mj_At 25 0 (.iload_n 0) 1 [0] (.null) := ⟨1, (congrArg (fun z => mj_at z 0) f25).trans rfl, rfl⟩
theorem d25_1 : mj_At 25 1 (.bipush (8)) 3 [] (.int 8) := ⟨2, (congrArg (fun z => mj_at z 1) f25).trans rfl, rfl⟩
theorem d25_3 : mj_At 25 3 (.imul) 4 [] (.null) := ⟨1, (congrArg (fun z => mj_at z 3) f25).trans rfl, rfl⟩
theorem d25_4 : mj_At 25 4 (.iload_n 1) 5 [1] (.null) := ⟨1, (congrArg (fun z => mj_at z 4) f25).trans rfl, rfl⟩
theorem d25_5 : mj_At 25 5 (.iadd) 6 [] (.null) := ⟨1, (congrArg (fun z => mj_at z 5) f25).trans rfl, rfl⟩
theorem d25_6 : mj_At 25 6 (.bipush (8)) 8 [] (.int 8) := ⟨2, (congrArg (fun z => mj_at z 6) f25).trans rfl, rfl⟩
theorem d25_8 : mj_At 25 8 (.imul) 9 [] (.null) := ⟨1, (congrArg (fun z => mj_at z 8) f25).trans rfl, rfl⟩
theorem d25_9 : mj_At 25 9 (.ireturn) 10 [0] (.null) := ⟨1, (congrArg (fun z => mj_at z 9) f25).trans rfl, rfl⟩
theorem e25_0 {c : mj_C} {x0 : Int32} {x1 : Int32} {L : Nat} {ps : List (Option (Option Nat))} {rest : List mj_K}   : mj_EV 25 0 [some (.int x0), some (.int x1)] [] (w_sh L ps rest) c = (some (some (.int (((x0 * (nI 8)) + x1) * (nI 8))), (w_sh L ps rest), c)) := (mj_iload_n d25_0 rfl (mj_bipush d25_1 (mj_imul d25_3 (mj_iload_n d25_4 rfl (mj_iadd d25_5 (mj_bipush d25_6 (mj_imul d25_8 (mj_iret d25_9))))))))
/-- SqueezedLines$State.makePage(I)V -/
theorem f28 : mj_cd 28 = mj_c28 := rfl
theorem d28_0 : mj_At 28 0 (.aload_n 0) 1 [0] (.null) := ⟨1, (congrArg (fun z => mj_at z 0) f28).trans rfl, rfl⟩
theorem d28_1 : mj_At 28 1 (.getfield 27) 4 [2, 5, 52] (.null) := ⟨3, (congrArg (fun z => mj_at z 1) f28).trans rfl, rfl⟩
theorem d28_4 : mj_At 28 4 (.iload_n 1) 5 [1] (.null) := ⟨1, (congrArg (fun z => mj_at z 4) f28).trans rfl, rfl⟩
theorem d28_5 : mj_At 28 5 (.iconst (0)) 6 [] (.int 0) := ⟨1, (congrArg (fun z => mj_at z 5) f28).trans rfl, rfl⟩
theorem d28_6 : mj_At 28 6 (.invokestatic 59) 9 [3, 25, 2, 1, 234, 18] (.null) := ⟨3, (congrArg (fun z => mj_at z 6) f28).trans rfl, rfl⟩
theorem d28_9 : mj_At 28 9 (.iload_n 1) 10 [1] (.null) := ⟨1, (congrArg (fun z => mj_at z 9) f28).trans rfl, rfl⟩
theorem d28_10 : mj_At 28 10 (.iconst (1)) 11 [] (.int 1) := ⟨1, (congrArg (fun z => mj_at z 10) f28).trans rfl, rfl⟩
theorem d28_11 : mj_At 28 11 (.iadd) 12 [] (.null) := ⟨1, (congrArg (fun z => mj_at z 11) f28).trans rfl, rfl⟩
theorem d28_12 : mj_At 28 12 (.iconst (0)) 13 [] (.int 0) := ⟨1, (congrArg (fun z => mj_at z 12) f28).trans rfl, rfl⟩
theorem d28_13 : mj_At 28 13 (.invokestatic 59) 16 [3, 25, 2, 1, 234, 18] (.null) := ⟨3, (congrArg (fun z => mj_at z 13) f28).trans rfl, rfl⟩
theorem d28_16 : mj_At 28 16 (.iconst (0)) 17 [] (.int 0) := ⟨1, (congrArg (fun z => mj_at z 16) f28).trans rfl, rfl⟩
theorem d28_17 : mj_At 28 17 (.invokestatic 63) 20 [0, 27, 4, 236, 237, 20] (.null) := ⟨3, (congrArg (fun z => mj_at z 17) f28).trans rfl, rfl⟩
theorem d28_20 : mj_At 28 20 (.aload_n 0) 21 [0] (.null) := ⟨1, (congrArg (fun z => mj_at z 20) f28).trans rfl, rfl⟩
theorem d28_21 : mj_At 28 21 (.getfield 31) 24 [2, 6, 54] (.null) := ⟨3, (congrArg (fun z => mj_at z 21) f28).trans rfl, rfl⟩
theorem d28_24 : mj_At 28 24 (.iload_n 1) 25 [1] (.null) := ⟨1, (congrArg (fun z => mj_at z 24) f28).trans rfl, rfl⟩
theorem d28_25 : mj_At 28 25 (.invokestatic 66) 28 [3, 7, 1, 2, 165, 18] (.null) := ⟨3, (congrArg (fun z => mj_at z 25) f28).trans rfl, rfl⟩
theorem d28_28 : mj_At 28 28 (.iload_n 1) 29 [1] (.null) := ⟨1, (congrArg (fun z => mj_at z 28) f28).trans rfl, rfl⟩
theorem d28_29 : mj_At 28 29 (.iconst (1)) 30 [] (.int 1) := ⟨1, (congrArg (fun z => mj_at z 29) f28).trans rfl, rfl⟩
theorem d28_30 : mj_At 28 30 (.iadd) 31 [] (.null) := ⟨1, (congrArg (fun z => mj_at z 30) f28).trans rfl, rfl⟩
theorem d28_31 : mj_At 28 31 (.invokestatic 66) 34 [3, 7, 1, 2, 165, 18] (.null) := ⟨3, (congrArg (fun z => mj_at z 31) f28).trans rfl, rfl⟩
theorem d28_34 : mj_At 28 34 (.iconst (0)) 35 [] (.int 0) := ⟨1, (congrArg (fun z => mj_at z 34) f28).trans rfl, rfl⟩
theorem d28_35 : mj_At 28 35 (.invokestatic 63) 38 [0, 27, 4, 236, 237, 20] (.null) := ⟨3, (congrArg (fun z => mj_at z 35) f28).trans rfl, rfl⟩
theorem d28_38 : mj_At 28 38 (.aload_n 0) 39 [0] (.null) := ⟨1, (congrArg (fun z => mj_at z 38) f28).trans rfl, rfl⟩
theorem d28_39 : mj_At 28 39 (.getfield 34) 42 [2, 7, 56] (.null) := ⟨3, (congrArg (fun z => mj_at z 39) f28).trans rfl, rfl⟩
theorem d28_42 : mj_At 28 42 (.iload_n 1) 43 [1] (.null) := ⟨1, (congrArg (fun z => mj_at z 42) f28).trans rfl, rfl⟩
theorem d28_43 : mj_At 28 43 (.iconst (0)) 44 [] (.int 0) := ⟨1, (congrArg (fun z => mj_at z 43) f28).trans rfl, rfl⟩
theorem d28_44 : mj_At 28 44 (.iastore) 45 [] (.null) := ⟨1, (congrArg (fun z => mj_at z 44) f28).trans rfl, rfl⟩
theorem d28_45 : mj_At 28 45 (.return_) 46 [] (.null) := ⟨1, (congrArg (fun z => mj_at z 45) f28).trans rfl, rfl⟩
theorem e28_0 {c : mj_C} {x1 : Int32} {L : Nat} {ps : List (Option (Option Nat))} {rest : List mj_K}   : mj_EV 28 0 [some (.ref 3), some (.int x1)] [] (w_sh L ps rest) c = (mj_then 28 9 [some (.ref 3), some (.int x1)] [.ref 4] (mj_EV 25 0 [some (.int x1), some (.int (nI 0))] [] (w_sh L ps rest) c)) := (mj_aload_n d28_0 rfl (mj_getR d28_1 w_3 rfl (mj_iload_n d28_4 rfl (mj_iconst d28_5 (mj_invS [some (.int x1), some (.int (nI 0))] [.ref 4] d28_6 (by decide) rfl rfl rfl rfl)))))
theorem e28_9 {c : mj_C} {x1 : Int32} {z1 : Int32} {L : Nat} {ps : List (Option (Option Nat))} {rest : List mj_K}   : mj_EV 28 9 [some (.ref 3), some (.int x1)] [.int z1, .ref 4] (w_sh L ps rest) c = (mj_then 28 16 [some (.ref 3), some (.int x1)] [.int z1, .ref 4] (mj_EV 25 0 [some (.int (x1 + (nI 1))), some (.int (nI 0))] [] (w_sh L ps rest) c)) := (mj_iload_n d28_9 rfl (mj_iconst d28_10 (mj_iadd d28_11 (mj_iconst d28_12 (mj_invS [some (.int (x1 + (nI 1))), some (.int (nI 0))] [.int z1, .ref 4] d28_13 (by decide) rfl rfl rfl rfl)))))
theorem e28_16 {c : mj_C} {x1 : Int32} {z1 : Int32} {z2 : Int32} {L : Nat} {ps : List (Option (Option Nat))} {rest : List mj_K}   : mj_EV 28 16 [some (.ref 3), some (.int x1)] [.int z2, .int z1, .ref 4] (w_sh L ps rest) c = (mj_then 28 20 [some (.ref 3), some (.int x1)] [] (mj_EV 27 0 [some (.ref 4), some (.int z1), some (.int z2), some (.int (nI 0)), none] [] (w_sh L ps rest) c)) := (mj_iconst d28_16 (mj_invS [some (.ref 4), some (.int z1), some (.int z2), some (.int (nI 0)), none] [] d28_17 (by decide) rfl rfl rfl rfl))
theorem e28_20 {c : mj_C} {x1 : Int32} {L : Nat} {ps : List (Option (Option Nat))} {rest : List mj_K}   : mj_EV 28 20 [some (.ref 3), some (.int x1)] [] (w_sh L ps rest) c = (mj_then 28 28 [some (.ref 3), some (.int x1)] [.ref 5] (mj_EV 7 0 [some (.int x1)] [] (w_sh L ps rest) c)) := (mj_aload_n d28_20 rfl (mj_getR d28_21 w_3 rfl (mj_iload_n d28_24 rfl (mj_invS [some (.int x1)] [.ref 5] d28_25 (by decide) rfl rfl rfl rfl))))
theorem e28_28 {c : mj_C} {x1 : Int32} {z1 : Int32} {L : Nat} {ps : List (Option (Option Nat))} {rest : List mj_K}   : mj_EV 28 28 [some (.ref 3), some (.int x1)] [.int z1, .ref 5] (w_sh L ps rest) c = (mj_then 28 34 [some (.ref 3), some (.int x1)] [.int z1, .ref 5] (mj_EV 7 0 [some (.int (x1 + (nI 1)))] [] (w_sh L ps rest) c)) := (mj_iload_n d28_28 rfl (mj_iconst d28_29 (mj_iadd d28_30 (mj_invS [some (.int (x1 + (nI 1)))] [.int z1, .ref 5] d28_31 (by decide) rfl rfl rfl rfl))))
theorem e28_34 {c : mj_C} {x1 : Int32} {z1 : Int32} {z2 : Int32} {L : Nat} {ps : List (Option (Option Nat))} {rest : List mj_K}   : mj_EV 28 34 [some (.ref 3), some (.int x1)] [.int z2, .int z1, .ref 5] (w_sh L ps rest) c = (mj_then 28 38 [some (.ref 3), some (.int x1)] [] (mj_EV 27 0 [some (.ref 5), some (.int z1), some (.int z2), some (.int (nI 0)), none] [] (w_sh L ps rest) c)) := (mj_iconst d28_34 (mj_invS [some (.ref 5), some (.int z1), some (.int z2), some (.int (nI 0)), none] [] d28_35 (by decide) rfl rfl rfl rfl))
theorem e28_38 {c : mj_C} {x1 : Int32} {L : Nat} {ps : List (Option (Option Nat))} {rest : List mj_K}   : mj_EV 28 38 [some (.ref 3), some (.int x1)] [] (w_sh L ps rest) c = (if mj_in x1 10 = true then (some (none, (w_sh L ps rest), (mj_u c 6 x1.toNatClampNeg (nI 0)))) else none) := (mj_aload_n d28_38 rfl (mj_getR d28_39 w_3 rfl (mj_iload_n d28_42 rfl (mj_iconst d28_43 (mj_iast d28_44 w_6 (mj_vret d28_45))))))
/-- SqueezedLines.newPage()I -/
theorem f29 : mj_cd 29 = mj_c29 := rfl
theorem d29_0 : mj_At 29 0 (.aload_n 0) 1 [0] (.null) := ⟨1, (congrArg (fun z => mj_at z 0) f29).trans rfl, rfl⟩
theorem d29_1 : mj_At 29 1 (.getfield 12) 4 [3, 0, 122] (.null) := ⟨3, (congrArg (fun z => mj_at z 1) f29).trans rfl, rfl⟩
theorem d29_4 : mj_At 29 4 (.invokevirtual 73) 7 [1, 24, 1, 2, 225, 226, 227, 19] (.null) := ⟨3, (congrArg (fun z => mj_at z 4) f29).trans rfl, rfl⟩
theorem d29_7 : mj_At 29 7 (.istore_n 1) 8 [1] (.null) := ⟨1, (congrArg (fun z => mj_at z 7) f29).trans rfl, rfl⟩
theorem d29_8 : mj_At 29 8 (.iload_n 1) 9 [1] (.null) := ⟨1, (congrArg (fun z => mj_at z 8) f29).trans rfl, rfl⟩
theorem d29_9 : mj_At 29 9 (.iconst (-1)) 10 [] (.int (-1)) := ⟨1, (congrArg (fun z => mj_at z 9) f29).trans rfl, rfl⟩
theorem d29_10 : mj_At 29 10 (.if_icmp .eq (16)) 13 [26] (.null) := ⟨3, (congrArg (fun z => mj_at z 10) f29).trans rfl, rfl⟩
theorem d29_13 : mj_At 29 13 (.aload_n 0) 14 [0] (.null) := ⟨1, (congrArg (fun z => mj_at z 13) f29).trans rfl, rfl⟩
theorem d29_14 : mj_At 29 14 (.aload_n 0) 15 [0] (.null) := ⟨1, (congrArg (fun z => mj_at z 14) f29).trans rfl, rfl⟩
theorem d29_15 : mj_At 29 15 (.invokevirtual 77) 18 [1, 16, 1, 3, 194, 196, 6, 18] (.null) := ⟨3, (congrArg (fun z => mj_at z 15) f29).trans rfl, rfl⟩
theorem d29_18 : mj_At 29 18 (.iconst (1)) 19 [] (.int 1) := ⟨1, (congrArg (fun z => mj_at z 18) f29).trans rfl, rfl⟩
theorem d29_19 : mj_At 29 19 (.iadd) 20 [] (.null) := ⟨1, (congrArg (fun z => mj_at z 19) f29).trans rfl, rfl⟩
theorem d29_20 : mj_At 29 20 (.invokevirtual 53) 23 [1, 17, 2, 3, 190, 192, 5, 18] (.null) := ⟨3, (congrArg (fun z => mj_at z 20) f29).trans rfl, rfl⟩
theorem d29_23 : mj_At 29 23 (.ifCond .eq (6)) 26 [29] (.null) := ⟨3, (congrArg (fun z => mj_at z 23) f29).trans rfl, rfl⟩
theorem d29_26 : mj_At 29 26 (.bipush (-4)) 28 [] (.int (-4)) := ⟨2, (congrArg (fun z => mj_at z 26) f29).trans rfl, rfl⟩
theorem d29_28 : mj_At 29 28 (.ireturn) 29 [0] (.null) := ⟨1, (congrArg (fun z => mj_at z 28) f29).trans rfl, rfl⟩
theorem d29_29 : mj_At 29 29 (.aload_n 0) 30 [0] (.null) := ⟨1, (congrArg (fun z => mj_at z 29) f29).trans rfl, rfl⟩
theorem d29_30 : mj_At 29 30 (.getfield 19) 33 [3, 1, 123] (.null) := ⟨3, (congrArg (fun z => mj_at z 30) f29).trans rfl, rfl⟩
theorem d29_33 : mj_At 29 33 (.aload_n 0) 34 [0] (.null) := ⟨1, (congrArg (fun z => mj_at z 33) f29).trans rfl, rfl⟩
theorem d29_34 : mj_At 29 34 (.getfield 12) 37 [3, 0, 122] (.null) := ⟨3, (congrArg (fun z => mj_at z 34) f29).trans rfl, rfl⟩
theorem d29_37 : mj_At 29 37 (.invokevirtual 56) 40 [1, 20, 2, 1, 198, 199, 200, 21] (.null) := ⟨3, (congrArg (fun z => mj_at z 37) f29).trans rfl, rfl⟩
theorem d29_40 : mj_At 29 40 (.aload_n 0) 41 [0] (.null) := ⟨1, (congrArg (fun z => mj_at z 40) f29).trans rfl, rfl⟩
theorem d29_41 : mj_At 29 41 (.getfield 12) 44 [3, 0, 122] (.null) := ⟨3, (congrArg (fun z => mj_at z 41) f29).trans rfl, rfl⟩
theorem d29_44 : mj_At 29 44 (.iload_n 1) 45 [1] (.null) := ⟨1, (congrArg (fun z => mj_at z 44) f29).trans rfl, rfl⟩
theorem d29_45 : mj_At 29 45 (.invokevirtual 80) 48 [1, 28, 2, 2, 229, 230, 231, 19] (.null) := ⟨3, (congrArg (fun z => mj_at z 45) f29).trans rfl, rfl⟩
theorem d29_48 : mj_At 29 48 (.iload_n 1) 49 [1] (.null) := ⟨1, (congrArg (fun z => mj_at z 48) f29).trans rfl, rfl⟩
theorem d29_49 : mj_At 29 49 (.ireturn) 50 [0] (.null) := ⟨1, (congrArg (fun z => mj_at z 49) f29).trans rfl, rfl⟩
theorem e29_0 {c : mj_C}  {L : Nat} {ps : List (Option (Option Nat))} {rest : List mj_K}   : mj_EV 29 0 [some (.ref 2), none] [] (w_sh L ps rest) c = (mj_then 29 7 [some (.ref 2), none] [] (mj_EV 24 0 [some (.ref 3), none] [] (w_sh L ps rest) c)) := (mj_aload_n d29_0 rfl (mj_getR d29_1 w_2 rfl (mj_invV [some (.ref 3), none] [] d29_4 rfl rfl rfl w_3 rfl rfl)))
theorem e29_7 {c : mj_C} {z0 : Int32} {L : Nat} {ps : List (Option (Option Nat))} {rest : List mj_K}   : mj_EV 29 7 [some (.ref 2), none] [.int z0] (w_sh L ps rest) c = (if z0 = (-1) then (some (some (.int (-4)), (w_sh L ps rest), c)) else (mj_then 29 18 [some (.ref 2), some (.int z0)] [.ref 2] (mj_EV 16 0 [some (.ref 2), none, none] [] (w_sh L ps rest) c))) := (mj_istore_n [some (.ref 2), some (.int z0)] d29_7 rfl rfl (mj_iload_n d29_8 rfl (mj_iconst d29_9 (mj_iceq d29_10 (mj_bipush d29_26 (mj_iret d29_28)) (mj_aload_n d29_13 rfl (mj_aload_n d29_14 rfl (mj_invV [some (.ref 2), none, none] [.ref 2] d29_15 rfl rfl rfl w_2 rfl rfl)))))))
theorem e29_18 {c : mj_C} {x1 : Int32} {z1 : Int32} {L : Nat} {ps : List (Option (Option Nat))} {rest : List mj_K}   : mj_EV 29 18 [some (.ref 2), some (.int x1)] [.int z1, .ref 2] (w_sh L ps rest) c = (mj_then 29 23 [some (.ref 2), some (.int x1)] [] (mj_EV 17 0 [some (.ref 2), some (.int (z1 + (nI 1)))] [] (w_sh L ps rest) c)) := (mj_iconst d29_18 (mj_iadd d29_19 (mj_invV [some (.ref 2), some (.int (z1 + (nI 1)))] [] d29_20 rfl rfl rfl w_2 rfl rfl)))
theorem e29_23 {c : mj_C} {x1 : Int32} {z0 : Int32} {L : Nat} {ps : List (Option (Option Nat))} {rest : List mj_K}   : mj_EV 29 23 [some (.ref 2), some (.int x1)] [.int z0] (w_sh L ps rest) c = (if z0 = nI 0 then (mj_then 29 40 [some (.ref 2), some (.int x1)] [] (mj_EV 20 0 [some (.ref 9), some (.ref 3)] [] (w_sh L ps rest) c)) else (some (some (.int (-4)), (w_sh L ps rest), c))) := (mj_ifeq d29_23 (mj_aload_n d29_29 rfl (mj_getR d29_30 w_2 rfl (mj_aload_n d29_33 rfl (mj_getR d29_34 w_2 rfl (mj_invV [some (.ref 9), some (.ref 3)] [] d29_37 rfl rfl rfl w_9 rfl rfl))))) (mj_bipush d29_26 (mj_iret d29_28)))
theorem e29_40 {c : mj_C} {x1 : Int32} {L : Nat} {ps : List (Option (Option Nat))} {rest : List mj_K}   : mj_EV 29 40 [some (.ref 2), some (.int x1)] [] (w_sh L ps rest) c = (mj_then 29 48 [some (.ref 2), some (.int x1)] [] (mj_EV 28 0 [some (.ref 3), some (.int x1)] [] (w_sh L ps rest) c)) := (mj_aload_n d29_40 rfl (mj_getR d29_41 w_2 rfl (mj_iload_n d29_44 rfl (mj_invV [some (.ref 3), some (.int x1)] [] d29_45 rfl rfl rfl w_3 rfl rfl))))
theorem e29_48 {c : mj_C} {x1 : Int32} {L : Nat} {ps : List (Option (Option Nat))} {rest : List mj_K}   : mj_EV 29 48 [some (.ref 2), some (.int x1)] [] (w_sh L ps rest) c = (some (some (.int x1), (w_sh L ps rest), c)) := (mj_iload_n d29_48 rfl (mj_iret d29_49))
/-- SqueezedLines$State.removePage(I)V -/
theorem f30 : mj_cd 30 = mj_c30 := rfl
theorem d30_0 : mj_At 30 0 (.aload_n 0) 1 [0] (.null) := ⟨1, (congrArg (fun z => mj_at z 0) f30).trans rfl, rfl⟩
theorem d30_1 : mj_At 30 1 (.getfield 34) 4 [2, 7, 56] (.null) := ⟨3, (congrArg (fun z => mj_at z 1) f30).trans rfl, rfl⟩
theorem d30_4 : mj_At 30 4 (.iload_n 1) 5 [1] (.null) := ⟨1, (congrArg (fun z => mj_at z 4) f30).trans rfl, rfl⟩
theorem d30_5 : mj_At 30 5 (.iconst (-1)) 6 [] (.int (-1)) := ⟨1, (congrArg (fun z => mj_at z 5) f30).trans rfl, rfl⟩
theorem d30_6 : mj_At 30 6 (.iastore) 7 [] (.null) := ⟨1, (congrArg (fun z => mj_at z 6) f30).trans rfl, rfl⟩
theorem d30_7 : mj_At 30 7 (.aload_n 0) 8 [0] (.null) := ⟨1, (congrArg (fun z => mj_at z 7) f30).trans rfl, rfl⟩
theorem d30_8 : mj_At 30 8 (.getfield 37) 11 [2, 8, 58] (.null) := ⟨3, (congrArg (fun z => mj_at z 8) f30).trans rfl, rfl⟩
theorem d30_11 : mj_At 30 11 (.iload_n 1) 12 [1] (.null) := ⟨1, (congrArg (fun z => mj_at z 11) f30).trans rfl, rfl⟩
theorem d30_12 : mj_At 30 12 (.iconst (4)) 13 [] (.int 4) := ⟨1, (congrArg (fun z => mj_at z 12) f30).trans rfl, rfl⟩
theorem d30_13 : mj_At 30 13 (.irem) 14 [] (.null) := ⟨1, (congrArg (fun z => mj_at z 13) f30).trans rfl, rfl⟩
theorem d30_14 : mj_At 30 14 (.iaload) 15 [] (.null) := ⟨1, (congrArg (fun z => mj_at z 14) f30).trans rfl, rfl⟩
theorem d30_15 : mj_At 30 15 (.iload_n 1) 16 [1] (.null) := ⟨1, (congrArg (fun z => mj_at z 15) f30).trans rfl, rfl⟩
theorem d30_16 : mj_At 30 16 (.if_icmp .ne (12)) 19 [28] (.null) := ⟨3, (congrArg (fun z => mj_at z 16) f30).trans rfl, rfl⟩
theorem d30_19 : mj_At 30 19 (.aload_n 0) 20 [0] (.null) := ⟨1, (congrArg (fun z => mj_at z 19) f30).trans rfl, rfl⟩
theorem d30_20 : mj_At 30 20 (.getfield 37) 23 [2, 8, 58] (.null) := ⟨3, (congrArg (fun z => mj_at z 20) f30).trans rfl, rfl⟩
theorem d30_23 : mj_At 30 23 (.iload_n 1) 24 [1] (.null) := ⟨1, (congrArg (fun z => mj_at z 23) f30).trans rfl, rfl⟩
theorem d30_24 : mj_At 30 24 (.iconst (4)) 25 [] (.int 4) := ⟨1, (congrArg (fun z => mj_at z 24) f30).trans rfl, rfl⟩
theorem d30_25 : mj_At 30 25 (.irem) 26 [] (.null) := ⟨1, (congrArg (fun z => mj_at z 25) f30).trans rfl, rfl⟩
theorem d30_26 : mj_At 30 26 (.iconst (-1)) 27 [] (.int (-1)) := ⟨1, (congrArg (fun z => mj_at z 26) f30).trans rfl, rfl⟩
theorem d30_27 : mj_At 30 27 (.iastore) 28 [] (.null) := ⟨1, (congrArg (fun z => mj_at z 27) f30).trans rfl, rfl⟩
theorem d30_28 : mj_At 30 28 (.return_) 29 [] (.null) := ⟨1, (congrArg (fun z => mj_at z 28) f30).trans rfl, rfl⟩
theorem e30_0 {c : mj_C} {x1 : Int32} {L : Nat} {ps : List (Option (Option Nat))} {rest : List mj_K}   : mj_EV 30 0 [some (.ref 3), some (.int x1)] [] (w_sh L ps rest) c = (if mj_in x1 10 = true then (if (!decide ((nI 4) = nI 0)) = true then (if mj_in (x1 - x1 / (nI 4) * (nI 4)) 4 = true then (if ((mj_u c 6 x1.toNatClampNeg (-1)) 7 (x1 - x1 / (nI 4) * (nI 4)).toNatClampNeg) = x1 then (if (!decide ((nI 4) = nI 0)) = true then (if mj_in (x1 - x1 / (nI 4) * (nI 4)) 4 = true then (some (none, (w_sh L ps rest), (mj_u (mj_u c 6 x1.toNatClampNeg (-1)) 7 (x1 - x1 / (nI 4) * (nI 4)).toNatClampNeg (-1)))) else none) else none) else (some (none, (w_sh L ps rest), (mj_u c 6 x1.toNatClampNeg (-1))))) else none) else none) else none) := (mj_aload_n d30_0 rfl (mj_getR d30_1 w_3 rfl (mj_iload_n d30_4 rfl (mj_iconst d30_5 (mj_iast d30_6 w_6 (mj_aload_n d30_7 rfl (mj_getR d30_8 w_3 rfl (mj_iload_n d30_11 rfl (mj_iconst d30_12 (mj_irem d30_13 (mj_iald d30_14 w_7 (mj_iload_n d30_15 rfl (mj_icne d30_16 (mj_vret d30_28) (mj_aload_n d30_19 rfl (mj_getR d30_20 w_3 rfl (mj_iload_n d30_23 rfl (mj_iconst d30_24 (mj_irem d30_25 (mj_iconst d30_26 (mj_iast d30_27 w_7 (mj_vret d30_28)))))))))))))))))))))
/-- SqueezedLines.free(I)I -/
theorem f31 : mj_cd 31 = mj_c31 := rfl
theorem d31_0 : mj_At 31 0 (.aload_n 0) 1 [0] (.null) := ⟨1, (congrArg (fun z => mj_at z 0) f31).trans rfl, rfl⟩
theorem d31_1 : mj_At 31 1 (.getfield 12) 4 [3, 0, 122] (.null) := ⟨3, (congrArg (fun z => mj_at z 1) f31).trans rfl, rfl⟩
theorem d31_4 : mj_At 31 4 (.iload_n 1) 5 [1] (.null) := ⟨1, (congrArg (fun z => mj_at z 4) f31).trans rfl, rfl⟩
theorem d31_5 : mj_At 31 5 (.invokevirtual 63) 8 [1, 6, 2, 2, 156, 157, 158, 19] (.null) := ⟨3, (congrArg (fun z => mj_at z 5) f31).trans rfl, rfl⟩
theorem d31_8 : mj_At 31 8 (.ifCond .ne (5)) 11 [13] (.null) := ⟨3, (congrArg (fun z => mj_at z 8) f31).trans rfl, rfl⟩
theorem d31_11 : mj_At 31 11 (.iconst (-1)) 12 [] (.int (-1)) := ⟨1, (congrArg (fun z => mj_at z 11) f31).trans rfl, rfl⟩
theorem d31_12 : mj_At 31 12 (.ireturn) 13 [0] (.null) := ⟨1, (congrArg (fun z => mj_at z 12) f31).trans rfl, rfl⟩
theorem d31_13 : mj_At 31 13 (.aload_n 0) 14 [0] (.null) := ⟨1, (congrArg (fun z => mj_at z 13) f31).trans rfl, rfl⟩
theorem d31_14 : mj_At 31 14 (.getfield 19) 17 [3, 1, 123] (.null) := ⟨3, (congrArg (fun z => mj_at z 14) f31).trans rfl, rfl⟩
theorem d31_17 : mj_At 31 17 (.aload_n 0) 18 [0] (.null) := ⟨1, (congrArg (fun z => mj_at z 17) f31).trans rfl, rfl⟩
theorem d31_18 : mj_At 31 18 (.getfield 12) 21 [3, 0, 122] (.null) := ⟨3, (congrArg (fun z => mj_at z 18) f31).trans rfl, rfl⟩
theorem d31_21 : mj_At 31 21 (.invokevirtual 56) 24 [1, 20, 2, 1, 198, 199, 200, 21] (.null) := ⟨3, (congrArg (fun z => mj_at z 21) f31).trans rfl, rfl⟩
theorem d31_24 : mj_At 31 24 (.aload_n 0) 25 [0] (.null) := ⟨1, (congrArg (fun z => mj_at z 24) f31).trans rfl, rfl⟩
theorem d31_25 : mj_At 31 25 (.iload_n 1) 26 [1] (.null) := ⟨1, (congrArg (fun z => mj_at z 25) f31).trans rfl, rfl⟩
theorem d31_26 : mj_At 31 26 (.invokevirtual 83) 29 [1, 14, 2, 3, 186, 188, 4, 18] (.null) := ⟨3, (congrArg (fun z => mj_at z 26) f31).trans rfl, rfl⟩
theorem d31_29 : mj_At 31 29 (.istore_n 2) 30 [2] (.null) := ⟨1, (congrArg (fun z => mj_at z 29) f31).trans rfl, rfl⟩
theorem d31_30 : mj_At 31 30 (.aload_n 0) 31 [0] (.null) := ⟨1, (congrArg (fun z => mj_at z 30) f31).trans rfl, rfl⟩
theorem d31_31 : mj_At 31 31 (.getfield 12) 34 [3, 0, 122] (.null) := ⟨3, (congrArg (fun z => mj_at z 31) f31).trans rfl, rfl⟩
theorem d31_34 : mj_At 31 34 (.iload_n 1) 35 [1] (.null) := ⟨1, (congrArg (fun z => mj_at z 34) f31).trans rfl, rfl⟩
theorem d31_35 : mj_At 31 35 (.invokevirtual 86) 38 [1, 30, 2, 2, 247, 248, 249, 19] (.null) := ⟨3, (congrArg (fun z => mj_at z 35) f31).trans rfl, rfl⟩
theorem d31_38 : mj_At 31 38 (.iload_n 2) 39 [2] (.null) := ⟨1, (congrArg (fun z => mj_at z 38) f31).trans rfl, rfl⟩
theorem d31_39 : mj_At 31 39 (.ireturn) 40 [0] (.null) := ⟨1, (congrArg (fun z => mj_at z 39) f31).trans rfl, rfl⟩
theorem e31_0 {c : mj_C} {x1 : Int32} {L : Nat} {ps : List (Option (Option Nat))} {rest : List mj_K}   : mj_EV 31 0 [some (.ref 2), some (.int x1), none] [] (w_sh L ps rest) c = (mj_then 31 8 [some (.ref 2), some (.int x1), none] [] (mj_EV 6 0 [some (.ref 3), some (.int x1)] [] (w_sh L ps rest) c)) := (mj_aload_n d31_0 rfl (mj_getR d31_1 w_2 rfl (mj_iload_n d31_4 rfl (mj_invV [some (.ref 3), some (.int x1)] [] d31_5 rfl rfl rfl w_3 rfl rfl))))
theorem e31_8 {c : mj_C} {x1 : Int32} {z0 : Int32} {L : Nat} {ps : List (Option (Option Nat))} {rest : List mj_K}   : mj_EV 31 8 [some (.ref 2), some (.int x1), none] [.int z0] (w_sh L ps rest) c = (if z0 = nI 0 then (some (some (.int (-1)), (w_sh L ps rest), c)) else (mj_then 31 24 [some (.ref 2), some (.int x1), none] [] (mj_EV 20 0 [some (.ref 9), some (.ref 3)] [] (w_sh L ps rest) c))) := (mj_ifne d31_8 (mj_aload_n d31_13 rfl (mj_getR d31_14 w_2 rfl (mj_aload_n d31_17 rfl (mj_getR d31_18 w_2 rfl (mj_invV [some (.ref 9), some (.ref 3)] [] d31_21 rfl rfl rfl w_9 rfl rfl))))) (mj_iconst d31_11 (mj_iret d31_12)))
theorem e31_24 {c : mj_C} {x1 : Int32} {L : Nat} {ps : List (Option (Option Nat))} {rest : List mj_K}   : mj_EV 31 24 [some (.ref 2), some (.int x1), none] [] (w_sh L ps rest) c = (mj_then 31 29 [some (.ref 2), some (.int x1), none] [] (mj_EV 14 0 [some (.ref 2), some (.int x1)] [] (w_sh L ps rest) c)) := (mj_aload_n d31_24 rfl (mj_iload_n d31_25 rfl (mj_invV [some (.ref 2), some (.int x1)] [] d31_26 rfl rfl rfl w_2 rfl rfl)))
theorem e31_29 {c : mj_C} {x1 : Int32} {z0 : Int32} {L : Nat} {ps : List (Option (Option Nat))} {rest : List mj_K}   : mj_EV 31 29 [some (.ref 2), some (.int x1), none] [.int z0] (w_sh L ps rest) c = (mj_then 31 38 [some (.ref 2), some (.int x1), some (.int z0)] [] (mj_EV 30 0 [some (.ref 3), some (.int x1)] [] (w_sh L ps rest) c)) := (mj_istore_n [some (.ref 2), some (.int x1), some (.int z0)] d31_29 rfl rfl (mj_aload_n d31_30 rfl (mj_getR d31_31 w_2 rfl (mj_iload_n d31_34 rfl (mj_invV [some (.ref 3), some (.int x1)] [] d31_35 rfl rfl rfl w_3 rfl rfl)))))
theorem e31_38 {c : mj_C} {x1 : Int32} {x2 : Int32} {L : Nat} {ps : List (Option (Option Nat))} {rest : List mj_K}   : mj_EV 31 38 [some (.ref 2), some (.int x1), some (.int x2)] [] (w_sh L ps rest) c = (some (some (.int x2), (w_sh L ps rest), c)) := (mj_iload_n d31_38 rfl (mj_iret d31_39))
/-- SqueezedLines.layAnew(I)I -/
theorem f32 : mj_cd 32 = mj_c32 := rfl
theorem d32_0 : mj_At 32 0 (.aload_n 0) 1 [0] (.null) := ⟨1, (congrArg (fun z => mj_at z 0) f32).trans rfl, rfl⟩
theorem d32_1 : mj_At 32 1 (.getfield 12) 4 [3, 0, 122] (.null) := ⟨3, (congrArg (fun z => mj_at z 1) f32).trans rfl, rfl⟩
theorem d32_4 : mj_At 32 4 (.iload_n 1) 5 [1] (.null) := ⟨1, (congrArg (fun z => mj_at z 4) f32).trans rfl, rfl⟩
theorem d32_5 : mj_At 32 5 (.invokevirtual 63) 8 [1, 6, 2, 2, 156, 157, 158, 19] (.null) := ⟨3, (congrArg (fun z => mj_at z 5) f32).trans rfl, rfl⟩
theorem d32_8 : mj_At 32 8 (.ifCond .ne (5)) 11 [13] (.null) := ⟨3, (congrArg (fun z => mj_at z 8) f32).trans rfl, rfl⟩
theorem d32_11 : mj_At 32 11 (.iconst (-1)) 12 [] (.int (-1)) := ⟨1, (congrArg (fun z => mj_at z 11) f32).trans rfl, rfl⟩
theorem d32_12 : mj_At 32 12 (.ireturn) 13 [0] (.null) := ⟨1, (congrArg (fun z => mj_at z 12) f32).trans rfl, rfl⟩
theorem d32_13 : mj_At 32 13 (.aload_n 0) 14 [0] (.null) := ⟨1, (congrArg (fun z => mj_at z 13) f32).trans rfl, rfl⟩
theorem d32_14 : mj_At 32 14 (.getfield 19) 17 [3, 1, 123] (.null) := ⟨3, (congrArg (fun z => mj_at z 14) f32).trans rfl, rfl⟩
theorem d32_17 : mj_At 32 17 (.aload_n 0) 18 [0] (.null) := ⟨1, (congrArg (fun z => mj_at z 17) f32).trans rfl, rfl⟩
theorem d32_18 : mj_At 32 18 (.getfield 12) 21 [3, 0, 122] (.null) := ⟨3, (congrArg (fun z => mj_at z 18) f32).trans rfl, rfl⟩
theorem d32_21 : mj_At 32 21 (.invokevirtual 56) 24 [1, 20, 2, 1, 198, 199, 200, 21] (.null) := ⟨3, (congrArg (fun z => mj_at z 21) f32).trans rfl, rfl⟩
theorem d32_24 : mj_At 32 24 (.aload_n 0) 25 [0] (.null) := ⟨1, (congrArg (fun z => mj_at z 24) f32).trans rfl, rfl⟩
theorem d32_25 : mj_At 32 25 (.getfield 12) 28 [3, 0, 122] (.null) := ⟨3, (congrArg (fun z => mj_at z 25) f32).trans rfl, rfl⟩
theorem d32_28 : mj_At 32 28 (.getfield 89) 31 [2, 7, 57] (.null) := ⟨3, (congrArg (fun z => mj_at z 28) f32).trans rfl, rfl⟩
theorem d32_31 : mj_At 32 31 (.iload_n 1) 32 [1] (.null) := ⟨1, (congrArg (fun z => mj_at z 31) f32).trans rfl, rfl⟩
theorem d32_32 : mj_At 32 32 (.iaload) 33 [] (.null) := ⟨1, (congrArg (fun z => mj_at z 32) f32).trans rfl, rfl⟩
theorem d32_33 : mj_At 32 33 (.istore_n 2) 34 [2] (.null) := ⟨1, (congrArg (fun z => mj_at z 33) f32).trans rfl, rfl⟩
theorem d32_34 : mj_At 32 34 (.aload_n 0) 35 [0] (.null) := ⟨1, (congrArg (fun z => mj_at z 34) f32).trans rfl, rfl⟩
theorem d32_35 : mj_At 32 35 (.getfield 12) 38 [3, 0, 122] (.null) := ⟨3, (congrArg (fun z => mj_at z 35) f32).trans rfl, rfl⟩
theorem d32_38 : mj_At 32 38 (.getfield 89) 41 [2, 7, 57] (.null) := ⟨3, (congrArg (fun z => mj_at z 38) f32).trans rfl, rfl⟩
theorem d32_41 : mj_At 32 41 (.iload_n 1) 42 [1] (.null) := ⟨1, (congrArg (fun z => mj_at z 41) f32).trans rfl, rfl⟩
theorem d32_42 : mj_At 32 42 (.aload_n 0) 43 [0] (.null) := ⟨1, (congrArg (fun z => mj_at z 42) f32).trans rfl, rfl⟩
theorem d32_43 : mj_At 32 43 (.iload_n 1) 44 [1] (.null) := ⟨1, (congrArg (fun z => mj_at z 43) f32).trans rfl, rfl⟩
theorem d32_44 : mj_At 32 44 (.aload_n 0) 45 [0] (.null) := ⟨1, (congrArg (fun z => mj_at z 44) f32).trans rfl, rfl⟩
theorem d32_45 : mj_At 32 45 (.getfield 12) 48 [3, 0, 122] (.null) := ⟨3, (congrArg (fun z => mj_at z 45) f32).trans rfl, rfl⟩
theorem d32_48 : mj_At 32 48 (.getfield 60) 51 [2, 0, 43] (.null) := ⟨3, (congrArg (fun z => mj_at z 48) f32).trans rfl, rfl⟩
theorem d32_51 : mj_At 32 51 (.invokevirtual 92) 54 [1, 12, 3, 3, 176, 178, 3, 18] (.null) := ⟨3, (congrArg (fun z => mj_at z 51) f32).trans rfl, rfl⟩
theorem d32_54 : mj_At 32 54 (.iastore) 55 [] (.null) := ⟨1, (congrArg (fun z => mj_at z 54) f32).trans rfl, rfl⟩
theorem d32_55 : mj_At 32 55 (.iload_n 2) 56 [2] (.null) := ⟨1, (congrArg (fun z => mj_at z 55) f32).trans rfl, rfl⟩
theorem d32_56 : mj_At 32 56 (.ireturn) 57 [0] (.null) := ⟨1, (congrArg (fun z => mj_at z 56) f32).trans rfl, rfl⟩
theorem e32_0 {c : mj_C} {x1 : Int32} {L : Nat} {ps : List (Option (Option Nat))} {rest : List mj_K}   : mj_EV 32 0 [some (.ref 2), some (.int x1), none] [] (w_sh L ps rest) c = (mj_then 32 8 [some (.ref 2), some (.int x1), none] [] (mj_EV 6 0 [some (.ref 3), some (.int x1)] [] (w_sh L ps rest) c)) := (mj_aload_n d32_0 rfl (mj_getR d32_1 w_2 rfl (mj_iload_n d32_4 rfl (mj_invV [some (.ref 3), some (.int x1)] [] d32_5 rfl rfl rfl w_3 rfl rfl))))
theorem e32_8 {c : mj_C} {x1 : Int32} {z0 : Int32} {L : Nat} {ps : List (Option (Option Nat))} {rest : List mj_K}   : mj_EV 32 8 [some (.ref 2), some (.int x1), none] [.int z0] (w_sh L ps rest) c = (if z0 = nI 0 then (some (some (.int (-1)), (w_sh L ps rest), c)) else (mj_then 32 24 [some (.ref 2), some (.int x1), none] [] (mj_EV 20 0 [some (.ref 9), some (.ref 3)] [] (w_sh L ps rest) c))) := (mj_ifne d32_8 (mj_aload_n d32_13 rfl (mj_getR d32_14 w_2 rfl (mj_aload_n d32_17 rfl (mj_getR d32_18 w_2 rfl (mj_invV [some (.ref 9), some (.ref 3)] [] d32_21 rfl rfl rfl w_9 rfl rfl))))) (mj_iconst d32_11 (mj_iret d32_12)))
theorem e32_24 {c : mj_C} {x1 : Int32} {L : Nat} {ps : List (Option (Option Nat))} {rest : List mj_K}   : mj_EV 32 24 [some (.ref 2), some (.int x1), none] [] (w_sh L ps rest) c = (if mj_in x1 10 = true then (mj_then 32 54 [some (.ref 2), some (.int x1), some (.int (c 6 x1.toNatClampNeg))] [.int x1, .ref 6] (mj_EV 12 0 [some (.ref 2), some (.int x1), some (.int (c 3 0))] [] (w_sh L ps rest) c)) else none) := (mj_aload_n d32_24 rfl (mj_getR d32_25 w_2 rfl (mj_getR d32_28 w_3 rfl (mj_iload_n d32_31 rfl (mj_iald d32_32 w_6 (mj_istore_n [some (.ref 2), some (.int x1), some (.int (c 6 x1.toNatClampNeg))] d32_33 rfl rfl (mj_aload_n d32_34 rfl (mj_getR d32_35 w_2 rfl (mj_getR d32_38 w_3 rfl (mj_iload_n d32_41 rfl (mj_aload_n d32_42 rfl (mj_iload_n d32_43 rfl (mj_aload_n d32_44 rfl (mj_getR d32_45 w_2 rfl (mj_getI d32_48 w_3 rfl (mj_invV [some (.ref 2), some (.int x1), some (.int (c 3 0))] [.int x1, .ref 6] d32_51 rfl rfl rfl w_2 rfl rfl))))))))))))))))
theorem e32_54 {c : mj_C} {x1 : Int32} {x2 : Int32} {z1 : Int32} {z2 : Int32} {L : Nat} {ps : List (Option (Option Nat))} {rest : List mj_K}   : mj_EV 32 54 [some (.ref 2), some (.int x1), some (.int x2)] [.int z2, .int z1, .ref 6] (w_sh L ps rest) c = (if mj_in z1 10 = true then (some (some (.int x2), (w_sh L ps rest), (mj_u c 6 z1.toNatClampNeg z2))) else none) := (mj_iast d32_54 w_6 (mj_iload_n d32_55 rfl (mj_iret d32_56)))
/-- SqueezedLines.layAllAnew()I -/
theorem f33 : mj_cd 33 = mj_c33 := rfl
theorem d33_0 : mj_At 33 0 (.aload_n 0) 1 [0] (.null) := ⟨1, (congrArg (fun z => mj_at z 0) f33).trans rfl, rfl⟩
theorem d33_1 : mj_At 33 1 (.getfield 19) 4 [3, 1, 123] (.null) := ⟨3, (congrArg (fun z => mj_at z 1) f33).trans rfl, rfl⟩
theorem d33_4 : mj_At 33 4 (.aload_n 0) 5 [0] (.null) := ⟨1, (congrArg (fun z => mj_at z 4) f33).trans rfl, rfl⟩
theorem d33_5 : mj_At 33 5 (.getfield 12) 8 [3, 0, 122] (.null) := ⟨3, (congrArg (fun z => mj_at z 5) f33).trans rfl, rfl⟩
theorem d33_8 : mj_At 33 8 (.invokevirtual 56) 11 [1, 20, 2, 1, 198, 199, 200, 21] (.null) := ⟨3, (congrArg (fun z => mj_at z 8) f33).trans rfl, rfl⟩
theorem d33_11 : mj_At 33 11 (.aload_n 0) 12 [0] (.null) := ⟨1, (congrArg (fun z => mj_at z 11) f33).trans rfl, rfl⟩
theorem d33_12 : mj_At 33 12 (.invokevirtual 77) 15 [1, 16, 1, 3, 194, 196, 6, 18] (.null) := ⟨3, (congrArg (fun z => mj_at z 12) f33).trans rfl, rfl⟩
theorem d33_15 : mj_At 33 15 (.istore_n 1) 16 [1] (.null) := ⟨1, (congrArg (fun z => mj_at z 15) f33).trans rfl, rfl⟩
theorem d33_16 : mj_At 33 16 (.iconst (0)) 17 [] (.int 0) := ⟨1, (congrArg (fun z => mj_at z 16) f33).trans rfl, rfl⟩
theorem d33_17 : mj_At 33 17 (.istore_n 2) 18 [2] (.null) := ⟨1, (congrArg (fun z => mj_at z 17) f33).trans rfl, rfl⟩
theorem d33_18 : mj_At 33 18 (.iload_n 2) 19 [2] (.null) := ⟨1, (congrArg (fun z => mj_at z 18) f33).trans rfl, rfl⟩
theorem d33_19 : mj_At 33 19 (.bipush (10)) 21 [] (.int 10) := ⟨2, (congrArg (fun z => mj_at z 19) f33).trans rfl, rfl⟩
theorem d33_21 : mj_At 33 21 (.if_icmp .ge (41)) 24 [62] (.null) := ⟨3, (congrArg (fun z => mj_at z 21) f33).trans rfl, rfl⟩
theorem d33_24 : mj_At 33 24 (.aload_n 0) 25 [0] (.null) := ⟨1, (congrArg (fun z => mj_at z 24) f33).trans rfl, rfl⟩
theorem d33_25 : mj_At 33 25 (.getfield 12) 28 [3, 0, 122] (.null) := ⟨3, (congrArg (fun z => mj_at z 25) f33).trans rfl, rfl⟩
theorem d33_28 : mj_At 33 28 (.iload_n 2) 29 [2] (.null) := ⟨1, (congrArg (fun z => mj_at z 28) f33).trans rfl, rfl⟩
theorem d33_29 : mj_At 33 29 (.invokevirtual 63) 32 [1, 6, 2, 2, 156, 157, 158, 19] (.null) := ⟨3, (congrArg (fun z => mj_at z 29) f33).trans rfl, rfl⟩
theorem d33_32 : mj_At 33 32 (.ifCond .eq (24)) 35 [56] (.null) := ⟨3, (congrArg (fun z => mj_at z 32) f33).trans rfl, rfl⟩
theorem d33_35 : mj_At 33 35 (.aload_n 0) 36 [0] (.null) := ⟨1, (congrArg (fun z => mj_at z 35) f33).trans rfl, rfl⟩
theorem d33_36 : mj_At 33 36 (.getfield 12) 39 [3, 0, 122] (.null) := ⟨3, (congrArg (fun z => mj_at z 36) f33).trans rfl, rfl⟩
theorem d33_39 : mj_At 33 39 (.getfield 89) 42 [2, 7, 57] (.null) := ⟨3, (congrArg (fun z => mj_at z 39) f33).trans rfl, rfl⟩
theorem d33_42 : mj_At 33 42 (.iload_n 2) 43 [2] (.null) := ⟨1, (congrArg (fun z => mj_at z 42) f33).trans rfl, rfl⟩
theorem d33_43 : mj_At 33 43 (.aload_n 0) 44 [0] (.null) := ⟨1, (congrArg (fun z => mj_at z 43) f33).trans rfl, rfl⟩
theorem d33_44 : mj_At 33 44 (.iload_n 2) 45 [2] (.null) := ⟨1, (congrArg (fun z => mj_at z 44) f33).trans rfl, rfl⟩
theorem d33_45 : mj_At 33 45 (.aload_n 0) 46 [0] (.null) := ⟨1, (congrArg (fun z => mj_at z 45) f33).trans rfl, rfl⟩
theorem d33_46 : mj_At 33 46 (.getfield 12) 49 [3, 0, 122] (.null) := ⟨3, (congrArg (fun z => mj_at z 46) f33).trans rfl, rfl⟩
theorem d33_49 : mj_At 33 49 (.getfield 60) 52 [2, 0, 43] (.null) := ⟨3, (congrArg (fun z => mj_at z 49) f33).trans rfl, rfl⟩
theorem d33_52 : mj_At 33 52 (.invokevirtual 92) 55 [1, 12, 3, 3, 176, 178, 3, 18] (.null) := ⟨3, (congrArg (fun z => mj_at z 52) f33).trans rfl, rfl⟩
theorem d33_55 : mj_At 33 55 (.iastore) 56 [] (.null) := ⟨1, (congrArg (fun z => mj_at z 55) f33).trans rfl, rfl⟩
theorem d33_56 : mj_At 33 56 (.iinc 2 (1)) 59 [2] (.int 1) := ⟨3, (congrArg (fun z => mj_at z 56) f33).trans rfl, rfl⟩
theorem d33_59 : mj_At 33 59 (.goto (-41)) 62 [18] (.null) := ⟨3, (congrArg (fun z => mj_at z 59) f33).trans rfl, rfl⟩
theorem d33_62 : mj_At 33 62 (.iload_n 1) 63 [1] (.null) := ⟨1, (congrArg (fun z => mj_at z 62) f33).trans rfl, rfl⟩
theorem d33_63 : mj_At 33 63 (.aload_n 0) 64 [0] (.null) := ⟨1, (congrArg (fun z => mj_at z 63) f33).trans rfl, rfl⟩
theorem d33_64 : mj_At 33 64 (.invokevirtual 77) 67 [1, 16, 1, 3, 194, 196, 6, 18] (.null) := ⟨3, (congrArg (fun z => mj_at z 64) f33).trans rfl, rfl⟩
theorem d33_67 : mj_At 33 67 (.isub) 68 [] (.null) := ⟨1, (congrArg (fun z => mj_at z 67) f33).trans rfl, rfl⟩
theorem d33_68 : mj_At 33 68 (.ireturn) 69 [0] (.null) := ⟨1, (congrArg (fun z => mj_at z 68) f33).trans rfl, rfl⟩
theorem e33_0 {c : mj_C}  {L : Nat} {ps : List (Option (Option Nat))} {rest : List mj_K}   : mj_EV 33 0 [some (.ref 2), none, none] [] (w_sh L ps rest) c = (mj_then 33 11 [some (.ref 2), none, none] [] (mj_EV 20 0 [some (.ref 9), some (.ref 3)] [] (w_sh L ps rest) c)) := (mj_aload_n d33_0 rfl (mj_getR d33_1 w_2 rfl (mj_aload_n d33_4 rfl (mj_getR d33_5 w_2 rfl (mj_invV [some (.ref 9), some (.ref 3)] [] d33_8 rfl rfl rfl w_9 rfl rfl)))))
theorem e33_11 {c : mj_C}  {L : Nat} {ps : List (Option (Option Nat))} {rest : List mj_K}   : mj_EV 33 11 [some (.ref 2), none, none] [] (w_sh L ps rest) c = (mj_then 33 15 [some (.ref 2), none, none] [] (mj_EV 16 0 [some (.ref 2), none, none] [] (w_sh L ps rest) c)) := (mj_aload_n d33_11 rfl (mj_invV [some (.ref 2), none, none] [] d33_12 rfl rfl rfl w_2 rfl rfl))
theorem e33_15 {c : mj_C} {z0 : Int32} {L : Nat} {ps : List (Option (Option Nat))} {rest : List mj_K}   : mj_EV 33 15 [some (.ref 2), none, none] [.int z0] (w_sh L ps rest) c = mj_EV 33 18 [some (.ref 2), some (.int z0), some (.int (nI 0))] [] (w_sh L ps rest) c := (mj_istore_n [some (.ref 2), some (.int z0), none] d33_15 rfl rfl (mj_iconst d33_16 (mj_istore_n [some (.ref 2), some (.int z0), some (.int (nI 0))] d33_17 rfl rfl rfl)))
theorem e33_18 {c : mj_C} {x1 : Int32} {x2 : Int32} {L : Nat} {ps : List (Option (Option Nat))} {rest : List mj_K}   : mj_EV 33 18 [some (.ref 2), some (.int x1), some (.int x2)] [] (w_sh L ps rest) c = (if (nI 10) ≤ x2 then (mj_then 33 67 [some (.ref 2), some (.int x1), some (.int x2)] [.int x1] (mj_EV 16 0 [some (.ref 2), none, none] [] (w_sh L ps rest) c)) else (mj_then 33 32 [some (.ref 2), some (.int x1), some (.int x2)] [] (mj_EV 6 0 [some (.ref 3), some (.int x2)] [] (w_sh L ps rest) c))) := (mj_iload_n d33_18 rfl (mj_bipush d33_19 (mj_icge d33_21 (mj_iload_n d33_62 rfl (mj_aload_n d33_63 rfl (mj_invV [some (.ref 2), none, none] [.int x1] d33_64 rfl rfl rfl w_2 rfl rfl))) (mj_aload_n d33_24 rfl (mj_getR d33_25 w_2 rfl (mj_iload_n d33_28 rfl (mj_invV [some (.ref 3), some (.int x2)] [] d33_29 rfl rfl rfl w_3 rfl rfl)))))))
theorem e33_32 {c : mj_C} {x1 : Int32} {x2 : Int32} {z0 : Int32} {L : Nat} {ps : List (Option (Option Nat))} {rest : List mj_K}   : mj_EV 33 32 [some (.ref 2), some (.int x1), some (.int x2)] [.int z0] (w_sh L ps rest) c = (if z0 = nI 0 then mj_EV 33 18 [some (.ref 2), some (.int x1), some (.int (x2 + (nI 1)))] [] (w_sh L ps rest) c else (mj_then 33 55 [some (.ref 2), some (.int x1), some (.int x2)] [.int x2, .ref 6] (mj_EV 12 0 [some (.ref 2), some (.int x2), some (.int (c 3 0))] [] (w_sh L ps rest) c))) := (mj_ifeq d33_32 (mj_iinc [some (.ref 2), some (.int x1), some (.int (x2 + (nI 1)))] d33_56 rfl rfl rfl (mj_goto d33_59 rfl)) (mj_aload_n d33_35 rfl (mj_getR d33_36 w_2 rfl (mj_getR d33_39 w_3 rfl (mj_iload_n d33_42 rfl (mj_aload_n d33_43 rfl (mj_iload_n d33_44 rfl (mj_aload_n d33_45 rfl (mj_getR d33_46 w_2 rfl (mj_getI d33_49 w_3 rfl (mj_invV [some (.ref 2), some (.int x2), some (.int (c 3 0))] [.int x2, .ref 6] d33_52 rfl rfl rfl w_2 rfl rfl)))))))))))
theorem e33_55 {c : mj_C} {x1 : Int32} {x2 : Int32} {z1 : Int32} {z2 : Int32} {L : Nat} {ps : List (Option (Option Nat))} {rest : List mj_K}   : mj_EV 33 55 [some (.ref 2), some (.int x1), some (.int x2)] [.int z2, .int z1, .ref 6] (w_sh L ps rest) c = (if mj_in z1 10 = true then mj_EV 33 18 [some (.ref 2), some (.int x1), some (.int (x2 + (nI 1)))] [] (w_sh L ps rest) (mj_u c 6 z1.toNatClampNeg z2) else none) := (mj_iast d33_55 w_6 (mj_iinc [some (.ref 2), some (.int x1), some (.int (x2 + (nI 1)))] d33_56 rfl rfl rfl (mj_goto d33_59 rfl)))
theorem e33_67 {c : mj_C} {x1 : Int32} {x2 : Int32} {z0 : Int32} {z1 : Int32} {L : Nat} {ps : List (Option (Option Nat))} {rest : List mj_K}   : mj_EV 33 67 [some (.ref 2), some (.int x1), some (.int x2)] [.int z1, .int z0] (w_sh L ps rest) c = (some (some (.int (z0 - z1)), (w_sh L ps rest), c)) := (mj_isub d33_67 (mj_iret d33_68))
/-- SqueezedLines$State.hasLine(II)Z -/
theorem f34 : mj_cd 34 = mj_c34 := rfl
theorem d34_0 : mj_At 34 0 (.aload_n 0) 1 [0] (.null) := ⟨1, (congrArg (fun z => mj_at z 0) f34).trans rfl, rfl⟩
theorem d34_1 : mj_At 34 1 (.iload_n 1) 2 [1] (.null) := ⟨1, (congrArg (fun z => mj_at z 1) f34).trans rfl, rfl⟩
theorem d34_2 : mj_At 34 2 (.invokevirtual 55) 5 [1, 6, 2, 2, 267, 157, 158, 19] (.null) := ⟨3, (congrArg (fun z => mj_at z 2) f34).trans rfl, rfl⟩
theorem d34_5 : mj_At 34 5 (.ifCond .eq (17)) 8 [22] (.null) := ⟨3, (congrArg (fun z => mj_at z 5) f34).trans rfl, rfl⟩
theorem d34_8 : mj_At 34 8 (.iload_n 2) 9 [2] (.null) := ⟨1, (congrArg (fun z => mj_at z 8) f34).trans rfl, rfl⟩
theorem d34_9 : mj_At 34 9 (.ifCond .lt (13)) 12 [22] (.null) := ⟨3, (congrArg (fun z => mj_at z 9) f34).trans rfl, rfl⟩
theorem d34_12 : mj_At 34 12 (.iload_n 2) 13 [2] (.null) := ⟨1, (congrArg (fun z => mj_at z 12) f34).trans rfl, rfl⟩
theorem d34_13 : mj_At 34 13 (.bipush (8)) 15 [] (.int 8) := ⟨2, (congrArg (fun z => mj_at z 13) f34).trans rfl, rfl⟩
theorem d34_15 : mj_At 34 15 (.if_icmp .ge (7)) 18 [22] (.null) := ⟨3, (congrArg (fun z => mj_at z 15) f34).trans rfl, rfl⟩
theorem d34_18 : mj_At 34 18 (.iconst (1)) 19 [] (.int 1) := ⟨1, (congrArg (fun z => mj_at z 18) f34).trans rfl, rfl⟩
theorem d34_19 : mj_At 34 19 (.goto (4)) 22 [23] (.null) := ⟨3, (congrArg (fun z => mj_at z 19) f34).trans rfl, rfl⟩
theorem d34_22 : mj_At 34 22 (.iconst (0)) 23 [] (.int 0) := ⟨1, (congrArg (fun z => mj_at z 22) f34).trans rfl, rfl⟩
theorem d34_23 : mj_At 34 23 (.ireturn) 24 [1] (.null) := ⟨1, (congrArg (fun z => mj_at z 23) f34).trans rfl, rfl⟩
theorem e34_0 {c : mj_C} {x1 : Int32} {x2 : Int32} {L : Nat} {ps : List (Option (Option Nat))} {rest : List mj_K}   : mj_EV 34 0 [some (.ref 3), some (.int x1), some (.int x2)] [] (w_sh L ps rest) c = (mj_then 34 5 [some (.ref 3), some (.int x1), some (.int x2)] [] (mj_EV 6 0 [some (.ref 3), some (.int x1)] [] (w_sh L ps rest) c)) := (mj_aload_n d34_0 rfl (mj_iload_n d34_1 rfl (mj_invV [some (.ref 3), some (.int x1)] [] d34_2 rfl rfl rfl w_3 rfl rfl)))
theorem e34_5 {c : mj_C} {x1 : Int32} {x2 : Int32} {z0 : Int32} {L : Nat} {ps : List (Option (Option Nat))} {rest : List mj_K}   : mj_EV 34 5 [some (.ref 3), some (.int x1), some (.int x2)] [.int z0] (w_sh L ps rest) c = (if z0 = nI 0 then (some (some (.int (nI 0)), (w_sh L ps rest), c)) else (if x2 < nI 0 then (some (some (.int (nI 0)), (w_sh L ps rest), c)) else (if (nI 8) ≤ x2 then (some (some (.int (nI 0)), (w_sh L ps rest), c)) else (some (some (.int (nI 1)), (w_sh L ps rest), c))))) := (mj_ifeq d34_5 (mj_iconst d34_22 (mj_zret0 d34_23)) (mj_iload_n d34_8 rfl (mj_iflt d34_9 (mj_iconst d34_22 (mj_zret0 d34_23)) (mj_iload_n d34_12 rfl (mj_bipush d34_13 (mj_icge d34_15 (mj_iconst d34_22 (mj_zret0 d34_23)) (mj_iconst d34_18 (mj_goto d34_19 (mj_zret1 d34_23)))))))))
/-- SqueezedLines.isWord(I)Z -/
theorem f35 : mj_cd 35 = mj_c35 := rfl
theorem d35_0 : mj_At 35 0 (.iload_n 0) 1 [0] (.null) := ⟨1, (congrArg (fun z => mj_at z 0) f35).trans rfl, rfl⟩
theorem d35_1 : mj_At 35 1 (.ifCond .lt (13)) 4 [14] (.null) := ⟨3, (congrArg (fun z => mj_at z 1) f35).trans rfl, rfl⟩
theorem d35_4 : mj_At 35 4 (.iload_n 0) 5 [0] (.null) := ⟨1, (congrArg (fun z => mj_at z 4) f35).trans rfl, rfl⟩
theorem d35_5 : mj_At 35 5 (.bipush (8)) 7 [] (.int 8) := ⟨2, (congrArg (fun z => mj_at z 5) f35).trans rfl, rfl⟩
theorem d35_7 : mj_At 35 7 (.if_icmp .ge (7)) 10 [14] (.null) := ⟨3, (congrArg (fun z => mj_at z 7) f35).trans rfl, rfl⟩
theorem d35_10 : mj_At 35 10 (.iconst (1)) 11 [] (.int 1) := ⟨1, (congrArg (fun z => mj_at z 10) f35).trans rfl, rfl⟩
theorem d35_11 : mj_At 35 11 (.goto (4)) 14 [15] (.null) := ⟨3, (congrArg (fun z => mj_at z 11) f35).trans rfl, rfl⟩
theorem d35_14 : mj_At 35 14 (.iconst (0)) 15 [] (.int 0) := ⟨1, (congrArg (fun z => mj_at z 14) f35).trans rfl, rfl⟩
theorem d35_15 : mj_At 35 15 (.ireturn) 16 [1] (.null) := ⟨1, (congrArg (fun z => mj_at z 15) f35).trans rfl, rfl⟩
theorem e35_0 {c : mj_C} {x0 : Int32} {L : Nat} {ps : List (Option (Option Nat))} {rest : List mj_K}   : mj_EV 35 0 [some (.int x0)] [] (w_sh L ps rest) c = (if x0 < nI 0 then (some (some (.int (nI 0)), (w_sh L ps rest), c)) else (if (nI 8) ≤ x0 then (some (some (.int (nI 0)), (w_sh L ps rest), c)) else (some (some (.int (nI 1)), (w_sh L ps rest), c)))) := (mj_iload_n d35_0 rfl (mj_iflt d35_1 (mj_iconst d35_14 (mj_zret0 d35_15)) (mj_iload_n d35_4 rfl (mj_bipush d35_5 (mj_icge d35_7 (mj_iconst d35_14 (mj_zret0 d35_15)) (mj_iconst d35_10 (mj_goto d35_11 (mj_zret1 d35_15))))))))
/-- SqueezedLines.isValue(I)Z -/
theorem f36 : mj_cd 36 = mj_c36 := rfl
theorem d36_0 : mj_At 36 0 (.iload_n 0) 1 [0] (.null) := ⟨1, (congrArg (fun z => mj_at z 0) f36).trans rfl, rfl⟩
theorem d36_1 : mj_At 36 1 (.ifCond .lt (13)) 4 [14] (.null) := ⟨3, (congrArg (fun z => mj_at z 1) f36).trans rfl, rfl⟩
theorem d36_4 : mj_At 36 4 (.iload_n 0) 5 [0] (.null) := ⟨1, (congrArg (fun z => mj_at z 4) f36).trans rfl, rfl⟩
theorem d36_5 : mj_At 36 5 (.ldc 120) 7 [274] (.int 65535) := ⟨2, (congrArg (fun z => mj_at z 5) f36).trans rfl, rfl⟩
theorem d36_7 : mj_At 36 7 (.if_icmp .gt (7)) 10 [14] (.null) := ⟨3, (congrArg (fun z => mj_at z 7) f36).trans rfl, rfl⟩
theorem d36_10 : mj_At 36 10 (.iconst (1)) 11 [] (.int 1) := ⟨1, (congrArg (fun z => mj_at z 10) f36).trans rfl, rfl⟩
theorem d36_11 : mj_At 36 11 (.goto (4)) 14 [15] (.null) := ⟨3, (congrArg (fun z => mj_at z 11) f36).trans rfl, rfl⟩
theorem d36_14 : mj_At 36 14 (.iconst (0)) 15 [] (.int 0) := ⟨1, (congrArg (fun z => mj_at z 14) f36).trans rfl, rfl⟩
theorem d36_15 : mj_At 36 15 (.ireturn) 16 [1] (.null) := ⟨1, (congrArg (fun z => mj_at z 15) f36).trans rfl, rfl⟩
theorem e36_0 {c : mj_C} {x0 : Int32} {L : Nat} {ps : List (Option (Option Nat))} {rest : List mj_K}   : mj_EV 36 0 [some (.int x0)] [] (w_sh L ps rest) c = (if x0 < nI 0 then (some (some (.int (nI 0)), (w_sh L ps rest), c)) else (if (nI 65535) < x0 then (some (some (.int (nI 0)), (w_sh L ps rest), c)) else (some (some (.int (nI 1)), (w_sh L ps rest), c)))) := (mj_iload_n d36_0 rfl (mj_iflt d36_1 (mj_iconst d36_14 (mj_zret0 d36_15)) (mj_iload_n d36_4 rfl (mj_ldc d36_5 (mj_icgt d36_7 (mj_iconst d36_14 (mj_zret0 d36_15)) (mj_iconst d36_10 (mj_goto d36_11 (mj_zret1 d36_15))))))))
/-- SqueezedLines.takeNewWords(II)V -/
theorem f37 : mj_cd 37 = mj_c37 := rfl
theorem d37_0 : mj_At 37 0 (.aload_n 0) 1 [0] (.null) := ⟨1, (congrArg (fun z => mj_at z 0) f37).trans rfl, rfl⟩
theorem d37_1 : mj_At 37 1 (.getfield 12) 4 [3, 0, 122] (.null) := ⟨3, (congrArg (fun z => mj_at z 1) f37).trans rfl, rfl⟩
theorem d37_4 : mj_At 37 4 (.getfield 164) 7 [2, 5, 53] (.null) := ⟨3, (congrArg (fun z => mj_at z 4) f37).trans rfl, rfl⟩
theorem d37_7 : mj_At 37 7 (.iload_n 1) 8 [1] (.null) := ⟨1, (congrArg (fun z => mj_at z 7) f37).trans rfl, rfl⟩
theorem d37_8 : mj_At 37 8 (.iload_n 2) 9 [2] (.null) := ⟨1, (congrArg (fun z => mj_at z 8) f37).trans rfl, rfl⟩
theorem d37_9 : mj_At 37 9 (.invokestatic 167) 12 [0, 25, 2, 279, 234, 18] (.null) := ⟨3, (congrArg (fun z => mj_at z 9) f37).trans rfl, rfl⟩
theorem d37_12 : mj_At 37 12 (.aload_n 0) 13 [0] (.null) := ⟨1, (congrArg (fun z => mj_at z 12) f37).trans rfl, rfl⟩
theorem d37_13 : mj_At 37 13 (.getfield 30) 16 [3, 3, 125] (.null) := ⟨3, (congrArg (fun z => mj_at z 13) f37).trans rfl, rfl⟩
theorem d37_16 : mj_At 37 16 (.iconst (0)) 17 [] (.int 0) := ⟨1, (congrArg (fun z => mj_at z 16) f37).trans rfl, rfl⟩
theorem d37_17 : mj_At 37 17 (.bipush (8)) 19 [] (.int 8) := ⟨2, (congrArg (fun z => mj_at z 17) f37).trans rfl, rfl⟩
theorem d37_19 : mj_At 37 19 (.invokestatic 267) 22 [6, 280, 212, 211, 23] (.null) := ⟨3, (congrArg (fun z => mj_at z 19) f37).trans rfl, rfl⟩
theorem d37_22 : mj_At 37 22 (.return_) 23 [] (.null) := ⟨1, (congrArg (fun z => mj_at z 22) f37).trans rfl, rfl⟩
theorem e37_0 {c : mj_C} {x1 : Int32} {x2 : Int32} {L : Nat} {ps : List (Option (Option Nat))} {rest : List mj_K}   : mj_EV 37 0 [some (.ref 2), some (.int x1), some (.int x2)] [] (w_sh L ps rest) c = (mj_then 37 12 [some (.ref 2), some (.int x1), some (.int x2)] [.ref 4] (mj_EV 25 0 [some (.int x1), some (.int x2)] [] (w_sh L ps rest) c)) := (mj_aload_n d37_0 rfl (mj_getR d37_1 w_2 rfl (mj_getR d37_4 w_3 rfl (mj_iload_n d37_7 rfl (mj_iload_n d37_8 rfl (mj_invS [some (.int x1), some (.int x2)] [.ref 4] d37_9 (by decide) rfl rfl rfl rfl))))))
theorem e37_12 {c : mj_C} {x1 : Int32} {x2 : Int32} {z1 : Int32} {L : Nat} {ps : List (Option (Option Nat))} {rest : List mj_K}   : mj_EV 37 12 [some (.ref 2), some (.int x1), some (.int x2)] [.int z1, .ref 4] (w_sh L ps rest) c = (if ((!decide (z1 < nI 0) && (!decide ((nI 0) < nI 0) && !decide ((nI 8) < nI 0))) && (decide (z1.toNatClampNeg + (nI 8).toNatClampNeg ≤ 640) && decide ((nI 0).toNatClampNeg + (nI 8).toNatClampNeg ≤ 8))) = true then (some (none, (w_sh L ps rest), (mj_cp c 4 49 z1.toNatClampNeg (nI 0).toNatClampNeg (nI 8).toNatClampNeg))) else none) := (mj_aload_n d37_12 rfl (mj_getR d37_13 w_2 rfl (mj_iconst d37_16 (mj_bipush d37_17 (mj_acpy d37_19 w_4 w_49 (mj_vret d37_22))))))
/-- SqueezedLines.leastWord([II)I -/
theorem f39 : mj_cd 39 = mj_c39 := rfl
theorem d39_0 : mj_At 39 0 (.aload_n 0) 1 [0] (.null) := ⟨1, (congrArg (fun z => mj_at z 0) f39).trans rfl, rfl⟩
theorem d39_1 : mj_At 39 1 (.iload_n 1) 2 [1] (.null) := ⟨1, (congrArg (fun z => mj_at z 1) f39).trans rfl, rfl⟩
theorem d39_2 : mj_At 39 2 (.iaload) 3 [] (.null) := ⟨1, (congrArg (fun z => mj_at z 2) f39).trans rfl, rfl⟩
theorem d39_3 : mj_At 39 3 (.istore_n 2) 4 [2] (.null) := ⟨1, (congrArg (fun z => mj_at z 3) f39).trans rfl, rfl⟩
theorem d39_4 : mj_At 39 4 (.iload_n 1) 5 [1] (.null) := ⟨1, (congrArg (fun z => mj_at z 4) f39).trans rfl, rfl⟩
theorem d39_5 : mj_At 39 5 (.iconst (1)) 6 [] (.int 1) := ⟨1, (congrArg (fun z => mj_at z 5) f39).trans rfl, rfl⟩
theorem d39_6 : mj_At 39 6 (.iadd) 7 [] (.null) := ⟨1, (congrArg (fun z => mj_at z 6) f39).trans rfl, rfl⟩
theorem d39_7 : mj_At 39 7 (.istore_n 3) 8 [3] (.null) := ⟨1, (congrArg (fun z => mj_at z 7) f39).trans rfl, rfl⟩
theorem d39_8 : mj_At 39 8 (.iload_n 3) 9 [3] (.null) := ⟨1, (congrArg (fun z => mj_at z 8) f39).trans rfl, rfl⟩
theorem d39_9 : mj_At 39 9 (.iload_n 1) 10 [1] (.null) := ⟨1, (congrArg (fun z => mj_at z 9) f39).trans rfl, rfl⟩
theorem d39_10 : mj_At 39 10 (.bipush (8)) 12 [] (.int 8) := ⟨2, (congrArg (fun z => mj_at z 10) f39).trans rfl, rfl⟩
theorem d39_12 : mj_At 39 12 (.iadd) 13 [] (.null) := ⟨1, (congrArg (fun z => mj_at z 12) f39).trans rfl, rfl⟩
theorem d39_13 : mj_At 39 13 (.if_icmp .ge (17)) 16 [30] (.null) := ⟨3, (congrArg (fun z => mj_at z 13) f39).trans rfl, rfl⟩
theorem d39_16 : mj_At 39 16 (.iload_n 2) 17 [2] (.null) := ⟨1, (congrArg (fun z => mj_at z 16) f39).trans rfl, rfl⟩
theorem d39_17 : mj_At 39 17 (.aload_n 0) 18 [0] (.null) := ⟨1, (congrArg (fun z => mj_at z 17) f39).trans rfl, rfl⟩
theorem d39_18 : mj_At 39 18 (.iload_n 3) 19 [3] (.null) := ⟨1, (congrArg (fun z => mj_at z 18) f39).trans rfl, rfl⟩
theorem d39_19 : mj_At 39 19 (.iaload) 20 [] (.null) := ⟨1, (congrArg (fun z => mj_at z 19) f39).trans rfl, rfl⟩
theorem d39_20 : mj_At 39 20 (.invokestatic 245) 23 [0, 38, 2, 295, 296, 24] (.null) := ⟨3, (congrArg (fun z => mj_at z 20) f39).trans rfl, rfl⟩
theorem d39_23 : mj_At 39 23 (.istore_n 2) 24 [2] (.null) := ⟨1, (congrArg (fun z => mj_at z 23) f39).trans rfl, rfl⟩
theorem d39_24 : mj_At 39 24 (.iinc 3 (1)) 27 [3] (.int 1) := ⟨3, (congrArg (fun z => mj_at z 24) f39).trans rfl, rfl⟩
theorem d39_27 : mj_At 39 27 (.goto (-19)) 30 [8] (.null) := ⟨3, (congrArg (fun z => mj_at z 27) f39).trans rfl, rfl⟩
theorem d39_30 : mj_At 39 30 (.iload_n 2) 31 [2] (.null) := ⟨1, (congrArg (fun z => mj_at z 30) f39).trans rfl, rfl⟩
theorem d39_31 : mj_At 39 31 (.ireturn) 32 [0] (.null) := ⟨1, (congrArg (fun z => mj_at z 31) f39).trans rfl, rfl⟩
theorem e39_0 {c : mj_C} {x1 : Int32} {L : Nat} {ps : List (Option (Option Nat))} {rest : List mj_K} {a na : Nat} (ha : (w_sh L ps rest)[a]? = some (0, na, []))  : mj_EV 39 0 [some (.ref a), some (.int x1), none, none] [] (w_sh L ps rest) c = (if mj_in x1 na = true then mj_EV 39 8 [some (.ref a), some (.int x1), some (.int (c a x1.toNatClampNeg)), some (.int (x1 + (nI 1)))] [] (w_sh L ps rest) c else none) := (mj_aload_n d39_0 rfl (mj_iload_n d39_1 rfl (mj_iald d39_2 ha (mj_istore_n [some (.ref a), some (.int x1), some (.int (c a x1.toNatClampNeg)), none] d39_3 rfl rfl (mj_iload_n d39_4 rfl (mj_iconst d39_5 (mj_iadd d39_6 (mj_istore_n [some (.ref a), some (.int x1), some (.int (c a x1.toNatClampNeg)), some (.int (x1 + (nI 1)))] d39_7 rfl rfl rfl))))))))
theorem e39_8 {c : mj_C} {x1 : Int32} {x2 : Int32} {x3 : Int32} {L : Nat} {ps : List (Option (Option Nat))} {rest : List mj_K} {a na : Nat} (ha : (w_sh L ps rest)[a]? = some (0, na, []))  : mj_EV 39 8 [some (.ref a), some (.int x1), some (.int x2), some (.int x3)] [] (w_sh L ps rest) c = (if (x1 + (nI 8)) ≤ x3 then (some (some (.int x2), (w_sh L ps rest), c)) else (if mj_in x3 na = true then (mj_then 39 23 [some (.ref a), some (.int x1), some (.int x2), some (.int x3)] [] (mj_EV 38 0 [some (.int x2), some (.int (c a x3.toNatClampNeg))] [] (w_sh L ps rest) c)) else none)) := (mj_iload_n d39_8 rfl (mj_iload_n d39_9 rfl (mj_bipush d39_10 (mj_iadd d39_12 (mj_icge d39_13 (mj_iload_n d39_30 rfl (mj_iret d39_31)) (mj_iload_n d39_16 rfl (mj_aload_n d39_17 rfl (mj_iload_n d39_18 rfl (mj_iald d39_19 ha (mj_invS [some (.int x2), some (.int (c a x3.toNatClampNeg))] [] d39_20 (by decide) rfl rfl rfl rfl))))))))))
theorem e39_23 {c : mj_C} {x1 : Int32} {x2 : Int32} {x3 : Int32} {z0 : Int32} {L : Nat} {ps : List (Option (Option Nat))} {rest : List mj_K} {a na : Nat} (ha : (w_sh L ps rest)[a]? = some (0, na, []))  : mj_EV 39 23 [some (.ref a), some (.int x1), some (.int x2), some (.int x3)] [.int z0] (w_sh L ps rest) c = mj_EV 39 8 [some (.ref a), some (.int x1), some (.int z0), some (.int (x3 + (nI 1)))] [] (w_sh L ps rest) c := (mj_istore_n [some (.ref a), some (.int x1), some (.int z0), some (.int x3)] d39_23 rfl rfl (mj_iinc [some (.ref a), some (.int x1), some (.int z0), some (.int (x3 + (nI 1)))] d39_24 rfl rfl rfl (mj_goto d39_27 rfl)))
/-- SqueezedLines.greatestWord([II)I -/
theorem f41 : mj_cd 41 = mj_c41 := rfl
theorem d41_0 : mj_At 41 0 (.aload_n 0) 1 [0] (.null) := ⟨1, (congrArg (fun z => mj_at z 0) f41).trans rfl, rfl⟩
theorem d41_1 : mj_At 41 1 (.iload_n 1) 2 [1] (.null) := ⟨1, (congrArg (fun z => mj_at z 1) f41).trans rfl, rfl⟩
theorem d41_2 : mj_At 41 2 (.iaload) 3 [] (.null) := ⟨1, (congrArg (fun z => mj_at z 2) f41).trans rfl, rfl⟩
theorem d41_3 : mj_At 41 3 (.istore_n 2) 4 [2] (.null) := ⟨1, (congrArg (fun z => mj_at z 3) f41).trans rfl, rfl⟩
theorem d41_4 : mj_At 41 4 (.iload_n 1) 5 [1] (.null) := ⟨1, (congrArg (fun z => mj_at z 4) f41).trans rfl, rfl⟩
theorem d41_5 : mj_At 41 5 (.iconst (1)) 6 [] (.int 1) := ⟨1, (congrArg (fun z => mj_at z 5) f41).trans rfl, rfl⟩
theorem d41_6 : mj_At 41 6 (.iadd) 7 [] (.null) := ⟨1, (congrArg (fun z => mj_at z 6) f41).trans rfl, rfl⟩
theorem d41_7 : mj_At 41 7 (.istore_n 3) 8 [3] (.null) := ⟨1, (congrArg (fun z => mj_at z 7) f41).trans rfl, rfl⟩
theorem d41_8 : mj_At 41 8 (.iload_n 3) 9 [3] (.null) := ⟨1, (congrArg (fun z => mj_at z 8) f41).trans rfl, rfl⟩
theorem d41_9 : mj_At 41 9 (.iload_n 1) 10 [1] (.null) := ⟨1, (congrArg (fun z => mj_at z 9) f41).trans rfl, rfl⟩
theorem d41_10 : mj_At 41 10 (.bipush (8)) 12 [] (.int 8) := ⟨2, (congrArg (fun z => mj_at z 10) f41).trans rfl, rfl⟩
theorem d41_12 : mj_At 41 12 (.iadd) 13 [] (.null) := ⟨1, (congrArg (fun z => mj_at z 12) f41).trans rfl, rfl⟩
theorem d41_13 : mj_At 41 13 (.if_icmp .ge (17)) 16 [30] (.null) := ⟨3, (congrArg (fun z => mj_at z 13) f41).trans rfl, rfl⟩
theorem d41_16 : mj_At 41 16 (.iload_n 2) 17 [2] (.null) := ⟨1, (congrArg (fun z => mj_at z 16) f41).trans rfl, rfl⟩
theorem d41_17 : mj_At 41 17 (.aload_n 0) 18 [0] (.null) := ⟨1, (congrArg (fun z => mj_at z 17) f41).trans rfl, rfl⟩
theorem d41_18 : mj_At 41 18 (.iload_n 3) 19 [3] (.null) := ⟨1, (congrArg (fun z => mj_at z 18) f41).trans rfl, rfl⟩
theorem d41_19 : mj_At 41 19 (.iaload) 20 [] (.null) := ⟨1, (congrArg (fun z => mj_at z 19) f41).trans rfl, rfl⟩
theorem d41_20 : mj_At 41 20 (.invokestatic 191) 23 [0, 40, 2, 301, 302, 24] (.null) := ⟨3, (congrArg (fun z => mj_at z 20) f41).trans rfl, rfl⟩
theorem d41_23 : mj_At 41 23 (.istore_n 2) 24 [2] (.null) := ⟨1, (congrArg (fun z => mj_at z 23) f41).trans rfl, rfl⟩
theorem d41_24 : mj_At 41 24 (.iinc 3 (1)) 27 [3] (.int 1) := ⟨3, (congrArg (fun z => mj_at z 24) f41).trans rfl, rfl⟩
theorem d41_27 : mj_At 41 27 (.goto (-19)) 30 [8] (.null) := ⟨3, (congrArg (fun z => mj_at z 27) f41).trans rfl, rfl⟩
theorem d41_30 : mj_At 41 30 (.iload_n 2) 31 [2] (.null) := ⟨1, (congrArg (fun z => mj_at z 30) f41).trans rfl, rfl⟩
theorem d41_31 : mj_At 41 31 (.ireturn) 32 [0] (.null) := ⟨1, (congrArg (fun z => mj_at z 31) f41).trans rfl, rfl⟩
theorem e41_0 {c : mj_C} {x1 : Int32} {L : Nat} {ps : List (Option (Option Nat))} {rest : List mj_K} {a na : Nat} (ha : (w_sh L ps rest)[a]? = some (0, na, []))  : mj_EV 41 0 [some (.ref a), some (.int x1), none, none] [] (w_sh L ps rest) c = (if mj_in x1 na = true then mj_EV 41 8 [some (.ref a), some (.int x1), some (.int (c a x1.toNatClampNeg)), some (.int (x1 + (nI 1)))] [] (w_sh L ps rest) c else none) := (mj_aload_n d41_0 rfl (mj_iload_n d41_1 rfl (mj_iald d41_2 ha (mj_istore_n [some (.ref a), some (.int x1), some (.int (c a x1.toNatClampNeg)), none] d41_3 rfl rfl (mj_iload_n d41_4 rfl (mj_iconst d41_5 (mj_iadd d41_6 (mj_istore_n [some (.ref a), some (.int x1), some (.int (c a x1.toNatClampNeg)), some (.int (x1 + (nI 1)))] d41_7 rfl rfl rfl))))))))
theorem e41_8 {c : mj_C} {x1 : Int32} {x2 : Int32} {x3 : Int32} {L : Nat} {ps : List (Option (Option Nat))} {rest : List mj_K} {a na : Nat} (ha : (w_sh L ps rest)[a]? = some (0, na, []))  : mj_EV 41 8 [some (.ref a), some (.int x1), some (.int x2), some (.int x3)] [] (w_sh L ps rest) c = (if (x1 + (nI 8)) ≤ x3 then (some (some (.int x2), (w_sh L ps rest), c)) else (if mj_in x3 na = true then (mj_then 41 23 [some (.ref a), some (.int x1), some (.int x2), some (.int x3)] [] (mj_EV 40 0 [some (.int x2), some (.int (c a x3.toNatClampNeg))] [] (w_sh L ps rest) c)) else none)) := (mj_iload_n d41_8 rfl (mj_iload_n d41_9 rfl (mj_bipush d41_10 (mj_iadd d41_12 (mj_icge d41_13 (mj_iload_n d41_30 rfl (mj_iret d41_31)) (mj_iload_n d41_16 rfl (mj_aload_n d41_17 rfl (mj_iload_n d41_18 rfl (mj_iald d41_19 ha (mj_invS [some (.int x2), some (.int (c a x3.toNatClampNeg))] [] d41_20 (by decide) rfl rfl rfl rfl))))))))))
theorem e41_23 {c : mj_C} {x1 : Int32} {x2 : Int32} {x3 : Int32} {z0 : Int32} {L : Nat} {ps : List (Option (Option Nat))} {rest : List mj_K} {a na : Nat} (ha : (w_sh L ps rest)[a]? = some (0, na, []))  : mj_EV 41 23 [some (.ref a), some (.int x1), some (.int x2), some (.int x3)] [.int z0] (w_sh L ps rest) c = mj_EV 41 8 [some (.ref a), some (.int x1), some (.int z0), some (.int (x3 + (nI 1)))] [] (w_sh L ps rest) c := (mj_istore_n [some (.ref a), some (.int x1), some (.int z0), some (.int x3)] d41_23 rfl rfl (mj_iinc [some (.ref a), some (.int x1), some (.int z0), some (.int (x3 + (nI 1)))] d41_24 rfl rfl rfl (mj_goto d41_27 rfl)))
/-- SqueezedLines.formOfWords([II)I -/
theorem f42 : mj_cd 42 = mj_c42 := rfl
theorem d42_0 : mj_At 42 0 (.aload_n 0) 1 [0] (.null) := ⟨1, (congrArg (fun z => mj_at z 0) f42).trans rfl, rfl⟩
theorem d42_1 : mj_At 42 1 (.iload_n 1) 2 [1] (.null) := ⟨1, (congrArg (fun z => mj_at z 1) f42).trans rfl, rfl⟩
theorem d42_2 : mj_At 42 2 (.invokestatic 170) 5 [0, 39, 2, 292, 293, 18] (.null) := ⟨3, (congrArg (fun z => mj_at z 2) f42).trans rfl, rfl⟩
theorem d42_5 : mj_At 42 5 (.istore_n 2) 6 [2] (.null) := ⟨1, (congrArg (fun z => mj_at z 5) f42).trans rfl, rfl⟩
theorem d42_6 : mj_At 42 6 (.aload_n 0) 7 [0] (.null) := ⟨1, (congrArg (fun z => mj_at z 6) f42).trans rfl, rfl⟩
theorem d42_7 : mj_At 42 7 (.iload_n 1) 8 [1] (.null) := ⟨1, (congrArg (fun z => mj_at z 7) f42).trans rfl, rfl⟩
theorem d42_8 : mj_At 42 8 (.invokestatic 174) 11 [0, 41, 2, 298, 299, 18] (.null) := ⟨3, (congrArg (fun z => mj_at z 8) f42).trans rfl, rfl⟩
theorem d42_11 : mj_At 42 11 (.istore_n 3) 12 [3] (.null) := ⟨1, (congrArg (fun z => mj_at z 11) f42).trans rfl, rfl⟩
theorem d42_12 : mj_At 42 12 (.iload_n 3) 13 [3] (.null) := ⟨1, (congrArg (fun z => mj_at z 12) f42).trans rfl, rfl⟩
theorem d42_13 : mj_At 42 13 (.ifCond .ne (5)) 16 [18] (.null) := ⟨3, (congrArg (fun z => mj_at z 13) f42).trans rfl, rfl⟩
theorem d42_16 : mj_At 42 16 (.iconst (0)) 17 [] (.int 0) := ⟨1, (congrArg (fun z => mj_at z 16) f42).trans rfl, rfl⟩
theorem d42_17 : mj_At 42 17 (.ireturn) 18 [0] (.null) := ⟨1, (congrArg (fun z => mj_at z 17) f42).trans rfl, rfl⟩
theorem d42_18 : mj_At 42 18 (.iload_n 3) 19 [3] (.null) := ⟨1, (congrArg (fun z => mj_at z 18) f42).trans rfl, rfl⟩
theorem d42_19 : mj_At 42 19 (.iload_n 2) 20 [2] (.null) := ⟨1, (congrArg (fun z => mj_at z 19) f42).trans rfl, rfl⟩
theorem d42_20 : mj_At 42 20 (.if_icmp .ne (5)) 23 [25] (.null) := ⟨3, (congrArg (fun z => mj_at z 20) f42).trans rfl, rfl⟩
theorem d42_23 : mj_At 42 23 (.iconst (1)) 24 [] (.int 1) := ⟨1, (congrArg (fun z => mj_at z 23) f42).trans rfl, rfl⟩
theorem d42_24 : mj_At 42 24 (.ireturn) 25 [0] (.null) := ⟨1, (congrArg (fun z => mj_at z 24) f42).trans rfl, rfl⟩
theorem d42_25 : mj_At 42 25 (.iload_n 3) 26 [3] (.null) := ⟨1, (congrArg (fun z => mj_at z 25) f42).trans rfl, rfl⟩
theorem d42_26 : mj_At 42 26 (.iload_n 2) 27 [2] (.null) := ⟨1, (congrArg (fun z => mj_at z 26) f42).trans rfl, rfl⟩
theorem d42_27 : mj_At 42 27 (.isub) 28 [] (.null) := ⟨1, (congrArg (fun z => mj_at z 27) f42).trans rfl, rfl⟩
theorem d42_28 : mj_At 42 28 (.bipush (15)) 30 [] (.int 15) := ⟨2, (congrArg (fun z => mj_at z 28) f42).trans rfl, rfl⟩
theorem d42_30 : mj_At 42 30 (.if_icmp .gt (5)) 33 [35] (.null) := ⟨3, (congrArg (fun z => mj_at z 30) f42).trans rfl, rfl⟩
theorem d42_33 : mj_At 42 33 (.iconst (2)) 34 [] (.int 2) := ⟨1, (congrArg (fun z => mj_at z 33) f42).trans rfl, rfl⟩
theorem d42_34 : mj_At 42 34 (.ireturn) 35 [0] (.null) := ⟨1, (congrArg (fun z => mj_at z 34) f42).trans rfl, rfl⟩
theorem d42_35 : mj_At 42 35 (.iload_n 3) 36 [3] (.null) := ⟨1, (congrArg (fun z => mj_at z 35) f42).trans rfl, rfl⟩
theorem d42_36 : mj_At 42 36 (.sipush (255)) 39 [] (.int 255) := ⟨3, (congrArg (fun z => mj_at z 36) f42).trans rfl, rfl⟩
theorem d42_39 : mj_At 42 39 (.if_icmp .gt (7)) 42 [46] (.null) := ⟨3, (congrArg (fun z => mj_at z 39) f42).trans rfl, rfl⟩
theorem d42_42 : mj_At 42 42 (.iconst (3)) 43 [] (.int 3) := ⟨1, (congrArg (fun z => mj_at z 42) f42).trans rfl, rfl⟩
theorem d42_43 : mj_At 42 43 (.goto (4)) 46 [47] (.null) := ⟨3, (congrArg (fun z => mj_at z 43) f42).trans rfl, rfl⟩
theorem d42_46 : mj_At 42 46 (.iconst (4)) 47 [] (.int 4) := ⟨1, (congrArg (fun z => mj_at z 46) f42).trans rfl, rfl⟩
theorem d42_47 : mj_At 42 47 (.ireturn) 48 [0] (.null) := ⟨1, (congrArg (fun z => mj_at z 47) f42).trans rfl, rfl⟩
theorem e42_0 {c : mj_C} {x1 : Int32} {L : Nat} {ps : List (Option (Option Nat))} {rest : List mj_K} {a na : Nat} (ha : (w_sh L ps rest)[a]? = some (0, na, []))  : mj_EV 42 0 [some (.ref a), some (.int x1), none, none] [] (w_sh L ps rest) c = (mj_then 42 5 [some (.ref a), some (.int x1), none, none] [] (mj_EV 39 0 [some (.ref a), some (.int x1), none, none] [] (w_sh L ps rest) c)) := (mj_aload_n d42_0 rfl (mj_iload_n d42_1 rfl (mj_invS [some (.ref a), some (.int x1), none, none] [] d42_2 (by decide) rfl rfl rfl rfl)))
theorem e42_5 {c : mj_C} {x1 : Int32} {z0 : Int32} {L : Nat} {ps : List (Option (Option Nat))} {rest : List mj_K} {a na : Nat} (ha : (w_sh L ps rest)[a]? = some (0, na, []))  : mj_EV 42 5 [some (.ref a), some (.int x1), none, none] [.int z0] (w_sh L ps rest) c = (mj_then 42 11 [some (.ref a), some (.int x1), some (.int z0), none] [] (mj_EV 41 0 [some (.ref a), some (.int x1), none, none] [] (w_sh L ps rest) c)) := (mj_istore_n [some (.ref a), some (.int x1), some (.int z0), none] d42_5 rfl rfl (mj_aload_n d42_6 rfl (mj_iload_n d42_7 rfl (mj_invS [some (.ref a), some (.int x1), none, none] [] d42_8 (by decide) rfl rfl rfl rfl))))
theorem e42_11 {c : mj_C} {x1 : Int32} {x2 : Int32} {z0 : Int32} {L : Nat} {ps : List (Option (Option Nat))} {rest : List mj_K} {a na : Nat} (ha : (w_sh L ps rest)[a]? = some (0, na, []))  : mj_EV 42 11 [some (.ref a), some (.int x1), some (.int x2), none] [.int z0] (w_sh L ps rest) c = (if z0 = nI 0 then (some (some (.int (nI 0)), (w_sh L ps rest), c)) else (if z0 = x2 then (some (some (.int (nI 1)), (w_sh L ps rest), c)) else (if (nI 15) < (z0 - x2) then (if (nI 255) < z0 then (some (some (.int (nI 4)), (w_sh L ps rest), c)) else (some (some (.int (nI 3)), (w_sh L ps rest), c))) else (some (some (.int (nI 2)), (w_sh L ps rest), c))))) := (mj_istore_n [some (.ref a), some (.int x1), some (.int x2), some (.int z0)] d42_11 rfl rfl (mj_iload_n d42_12 rfl (mj_ifne d42_13 (mj_iload_n d42_18 rfl (mj_iload_n d42_19 rfl (mj_icne d42_20 (mj_iload_n d42_25 rfl (mj_iload_n d42_26 rfl (mj_isub d42_27 (mj_bipush d42_28 (mj_icgt d42_30 (mj_iload_n d42_35 rfl (mj_sipush d42_36 (mj_icgt d42_39 (mj_iconst d42_46 (mj_iret d42_47)) (mj_iconst d42_42 (mj_goto d42_43 (mj_iret d42_47)))))) (mj_iconst d42_33 (mj_iret d42_34))))))) (mj_iconst d42_23 (mj_iret d42_24))))) (mj_iconst d42_16 (mj_iret d42_17)))))
/-- SqueezedLines.sumWithLine(II[I)I -/
theorem f43 : mj_cd 43 = mj_c43 := rfl
theorem d43_0 : mj_At 43 0 (.aload_n 0) 1 [0] (.null) := ⟨1, (congrArg (fun z => mj_at z 0) f43).trans rfl, rfl⟩
theorem d43_1 : mj_At 43 1 (.getfield 12) 4 [3, 0, 122] (.null) := ⟨3, (congrArg (fun z => mj_at z 1) f43).trans rfl, rfl⟩
theorem d43_4 : mj_At 43 4 (.getfield 255) 7 [2, 6, 55] (.null) := ⟨3, (congrArg (fun z => mj_at z 4) f43).trans rfl, rfl⟩
theorem d43_7 : mj_At 43 7 (.iload_n 1) 8 [1] (.null) := ⟨1, (congrArg (fun z => mj_at z 7) f43).trans rfl, rfl⟩
theorem d43_8 : mj_At 43 8 (.invokestatic 258) 11 [0, 7, 1, 164, 165, 18] (.null) := ⟨3, (congrArg (fun z => mj_at z 8) f43).trans rfl, rfl⟩
theorem d43_11 : mj_At 43 11 (.aload_n 0) 12 [0] (.null) := ⟨1, (congrArg (fun z => mj_at z 11) f43).trans rfl, rfl⟩
theorem d43_12 : mj_At 43 12 (.getfield 34) 15 [3, 4, 126] (.null) := ⟨3, (congrArg (fun z => mj_at z 12) f43).trans rfl, rfl⟩
theorem d43_15 : mj_At 43 15 (.iconst (0)) 16 [] (.int 0) := ⟨1, (congrArg (fun z => mj_at z 15) f43).trans rfl, rfl⟩
theorem d43_16 : mj_At 43 16 (.bipush (8)) 18 [] (.int 8) := ⟨2, (congrArg (fun z => mj_at z 16) f43).trans rfl, rfl⟩
theorem d43_18 : mj_At 43 18 (.invokestatic 267) 21 [6, 280, 212, 211, 23] (.null) := ⟨3, (congrArg (fun z => mj_at z 18) f43).trans rfl, rfl⟩
theorem d43_21 : mj_At 43 21 (.aload_n 0) 22 [0] (.null) := ⟨1, (congrArg (fun z => mj_at z 21) f43).trans rfl, rfl⟩
theorem d43_22 : mj_At 43 22 (.getfield 34) 25 [3, 4, 126] (.null) := ⟨3, (congrArg (fun z => mj_at z 22) f43).trans rfl, rfl⟩
theorem d43_25 : mj_At 43 25 (.iload_n 2) 26 [2] (.null) := ⟨1, (congrArg (fun z => mj_at z 25) f43).trans rfl, rfl⟩
theorem d43_26 : mj_At 43 26 (.aload_n 3) 27 [3] (.null) := ⟨1, (congrArg (fun z => mj_at z 26) f43).trans rfl, rfl⟩
theorem d43_27 : mj_At 43 27 (.iconst (0)) 28 [] (.int 0) := ⟨1, (congrArg (fun z => mj_at z 27) f43).trans rfl, rfl⟩
theorem d43_28 : mj_At 43 28 (.invokestatic 273) 31 [0, 42, 2, 289, 290, 18] (.null) := ⟨3, (congrArg (fun z => mj_at z 28) f43).trans rfl, rfl⟩
theorem d43_31 : mj_At 43 31 (.iastore) 32 [] (.null) := ⟨1, (congrArg (fun z => mj_at z 31) f43).trans rfl, rfl⟩
theorem d43_32 : mj_At 43 32 (.aload_n 0) 33 [0] (.null) := ⟨1, (congrArg (fun z => mj_at z 32) f43).trans rfl, rfl⟩
theorem d43_33 : mj_At 43 33 (.getfield 12) 36 [3, 0, 122] (.null) := ⟨3, (congrArg (fun z => mj_at z 33) f43).trans rfl, rfl⟩
theorem d43_36 : mj_At 43 36 (.getfield 89) 39 [2, 7, 57] (.null) := ⟨3, (congrArg (fun z => mj_at z 36) f43).trans rfl, rfl⟩
theorem d43_39 : mj_At 43 39 (.iload_n 1) 40 [1] (.null) := ⟨1, (congrArg (fun z => mj_at z 39) f43).trans rfl, rfl⟩
theorem d43_40 : mj_At 43 40 (.iaload) 41 [] (.null) := ⟨1, (congrArg (fun z => mj_at z 40) f43).trans rfl, rfl⟩
theorem d43_41 : mj_At 43 41 (.istore 4) 43 [4] (.null) := ⟨2, (congrArg (fun z => mj_at z 41) f43).trans rfl, rfl⟩
theorem d43_43 : mj_At 43 43 (.aload_n 0) 44 [0] (.null) := ⟨1, (congrArg (fun z => mj_at z 43) f43).trans rfl, rfl⟩
theorem d43_44 : mj_At 43 44 (.getfield 34) 47 [3, 4, 126] (.null) := ⟨3, (congrArg (fun z => mj_at z 44) f43).trans rfl, rfl⟩
theorem d43_47 : mj_At 43 47 (.iconst (0)) 48 [] (.int 0) := ⟨1, (congrArg (fun z => mj_at z 47) f43).trans rfl, rfl⟩
theorem d43_48 : mj_At 43 48 (.iload 4) 50 [4] (.null) := ⟨2, (congrArg (fun z => mj_at z 48) f43).trans rfl, rfl⟩
theorem d43_50 : mj_At 43 50 (.invokestatic 251) 53 [0, 8, 3, 167, 168, 18] (.null) := ⟨3, (congrArg (fun z => mj_at z 50) f43).trans rfl, rfl⟩
theorem d43_53 : mj_At 43 53 (.aload_n 0) 54 [0] (.null) := ⟨1, (congrArg (fun z => mj_at z 53) f43).trans rfl, rfl⟩
theorem d43_54 : mj_At 43 54 (.getfield 12) 57 [3, 0, 122] (.null) := ⟨3, (congrArg (fun z => mj_at z 54) f43).trans rfl, rfl⟩
theorem d43_57 : mj_At 43 57 (.getfield 60) 60 [2, 0, 43] (.null) := ⟨3, (congrArg (fun z => mj_at z 57) f43).trans rfl, rfl⟩
theorem d43_60 : mj_At 43 60 (.if_icmp .le (20)) 63 [80] (.null) := ⟨3, (congrArg (fun z => mj_at z 60) f43).trans rfl, rfl⟩
theorem d43_63 : mj_At 43 63 (.aload_n 0) 64 [0] (.null) := ⟨1, (congrArg (fun z => mj_at z 63) f43).trans rfl, rfl⟩
theorem d43_64 : mj_At 43 64 (.getfield 34) 67 [3, 4, 126] (.null) := ⟨3, (congrArg (fun z => mj_at z 64) f43).trans rfl, rfl⟩
theorem d43_67 : mj_At 43 67 (.iconst (0)) 68 [] (.int 0) := ⟨1, (congrArg (fun z => mj_at z 67) f43).trans rfl, rfl⟩
theorem d43_68 : mj_At 43 68 (.aload_n 0) 69 [0] (.null) := ⟨1, (congrArg (fun z => mj_at z 68) f43).trans rfl, rfl⟩
theorem d43_69 : mj_At 43 69 (.getfield 12) 72 [3, 0, 122] (.null) := ⟨3, (congrArg (fun z => mj_at z 69) f43).trans rfl, rfl⟩
theorem d43_72 : mj_At 43 72 (.getfield 60) 75 [2, 0, 43] (.null) := ⟨3, (congrArg (fun z => mj_at z 72) f43).trans rfl, rfl⟩
theorem d43_75 : mj_At 43 75 (.invokestatic 264) 78 [0, 11, 3, 180, 181, 18] (.null) := ⟨3, (congrArg (fun z => mj_at z 75) f43).trans rfl, rfl⟩
theorem d43_78 : mj_At 43 78 (.istore 4) 80 [4] (.null) := ⟨2, (congrArg (fun z => mj_at z 78) f43).trans rfl, rfl⟩
theorem d43_80 : mj_At 43 80 (.aload_n 0) 81 [0] (.null) := ⟨1, (congrArg (fun z => mj_at z 80) f43).trans rfl, rfl⟩
theorem d43_81 : mj_At 43 81 (.invokevirtual 77) 84 [1, 16, 1, 3, 194, 196, 6, 18] (.null) := ⟨3, (congrArg (fun z => mj_at z 81) f43).trans rfl, rfl⟩
theorem d43_84 : mj_At 43 84 (.aload_n 0) 85 [0] (.null) := ⟨1, (congrArg (fun z => mj_at z 84) f43).trans rfl, rfl⟩
theorem d43_85 : mj_At 43 85 (.iload_n 1) 86 [1] (.null) := ⟨1, (congrArg (fun z => mj_at z 85) f43).trans rfl, rfl⟩
theorem d43_86 : mj_At 43 86 (.invokevirtual 83) 89 [1, 14, 2, 3, 186, 188, 4, 18] (.null) := ⟨3, (congrArg (fun z => mj_at z 86) f43).trans rfl, rfl⟩
theorem d43_89 : mj_At 43 89 (.isub) 90 [] (.null) := ⟨1, (congrArg (fun z => mj_at z 89) f43).trans rfl, rfl⟩
theorem d43_90 : mj_At 43 90 (.iload 4) 92 [4] (.null) := ⟨2, (congrArg (fun z => mj_at z 90) f43).trans rfl, rfl⟩
theorem d43_92 : mj_At 43 92 (.aload_n 0) 93 [0] (.null) := ⟨1, (congrArg (fun z => mj_at z 92) f43).trans rfl, rfl⟩
theorem d43_93 : mj_At 43 93 (.getfield 34) 96 [3, 4, 126] (.null) := ⟨3, (congrArg (fun z => mj_at z 93) f43).trans rfl, rfl⟩
theorem d43_96 : mj_At 43 96 (.iconst (0)) 97 [] (.int 0) := ⟨1, (congrArg (fun z => mj_at z 96) f43).trans rfl, rfl⟩
theorem d43_97 : mj_At 43 97 (.iload 4) 99 [4] (.null) := ⟨2, (congrArg (fun z => mj_at z 97) f43).trans rfl, rfl⟩
theorem d43_99 : mj_At 43 99 (.invokestatic 251) 102 [0, 8, 3, 167, 168, 18] (.null) := ⟨3, (congrArg (fun z => mj_at z 99) f43).trans rfl, rfl⟩
theorem d43_102 : mj_At 43 102 (.invokestatic 248) 105 [0, 10, 2, 183, 184, 18] (.null) := ⟨3, (congrArg (fun z => mj_at z 102) f43).trans rfl, rfl⟩
theorem d43_105 : mj_At 43 105 (.iadd) 106 [] (.null) := ⟨1, (congrArg (fun z => mj_at z 105) f43).trans rfl, rfl⟩
theorem d43_106 : mj_At 43 106 (.ireturn) 107 [0] (.null) := ⟨1, (congrArg (fun z => mj_at z 106) f43).trans rfl, rfl⟩
theorem e43_0 {c : mj_C} {x1 : Int32} {x2 : Int32} {L : Nat} {ps : List (Option (Option Nat))} {rest : List mj_K} {a na : Nat} (ha : (w_sh L ps rest)[a]? = some (0, na, []))  : mj_EV 43 0 [some (.ref 2), some (.int x1), some (.int x2), some (.ref a), none] [] (w_sh L ps rest) c = (mj_then 43 11 [some (.ref 2), some (.int x1), some (.int x2), some (.ref a), none] [.ref 5] (mj_EV 7 0 [some (.int x1)] [] (w_sh L ps rest) c)) := (mj_aload_n d43_0 rfl (mj_getR d43_1 w_2 rfl (mj_getR d43_4 w_3 rfl (mj_iload_n d43_7 rfl (mj_invS [some (.int x1)] [.ref 5] d43_8 (by decide) rfl rfl rfl rfl)))))
theorem e43_11 {c : mj_C} {x1 : Int32} {x2 : Int32} {z1 : Int32} {L : Nat} {ps : List (Option (Option Nat))} {rest : List mj_K} {a na : Nat} (ha : (w_sh L ps rest)[a]? = some (0, na, []))  : mj_EV 43 11 [some (.ref 2), some (.int x1), some (.int x2), some (.ref a), none] [.int z1, .ref 5] (w_sh L ps rest) c = (if ((!decide (z1 < nI 0) && (!decide ((nI 0) < nI 0) && !decide ((nI 8) < nI 0))) && (decide (z1.toNatClampNeg + (nI 8).toNatClampNeg ≤ 80) && decide ((nI 0).toNatClampNeg + (nI 8).toNatClampNeg ≤ 8))) = true then (mj_then 43 31 [some (.ref 2), some (.int x1), some (.int x2), some (.ref a), none] [.int x2, .ref 50] (mj_EV 42 0 [some (.ref a), some (.int (nI 0)), none, none] [] (w_sh L ps rest) (mj_cp c 5 50 z1.toNatClampNeg (nI 0).toNatClampNeg (nI 8).toNatClampNeg))) else none) := (mj_aload_n d43_11 rfl (mj_getR d43_12 w_2 rfl (mj_iconst d43_15 (mj_bipush d43_16 (mj_acpy d43_18 w_5 w_50 (mj_aload_n d43_21 rfl (mj_getR d43_22 w_2 rfl (mj_iload_n d43_25 rfl (mj_aload_n d43_26 rfl (mj_iconst d43_27 (mj_invS [some (.ref a), some (.int (nI 0)), none, none] [.int x2, .ref 50] d43_28 (by decide) rfl rfl rfl rfl)))))))))))
theorem e43_31 {c : mj_C} {x1 : Int32} {x2 : Int32} {z1 : Int32} {z2 : Int32} {L : Nat} {ps : List (Option (Option Nat))} {rest : List mj_K} {a na : Nat} (ha : (w_sh L ps rest)[a]? = some (0, na, []))  : mj_EV 43 31 [some (.ref 2), some (.int x1), some (.int x2), some (.ref a), none] [.int z2, .int z1, .ref 50] (w_sh L ps rest) c = (if mj_in z1 8 = true then (if mj_in x1 10 = true then (mj_then 43 53 [some (.ref 2), some (.int x1), some (.int x2), some (.ref a), some (.int ((mj_u c 50 z1.toNatClampNeg z2) 6 x1.toNatClampNeg))] [] (mj_EV 8 0 [some (.ref 50), some (.int (nI 0)), some (.int ((mj_u c 50 z1.toNatClampNeg z2) 6 x1.toNatClampNeg)), none, none] [] (w_sh L ps rest) (mj_u c 50 z1.toNatClampNeg z2))) else none) else none) := (mj_iast d43_31 w_50 (mj_aload_n d43_32 rfl (mj_getR d43_33 w_2 rfl (mj_getR d43_36 w_3 rfl (mj_iload_n d43_39 rfl (mj_iald d43_40 w_6 (mj_istore [some (.ref 2), some (.int x1), some (.int x2), some (.ref a), some (.int ((mj_u c 50 z1.toNatClampNeg z2) 6 x1.toNatClampNeg))] d43_41 rfl rfl (mj_aload_n d43_43 rfl (mj_getR d43_44 w_2 rfl (mj_iconst d43_47 (mj_iload d43_48 rfl (mj_invS [some (.ref 50), some (.int (nI 0)), some (.int ((mj_u c 50 z1.toNatClampNeg z2) 6 x1.toNatClampNeg)), none, none] [] d43_50 (by decide) rfl rfl rfl rfl))))))))))))
theorem e43_53 {c : mj_C} {x1 : Int32} {x2 : Int32} {x4 : Int32} {z0 : Int32} {L : Nat} {ps : List (Option (Option Nat))} {rest : List mj_K} {a na : Nat} (ha : (w_sh L ps rest)[a]? = some (0, na, []))  : mj_EV 43 53 [some (.ref 2), some (.int x1), some (.int x2), some (.ref a), some (.int x4)] [.int z0] (w_sh L ps rest) c = (if z0 ≤ (c 3 0) then (mj_then 43 84 [some (.ref 2), some (.int x1), some (.int x2), some (.ref a), some (.int x4)] [] (mj_EV 16 0 [some (.ref 2), none, none] [] (w_sh L ps rest) c)) else (mj_then 43 78 [some (.ref 2), some (.int x1), some (.int x2), some (.ref a), some (.int x4)] [] (mj_EV 11 0 [some (.ref 50), some (.int (nI 0)), some (.int (c 3 0)), none, none, none, none, none] [] (w_sh L ps rest) c))) := (mj_aload_n d43_53 rfl (mj_getR d43_54 w_2 rfl (mj_getI d43_57 w_3 rfl (mj_icle d43_60 (mj_aload_n d43_80 rfl (mj_invV [some (.ref 2), none, none] [] d43_81 rfl rfl rfl w_2 rfl rfl)) (mj_aload_n d43_63 rfl (mj_getR d43_64 w_2 rfl (mj_iconst d43_67 (mj_aload_n d43_68 rfl (mj_getR d43_69 w_2 rfl (mj_getI d43_72 w_3 rfl (mj_invS [some (.ref 50), some (.int (nI 0)), some (.int (c 3 0)), none, none, none, none, none] [] d43_75 (by decide) rfl rfl rfl rfl)))))))))))
theorem e43_78 {c : mj_C} {x1 : Int32} {x2 : Int32} {x4 : Int32} {z0 : Int32} {L : Nat} {ps : List (Option (Option Nat))} {rest : List mj_K} {a na : Nat} (ha : (w_sh L ps rest)[a]? = some (0, na, []))  : mj_EV 43 78 [some (.ref 2), some (.int x1), some (.int x2), some (.ref a), some (.int x4)] [.int z0] (w_sh L ps rest) c = (mj_then 43 84 [some (.ref 2), some (.int x1), some (.int x2), some (.ref a), some (.int z0)] [] (mj_EV 16 0 [some (.ref 2), none, none] [] (w_sh L ps rest) c)) := (mj_istore [some (.ref 2), some (.int x1), some (.int x2), some (.ref a), some (.int z0)] d43_78 rfl rfl (mj_aload_n d43_80 rfl (mj_invV [some (.ref 2), none, none] [] d43_81 rfl rfl rfl w_2 rfl rfl)))
theorem e43_84 {c : mj_C} {x1 : Int32} {x2 : Int32} {x4 : Int32} {z0 : Int32} {L : Nat} {ps : List (Option (Option Nat))} {rest : List mj_K} {a na : Nat} (ha : (w_sh L ps rest)[a]? = some (0, na, []))  : mj_EV 43 84 [some (.ref 2), some (.int x1), some (.int x2), some (.ref a), some (.int x4)] [.int z0] (w_sh L ps rest) c = (mj_then 43 89 [some (.ref 2), some (.int x1), some (.int x2), some (.ref a), some (.int x4)] [.int z0] (mj_EV 14 0 [some (.ref 2), some (.int x1)] [] (w_sh L ps rest) c)) := (mj_aload_n d43_84 rfl (mj_iload_n d43_85 rfl (mj_invV [some (.ref 2), some (.int x1)] [.int z0] d43_86 rfl rfl rfl w_2 rfl rfl)))
theorem e43_89 {c : mj_C} {x1 : Int32} {x2 : Int32} {x4 : Int32} {z0 : Int32} {z1 : Int32} {L : Nat} {ps : List (Option (Option Nat))} {rest : List mj_K} {a na : Nat} (ha : (w_sh L ps rest)[a]? = some (0, na, []))  : mj_EV 43 89 [some (.ref 2), some (.int x1), some (.int x2), some (.ref a), some (.int x4)] [.int z1, .int z0] (w_sh L ps rest) c = (mj_then 43 102 [some (.ref 2), some (.int x1), some (.int x2), some (.ref a), some (.int x4)] [.int x4, .int (z0 - z1)] (mj_EV 8 0 [some (.ref 50), some (.int (nI 0)), some (.int x4), none, none] [] (w_sh L ps rest) c)) := (mj_isub d43_89 (mj_iload d43_90 rfl (mj_aload_n d43_92 rfl (mj_getR d43_93 w_2 rfl (mj_iconst d43_96 (mj_iload d43_97 rfl (mj_invS [some (.ref 50), some (.int (nI 0)), some (.int x4), none, none] [.int x4, .int (z0 - z1)] d43_99 (by decide) rfl rfl rfl rfl)))))))
theorem e43_102 {c : mj_C} {x1 : Int32} {x2 : Int32} {x4 : Int32} {z0 : Int32} {z1 : Int32} {z2 : Int32} {L : Nat} {ps : List (Option (Option Nat))} {rest : List mj_K} {a na : Nat} (ha : (w_sh L ps rest)[a]? = some (0, na, []))  : mj_EV 43 102 [some (.ref 2), some (.int x1), some (.int x2), some (.ref a), some (.int x4)] [.int z2, .int z1, .int z0] (w_sh L ps rest) c = (mj_then 43 105 [some (.ref 2), some (.int x1), some (.int x2), some (.ref a), some (.int x4)] [.int z0] (mj_EV 10 0 [some (.int z1), some (.int z2)] [] (w_sh L ps rest) c)) := (mj_invS [some (.int z1), some (.int z2)] [.int z0] d43_102 (by decide) rfl rfl rfl rfl)
theorem e43_105 {c : mj_C} {x1 : Int32} {x2 : Int32} {x4 : Int32} {z0 : Int32} {z1 : Int32} {L : Nat} {ps : List (Option (Option Nat))} {rest : List mj_K} {a na : Nat} (ha : (w_sh L ps rest)[a]? = some (0, na, []))  : mj_EV 43 105 [some (.ref 2), some (.int x1), some (.int x2), some (.ref a), some (.int x4)] [.int z1, .int z0] (w_sh L ps rest) c = (some (some (.int (z0 + z1)), (w_sh L ps rest), c)) := (mj_iadd d43_105 (mj_iret d43_106))
/-- SqueezedLines$State.putWords(II[I)V -/
theorem f44 : mj_cd 44 = mj_c44 := rfl
theorem d44_0 : mj_At 44 0 (.aload_n 3) 1 [3] (.null) := ⟨1, (congrArg (fun z => mj_at z 0) f44).trans rfl, rfl⟩
theorem d44_1 : mj_At 44 1 (.iconst (0)) 2 [] (.int 0) := ⟨1, (congrArg (fun z => mj_at z 1) f44).trans rfl, rfl⟩
theorem d44_2 : mj_At 44 2 (.aload_n 0) 3 [0] (.null) := ⟨1, (congrArg (fun z => mj_at z 2) f44).trans rfl, rfl⟩
theorem d44_3 : mj_At 44 3 (.getfield 27) 6 [2, 5, 52] (.null) := ⟨3, (congrArg (fun z => mj_at z 3) f44).trans rfl, rfl⟩
theorem d44_6 : mj_At 44 6 (.iload_n 1) 7 [1] (.null) := ⟨1, (congrArg (fun z => mj_at z 6) f44).trans rfl, rfl⟩
theorem d44_7 : mj_At 44 7 (.iload_n 2) 8 [2] (.null) := ⟨1, (congrArg (fun z => mj_at z 7) f44).trans rfl, rfl⟩
theorem d44_8 : mj_At 44 8 (.invokestatic 59) 11 [3, 25, 2, 1, 234, 18] (.null) := ⟨3, (congrArg (fun z => mj_at z 8) f44).trans rfl, rfl⟩
theorem d44_11 : mj_At 44 11 (.bipush (8)) 13 [] (.int 8) := ⟨2, (congrArg (fun z => mj_at z 11) f44).trans rfl, rfl⟩
theorem d44_13 : mj_At 44 13 (.invokestatic 49) 16 [6, 210, 212, 211, 23] (.null) := ⟨3, (congrArg (fun z => mj_at z 13) f44).trans rfl, rfl⟩
theorem d44_16 : mj_At 44 16 (.aload_n 0) 17 [0] (.null) := ⟨1, (congrArg (fun z => mj_at z 16) f44).trans rfl, rfl⟩
theorem d44_17 : mj_At 44 17 (.getfield 31) 20 [2, 6, 54] (.null) := ⟨3, (congrArg (fun z => mj_at z 17) f44).trans rfl, rfl⟩
theorem d44_20 : mj_At 44 20 (.iload_n 1) 21 [1] (.null) := ⟨1, (congrArg (fun z => mj_at z 20) f44).trans rfl, rfl⟩
theorem d44_21 : mj_At 44 21 (.invokestatic 66) 24 [3, 7, 1, 2, 165, 18] (.null) := ⟨3, (congrArg (fun z => mj_at z 21) f44).trans rfl, rfl⟩
theorem d44_24 : mj_At 44 24 (.iload_n 2) 25 [2] (.null) := ⟨1, (congrArg (fun z => mj_at z 24) f44).trans rfl, rfl⟩
theorem d44_25 : mj_At 44 25 (.iadd) 26 [] (.null) := ⟨1, (congrArg (fun z => mj_at z 25) f44).trans rfl, rfl⟩
theorem d44_26 : mj_At 44 26 (.aload_n 3) 27 [3] (.null) := ⟨1, (congrArg (fun z => mj_at z 26) f44).trans rfl, rfl⟩
theorem d44_27 : mj_At 44 27 (.iconst (0)) 28 [] (.int 0) := ⟨1, (congrArg (fun z => mj_at z 27) f44).trans rfl, rfl⟩
theorem d44_28 : mj_At 44 28 (.invokestatic 70) 31 [3, 42, 2, 3, 290, 18] (.null) := ⟨3, (congrArg (fun z => mj_at z 28) f44).trans rfl, rfl⟩
theorem d44_31 : mj_At 44 31 (.iastore) 32 [] (.null) := ⟨1, (congrArg (fun z => mj_at z 31) f44).trans rfl, rfl⟩
theorem d44_32 : mj_At 44 32 (.return_) 33 [] (.null) := ⟨1, (congrArg (fun z => mj_at z 32) f44).trans rfl, rfl⟩
theorem e44_0 {c : mj_C} {x1 : Int32} {x2 : Int32} {L : Nat} {ps : List (Option (Option Nat))} {rest : List mj_K} {a na : Nat} (ha : (w_sh L ps rest)[a]? = some (0, na, []))  : mj_EV 44 0 [some (.ref 3), some (.int x1), some (.int x2), some (.ref a)] [] (w_sh L ps rest) c = (mj_then 44 11 [some (.ref 3), some (.int x1), some (.int x2), some (.ref a)] [.ref 4, .int (nI 0), .ref a] (mj_EV 25 0 [some (.int x1), some (.int x2)] [] (w_sh L ps rest) c)) := (mj_aload_n d44_0 rfl (mj_iconst d44_1 (mj_aload_n d44_2 rfl (mj_getR d44_3 w_3 rfl (mj_iload_n d44_6 rfl (mj_iload_n d44_7 rfl (mj_invS [some (.int x1), some (.int x2)] [.ref 4, .int (nI 0), .ref a] d44_8 (by decide) rfl rfl rfl rfl)))))))
theorem e44_11 {c : mj_C} {x1 : Int32} {x2 : Int32} {z1 : Int32} {z3 : Int32} {L : Nat} {ps : List (Option (Option Nat))} {rest : List mj_K} {a na : Nat} (ha : (w_sh L ps rest)[a]? = some (0, na, []))  : mj_EV 44 11 [some (.ref 3), some (.int x1), some (.int x2), some (.ref a)] [.int z3, .ref 4, .int z1, .ref a] (w_sh L ps rest) c = (if ((!decide (z1 < nI 0) && (!decide (z3 < nI 0) && !decide ((nI 8) < nI 0))) && (decide (z1.toNatClampNeg + (nI 8).toNatClampNeg ≤ na) && decide (z3.toNatClampNeg + (nI 8).toNatClampNeg ≤ 640))) = true then (mj_then 44 24 [some (.ref 3), some (.int x1), some (.int x2), some (.ref a)] [.ref 5] (mj_EV 7 0 [some (.int x1)] [] (w_sh L ps rest) (mj_cp c a 4 z1.toNatClampNeg z3.toNatClampNeg (nI 8).toNatClampNeg))) else none) := (mj_bipush d44_11 (mj_acpy d44_13 ha w_4 (mj_aload_n d44_16 rfl (mj_getR d44_17 w_3 rfl (mj_iload_n d44_20 rfl (mj_invS [some (.int x1)] [.ref 5] d44_21 (by decide) rfl rfl rfl rfl))))))
theorem e44_24 {c : mj_C} {x1 : Int32} {x2 : Int32} {z1 : Int32} {L : Nat} {ps : List (Option (Option Nat))} {rest : List mj_K} {a na : Nat} (ha : (w_sh L ps rest)[a]? = some (0, na, []))  : mj_EV 44 24 [some (.ref 3), some (.int x1), some (.int x2), some (.ref a)] [.int z1, .ref 5] (w_sh L ps rest) c = (mj_then 44 31 [some (.ref 3), some (.int x1), some (.int x2), some (.ref a)] [.int (z1 + x2), .ref 5] (mj_EV 42 0 [some (.ref a), some (.int (nI 0)), none, none] [] (w_sh L ps rest) c)) := (mj_iload_n d44_24 rfl (mj_iadd d44_25 (mj_aload_n d44_26 rfl (mj_iconst d44_27 (mj_invS [some (.ref a), some (.int (nI 0)), none, none] [.int (z1 + x2), .ref 5] d44_28 (by decide) rfl rfl rfl rfl)))))
theorem e44_31 {c : mj_C} {x1 : Int32} {x2 : Int32} {z1 : Int32} {z2 : Int32} {L : Nat} {ps : List (Option (Option Nat))} {rest : List mj_K} {a na : Nat} (ha : (w_sh L ps rest)[a]? = some (0, na, []))  : mj_EV 44 31 [some (.ref 3), some (.int x1), some (.int x2), some (.ref a)] [.int z2, .int z1, .ref 5] (w_sh L ps rest) c = (if mj_in z1 80 = true then (some (none, (w_sh L ps rest), (mj_u c 5 z1.toNatClampNeg z2))) else none) := (mj_iast d44_31 w_5 (mj_vret d44_32))
/-- SqueezedLines.putLine(II[I)V -/
theorem f45 : mj_cd 45 = mj_c45 := rfl
theorem d45_0 : mj_At 45 0 (.aload_n 0) 1 [0] (.null) := ⟨1, (congrArg (fun z => mj_at z 0) f45).trans rfl, rfl⟩
theorem d45_1 : mj_At 45 1 (.getfield 12) 4 [3, 0, 122] (.null) := ⟨3, (congrArg (fun z => mj_at z 1) f45).trans rfl, rfl⟩
theorem d45_4 : mj_At 45 4 (.iload_n 1) 5 [1] (.null) := ⟨1, (congrArg (fun z => mj_at z 4) f45).trans rfl, rfl⟩
theorem d45_5 : mj_At 45 5 (.iload_n 2) 6 [2] (.null) := ⟨1, (congrArg (fun z => mj_at z 5) f45).trans rfl, rfl⟩
theorem d45_6 : mj_At 45 6 (.aload_n 3) 7 [3] (.null) := ⟨1, (congrArg (fun z => mj_at z 6) f45).trans rfl, rfl⟩
theorem d45_7 : mj_At 45 7 (.invokevirtual 276) 10 [1, 44, 4, 2, 308, 309, 310, 19] (.null) := ⟨3, (congrArg (fun z => mj_at z 7) f45).trans rfl, rfl⟩
theorem d45_10 : mj_At 45 10 (.aload_n 0) 11 [0] (.null) := ⟨1, (congrArg (fun z => mj_at z 10) f45).trans rfl, rfl⟩
theorem d45_11 : mj_At 45 11 (.iload_n 1) 12 [1] (.null) := ⟨1, (congrArg (fun z => mj_at z 11) f45).trans rfl, rfl⟩
theorem d45_12 : mj_At 45 12 (.invokevirtual 66) 15 [1, 21, 2, 3, 213, 215, 8, 18] (.null) := ⟨3, (congrArg (fun z => mj_at z 12) f45).trans rfl, rfl⟩
theorem d45_15 : mj_At 45 15 (.return_) 16 [] (.null) := ⟨1, (congrArg (fun z => mj_at z 15) f45).trans rfl, rfl⟩
theorem e45_0 {c : mj_C} {x1 : Int32} {x2 : Int32} {L : Nat} {ps : List (Option (Option Nat))} {rest : List mj_K} {a na : Nat} (ha : (w_sh L ps rest)[a]? = some (0, na, []))  : mj_EV 45 0 [some (.ref 2), some (.int x1), some (.int x2), some (.ref a)] [] (w_sh L ps rest) c = (mj_then 45 10 [some (.ref 2), some (.int x1), some (.int x2), some (.ref a)] [] (mj_EV 44 0 [some (.ref 3), some (.int x1), some (.int x2), some (.ref a)] [] (w_sh L ps rest) c)) := (mj_aload_n d45_0 rfl (mj_getR d45_1 w_2 rfl (mj_iload_n d45_4 rfl (mj_iload_n d45_5 rfl (mj_aload_n d45_6 rfl (mj_invV [some (.ref 3), some (.int x1), some (.int x2), some (.ref a)] [] d45_7 rfl rfl rfl w_3 rfl rfl))))))
theorem e45_10 {c : mj_C} {x1 : Int32} {x2 : Int32} {L : Nat} {ps : List (Option (Option Nat))} {rest : List mj_K} {a na : Nat} (ha : (w_sh L ps rest)[a]? = some (0, na, []))  : mj_EV 45 10 [some (.ref 2), some (.int x1), some (.int x2), some (.ref a)] [] (w_sh L ps rest) c = (mj_then 45 15 [some (.ref 2), some (.int x1), some (.int x2), some (.ref a)] [] (mj_EV 21 0 [some (.ref 2), some (.int x1)] [] (w_sh L ps rest) c)) := (mj_aload_n d45_10 rfl (mj_iload_n d45_11 rfl (mj_invV [some (.ref 2), some (.int x1)] [] d45_12 rfl rfl rfl w_2 rfl rfl)))
theorem e45_15 {c : mj_C} {x1 : Int32} {x2 : Int32} {L : Nat} {ps : List (Option (Option Nat))} {rest : List mj_K} {a na : Nat} (ha : (w_sh L ps rest)[a]? = some (0, na, []))  : mj_EV 45 15 [some (.ref 2), some (.int x1), some (.int x2), some (.ref a)] [] (w_sh L ps rest) c = (some (none, (w_sh L ps rest), c)) := (mj_vret d45_15)
/-- SqueezedLines$State.formOf(II)I -/
theorem f46 : mj_cd 46 = mj_c46 := rfl
theorem d46_0 : mj_At 46 0 (.aload_n 0) 1 [0] (.null) := ⟨1, (congrArg (fun z => mj_at z 0) f46).trans rfl, rfl⟩
theorem d46_1 : mj_At 46 1 (.getfield 31) 4 [2, 6, 54] (.null) := ⟨3, (congrArg (fun z => mj_at z 1) f46).trans rfl, rfl⟩
theorem d46_4 : mj_At 46 4 (.iload_n 1) 5 [1] (.null) := ⟨1, (congrArg (fun z => mj_at z 4) f46).trans rfl, rfl⟩
theorem d46_5 : mj_At 46 5 (.invokestatic 66) 8 [3, 7, 1, 2, 165, 18] (.null) := ⟨3, (congrArg (fun z => mj_at z 5) f46).trans rfl, rfl⟩
theorem d46_8 : mj_At 46 8 (.iload_n 2) 9 [2] (.null) := ⟨1, (congrArg (fun z => mj_at z 8) f46).trans rfl, rfl⟩
theorem d46_9 : mj_At 46 9 (.iadd) 10 [] (.null) := ⟨1, (congrArg (fun z => mj_at z 9) f46).trans rfl, rfl⟩
theorem d46_10 : mj_At 46 10 (.iaload) 11 [] (.null) := ⟨1, (congrArg (fun z => mj_at z 10) f46).trans rfl, rfl⟩
theorem d46_11 : mj_At 46 11 (.ireturn) 12 [0] (.null) := ⟨1, (congrArg (fun z => mj_at z 11) f46).trans rfl, rfl⟩
theorem e46_0 {c : mj_C} {x1 : Int32} {x2 : Int32} {L : Nat} {ps : List (Option (Option Nat))} {rest : List mj_K}   : mj_EV 46 0 [some (.ref 3), some (.int x1), some (.int x2)] [] (w_sh L ps rest) c = (mj_then 46 8 [some (.ref 3), some (.int x1), some (.int x2)] [.ref 5] (mj_EV 7 0 [some (.int x1)] [] (w_sh L ps rest) c)) := (mj_aload_n d46_0 rfl (mj_getR d46_1 w_3 rfl (mj_iload_n d46_4 rfl (mj_invS [some (.int x1)] [.ref 5] d46_5 (by decide) rfl rfl rfl rfl))))
theorem e46_8 {c : mj_C} {x1 : Int32} {x2 : Int32} {z1 : Int32} {L : Nat} {ps : List (Option (Option Nat))} {rest : List mj_K}   : mj_EV 46 8 [some (.ref 3), some (.int x1), some (.int x2)] [.int z1, .ref 5] (w_sh L ps rest) c = (if mj_in (z1 + x2) 80 = true then (some (some (.int (c 5 (z1 + x2).toNatClampNeg)), (w_sh L ps rest), c)) else none) := (mj_iload_n d46_8 rfl (mj_iadd d46_9 (mj_iald d46_10 w_5 (mj_iret d46_11))))
/-- SqueezedLines.changeLine(II)I -/
theorem f47 : mj_cd 47 = mj_c47 := rfl
theorem d47_0 : mj_At 47 0 (.aload_n 0) 1 [0] (.null) := ⟨1, (congrArg (fun z => mj_at z 0) f47).trans rfl, rfl⟩
theorem d47_1 : mj_At 47 1 (.aload_n 0) 2 [0] (.null) := ⟨1, (congrArg (fun z => mj_at z 1) f47).trans rfl, rfl⟩
theorem d47_2 : mj_At 47 2 (.iload_n 1) 3 [1] (.null) := ⟨1, (congrArg (fun z => mj_at z 2) f47).trans rfl, rfl⟩
theorem d47_3 : mj_At 47 3 (.iload_n 2) 4 [2] (.null) := ⟨1, (congrArg (fun z => mj_at z 3) f47).trans rfl, rfl⟩
theorem d47_4 : mj_At 47 4 (.aload_n 0) 5 [0] (.null) := ⟨1, (congrArg (fun z => mj_at z 4) f47).trans rfl, rfl⟩
theorem d47_5 : mj_At 47 5 (.getfield 30) 8 [3, 3, 125] (.null) := ⟨3, (congrArg (fun z => mj_at z 5) f47).trans rfl, rfl⟩
theorem d47_8 : mj_At 47 8 (.invokevirtual 187) 11 [1, 43, 4, 3, 285, 287, 11, 18] (.null) := ⟨3, (congrArg (fun z => mj_at z 8) f47).trans rfl, rfl⟩
theorem d47_11 : mj_At 47 11 (.invokevirtual 53) 14 [1, 17, 2, 3, 190, 192, 5, 18] (.null) := ⟨3, (congrArg (fun z => mj_at z 11) f47).trans rfl, rfl⟩
theorem d47_14 : mj_At 47 14 (.ifCond .eq (6)) 17 [20] (.null) := ⟨3, (congrArg (fun z => mj_at z 14) f47).trans rfl, rfl⟩
theorem d47_17 : mj_At 47 17 (.bipush (-4)) 19 [] (.int (-4)) := ⟨2, (congrArg (fun z => mj_at z 17) f47).trans rfl, rfl⟩
theorem d47_19 : mj_At 47 19 (.ireturn) 20 [0] (.null) := ⟨1, (congrArg (fun z => mj_at z 19) f47).trans rfl, rfl⟩
theorem d47_20 : mj_At 47 20 (.aload_n 0) 21 [0] (.null) := ⟨1, (congrArg (fun z => mj_at z 20) f47).trans rfl, rfl⟩
theorem d47_21 : mj_At 47 21 (.getfield 19) 24 [3, 1, 123] (.null) := ⟨3, (congrArg (fun z => mj_at z 21) f47).trans rfl, rfl⟩
theorem d47_24 : mj_At 47 24 (.aload_n 0) 25 [0] (.null) := ⟨1, (congrArg (fun z => mj_at z 24) f47).trans rfl, rfl⟩
theorem d47_25 : mj_At 47 25 (.getfield 12) 28 [3, 0, 122] (.null) := ⟨3, (congrArg (fun z => mj_at z 25) f47).trans rfl, rfl⟩
theorem d47_28 : mj_At 47 28 (.invokevirtual 56) 31 [1, 20, 2, 1, 198, 199, 200, 21] (.null) := ⟨3, (congrArg (fun z => mj_at z 28) f47).trans rfl, rfl⟩
theorem d47_31 : mj_At 47 31 (.aload_n 0) 32 [0] (.null) := ⟨1, (congrArg (fun z => mj_at z 31) f47).trans rfl, rfl⟩
theorem d47_32 : mj_At 47 32 (.iload_n 1) 33 [1] (.null) := ⟨1, (congrArg (fun z => mj_at z 32) f47).trans rfl, rfl⟩
theorem d47_33 : mj_At 47 33 (.iload_n 2) 34 [2] (.null) := ⟨1, (congrArg (fun z => mj_at z 33) f47).trans rfl, rfl⟩
theorem d47_34 : mj_At 47 34 (.aload_n 0) 35 [0] (.null) := ⟨1, (congrArg (fun z => mj_at z 34) f47).trans rfl, rfl⟩
theorem d47_35 : mj_At 47 35 (.getfield 30) 38 [3, 3, 125] (.null) := ⟨3, (congrArg (fun z => mj_at z 35) f47).trans rfl, rfl⟩
theorem d47_38 : mj_At 47 38 (.invokevirtual 280) 41 [1, 45, 4, 3, 304, 306, 12, 18] (.null) := ⟨3, (congrArg (fun z => mj_at z 38) f47).trans rfl, rfl⟩
theorem d47_41 : mj_At 47 41 (.aload_n 0) 42 [0] (.null) := ⟨1, (congrArg (fun z => mj_at z 41) f47).trans rfl, rfl⟩
theorem d47_42 : mj_At 47 42 (.getfield 12) 45 [3, 0, 122] (.null) := ⟨3, (congrArg (fun z => mj_at z 42) f47).trans rfl, rfl⟩
theorem d47_45 : mj_At 47 45 (.iload_n 1) 46 [1] (.null) := ⟨1, (congrArg (fun z => mj_at z 45) f47).trans rfl, rfl⟩
theorem d47_46 : mj_At 47 46 (.iload_n 2) 47 [2] (.null) := ⟨1, (congrArg (fun z => mj_at z 46) f47).trans rfl, rfl⟩
theorem d47_47 : mj_At 47 47 (.invokevirtual 155) 50 [1, 46, 3, 2, 313, 314, 315, 19] (.null) := ⟨3, (congrArg (fun z => mj_at z 47) f47).trans rfl, rfl⟩
theorem d47_50 : mj_At 47 50 (.ireturn) 51 [0] (.null) := ⟨1, (congrArg (fun z => mj_at z 50) f47).trans rfl, rfl⟩
theorem e47_0 {c : mj_C} {x1 : Int32} {x2 : Int32} {L : Nat} {ps : List (Option (Option Nat))} {rest : List mj_K}   : mj_EV 47 0 [some (.ref 2), some (.int x1), some (.int x2)] [] (w_sh L ps rest) c = (mj_then 47 11 [some (.ref 2), some (.int x1), some (.int x2)] [.ref 2] (mj_EV 43 0 [some (.ref 2), some (.int x1), some (.int x2), some (.ref 49), none] [] (w_sh L ps rest) c)) := (mj_aload_n d47_0 rfl (mj_aload_n d47_1 rfl (mj_iload_n d47_2 rfl (mj_iload_n d47_3 rfl (mj_aload_n d47_4 rfl (mj_getR d47_5 w_2 rfl (mj_invV [some (.ref 2), some (.int x1), some (.int x2), some (.ref 49), none] [.ref 2] d47_8 rfl rfl rfl w_2 rfl rfl)))))))
theorem e47_11 {c : mj_C} {x1 : Int32} {x2 : Int32} {z1 : Int32} {L : Nat} {ps : List (Option (Option Nat))} {rest : List mj_K}   : mj_EV 47 11 [some (.ref 2), some (.int x1), some (.int x2)] [.int z1, .ref 2] (w_sh L ps rest) c = (mj_then 47 14 [some (.ref 2), some (.int x1), some (.int x2)] [] (mj_EV 17 0 [some (.ref 2), some (.int z1)] [] (w_sh L ps rest) c)) := (mj_invV [some (.ref 2), some (.int z1)] [] d47_11 rfl rfl rfl w_2 rfl rfl)
theorem e47_14 {c : mj_C} {x1 : Int32} {x2 : Int32} {z0 : Int32} {L : Nat} {ps : List (Option (Option Nat))} {rest : List mj_K}   : mj_EV 47 14 [some (.ref 2), some (.int x1), some (.int x2)] [.int z0] (w_sh L ps rest) c = (if z0 = nI 0 then (mj_then 47 31 [some (.ref 2), some (.int x1), some (.int x2)] [] (mj_EV 20 0 [some (.ref 9), some (.ref 3)] [] (w_sh L ps rest) c)) else (some (some (.int (-4)), (w_sh L ps rest), c))) := (mj_ifeq d47_14 (mj_aload_n d47_20 rfl (mj_getR d47_21 w_2 rfl (mj_aload_n d47_24 rfl (mj_getR d47_25 w_2 rfl (mj_invV [some (.ref 9), some (.ref 3)] [] d47_28 rfl rfl rfl w_9 rfl rfl))))) (mj_bipush d47_17 (mj_iret d47_19)))
theorem e47_31 {c : mj_C} {x1 : Int32} {x2 : Int32} {L : Nat} {ps : List (Option (Option Nat))} {rest : List mj_K}   : mj_EV 47 31 [some (.ref 2), some (.int x1), some (.int x2)] [] (w_sh L ps rest) c = (mj_then 47 41 [some (.ref 2), some (.int x1), some (.int x2)] [] (mj_EV 45 0 [some (.ref 2), some (.int x1), some (.int x2), some (.ref 49)] [] (w_sh L ps rest) c)) := (mj_aload_n d47_31 rfl (mj_iload_n d47_32 rfl (mj_iload_n d47_33 rfl (mj_aload_n d47_34 rfl (mj_getR d47_35 w_2 rfl (mj_invV [some (.ref 2), some (.int x1), some (.int x2), some (.ref 49)] [] d47_38 rfl rfl rfl w_2 rfl rfl))))))
theorem e47_41 {c : mj_C} {x1 : Int32} {x2 : Int32} {L : Nat} {ps : List (Option (Option Nat))} {rest : List mj_K}   : mj_EV 47 41 [some (.ref 2), some (.int x1), some (.int x2)] [] (w_sh L ps rest) c = (mj_then 47 50 [some (.ref 2), some (.int x1), some (.int x2)] [] (mj_EV 46 0 [some (.ref 3), some (.int x1), some (.int x2)] [] (w_sh L ps rest) c)) := (mj_aload_n d47_41 rfl (mj_getR d47_42 w_2 rfl (mj_iload_n d47_45 rfl (mj_iload_n d47_46 rfl (mj_invV [some (.ref 3), some (.int x1), some (.int x2)] [] d47_47 rfl rfl rfl w_3 rfl rfl)))))
theorem e47_50 {c : mj_C} {x1 : Int32} {x2 : Int32} {z0 : Int32} {L : Nat} {ps : List (Option (Option Nat))} {rest : List mj_K}   : mj_EV 47 50 [some (.ref 2), some (.int x1), some (.int x2)] [.int z0] (w_sh L ps rest) c = (some (some (.int z0), (w_sh L ps rest), c)) := (mj_iret d47_50)
/-- SqueezedLines.write(IIII)I -/
theorem f48 : mj_cd 48 = mj_c48 := rfl
theorem d48_0 : mj_At 48 0 (.aload_n 0) 1 [0] (.null) := ⟨1, (congrArg (fun z => mj_at z 0) f48).trans rfl, rfl⟩
theorem d48_1 : mj_At 48 1 (.getfield 12) 4 [3, 0, 122] (.null) := ⟨3, (congrArg (fun z => mj_at z 1) f48).trans rfl, rfl⟩
theorem d48_4 : mj_At 48 4 (.iload_n 1) 5 [1] (.null) := ⟨1, (congrArg (fun z => mj_at z 4) f48).trans rfl, rfl⟩
theorem d48_5 : mj_At 48 5 (.iload_n 2) 6 [2] (.null) := ⟨1, (congrArg (fun z => mj_at z 5) f48).trans rfl, rfl⟩
theorem d48_6 : mj_At 48 6 (.invokevirtual 96) 9 [1, 34, 3, 2, 263, 264, 265, 19] (.null) := ⟨3, (congrArg (fun z => mj_at z 6) f48).trans rfl, rfl⟩
theorem d48_9 : mj_At 48 9 (.ifCond .eq (10)) 12 [19] (.null) := ⟨3, (congrArg (fun z => mj_at z 9) f48).trans rfl, rfl⟩
theorem d48_12 : mj_At 48 12 (.iload_n 3) 13 [3] (.null) := ⟨1, (congrArg (fun z => mj_at z 12) f48).trans rfl, rfl⟩
theorem d48_13 : mj_At 48 13 (.invokestatic 100) 16 [0, 35, 1, 268, 269, 18] (.null) := ⟨3, (congrArg (fun z => mj_at z 13) f48).trans rfl, rfl⟩
theorem d48_16 : mj_At 48 16 (.ifCond .ne (5)) 19 [21] (.null) := ⟨3, (congrArg (fun z => mj_at z 16) f48).trans rfl, rfl⟩
theorem d48_19 : mj_At 48 19 (.iconst (-1)) 20 [] (.int (-1)) := ⟨1, (congrArg (fun z => mj_at z 19) f48).trans rfl, rfl⟩
theorem d48_20 : mj_At 48 20 (.ireturn) 21 [0] (.null) := ⟨1, (congrArg (fun z => mj_at z 20) f48).trans rfl, rfl⟩
theorem d48_21 : mj_At 48 21 (.iload 4) 23 [4] (.null) := ⟨2, (congrArg (fun z => mj_at z 21) f48).trans rfl, rfl⟩
theorem d48_23 : mj_At 48 23 (.invokestatic 103) 26 [0, 36, 1, 271, 272, 18] (.null) := ⟨3, (congrArg (fun z => mj_at z 23) f48).trans rfl, rfl⟩
theorem d48_26 : mj_At 48 26 (.ifCond .ne (6)) 29 [32] (.null) := ⟨3, (congrArg (fun z => mj_at z 26) f48).trans rfl, rfl⟩
theorem d48_29 : mj_At 48 29 (.bipush (-2)) 31 [] (.int (-2)) := ⟨2, (congrArg (fun z => mj_at z 29) f48).trans rfl, rfl⟩
theorem d48_31 : mj_At 48 31 (.ireturn) 32 [0] (.null) := ⟨1, (congrArg (fun z => mj_at z 31) f48).trans rfl, rfl⟩
theorem d48_32 : mj_At 48 32 (.aload_n 0) 33 [0] (.null) := ⟨1, (congrArg (fun z => mj_at z 32) f48).trans rfl, rfl⟩
theorem d48_33 : mj_At 48 33 (.iload_n 1) 34 [1] (.null) := ⟨1, (congrArg (fun z => mj_at z 33) f48).trans rfl, rfl⟩
theorem d48_34 : mj_At 48 34 (.iload_n 2) 35 [2] (.null) := ⟨1, (congrArg (fun z => mj_at z 34) f48).trans rfl, rfl⟩
theorem d48_35 : mj_At 48 35 (.invokevirtual 106) 38 [1, 37, 3, 3, 275, 277, 9, 18] (.null) := ⟨3, (congrArg (fun z => mj_at z 35) f48).trans rfl, rfl⟩
theorem d48_38 : mj_At 48 38 (.aload_n 0) 39 [0] (.null) := ⟨1, (congrArg (fun z => mj_at z 38) f48).trans rfl, rfl⟩
theorem d48_39 : mj_At 48 39 (.getfield 30) 42 [3, 3, 125] (.null) := ⟨3, (congrArg (fun z => mj_at z 39) f48).trans rfl, rfl⟩
theorem d48_42 : mj_At 48 42 (.iload_n 3) 43 [3] (.null) := ⟨1, (congrArg (fun z => mj_at z 42) f48).trans rfl, rfl⟩
theorem d48_43 : mj_At 48 43 (.iload 4) 45 [4] (.null) := ⟨2, (congrArg (fun z => mj_at z 43) f48).trans rfl, rfl⟩
theorem d48_45 : mj_At 48 45 (.iastore) 46 [] (.null) := ⟨1, (congrArg (fun z => mj_at z 45) f48).trans rfl, rfl⟩
theorem d48_46 : mj_At 48 46 (.aload_n 0) 47 [0] (.null) := ⟨1, (congrArg (fun z => mj_at z 46) f48).trans rfl, rfl⟩
theorem d48_47 : mj_At 48 47 (.iload_n 1) 48 [1] (.null) := ⟨1, (congrArg (fun z => mj_at z 47) f48).trans rfl, rfl⟩
theorem d48_48 : mj_At 48 48 (.iload_n 2) 49 [2] (.null) := ⟨1, (congrArg (fun z => mj_at z 48) f48).trans rfl, rfl⟩
theorem d48_49 : mj_At 48 49 (.invokevirtual 110) 52 [1, 47, 3, 3, 281, 283, 10, 18] (.null) := ⟨3, (congrArg (fun z => mj_at z 49) f48).trans rfl, rfl⟩
theorem d48_52 : mj_At 48 52 (.ireturn) 53 [0] (.null) := ⟨1, (congrArg (fun z => mj_at z 52) f48).trans rfl, rfl⟩
theorem e48_0 {c : mj_C} {x1 : Int32} {x2 : Int32} {x3 : Int32} {x4 : Int32} {L : Nat} {ps : List (Option (Option Nat))} {rest : List mj_K}   : mj_EV 48 0 [some (.ref 2), some (.int x1), some (.int x2), some (.int x3), some (.int x4)] [] (w_sh L ps rest) c = (mj_then 48 9 [some (.ref 2), some (.int x1), some (.int x2), some (.int x3), some (.int x4)] [] (mj_EV 34 0 [some (.ref 3), some (.int x1), some (.int x2)] [] (w_sh L ps rest) c)) := (mj_aload_n d48_0 rfl (mj_getR d48_1 w_2 rfl (mj_iload_n d48_4 rfl (mj_iload_n d48_5 rfl (mj_invV [some (.ref 3), some (.int x1), some (.int x2)] [] d48_6 rfl rfl rfl w_3 rfl rfl)))))
theorem e48_9 {c : mj_C} {x1 : Int32} {x2 : Int32} {x3 : Int32} {x4 : Int32} {z0 : Int32} {L : Nat} {ps : List (Option (Option Nat))} {rest : List mj_K}   : mj_EV 48 9 [some (.ref 2), some (.int x1), some (.int x2), some (.int x3), some (.int x4)] [.int z0] (w_sh L ps rest) c = (if z0 = nI 0 then (some (some (.int (-1)), (w_sh L ps rest), c)) else (mj_then 48 16 [some (.ref 2), some (.int x1), some (.int x2), some (.int x3), some (.int x4)] [] (mj_EV 35 0 [some (.int x3)] [] (w_sh L ps rest) c))) := (mj_ifeq d48_9 (mj_iconst d48_19 (mj_iret d48_20)) (mj_iload_n d48_12 rfl (mj_invS [some (.int x3)] [] d48_13 (by decide) rfl rfl rfl rfl)))
theorem e48_16 {c : mj_C} {x1 : Int32} {x2 : Int32} {x3 : Int32} {x4 : Int32} {z0 : Int32} {L : Nat} {ps : List (Option (Option Nat))} {rest : List mj_K}   : mj_EV 48 16 [some (.ref 2), some (.int x1), some (.int x2), some (.int x3), some (.int x4)] [.int z0] (w_sh L ps rest) c = (if z0 = nI 0 then (some (some (.int (-1)), (w_sh L ps rest), c)) else (mj_then 48 26 [some (.ref 2), some (.int x1), some (.int x2), some (.int x3), some (.int x4)] [] (mj_EV 36 0 [some (.int x4)] [] (w_sh L ps rest) c))) := (mj_ifne d48_16 (mj_iload d48_21 rfl (mj_invS [some (.int x4)] [] d48_23 (by decide) rfl rfl rfl rfl)) (mj_iconst d48_19 (mj_iret d48_20)))
theorem e48_26 {c : mj_C} {x1 : Int32} {x2 : Int32} {x3 : Int32} {x4 : Int32} {z0 : Int32} {L : Nat} {ps : List (Option (Option Nat))} {rest : List mj_K}   : mj_EV 48 26 [some (.ref 2), some (.int x1), some (.int x2), some (.int x3), some (.int x4)] [.int z0] (w_sh L ps rest) c = (if z0 = nI 0 then (some (some (.int (-2)), (w_sh L ps rest), c)) else (mj_then 48 38 [some (.ref 2), some (.int x1), some (.int x2), some (.int x3), some (.int x4)] [] (mj_EV 37 0 [some (.ref 2), some (.int x1), some (.int x2)] [] (w_sh L ps rest) c))) := (mj_ifne d48_26 (mj_aload_n d48_32 rfl (mj_iload_n d48_33 rfl (mj_iload_n d48_34 rfl (mj_invV [some (.ref 2), some (.int x1), some (.int x2)] [] d48_35 rfl rfl rfl w_2 rfl rfl)))) (mj_bipush d48_29 (mj_iret d48_31)))
theorem e48_38 {c : mj_C} {x1 : Int32} {x2 : Int32} {x3 : Int32} {x4 : Int32} {L : Nat} {ps : List (Option (Option Nat))} {rest : List mj_K}   : mj_EV 48 38 [some (.ref 2), some (.int x1), some (.int x2), some (.int x3), some (.int x4)] [] (w_sh L ps rest) c = (if mj_in x3 8 = true then (mj_then 48 52 [some (.ref 2), some (.int x1), some (.int x2), some (.int x3), some (.int x4)] [] (mj_EV 47 0 [some (.ref 2), some (.int x1), some (.int x2)] [] (w_sh L ps rest) (mj_u c 49 x3.toNatClampNeg x4))) else none) := (mj_aload_n d48_38 rfl (mj_getR d48_39 w_2 rfl (mj_iload_n d48_42 rfl (mj_iload d48_43 rfl (mj_iast d48_45 w_49 (mj_aload_n d48_46 rfl (mj_iload_n d48_47 rfl (mj_iload_n d48_48 rfl (mj_invV [some (.ref 2), some (.int x1), some (.int x2)] [] d48_49 rfl rfl rfl w_2 rfl rfl)))))))))
theorem e48_52 {c : mj_C} {x1 : Int32} {x2 : Int32} {x3 : Int32} {x4 : Int32} {z0 : Int32} {L : Nat} {ps : List (Option (Option Nat))} {rest : List mj_K}   : mj_EV 48 52 [some (.ref 2), some (.int x1), some (.int x2), some (.int x3), some (.int x4)] [.int z0] (w_sh L ps rest) c = (some (some (.int z0), (w_sh L ps rest), c)) := (mj_iret d48_52)
/-- SqueezedLines.fill(III)I -/
theorem f49 : mj_cd 49 = mj_c49 := rfl
theorem d49_0 : mj_At 49 0 (.aload_n 0) 1 [0] (.null) := ⟨1, (congrArg (fun z => mj_at z 0) f49).trans rfl, rfl⟩
theorem d49_1 : mj_At 49 1 (.getfield 12) 4 [3, 0, 122] (.null) := ⟨3, (congrArg (fun z => mj_at z 1) f49).trans rfl, rfl⟩
theorem d49_4 : mj_At 49 4 (.iload_n 1) 5 [1] (.null) := ⟨1, (congrArg (fun z => mj_at z 4) f49).trans rfl, rfl⟩
theorem d49_5 : mj_At 49 5 (.iload_n 2) 6 [2] (.null) := ⟨1, (congrArg (fun z => mj_at z 5) f49).trans rfl, rfl⟩
theorem d49_6 : mj_At 49 6 (.invokevirtual 96) 9 [1, 34, 3, 2, 263, 264, 265, 19] (.null) := ⟨3, (congrArg (fun z => mj_at z 6) f49).trans rfl, rfl⟩
theorem d49_9 : mj_At 49 9 (.ifCond .ne (5)) 12 [14] (.null) := ⟨3, (congrArg (fun z => mj_at z 9) f49).trans rfl, rfl⟩
theorem d49_12 : mj_At 49 12 (.iconst (-1)) 13 [] (.int (-1)) := ⟨1, (congrArg (fun z => mj_at z 12) f49).trans rfl, rfl⟩
theorem d49_13 : mj_At 49 13 (.ireturn) 14 [0] (.null) := ⟨1, (congrArg (fun z => mj_at z 13) f49).trans rfl, rfl⟩
theorem d49_14 : mj_At 49 14 (.iload_n 3) 15 [3] (.null) := ⟨1, (congrArg (fun z => mj_at z 14) f49).trans rfl, rfl⟩
theorem d49_15 : mj_At 49 15 (.invokestatic 103) 18 [0, 36, 1, 271, 272, 18] (.null) := ⟨3, (congrArg (fun z => mj_at z 15) f49).trans rfl, rfl⟩
theorem d49_18 : mj_At 49 18 (.ifCond .ne (6)) 21 [24] (.null) := ⟨3, (congrArg (fun z => mj_at z 18) f49).trans rfl, rfl⟩
theorem d49_21 : mj_At 49 21 (.bipush (-2)) 23 [] (.int (-2)) := ⟨2, (congrArg (fun z => mj_at z 21) f49).trans rfl, rfl⟩
theorem d49_23 : mj_At 49 23 (.ireturn) 24 [0] (.null) := ⟨1, (congrArg (fun z => mj_at z 23) f49).trans rfl, rfl⟩
theorem d49_24 : mj_At 49 24 (.aload_n 0) 25 [0] (.null) := ⟨1, (congrArg (fun z => mj_at z 24) f49).trans rfl, rfl⟩
theorem d49_25 : mj_At 49 25 (.getfield 30) 28 [3, 3, 125] (.null) := ⟨3, (congrArg (fun z => mj_at z 25) f49).trans rfl, rfl⟩
theorem d49_28 : mj_At 49 28 (.iload_n 3) 29 [3] (.null) := ⟨1, (congrArg (fun z => mj_at z 28) f49).trans rfl, rfl⟩
theorem d49_29 : mj_At 49 29 (.invokestatic 113) 32 [0, 0, 2, 321, 40, 20] (.null) := ⟨3, (congrArg (fun z => mj_at z 29) f49).trans rfl, rfl⟩
theorem d49_32 : mj_At 49 32 (.aload_n 0) 33 [0] (.null) := ⟨1, (congrArg (fun z => mj_at z 32) f49).trans rfl, rfl⟩
theorem d49_33 : mj_At 49 33 (.iload_n 1) 34 [1] (.null) := ⟨1, (congrArg (fun z => mj_at z 33) f49).trans rfl, rfl⟩
theorem d49_34 : mj_At 49 34 (.iload_n 2) 35 [2] (.null) := ⟨1, (congrArg (fun z => mj_at z 34) f49).trans rfl, rfl⟩
theorem d49_35 : mj_At 49 35 (.invokevirtual 110) 38 [1, 47, 3, 3, 281, 283, 10, 18] (.null) := ⟨3, (congrArg (fun z => mj_at z 35) f49).trans rfl, rfl⟩
theorem d49_38 : mj_At 49 38 (.ireturn) 39 [0] (.null) := ⟨1, (congrArg (fun z => mj_at z 38) f49).trans rfl, rfl⟩
theorem e49_0 {c : mj_C} {x1 : Int32} {x2 : Int32} {x3 : Int32} {L : Nat} {ps : List (Option (Option Nat))} {rest : List mj_K}   : mj_EV 49 0 [some (.ref 2), some (.int x1), some (.int x2), some (.int x3)] [] (w_sh L ps rest) c = (mj_then 49 9 [some (.ref 2), some (.int x1), some (.int x2), some (.int x3)] [] (mj_EV 34 0 [some (.ref 3), some (.int x1), some (.int x2)] [] (w_sh L ps rest) c)) := (mj_aload_n d49_0 rfl (mj_getR d49_1 w_2 rfl (mj_iload_n d49_4 rfl (mj_iload_n d49_5 rfl (mj_invV [some (.ref 3), some (.int x1), some (.int x2)] [] d49_6 rfl rfl rfl w_3 rfl rfl)))))
theorem e49_9 {c : mj_C} {x1 : Int32} {x2 : Int32} {x3 : Int32} {z0 : Int32} {L : Nat} {ps : List (Option (Option Nat))} {rest : List mj_K}   : mj_EV 49 9 [some (.ref 2), some (.int x1), some (.int x2), some (.int x3)] [.int z0] (w_sh L ps rest) c = (if z0 = nI 0 then (some (some (.int (-1)), (w_sh L ps rest), c)) else (mj_then 49 18 [some (.ref 2), some (.int x1), some (.int x2), some (.int x3)] [] (mj_EV 36 0 [some (.int x3)] [] (w_sh L ps rest) c))) := (mj_ifne d49_9 (mj_iload_n d49_14 rfl (mj_invS [some (.int x3)] [] d49_15 (by decide) rfl rfl rfl rfl)) (mj_iconst d49_12 (mj_iret d49_13)))
theorem e49_18 {c : mj_C} {x1 : Int32} {x2 : Int32} {x3 : Int32} {z0 : Int32} {L : Nat} {ps : List (Option (Option Nat))} {rest : List mj_K}   : mj_EV 49 18 [some (.ref 2), some (.int x1), some (.int x2), some (.int x3)] [.int z0] (w_sh L ps rest) c = (if z0 = nI 0 then (some (some (.int (-2)), (w_sh L ps rest), c)) else (mj_then 49 32 [some (.ref 2), some (.int x1), some (.int x2), some (.int x3)] [] (mj_EV 0 0 [some (.ref 49), some (.int x3), none, none] [] (w_sh L ps rest) c))) := (mj_ifne d49_18 (mj_aload_n d49_24 rfl (mj_getR d49_25 w_2 rfl (mj_iload_n d49_28 rfl (mj_invS [some (.ref 49), some (.int x3), none, none] [] d49_29 (by decide) rfl rfl rfl rfl)))) (mj_bipush d49_21 (mj_iret d49_23)))
theorem e49_32 {c : mj_C} {x1 : Int32} {x2 : Int32} {x3 : Int32} {L : Nat} {ps : List (Option (Option Nat))} {rest : List mj_K}   : mj_EV 49 32 [some (.ref 2), some (.int x1), some (.int x2), some (.int x3)] [] (w_sh L ps rest) c = (mj_then 49 38 [some (.ref 2), some (.int x1), some (.int x2), some (.int x3)] [] (mj_EV 47 0 [some (.ref 2), some (.int x1), some (.int x2)] [] (w_sh L ps rest) c)) := (mj_aload_n d49_32 rfl (mj_iload_n d49_33 rfl (mj_iload_n d49_34 rfl (mj_invV [some (.ref 2), some (.int x1), some (.int x2)] [] d49_35 rfl rfl rfl w_2 rfl rfl))))
theorem e49_38 {c : mj_C} {x1 : Int32} {x2 : Int32} {x3 : Int32} {z0 : Int32} {L : Nat} {ps : List (Option (Option Nat))} {rest : List mj_K}   : mj_EV 49 38 [some (.ref 2), some (.int x1), some (.int x2), some (.int x3)] [.int z0] (w_sh L ps rest) c = (some (some (.int z0), (w_sh L ps rest), c)) := (mj_iret d49_38)
/-- SqueezedLines.add(III)I -/
theorem f51 : mj_cd 51 = mj_c51 := rfl
theorem d51_0 : mj_At 51 0 (.aload_n 0) 1 [0] (.null) := ⟨1, (congrArg (fun z => mj_at z 0) f51).trans rfl, rfl⟩
theorem d51_1 : mj_At 51 1 (.getfield 12) 4 [3, 0, 122] (.null) := ⟨3, (congrArg (fun z => mj_at z 1) f51).trans rfl, rfl⟩
theorem d51_4 : mj_At 51 4 (.iload_n 1) 5 [1] (.null) := ⟨1, (congrArg (fun z => mj_at z 4) f51).trans rfl, rfl⟩
theorem d51_5 : mj_At 51 5 (.iload_n 2) 6 [2] (.null) := ⟨1, (congrArg (fun z => mj_at z 5) f51).trans rfl, rfl⟩
theorem d51_6 : mj_At 51 6 (.invokevirtual 96) 9 [1, 34, 3, 2, 263, 264, 265, 19] (.null) := ⟨3, (congrArg (fun z => mj_at z 6) f51).trans rfl, rfl⟩
theorem d51_9 : mj_At 51 9 (.ifCond .ne (5)) 12 [14] (.null) := ⟨3, (congrArg (fun z => mj_at z 9) f51).trans rfl, rfl⟩
theorem d51_12 : mj_At 51 12 (.iconst (-1)) 13 [] (.int (-1)) := ⟨1, (congrArg (fun z => mj_at z 12) f51).trans rfl, rfl⟩
theorem d51_13 : mj_At 51 13 (.ireturn) 14 [0] (.null) := ⟨1, (congrArg (fun z => mj_at z 13) f51).trans rfl, rfl⟩
theorem d51_14 : mj_At 51 14 (.iload_n 3) 15 [3] (.null) := ⟨1, (congrArg (fun z => mj_at z 14) f51).trans rfl, rfl⟩
theorem d51_15 : mj_At 51 15 (.ldc 119) 17 [326] (.int (-65535)) := ⟨2, (congrArg (fun z => mj_at z 15) f51).trans rfl, rfl⟩
theorem d51_17 : mj_At 51 17 (.if_icmp .lt (9)) 20 [26] (.null) := ⟨3, (congrArg (fun z => mj_at z 17) f51).trans rfl, rfl⟩
theorem d51_20 : mj_At 51 20 (.iload_n 3) 21 [3] (.null) := ⟨1, (congrArg (fun z => mj_at z 20) f51).trans rfl, rfl⟩
theorem d51_21 : mj_At 51 21 (.ldc 120) 23 [274] (.int 65535) := ⟨2, (congrArg (fun z => mj_at z 21) f51).trans rfl, rfl⟩
theorem d51_23 : mj_At 51 23 (.if_icmp .le (6)) 26 [29] (.null) := ⟨3, (congrArg (fun z => mj_at z 23) f51).trans rfl, rfl⟩
theorem d51_26 : mj_At 51 26 (.bipush (-2)) 28 [] (.int (-2)) := ⟨2, (congrArg (fun z => mj_at z 26) f51).trans rfl, rfl⟩
theorem d51_28 : mj_At 51 28 (.ireturn) 29 [0] (.null) := ⟨1, (congrArg (fun z => mj_at z 28) f51).trans rfl, rfl⟩
theorem d51_29 : mj_At 51 29 (.aload_n 0) 30 [0] (.null) := ⟨1, (congrArg (fun z => mj_at z 29) f51).trans rfl, rfl⟩
theorem d51_30 : mj_At 51 30 (.iload_n 1) 31 [1] (.null) := ⟨1, (congrArg (fun z => mj_at z 30) f51).trans rfl, rfl⟩
theorem d51_31 : mj_At 51 31 (.iload_n 2) 32 [2] (.null) := ⟨1, (congrArg (fun z => mj_at z 31) f51).trans rfl, rfl⟩
theorem d51_32 : mj_At 51 32 (.invokevirtual 106) 35 [1, 37, 3, 3, 275, 277, 9, 18] (.null) := ⟨3, (congrArg (fun z => mj_at z 32) f51).trans rfl, rfl⟩
theorem d51_35 : mj_At 51 35 (.iconst (0)) 36 [] (.int 0) := ⟨1, (congrArg (fun z => mj_at z 35) f51).trans rfl, rfl⟩
theorem d51_36 : mj_At 51 36 (.istore 4) 38 [4] (.null) := ⟨2, (congrArg (fun z => mj_at z 36) f51).trans rfl, rfl⟩
theorem d51_38 : mj_At 51 38 (.iload 4) 40 [4] (.null) := ⟨2, (congrArg (fun z => mj_at z 38) f51).trans rfl, rfl⟩
theorem d51_40 : mj_At 51 40 (.bipush (8)) 42 [] (.int 8) := ⟨2, (congrArg (fun z => mj_at z 40) f51).trans rfl, rfl⟩
theorem d51_42 : mj_At 51 42 (.if_icmp .ge (30)) 45 [72] (.null) := ⟨3, (congrArg (fun z => mj_at z 42) f51).trans rfl, rfl⟩
theorem d51_45 : mj_At 51 45 (.aload_n 0) 46 [0] (.null) := ⟨1, (congrArg (fun z => mj_at z 45) f51).trans rfl, rfl⟩
theorem d51_46 : mj_At 51 46 (.getfield 30) 49 [3, 3, 125] (.null) := ⟨3, (congrArg (fun z => mj_at z 46) f51).trans rfl, rfl⟩
theorem d51_49 : mj_At 51 49 (.iload 4) 51 [4] (.null) := ⟨2, (congrArg (fun z => mj_at z 49) f51).trans rfl, rfl⟩
theorem d51_51 : mj_At 51 51 (.aload_n 0) 52 [0] (.null) := ⟨1, (congrArg (fun z => mj_at z 51) f51).trans rfl, rfl⟩
theorem d51_52 : mj_At 51 52 (.getfield 30) 55 [3, 3, 125] (.null) := ⟨3, (congrArg (fun z => mj_at z 52) f51).trans rfl, rfl⟩
theorem d51_55 : mj_At 51 55 (.iload 4) 57 [4] (.null) := ⟨2, (congrArg (fun z => mj_at z 55) f51).trans rfl, rfl⟩
theorem d51_57 : mj_At 51 57 (.iaload) 58 [] (.null) := ⟨1, (congrArg (fun z => mj_at z 57) f51).trans rfl, rfl⟩
theorem d51_58 : mj_At 51 58 (.iload_n 3) 59 [3] (.null) := ⟨1, (congrArg (fun z => mj_at z 58) f51).trans rfl, rfl⟩
theorem d51_59 : mj_At 51 59 (.iadd) 60 [] (.null) := ⟨1, (congrArg (fun z => mj_at z 59) f51).trans rfl, rfl⟩
theorem d51_60 : mj_At 51 60 (.ldc 121) 62 [327] (.int 65536) := ⟨2, (congrArg (fun z => mj_at z 60) f51).trans rfl, rfl⟩
theorem d51_62 : mj_At 51 62 (.invokestatic 122) 65 [0, 50, 2, 328, 329, 24] (.null) := ⟨3, (congrArg (fun z => mj_at z 62) f51).trans rfl, rfl⟩
theorem d51_65 : mj_At 51 65 (.iastore) 66 [] (.null) := ⟨1, (congrArg (fun z => mj_at z 65) f51).trans rfl, rfl⟩
theorem d51_66 : mj_At 51 66 (.iinc 4 (1)) 69 [4] (.int 1) := ⟨3, (congrArg (fun z => mj_at z 66) f51).trans rfl, rfl⟩
theorem d51_69 : mj_At 51 69 (.goto (-31)) 72 [38] (.null) := ⟨3, (congrArg (fun z => mj_at z 69) f51).trans rfl, rfl⟩
theorem d51_72 : mj_At 51 72 (.aload_n 0) 73 [0] (.null) := ⟨1, (congrArg (fun z => mj_at z 72) f51).trans rfl, rfl⟩
theorem d51_73 : mj_At 51 73 (.iload_n 1) 74 [1] (.null) := ⟨1, (congrArg (fun z => mj_at z 73) f51).trans rfl, rfl⟩
theorem d51_74 : mj_At 51 74 (.iload_n 2) 75 [2] (.null) := ⟨1, (congrArg (fun z => mj_at z 74) f51).trans rfl, rfl⟩
theorem d51_75 : mj_At 51 75 (.invokevirtual 110) 78 [1, 47, 3, 3, 281, 283, 10, 18] (.null) := ⟨3, (congrArg (fun z => mj_at z 75) f51).trans rfl, rfl⟩
theorem d51_78 : mj_At 51 78 (.ireturn) 79 [0] (.null) := ⟨1, (congrArg (fun z => mj_at z 78) f51).trans rfl, rfl⟩
theorem e51_0 {c : mj_C} {x1 : Int32} {x2 : Int32} {x3 : Int32} {L : Nat} {ps : List (Option (Option Nat))} {rest : List mj_K}   : mj_EV 51 0 [some (.ref 2), some (.int x1), some (.int x2), some (.int x3), none] [] (w_sh L ps rest) c = (mj_then 51 9 [some (.ref 2), some (.int x1), some (.int x2), some (.int x3), none] [] (mj_EV 34 0 [some (.ref 3), some (.int x1), some (.int x2)] [] (w_sh L ps rest) c)) := (mj_aload_n d51_0 rfl (mj_getR d51_1 w_2 rfl (mj_iload_n d51_4 rfl (mj_iload_n d51_5 rfl (mj_invV [some (.ref 3), some (.int x1), some (.int x2)] [] d51_6 rfl rfl rfl w_3 rfl rfl)))))
theorem e51_9 {c : mj_C} {x1 : Int32} {x2 : Int32} {x3 : Int32} {z0 : Int32} {L : Nat} {ps : List (Option (Option Nat))} {rest : List mj_K}   : mj_EV 51 9 [some (.ref 2), some (.int x1), some (.int x2), some (.int x3), none] [.int z0] (w_sh L ps rest) c = (if z0 = nI 0 then (some (some (.int (-1)), (w_sh L ps rest), c)) else (if x3 < (-65535) then (some (some (.int (-2)), (w_sh L ps rest), c)) else (if x3 ≤ (nI 65535) then (mj_then 51 35 [some (.ref 2), some (.int x1), some (.int x2), some (.int x3), none] [] (mj_EV 37 0 [some (.ref 2), some (.int x1), some (.int x2)] [] (w_sh L ps rest) c)) else (some (some (.int (-2)), (w_sh L ps rest), c))))) := (mj_ifne d51_9 (mj_iload_n d51_14 rfl (mj_ldc d51_15 (mj_iclt d51_17 (mj_bipush d51_26 (mj_iret d51_28)) (mj_iload_n d51_20 rfl (mj_ldc d51_21 (mj_icle d51_23 (mj_aload_n d51_29 rfl (mj_iload_n d51_30 rfl (mj_iload_n d51_31 rfl (mj_invV [some (.ref 2), some (.int x1), some (.int x2)] [] d51_32 rfl rfl rfl w_2 rfl rfl)))) (mj_bipush d51_26 (mj_iret d51_28)))))))) (mj_iconst d51_12 (mj_iret d51_13)))
theorem e51_35 {c : mj_C} {x1 : Int32} {x2 : Int32} {x3 : Int32} {L : Nat} {ps : List (Option (Option Nat))} {rest : List mj_K}   : mj_EV 51 35 [some (.ref 2), some (.int x1), some (.int x2), some (.int x3), none] [] (w_sh L ps rest) c = mj_EV 51 38 [some (.ref 2), some (.int x1), some (.int x2), some (.int x3), some (.int (nI 0))] [] (w_sh L ps rest) c := (mj_iconst d51_35 (mj_istore [some (.ref 2), some (.int x1), some (.int x2), some (.int x3), some (.int (nI 0))] d51_36 rfl rfl rfl))
theorem e51_38 {c : mj_C} {x1 : Int32} {x2 : Int32} {x3 : Int32} {x4 : Int32} {L : Nat} {ps : List (Option (Option Nat))} {rest : List mj_K}   : mj_EV 51 38 [some (.ref 2), some (.int x1), some (.int x2), some (.int x3), some (.int x4)] [] (w_sh L ps rest) c = (if (nI 8) ≤ x4 then (mj_then 51 78 [some (.ref 2), some (.int x1), some (.int x2), some (.int x3), some (.int x4)] [] (mj_EV 47 0 [some (.ref 2), some (.int x1), some (.int x2)] [] (w_sh L ps rest) c)) else (if mj_in x4 8 = true then (mj_then 51 65 [some (.ref 2), some (.int x1), some (.int x2), some (.int x3), some (.int x4)] [.int x4, .ref 49] (mj_EV 50 0 [some (.int ((c 49 x4.toNatClampNeg) + x3)), some (.int (nI 65536)), none] [] (w_sh L ps rest) c)) else none)) := (mj_iload d51_38 rfl (mj_bipush d51_40 (mj_icge d51_42 (mj_aload_n d51_72 rfl (mj_iload_n d51_73 rfl (mj_iload_n d51_74 rfl (mj_invV [some (.ref 2), some (.int x1), some (.int x2)] [] d51_75 rfl rfl rfl w_2 rfl rfl)))) (mj_aload_n d51_45 rfl (mj_getR d51_46 w_2 rfl (mj_iload d51_49 rfl (mj_aload_n d51_51 rfl (mj_getR d51_52 w_2 rfl (mj_iload d51_55 rfl (mj_iald d51_57 w_49 (mj_iload_n d51_58 rfl (mj_iadd d51_59 (mj_ldc d51_60 (mj_invS [some (.int ((c 49 x4.toNatClampNeg) + x3)), some (.int (nI 65536)), none] [.int x4, .ref 49] d51_62 (by decide) rfl rfl rfl rfl))))))))))))))
theorem e51_65 {c : mj_C} {x1 : Int32} {x2 : Int32} {x3 : Int32} {x4 : Int32} {z1 : Int32} {z2 : Int32} {L : Nat} {ps : List (Option (Option Nat))} {rest : List mj_K}   : mj_EV 51 65 [some (.ref 2), some (.int x1), some (.int x2), some (.int x3), some (.int x4)] [.int z2, .int z1, .ref 49] (w_sh L ps rest) c = (if mj_in z1 8 = true then mj_EV 51 38 [some (.ref 2), some (.int x1), some (.int x2), some (.int x3), some (.int (x4 + (nI 1)))] [] (w_sh L ps rest) (mj_u c 49 z1.toNatClampNeg z2) else none) := (mj_iast d51_65 w_49 (mj_iinc [some (.ref 2), some (.int x1), some (.int x2), some (.int x3), some (.int (x4 + (nI 1)))] d51_66 rfl rfl rfl (mj_goto d51_69 rfl)))
theorem e51_78 {c : mj_C} {x1 : Int32} {x2 : Int32} {x3 : Int32} {x4 : Int32} {z0 : Int32} {L : Nat} {ps : List (Option (Option Nat))} {rest : List mj_K}   : mj_EV 51 78 [some (.ref 2), some (.int x1), some (.int x2), some (.int x3), some (.int x4)] [.int z0] (w_sh L ps rest) c = (some (some (.int z0), (w_sh L ps rest), c)) := (mj_iret d51_78)
/-- SqueezedLines.copy(IIII)I -/
theorem f52 : mj_cd 52 = mj_c52 := rfl
theorem d52_0 : mj_At 52 0 (.aload_n 0) 1 [0] (.null) := ⟨1, (congrArg (fun z => mj_at z 0) f52).trans rfl, rfl⟩
theorem d52_1 : mj_At 52 1 (.getfield 12) 4 [3, 0, 122] (.null) := ⟨3, (congrArg (fun z => mj_at z 1) f52).trans rfl, rfl⟩
theorem d52_4 : mj_At 52 4 (.iload_n 1) 5 [1] (.null) := ⟨1, (congrArg (fun z => mj_at z 4) f52).trans rfl, rfl⟩
theorem d52_5 : mj_At 52 5 (.iload_n 2) 6 [2] (.null) := ⟨1, (congrArg (fun z => mj_at z 5) f52).trans rfl, rfl⟩
theorem d52_6 : mj_At 52 6 (.invokevirtual 96) 9 [1, 34, 3, 2, 263, 264, 265, 19] (.null) := ⟨3, (congrArg (fun z => mj_at z 6) f52).trans rfl, rfl⟩
theorem d52_9 : mj_At 52 9 (.ifCond .eq (16)) 12 [25] (.null) := ⟨3, (congrArg (fun z => mj_at z 9) f52).trans rfl, rfl⟩
theorem d52_12 : mj_At 52 12 (.aload_n 0) 13 [0] (.null) := ⟨1, (congrArg (fun z => mj_at z 12) f52).trans rfl, rfl⟩
theorem d52_13 : mj_At 52 13 (.getfield 12) 16 [3, 0, 122] (.null) := ⟨3, (congrArg (fun z => mj_at z 13) f52).trans rfl, rfl⟩
theorem d52_16 : mj_At 52 16 (.iload_n 3) 17 [3] (.null) := ⟨1, (congrArg (fun z => mj_at z 16) f52).trans rfl, rfl⟩
theorem d52_17 : mj_At 52 17 (.iload 4) 19 [4] (.null) := ⟨2, (congrArg (fun z => mj_at z 17) f52).trans rfl, rfl⟩
theorem d52_19 : mj_At 52 19 (.invokevirtual 96) 22 [1, 34, 3, 2, 263, 264, 265, 19] (.null) := ⟨3, (congrArg (fun z => mj_at z 19) f52).trans rfl, rfl⟩
theorem d52_22 : mj_At 52 22 (.ifCond .ne (5)) 25 [27] (.null) := ⟨3, (congrArg (fun z => mj_at z 22) f52).trans rfl, rfl⟩
theorem d52_25 : mj_At 52 25 (.iconst (-1)) 26 [] (.int (-1)) := ⟨1, (congrArg (fun z => mj_at z 25) f52).trans rfl, rfl⟩
theorem d52_26 : mj_At 52 26 (.ireturn) 27 [0] (.null) := ⟨1, (congrArg (fun z => mj_at z 26) f52).trans rfl, rfl⟩
theorem d52_27 : mj_At 52 27 (.aload_n 0) 28 [0] (.null) := ⟨1, (congrArg (fun z => mj_at z 27) f52).trans rfl, rfl⟩
theorem d52_28 : mj_At 52 28 (.iload_n 1) 29 [1] (.null) := ⟨1, (congrArg (fun z => mj_at z 28) f52).trans rfl, rfl⟩
theorem d52_29 : mj_At 52 29 (.iload_n 2) 30 [2] (.null) := ⟨1, (congrArg (fun z => mj_at z 29) f52).trans rfl, rfl⟩
theorem d52_30 : mj_At 52 30 (.invokevirtual 106) 33 [1, 37, 3, 3, 275, 277, 9, 18] (.null) := ⟨3, (congrArg (fun z => mj_at z 30) f52).trans rfl, rfl⟩
theorem d52_33 : mj_At 52 33 (.aload_n 0) 34 [0] (.null) := ⟨1, (congrArg (fun z => mj_at z 33) f52).trans rfl, rfl⟩
theorem d52_34 : mj_At 52 34 (.iload_n 3) 35 [3] (.null) := ⟨1, (congrArg (fun z => mj_at z 34) f52).trans rfl, rfl⟩
theorem d52_35 : mj_At 52 35 (.iload 4) 37 [4] (.null) := ⟨2, (congrArg (fun z => mj_at z 35) f52).trans rfl, rfl⟩
theorem d52_37 : mj_At 52 37 (.invokevirtual 110) 40 [1, 47, 3, 3, 281, 283, 10, 18] (.null) := ⟨3, (congrArg (fun z => mj_at z 37) f52).trans rfl, rfl⟩
theorem d52_40 : mj_At 52 40 (.ireturn) 41 [0] (.null) := ⟨1, (congrArg (fun z => mj_at z 40) f52).trans rfl, rfl⟩
theorem e52_0 {c : mj_C} {x1 : Int32} {x2 : Int32} {x3 : Int32} {x4 : Int32} {L : Nat} {ps : List (Option (Option Nat))} {rest : List mj_K}   : mj_EV 52 0 [some (.ref 2), some (.int x1), some (.int x2), some (.int x3), some (.int x4)] [] (w_sh L ps rest) c = (mj_then 52 9 [some (.ref 2), some (.int x1), some (.int x2), some (.int x3), some (.int x4)] [] (mj_EV 34 0 [some (.ref 3), some (.int x1), some (.int x2)] [] (w_sh L ps rest) c)) := (mj_aload_n d52_0 rfl (mj_getR d52_1 w_2 rfl (mj_iload_n d52_4 rfl (mj_iload_n d52_5 rfl (mj_invV [some (.ref 3), some (.int x1), some (.int x2)] [] d52_6 rfl rfl rfl w_3 rfl rfl)))))
theorem e52_9 {c : mj_C} {x1 : Int32} {x2 : Int32} {x3 : Int32} {x4 : Int32} {z0 : Int32} {L : Nat} {ps : List (Option (Option Nat))} {rest : List mj_K}   : mj_EV 52 9 [some (.ref 2), some (.int x1), some (.int x2), some (.int x3), some (.int x4)] [.int z0] (w_sh L ps rest) c = (if z0 = nI 0 then (some (some (.int (-1)), (w_sh L ps rest), c)) else (mj_then 52 22 [some (.ref 2), some (.int x1), some (.int x2), some (.int x3), some (.int x4)] [] (mj_EV 34 0 [some (.ref 3), some (.int x3), some (.int x4)] [] (w_sh L ps rest) c))) := (mj_ifeq d52_9 (mj_iconst d52_25 (mj_iret d52_26)) (mj_aload_n d52_12 rfl (mj_getR d52_13 w_2 rfl (mj_iload_n d52_16 rfl (mj_iload d52_17 rfl (mj_invV [some (.ref 3), some (.int x3), some (.int x4)] [] d52_19 rfl rfl rfl w_3 rfl rfl))))))
theorem e52_22 {c : mj_C} {x1 : Int32} {x2 : Int32} {x3 : Int32} {x4 : Int32} {z0 : Int32} {L : Nat} {ps : List (Option (Option Nat))} {rest : List mj_K}   : mj_EV 52 22 [some (.ref 2), some (.int x1), some (.int x2), some (.int x3), some (.int x4)] [.int z0] (w_sh L ps rest) c = (if z0 = nI 0 then (some (some (.int (-1)), (w_sh L ps rest), c)) else (mj_then 52 33 [some (.ref 2), some (.int x1), some (.int x2), some (.int x3), some (.int x4)] [] (mj_EV 37 0 [some (.ref 2), some (.int x1), some (.int x2)] [] (w_sh L ps rest) c))) := (mj_ifne d52_22 (mj_aload_n d52_27 rfl (mj_iload_n d52_28 rfl (mj_iload_n d52_29 rfl (mj_invV [some (.ref 2), some (.int x1), some (.int x2)] [] d52_30 rfl rfl rfl w_2 rfl rfl)))) (mj_iconst d52_25 (mj_iret d52_26)))
theorem e52_33 {c : mj_C} {x1 : Int32} {x2 : Int32} {x3 : Int32} {x4 : Int32} {L : Nat} {ps : List (Option (Option Nat))} {rest : List mj_K}   : mj_EV 52 33 [some (.ref 2), some (.int x1), some (.int x2), some (.int x3), some (.int x4)] [] (w_sh L ps rest) c = (mj_then 52 40 [some (.ref 2), some (.int x1), some (.int x2), some (.int x3), some (.int x4)] [] (mj_EV 47 0 [some (.ref 2), some (.int x3), some (.int x4)] [] (w_sh L ps rest) c)) := (mj_aload_n d52_33 rfl (mj_iload_n d52_34 rfl (mj_iload d52_35 rfl (mj_invV [some (.ref 2), some (.int x3), some (.int x4)] [] d52_37 rfl rfl rfl w_2 rfl rfl))))
theorem e52_40 {c : mj_C} {x1 : Int32} {x2 : Int32} {x3 : Int32} {x4 : Int32} {z0 : Int32} {L : Nat} {ps : List (Option (Option Nat))} {rest : List mj_K}   : mj_EV 52 40 [some (.ref 2), some (.int x1), some (.int x2), some (.int x3), some (.int x4)] [.int z0] (w_sh L ps rest) c = (some (some (.int z0), (w_sh L ps rest), c)) := (mj_iret d52_40)
/-- SqueezedLines.isBeside(II)Z -/
theorem f53 : mj_cd 53 = mj_c53 := rfl
theorem d53_0 : mj_At 53 0 (.getstatic 158) 3 [170] (.null) := ⟨3, (congrArg (fun z => mj_at z 0) f53).trans rfl, rfl⟩
theorem d53_3 : mj_At 53 3 (.aload_n 0) 4 [0] (.null) := ⟨1, (congrArg (fun z => mj_at z 3) f53).trans rfl, rfl⟩
theorem d53_4 : mj_At 53 4 (.getfield 12) 7 [3, 0, 122] (.null) := ⟨3, (congrArg (fun z => mj_at z 4) f53).trans rfl, rfl⟩
theorem d53_7 : mj_At 53 7 (.iload_n 1) 8 [1] (.null) := ⟨1, (congrArg (fun z => mj_at z 7) f53).trans rfl, rfl⟩
theorem d53_8 : mj_At 53 8 (.iload_n 2) 9 [2] (.null) := ⟨1, (congrArg (fun z => mj_at z 8) f53).trans rfl, rfl⟩
theorem d53_9 : mj_At 53 9 (.invokevirtual 155) 12 [1, 46, 3, 2, 313, 314, 315, 19] (.null) := ⟨3, (congrArg (fun z => mj_at z 9) f53).trans rfl, rfl⟩
theorem d53_12 : mj_At 53 12 (.iaload) 13 [] (.null) := ⟨1, (congrArg (fun z => mj_at z 12) f53).trans rfl, rfl⟩
theorem d53_13 : mj_At 53 13 (.aload_n 0) 14 [0] (.null) := ⟨1, (congrArg (fun z => mj_at z 13) f53).trans rfl, rfl⟩
theorem d53_14 : mj_At 53 14 (.getfield 12) 17 [3, 0, 122] (.null) := ⟨3, (congrArg (fun z => mj_at z 14) f53).trans rfl, rfl⟩
theorem d53_17 : mj_At 53 17 (.getfield 89) 20 [2, 7, 57] (.null) := ⟨3, (congrArg (fun z => mj_at z 17) f53).trans rfl, rfl⟩
theorem d53_20 : mj_At 53 20 (.iload_n 1) 21 [1] (.null) := ⟨1, (congrArg (fun z => mj_at z 20) f53).trans rfl, rfl⟩
theorem d53_21 : mj_At 53 21 (.iaload) 22 [] (.null) := ⟨1, (congrArg (fun z => mj_at z 21) f53).trans rfl, rfl⟩
theorem d53_22 : mj_At 53 22 (.if_icmp .le (7)) 25 [29] (.null) := ⟨3, (congrArg (fun z => mj_at z 22) f53).trans rfl, rfl⟩
theorem d53_25 : mj_At 53 25 (.iconst (1)) 26 [] (.int 1) := ⟨1, (congrArg (fun z => mj_at z 25) f53).trans rfl, rfl⟩
theorem d53_26 : mj_At 53 26 (.goto (4)) 29 [30] (.null) := ⟨3, (congrArg (fun z => mj_at z 26) f53).trans rfl, rfl⟩
theorem d53_29 : mj_At 53 29 (.iconst (0)) 30 [] (.int 0) := ⟨1, (congrArg (fun z => mj_at z 29) f53).trans rfl, rfl⟩
theorem d53_30 : mj_At 53 30 (.ireturn) 31 [1] (.null) := ⟨1, (congrArg (fun z => mj_at z 30) f53).trans rfl, rfl⟩
theorem e53_0 {c : mj_C} {x1 : Int32} {x2 : Int32} {L : Nat} {ps : List (Option (Option Nat))} {rest : List mj_K}   : mj_EV 53 0 [some (.ref 2), some (.int x1), some (.int x2)] [] (w_sh L ps rest) c = (mj_then 53 12 [some (.ref 2), some (.int x1), some (.int x2)] [.ref 1] (mj_EV 46 0 [some (.ref 3), some (.int x1), some (.int x2)] [] (w_sh L ps rest) c)) := (mj_gets d53_0 (mj_aload_n d53_3 rfl (mj_getR d53_4 w_2 rfl (mj_iload_n d53_7 rfl (mj_iload_n d53_8 rfl (mj_invV [some (.ref 3), some (.int x1), some (.int x2)] [.ref 1] d53_9 rfl rfl rfl w_3 rfl rfl))))))
theorem e53_12 {c : mj_C} {x1 : Int32} {x2 : Int32} {z1 : Int32} {L : Nat} {ps : List (Option (Option Nat))} {rest : List mj_K}   : mj_EV 53 12 [some (.ref 2), some (.int x1), some (.int x2)] [.int z1, .ref 1] (w_sh L ps rest) c = (if mj_in z1 5 = true then (if mj_in x1 10 = true then (if (c 1 z1.toNatClampNeg) ≤ (c 6 x1.toNatClampNeg) then (some (some (.int (nI 0)), (w_sh L ps rest), c)) else (some (some (.int (nI 1)), (w_sh L ps rest), c))) else none) else none) := (mj_roald d53_12 w_1 rfl (mj_aload_n d53_13 rfl (mj_getR d53_14 w_2 rfl (mj_getR d53_17 w_3 rfl (mj_iload_n d53_20 rfl (mj_iald d53_21 w_6 (mj_icle d53_22 (mj_iconst d53_29 (mj_zret0 d53_30)) (mj_iconst d53_25 (mj_goto d53_26 (mj_zret1 d53_30))))))))))
/-- SqueezedLines.besideSetOf(I)I -/
theorem f54 : mj_cd 54 = mj_c54 := rfl
theorem d54_0 : mj_At 54 0 (.iconst (0)) 1 [] (.int 0) := ⟨1, (congrArg (fun z => mj_at z 0) f54).trans rfl, rfl⟩
theorem d54_1 : mj_At 54 1 (.istore_n 2) 2 [2] (.null) := ⟨1, (congrArg (fun z => mj_at z 1) f54).trans rfl, rfl⟩
theorem d54_2 : mj_At 54 2 (.iconst (0)) 3 [] (.int 0) := ⟨1, (congrArg (fun z => mj_at z 2) f54).trans rfl, rfl⟩
theorem d54_3 : mj_At 54 3 (.istore_n 3) 4 [3] (.null) := ⟨1, (congrArg (fun z => mj_at z 3) f54).trans rfl, rfl⟩
theorem d54_4 : mj_At 54 4 (.iload_n 3) 5 [3] (.null) := ⟨1, (congrArg (fun z => mj_at z 4) f54).trans rfl, rfl⟩
theorem d54_5 : mj_At 54 5 (.bipush (8)) 7 [] (.int 8) := ⟨2, (congrArg (fun z => mj_at z 5) f54).trans rfl, rfl⟩
theorem d54_7 : mj_At 54 7 (.if_icmp .ge (24)) 10 [31] (.null) := ⟨3, (congrArg (fun z => mj_at z 7) f54).trans rfl, rfl⟩
theorem d54_10 : mj_At 54 10 (.aload_n 0) 11 [0] (.null) := ⟨1, (congrArg (fun z => mj_at z 10) f54).trans rfl, rfl⟩
theorem d54_11 : mj_At 54 11 (.iload_n 1) 12 [1] (.null) := ⟨1, (congrArg (fun z => mj_at z 11) f54).trans rfl, rfl⟩
theorem d54_12 : mj_At 54 12 (.iload_n 3) 13 [3] (.null) := ⟨1, (congrArg (fun z => mj_at z 12) f54).trans rfl, rfl⟩
theorem d54_13 : mj_At 54 13 (.invokevirtual 161) 16 [1, 53, 3, 3, 347, 349, 15, 18] (.null) := ⟨3, (congrArg (fun z => mj_at z 13) f54).trans rfl, rfl⟩
theorem d54_16 : mj_At 54 16 (.ifCond .eq (9)) 19 [25] (.null) := ⟨3, (congrArg (fun z => mj_at z 16) f54).trans rfl, rfl⟩
theorem d54_19 : mj_At 54 19 (.iload_n 2) 20 [2] (.null) := ⟨1, (congrArg (fun z => mj_at z 19) f54).trans rfl, rfl⟩
theorem d54_20 : mj_At 54 20 (.iconst (1)) 21 [] (.int 1) := ⟨1, (congrArg (fun z => mj_at z 20) f54).trans rfl, rfl⟩
theorem d54_21 : mj_At 54 21 (.iload_n 3) 22 [3] (.null) := ⟨1, (congrArg (fun z => mj_at z 21) f54).trans rfl, rfl⟩
theorem d54_22 : mj_At 54 22 (.ishl) 23 [] (.null) := ⟨1, (congrArg (fun z => mj_at z 22) f54).trans rfl, rfl⟩
theorem d54_23 : mj_At 54 23 (.ior) 24 [] (.null) := ⟨1, (congrArg (fun z => mj_at z 23) f54).trans rfl, rfl⟩
theorem d54_24 : mj_At 54 24 (.istore_n 2) 25 [2] (.null) := ⟨1, (congrArg (fun z => mj_at z 24) f54).trans rfl, rfl⟩
theorem d54_25 : mj_At 54 25 (.iinc 3 (1)) 28 [3] (.int 1) := ⟨3, (congrArg (fun z => mj_at z 25) f54).trans rfl, rfl⟩
theorem d54_28 : mj_At 54 28 (.goto (-24)) 31 [4] (.null) := ⟨3, (congrArg (fun z => mj_at z 28) f54).trans rfl, rfl⟩
theorem d54_31 : mj_At 54 31 (.iload_n 2) 32 [2] (.null) := ⟨1, (congrArg (fun z => mj_at z 31) f54).trans rfl, rfl⟩
theorem d54_32 : mj_At 54 32 (.ireturn) 33 [0] (.null) := ⟨1, (congrArg (fun z => mj_at z 32) f54).trans rfl, rfl⟩
theorem e54_0 {c : mj_C} {x1 : Int32} {L : Nat} {ps : List (Option (Option Nat))} {rest : List mj_K}   : mj_EV 54 0 [some (.ref 2), some (.int x1), none, none] [] (w_sh L ps rest) c = mj_EV 54 4 [some (.ref 2), some (.int x1), some (.int (nI 0)), some (.int (nI 0))] [] (w_sh L ps rest) c := (mj_iconst d54_0 (mj_istore_n [some (.ref 2), some (.int x1), some (.int (nI 0)), none] d54_1 rfl rfl (mj_iconst d54_2 (mj_istore_n [some (.ref 2), some (.int x1), some (.int (nI 0)), some (.int (nI 0))] d54_3 rfl rfl rfl))))
theorem e54_4 {c : mj_C} {x1 : Int32} {x2 : Int32} {x3 : Int32} {L : Nat} {ps : List (Option (Option Nat))} {rest : List mj_K}   : mj_EV 54 4 [some (.ref 2), some (.int x1), some (.int x2), some (.int x3)] [] (w_sh L ps rest) c = (if (nI 8) ≤ x3 then (some (some (.int x2), (w_sh L ps rest), c)) else (mj_then 54 16 [some (.ref 2), some (.int x1), some (.int x2), some (.int x3)] [] (mj_EV 53 0 [some (.ref 2), some (.int x1), some (.int x3)] [] (w_sh L ps rest) c))) := (mj_iload_n d54_4 rfl (mj_bipush d54_5 (mj_icge d54_7 (mj_iload_n d54_31 rfl (mj_iret d54_32)) (mj_aload_n d54_10 rfl (mj_iload_n d54_11 rfl (mj_iload_n d54_12 rfl (mj_invV [some (.ref 2), some (.int x1), some (.int x3)] [] d54_13 rfl rfl rfl w_2 rfl rfl)))))))
theorem e54_16 {c : mj_C} {x1 : Int32} {x2 : Int32} {x3 : Int32} {z0 : Int32} {L : Nat} {ps : List (Option (Option Nat))} {rest : List mj_K}   : mj_EV 54 16 [some (.ref 2), some (.int x1), some (.int x2), some (.int x3)] [.int z0] (w_sh L ps rest) c = (if z0 = nI 0 then mj_EV 54 4 [some (.ref 2), some (.int x1), some (.int x2), some (.int (x3 + (nI 1)))] [] (w_sh L ps rest) c else mj_EV 54 4 [some (.ref 2), some (.int x1), some (.int (x2 ||| ((nI 1) <<< (x3 &&& 31)))), some (.int (x3 + (nI 1)))] [] (w_sh L ps rest) c) := (mj_ifeq d54_16 (mj_iinc [some (.ref 2), some (.int x1), some (.int x2), some (.int (x3 + (nI 1)))] d54_25 rfl rfl rfl (mj_goto d54_28 rfl)) (mj_iload_n d54_19 rfl (mj_iconst d54_20 (mj_iload_n d54_21 rfl (mj_ishl d54_22 (mj_ior d54_23 (mj_istore_n [some (.ref 2), some (.int x1), some (.int (x2 ||| ((nI 1) <<< (x3 &&& 31)))), some (.int x3)] d54_24 rfl rfl (mj_iinc [some (.ref 2), some (.int x1), some (.int (x2 ||| ((nI 1) <<< (x3 &&& 31)))), some (.int (x3 + (nI 1)))] d54_25 rfl rfl rfl (mj_goto d54_28 rfl)))))))))
/-- SqueezedLines.useHint(II)V -/
theorem f55 : mj_cd 55 = mj_c55 := rfl
theorem d55_0 : mj_At 55 0 (.iload_n 1) 1 [1] (.null) := ⟨1, (congrArg (fun z => mj_at z 0) f55).trans rfl, rfl⟩
theorem d55_1 : mj_At 55 1 (.iconst (4)) 2 [] (.int 4) := ⟨1, (congrArg (fun z => mj_at z 1) f55).trans rfl, rfl⟩
theorem d55_2 : mj_At 55 2 (.irem) 3 [] (.null) := ⟨1, (congrArg (fun z => mj_at z 2) f55).trans rfl, rfl⟩
theorem d55_3 : mj_At 55 3 (.istore_n 3) 4 [3] (.null) := ⟨1, (congrArg (fun z => mj_at z 3) f55).trans rfl, rfl⟩
theorem d55_4 : mj_At 55 4 (.aload_n 0) 5 [0] (.null) := ⟨1, (congrArg (fun z => mj_at z 4) f55).trans rfl, rfl⟩
theorem d55_5 : mj_At 55 5 (.iload_n 1) 6 [1] (.null) := ⟨1, (congrArg (fun z => mj_at z 5) f55).trans rfl, rfl⟩
theorem d55_6 : mj_At 55 6 (.invokevirtual 149) 9 [1, 54, 2, 3, 343, 345, 14, 18] (.null) := ⟨3, (congrArg (fun z => mj_at z 6) f55).trans rfl, rfl⟩
theorem d55_9 : mj_At 55 9 (.istore 4) 11 [4] (.null) := ⟨2, (congrArg (fun z => mj_at z 9) f55).trans rfl, rfl⟩
theorem d55_11 : mj_At 55 11 (.aload_n 0) 12 [0] (.null) := ⟨1, (congrArg (fun z => mj_at z 11) f55).trans rfl, rfl⟩
theorem d55_12 : mj_At 55 12 (.getfield 12) 15 [3, 0, 122] (.null) := ⟨3, (congrArg (fun z => mj_at z 12) f55).trans rfl, rfl⟩
theorem d55_15 : mj_At 55 15 (.getfield 180) 18 [2, 9, 61] (.null) := ⟨3, (congrArg (fun z => mj_at z 15) f55).trans rfl, rfl⟩
theorem d55_18 : mj_At 55 18 (.iload_n 3) 19 [3] (.null) := ⟨1, (congrArg (fun z => mj_at z 18) f55).trans rfl, rfl⟩
theorem d55_19 : mj_At 55 19 (.iaload) 20 [] (.null) := ⟨1, (congrArg (fun z => mj_at z 19) f55).trans rfl, rfl⟩
theorem d55_20 : mj_At 55 20 (.iload 4) 22 [4] (.null) := ⟨2, (congrArg (fun z => mj_at z 20) f55).trans rfl, rfl⟩
theorem d55_22 : mj_At 55 22 (.ixor) 23 [] (.null) := ⟨1, (congrArg (fun z => mj_at z 22) f55).trans rfl, rfl⟩
theorem d55_23 : mj_At 55 23 (.istore 5) 25 [5] (.null) := ⟨2, (congrArg (fun z => mj_at z 23) f55).trans rfl, rfl⟩
theorem d55_25 : mj_At 55 25 (.aload_n 0) 26 [0] (.null) := ⟨1, (congrArg (fun z => mj_at z 25) f55).trans rfl, rfl⟩
theorem d55_26 : mj_At 55 26 (.getfield 12) 29 [3, 0, 122] (.null) := ⟨3, (congrArg (fun z => mj_at z 26) f55).trans rfl, rfl⟩
theorem d55_29 : mj_At 55 29 (.getfield 177) 32 [2, 8, 59] (.null) := ⟨3, (congrArg (fun z => mj_at z 29) f55).trans rfl, rfl⟩
theorem d55_32 : mj_At 55 32 (.iload_n 3) 33 [3] (.null) := ⟨1, (congrArg (fun z => mj_at z 32) f55).trans rfl, rfl⟩
theorem d55_33 : mj_At 55 33 (.iaload) 34 [] (.null) := ⟨1, (congrArg (fun z => mj_at z 33) f55).trans rfl, rfl⟩
theorem d55_34 : mj_At 55 34 (.iload_n 1) 35 [1] (.null) := ⟨1, (congrArg (fun z => mj_at z 34) f55).trans rfl, rfl⟩
theorem d55_35 : mj_At 55 35 (.if_icmp .ne (28)) 38 [63] (.null) := ⟨3, (congrArg (fun z => mj_at z 35) f55).trans rfl, rfl⟩
theorem d55_38 : mj_At 55 38 (.iload 5) 40 [5] (.null) := ⟨2, (congrArg (fun z => mj_at z 38) f55).trans rfl, rfl⟩
theorem d55_40 : mj_At 55 40 (.iload_n 2) 41 [2] (.null) := ⟨1, (congrArg (fun z => mj_at z 40) f55).trans rfl, rfl⟩
theorem d55_41 : mj_At 55 41 (.ishr) 42 [] (.null) := ⟨1, (congrArg (fun z => mj_at z 41) f55).trans rfl, rfl⟩
theorem d55_42 : mj_At 55 42 (.iconst (1)) 43 [] (.int 1) := ⟨1, (congrArg (fun z => mj_at z 42) f55).trans rfl, rfl⟩
theorem d55_43 : mj_At 55 43 (.iand) 44 [] (.null) := ⟨1, (congrArg (fun z => mj_at z 43) f55).trans rfl, rfl⟩
theorem d55_44 : mj_At 55 44 (.ifCond .ne (19)) 47 [63] (.null) := ⟨3, (congrArg (fun z => mj_at z 44) f55).trans rfl, rfl⟩
theorem d55_47 : mj_At 55 47 (.aload_n 0) 48 [0] (.null) := ⟨1, (congrArg (fun z => mj_at z 47) f55).trans rfl, rfl⟩
theorem d55_48 : mj_At 55 48 (.getfield 12) 51 [3, 0, 122] (.null) := ⟨3, (congrArg (fun z => mj_at z 48) f55).trans rfl, rfl⟩
theorem d55_51 : mj_At 55 51 (.dup) 52 [] (.null) := ⟨1, (congrArg (fun z => mj_at z 51) f55).trans rfl, rfl⟩
theorem d55_52 : mj_At 55 52 (.getfield 140) 55 [2, 2, 47] (.null) := ⟨3, (congrArg (fun z => mj_at z 52) f55).trans rfl, rfl⟩
theorem d55_55 : mj_At 55 55 (.iconst (1)) 56 [] (.int 1) := ⟨1, (congrArg (fun z => mj_at z 55) f55).trans rfl, rfl⟩
theorem d55_56 : mj_At 55 56 (.iadd) 57 [] (.null) := ⟨1, (congrArg (fun z => mj_at z 56) f55).trans rfl, rfl⟩
theorem d55_57 : mj_At 55 57 (.putfield 140) 60 [2, 2, 0, 47] (.null) := ⟨3, (congrArg (fun z => mj_at z 57) f55).trans rfl, rfl⟩
theorem d55_60 : mj_At 55 60 (.goto (37)) 63 [97] (.null) := ⟨3, (congrArg (fun z => mj_at z 60) f55).trans rfl, rfl⟩
theorem d55_63 : mj_At 55 63 (.aload_n 0) 64 [0] (.null) := ⟨1, (congrArg (fun z => mj_at z 63) f55).trans rfl, rfl⟩
theorem d55_64 : mj_At 55 64 (.getfield 12) 67 [3, 0, 122] (.null) := ⟨3, (congrArg (fun z => mj_at z 64) f55).trans rfl, rfl⟩
theorem d55_67 : mj_At 55 67 (.dup) 68 [] (.null) := ⟨1, (congrArg (fun z => mj_at z 67) f55).trans rfl, rfl⟩
theorem d55_68 : mj_At 55 68 (.getfield 143) 71 [2, 3, 49] (.null) := ⟨3, (congrArg (fun z => mj_at z 68) f55).trans rfl, rfl⟩
theorem d55_71 : mj_At 55 71 (.iconst (1)) 72 [] (.int 1) := ⟨1, (congrArg (fun z => mj_at z 71) f55).trans rfl, rfl⟩
theorem d55_72 : mj_At 55 72 (.iadd) 73 [] (.null) := ⟨1, (congrArg (fun z => mj_at z 72) f55).trans rfl, rfl⟩
theorem d55_73 : mj_At 55 73 (.putfield 143) 76 [2, 3, 0, 49] (.null) := ⟨3, (congrArg (fun z => mj_at z 73) f55).trans rfl, rfl⟩
theorem d55_76 : mj_At 55 76 (.aload_n 0) 77 [0] (.null) := ⟨1, (congrArg (fun z => mj_at z 76) f55).trans rfl, rfl⟩
theorem d55_77 : mj_At 55 77 (.getfield 12) 80 [3, 0, 122] (.null) := ⟨3, (congrArg (fun z => mj_at z 77) f55).trans rfl, rfl⟩
theorem d55_80 : mj_At 55 80 (.getfield 177) 83 [2, 8, 59] (.null) := ⟨3, (congrArg (fun z => mj_at z 80) f55).trans rfl, rfl⟩
theorem d55_83 : mj_At 55 83 (.iload_n 3) 84 [3] (.null) := ⟨1, (congrArg (fun z => mj_at z 83) f55).trans rfl, rfl⟩
theorem d55_84 : mj_At 55 84 (.iload_n 1) 85 [1] (.null) := ⟨1, (congrArg (fun z => mj_at z 84) f55).trans rfl, rfl⟩
theorem d55_85 : mj_At 55 85 (.iastore) 86 [] (.null) := ⟨1, (congrArg (fun z => mj_at z 85) f55).trans rfl, rfl⟩
theorem d55_86 : mj_At 55 86 (.aload_n 0) 87 [0] (.null) := ⟨1, (congrArg (fun z => mj_at z 86) f55).trans rfl, rfl⟩
theorem d55_87 : mj_At 55 87 (.getfield 12) 90 [3, 0, 122] (.null) := ⟨3, (congrArg (fun z => mj_at z 87) f55).trans rfl, rfl⟩
theorem d55_90 : mj_At 55 90 (.getfield 180) 93 [2, 9, 61] (.null) := ⟨3, (congrArg (fun z => mj_at z 90) f55).trans rfl, rfl⟩
theorem d55_93 : mj_At 55 93 (.iload_n 3) 94 [3] (.null) := ⟨1, (congrArg (fun z => mj_at z 93) f55).trans rfl, rfl⟩
theorem d55_94 : mj_At 55 94 (.iload 4) 96 [4] (.null) := ⟨2, (congrArg (fun z => mj_at z 94) f55).trans rfl, rfl⟩
theorem d55_96 : mj_At 55 96 (.iastore) 97 [] (.null) := ⟨1, (congrArg (fun z => mj_at z 96) f55).trans rfl, rfl⟩
theorem d55_97 : mj_At 55 97 (.return_) 98 [] (.null) := ⟨1, (congrArg (fun z => mj_at z 97) f55).trans rfl, rfl⟩
theorem e55_0 {c : mj_C} {x1 : Int32} {x2 : Int32} {L : Nat} {ps : List (Option (Option Nat))} {rest : List mj_K}   : mj_EV 55 0 [some (.ref 2), some (.int x1), some (.int x2), none, none, none] [] (w_sh L ps rest) c = (if (!decide ((nI 4) = nI 0)) = true then (mj_then 55 9 [some (.ref 2), some (.int x1), some (.int x2), some (.int (x1 - x1 / (nI 4) * (nI 4))), none, none] [] (mj_EV 54 0 [some (.ref 2), some (.int x1), none, none] [] (w_sh L ps rest) c)) else none) := (mj_iload_n d55_0 rfl (mj_iconst d55_1 (mj_irem d55_2 (mj_istore_n [some (.ref 2), some (.int x1), some (.int x2), some (.int (x1 - x1 / (nI 4) * (nI 4))), none, none] d55_3 rfl rfl (mj_aload_n d55_4 rfl (mj_iload_n d55_5 rfl (mj_invV [some (.ref 2), some (.int x1), none, none] [] d55_6 rfl rfl rfl w_2 rfl rfl)))))))
theorem e55_9 {c : mj_C} {x1 : Int32} {x2 : Int32} {x3 : Int32} {z0 : Int32} {L : Nat} {ps : List (Option (Option Nat))} {rest : List mj_K}   : mj_EV 55 9 [some (.ref 2), some (.int x1), some (.int x2), some (.int x3), none, none] [.int z0] (w_sh L ps rest) c = (if mj_in x3 4 = true then (if mj_in x3 4 = true then (if (c 7 x3.toNatClampNeg) = x1 then (if ((((c 8 x3.toNatClampNeg) ^^^ z0) >>> (x2 &&& 31)) &&& (nI 1)) = nI 0 then (some (none, (w_sh L ps rest), (mj_u c 3 2 ((c 3 2) + (nI 1))))) else mj_EV 55 63 [some (.ref 2), some (.int x1), some (.int x2), some (.int x3), some (.int z0), some (.int ((c 8 x3.toNatClampNeg) ^^^ z0))] [] (w_sh L ps rest) c) else mj_EV 55 63 [some (.ref 2), some (.int x1), some (.int x2), some (.int x3), some (.int z0), some (.int ((c 8 x3.toNatClampNeg) ^^^ z0))] [] (w_sh L ps rest) c) else none) else none) := (mj_istore [some (.ref 2), some (.int x1), some (.int x2), some (.int x3), some (.int z0), none] d55_9 rfl rfl (mj_aload_n d55_11 rfl (mj_getR d55_12 w_2 rfl (mj_getR d55_15 w_3 rfl (mj_iload_n d55_18 rfl (mj_iald d55_19 w_8 (mj_iload d55_20 rfl (mj_ixor d55_22 (mj_istore [some (.ref 2), some (.int x1), some (.int x2), some (.int x3), some (.int z0), some (.int ((c 8 x3.toNatClampNeg) ^^^ z0))] d55_23 rfl rfl (mj_aload_n d55_25 rfl (mj_getR d55_26 w_2 rfl (mj_getR d55_29 w_3 rfl (mj_iload_n d55_32 rfl (mj_iald d55_33 w_7 (mj_iload_n d55_34 rfl (mj_icne d55_35 rfl (mj_iload d55_38 rfl (mj_iload_n d55_40 rfl (mj_ishr d55_41 (mj_iconst d55_42 (mj_iand d55_43 (mj_ifne d55_44 rfl (mj_aload_n d55_47 rfl (mj_getR d55_48 w_2 rfl (mj_dupR d55_51 (mj_getI d55_52 w_3 rfl (mj_iconst d55_55 (mj_iadd d55_56 (mj_putI d55_57 w_3 rfl (mj_goto d55_60 (mj_vret d55_97)))))))))))))))))))))))))))))))
theorem e55_63 {c : mj_C} {x1 : Int32} {x2 : Int32} {x3 : Int32} {x4 : Int32} {x5 : Int32} {L : Nat} {ps : List (Option (Option Nat))} {rest : List mj_K}   : mj_EV 55 63 [some (.ref 2), some (.int x1), some (.int x2), some (.int x3), some (.int x4), some (.int x5)] [] (w_sh L ps rest) c = (if mj_in x3 4 = true then (if mj_in x3 4 = true then (some (none, (w_sh L ps rest), (mj_u (mj_u (mj_u c 3 3 ((c 3 3) + (nI 1))) 7 x3.toNatClampNeg x1) 8 x3.toNatClampNeg x4))) else none) else none) := (mj_aload_n d55_63 rfl (mj_getR d55_64 w_2 rfl (mj_dupR d55_67 (mj_getI d55_68 w_3 rfl (mj_iconst d55_71 (mj_iadd d55_72 (mj_putI d55_73 w_3 rfl (mj_aload_n d55_76 rfl (mj_getR d55_77 w_2 rfl (mj_getR d55_80 w_3 rfl (mj_iload_n d55_83 rfl (mj_iload_n d55_84 rfl (mj_iast d55_85 w_7 (mj_aload_n d55_86 rfl (mj_getR d55_87 w_2 rfl (mj_getR d55_90 w_3 rfl (mj_iload_n d55_93 rfl (mj_iload d55_94 rfl (mj_iast d55_96 w_8 (mj_vret d55_97))))))))))))))))))))
/-- SqueezedLines$State.wordOf(III)I -/
theorem f56 : mj_cd 56 = mj_c56 := rfl
theorem d56_0 : mj_At 56 0 (.aload_n 0) 1 [0] (.null) := ⟨1, (congrArg (fun z => mj_at z 0) f56).trans rfl, rfl⟩
theorem d56_1 : mj_At 56 1 (.getfield 27) 4 [2, 5, 52] (.null) := ⟨3, (congrArg (fun z => mj_at z 1) f56).trans rfl, rfl⟩
theorem d56_4 : mj_At 56 4 (.iload_n 1) 5 [1] (.null) := ⟨1, (congrArg (fun z => mj_at z 4) f56).trans rfl, rfl⟩
theorem d56_5 : mj_At 56 5 (.iload_n 2) 6 [2] (.null) := ⟨1, (congrArg (fun z => mj_at z 5) f56).trans rfl, rfl⟩
theorem d56_6 : mj_At 56 6 (.invokestatic 59) 9 [3, 25, 2, 1, 234, 18] (.null) := ⟨3, (congrArg (fun z => mj_at z 6) f56).trans rfl, rfl⟩
theorem d56_9 : mj_At 56 9 (.iload_n 3) 10 [3] (.null) := ⟨1, (congrArg (fun z => mj_at z 9) f56).trans rfl, rfl⟩
theorem d56_10 : mj_At 56 10 (.iadd) 11 [] (.null) := ⟨1, (congrArg (fun z => mj_at z 10) f56).trans rfl, rfl⟩
theorem d56_11 : mj_At 56 11 (.iaload) 12 [] (.null) := ⟨1, (congrArg (fun z => mj_at z 11) f56).trans rfl, rfl⟩
theorem d56_12 : mj_At 56 12 (.ireturn) 13 [0] (.null) := ⟨1, (congrArg (fun z => mj_at z 12) f56).trans rfl, rfl⟩
theorem e56_0 {c : mj_C} {x1 : Int32} {x2 : Int32} {x3 : Int32} {L : Nat} {ps : List (Option (Option Nat))} {rest : List mj_K}   : mj_EV 56 0 [some (.ref 3), some (.int x1), some (.int x2), some (.int x3)] [] (w_sh L ps rest) c = (mj_then 56 9 [some (.ref 3), some (.int x1), some (.int x2), some (.int x3)] [.ref 4] (mj_EV 25 0 [some (.int x1), some (.int x2)] [] (w_sh L ps rest) c)) := (mj_aload_n d56_0 rfl (mj_getR d56_1 w_3 rfl (mj_iload_n d56_4 rfl (mj_iload_n d56_5 rfl (mj_invS [some (.int x1), some (.int x2)] [.ref 4] d56_6 (by decide) rfl rfl rfl rfl)))))
theorem e56_9 {c : mj_C} {x1 : Int32} {x2 : Int32} {x3 : Int32} {z1 : Int32} {L : Nat} {ps : List (Option (Option Nat))} {rest : List mj_K}   : mj_EV 56 9 [some (.ref 3), some (.int x1), some (.int x2), some (.int x3)] [.int z1, .ref 4] (w_sh L ps rest) c = (if mj_in (z1 + x3) 640 = true then (some (some (.int (c 4 (z1 + x3).toNatClampNeg)), (w_sh L ps rest), c)) else none) := (mj_iload_n d56_9 rfl (mj_iadd d56_10 (mj_iald d56_11 w_4 (mj_iret d56_12))))
/-- SqueezedLines.look(III)I -/
theorem f57 : mj_cd 57 = mj_c57 := rfl
theorem d57_0 : mj_At 57 0 (.aload_n 0) 1 [0] (.null) := ⟨1, (congrArg (fun z => mj_at z 0) f57).trans rfl, rfl⟩
theorem d57_1 : mj_At 57 1 (.getfield 12) 4 [3, 0, 122] (.null) := ⟨3, (congrArg (fun z => mj_at z 1) f57).trans rfl, rfl⟩
theorem d57_4 : mj_At 57 4 (.iload_n 1) 5 [1] (.null) := ⟨1, (congrArg (fun z => mj_at z 4) f57).trans rfl, rfl⟩
theorem d57_5 : mj_At 57 5 (.iload_n 2) 6 [2] (.null) := ⟨1, (congrArg (fun z => mj_at z 5) f57).trans rfl, rfl⟩
theorem d57_6 : mj_At 57 6 (.invokevirtual 96) 9 [1, 34, 3, 2, 263, 264, 265, 19] (.null) := ⟨3, (congrArg (fun z => mj_at z 6) f57).trans rfl, rfl⟩
theorem d57_9 : mj_At 57 9 (.ifCond .eq (10)) 12 [19] (.null) := ⟨3, (congrArg (fun z => mj_at z 9) f57).trans rfl, rfl⟩
theorem d57_12 : mj_At 57 12 (.iload_n 3) 13 [3] (.null) := ⟨1, (congrArg (fun z => mj_at z 12) f57).trans rfl, rfl⟩
theorem d57_13 : mj_At 57 13 (.invokestatic 100) 16 [0, 35, 1, 268, 269, 18] (.null) := ⟨3, (congrArg (fun z => mj_at z 13) f57).trans rfl, rfl⟩
theorem d57_16 : mj_At 57 16 (.ifCond .ne (5)) 19 [21] (.null) := ⟨3, (congrArg (fun z => mj_at z 16) f57).trans rfl, rfl⟩
theorem d57_19 : mj_At 57 19 (.iconst (-1)) 20 [] (.int (-1)) := ⟨1, (congrArg (fun z => mj_at z 19) f57).trans rfl, rfl⟩
theorem d57_20 : mj_At 57 20 (.ireturn) 21 [0] (.null) := ⟨1, (congrArg (fun z => mj_at z 20) f57).trans rfl, rfl⟩
theorem d57_21 : mj_At 57 21 (.aload_n 0) 22 [0] (.null) := ⟨1, (congrArg (fun z => mj_at z 21) f57).trans rfl, rfl⟩
theorem d57_22 : mj_At 57 22 (.getfield 19) 25 [3, 1, 123] (.null) := ⟨3, (congrArg (fun z => mj_at z 22) f57).trans rfl, rfl⟩
theorem d57_25 : mj_At 57 25 (.aload_n 0) 26 [0] (.null) := ⟨1, (congrArg (fun z => mj_at z 25) f57).trans rfl, rfl⟩
theorem d57_26 : mj_At 57 26 (.getfield 12) 29 [3, 0, 122] (.null) := ⟨3, (congrArg (fun z => mj_at z 26) f57).trans rfl, rfl⟩
theorem d57_29 : mj_At 57 29 (.invokevirtual 56) 32 [1, 20, 2, 1, 198, 199, 200, 21] (.null) := ⟨3, (congrArg (fun z => mj_at z 29) f57).trans rfl, rfl⟩
theorem d57_32 : mj_At 57 32 (.aload_n 0) 33 [0] (.null) := ⟨1, (congrArg (fun z => mj_at z 32) f57).trans rfl, rfl⟩
theorem d57_33 : mj_At 57 33 (.iload_n 1) 34 [1] (.null) := ⟨1, (congrArg (fun z => mj_at z 33) f57).trans rfl, rfl⟩
theorem d57_34 : mj_At 57 34 (.iload_n 2) 35 [2] (.null) := ⟨1, (congrArg (fun z => mj_at z 34) f57).trans rfl, rfl⟩
theorem d57_35 : mj_At 57 35 (.invokevirtual 127) 38 [1, 55, 3, 3, 339, 341, 13, 18] (.null) := ⟨3, (congrArg (fun z => mj_at z 35) f57).trans rfl, rfl⟩
theorem d57_38 : mj_At 57 38 (.aload_n 0) 39 [0] (.null) := ⟨1, (congrArg (fun z => mj_at z 38) f57).trans rfl, rfl⟩
theorem d57_39 : mj_At 57 39 (.getfield 12) 42 [3, 0, 122] (.null) := ⟨3, (congrArg (fun z => mj_at z 39) f57).trans rfl, rfl⟩
theorem d57_42 : mj_At 57 42 (.iload_n 1) 43 [1] (.null) := ⟨1, (congrArg (fun z => mj_at z 42) f57).trans rfl, rfl⟩
theorem d57_43 : mj_At 57 43 (.iload_n 2) 44 [2] (.null) := ⟨1, (congrArg (fun z => mj_at z 43) f57).trans rfl, rfl⟩
theorem d57_44 : mj_At 57 44 (.iload_n 3) 45 [3] (.null) := ⟨1, (congrArg (fun z => mj_at z 44) f57).trans rfl, rfl⟩
theorem d57_45 : mj_At 57 45 (.invokevirtual 130) 48 [1, 56, 4, 2, 351, 352, 353, 19] (.null) := ⟨3, (congrArg (fun z => mj_at z 45) f57).trans rfl, rfl⟩
theorem d57_48 : mj_At 57 48 (.ireturn) 49 [0] (.null) := ⟨1, (congrArg (fun z => mj_at z 48) f57).trans rfl, rfl⟩
theorem e57_0 {c : mj_C} {x1 : Int32} {x2 : Int32} {x3 : Int32} {L : Nat} {ps : List (Option (Option Nat))} {rest : List mj_K}   : mj_EV 57 0 [some (.ref 2), some (.int x1), some (.int x2), some (.int x3)] [] (w_sh L ps rest) c = (mj_then 57 9 [some (.ref 2), some (.int x1), some (.int x2), some (.int x3)] [] (mj_EV 34 0 [some (.ref 3), some (.int x1), some (.int x2)] [] (w_sh L ps rest) c)) := (mj_aload_n d57_0 rfl (mj_getR d57_1 w_2 rfl (mj_iload_n d57_4 rfl (mj_iload_n d57_5 rfl (mj_invV [some (.ref 3), some (.int x1), some (.int x2)] [] d57_6 rfl rfl rfl w_3 rfl rfl)))))
theorem e57_9 {c : mj_C} {x1 : Int32} {x2 : Int32} {x3 : Int32} {z0 : Int32} {L : Nat} {ps : List (Option (Option Nat))} {rest : List mj_K}   : mj_EV 57 9 [some (.ref 2), some (.int x1), some (.int x2), some (.int x3)] [.int z0] (w_sh L ps rest) c = (if z0 = nI 0 then (some (some (.int (-1)), (w_sh L ps rest), c)) else (mj_then 57 16 [some (.ref 2), some (.int x1), some (.int x2), some (.int x3)] [] (mj_EV 35 0 [some (.int x3)] [] (w_sh L ps rest) c))) := (mj_ifeq d57_9 (mj_iconst d57_19 (mj_iret d57_20)) (mj_iload_n d57_12 rfl (mj_invS [some (.int x3)] [] d57_13 (by decide) rfl rfl rfl rfl)))
theorem e57_16 {c : mj_C} {x1 : Int32} {x2 : Int32} {x3 : Int32} {z0 : Int32} {L : Nat} {ps : List (Option (Option Nat))} {rest : List mj_K}   : mj_EV 57 16 [some (.ref 2), some (.int x1), some (.int x2), some (.int x3)] [.int z0] (w_sh L ps rest) c = (if z0 = nI 0 then (some (some (.int (-1)), (w_sh L ps rest), c)) else (mj_then 57 32 [some (.ref 2), some (.int x1), some (.int x2), some (.int x3)] [] (mj_EV 20 0 [some (.ref 9), some (.ref 3)] [] (w_sh L ps rest) c))) := (mj_ifne d57_16 (mj_aload_n d57_21 rfl (mj_getR d57_22 w_2 rfl (mj_aload_n d57_25 rfl (mj_getR d57_26 w_2 rfl (mj_invV [some (.ref 9), some (.ref 3)] [] d57_29 rfl rfl rfl w_9 rfl rfl))))) (mj_iconst d57_19 (mj_iret d57_20)))
theorem e57_32 {c : mj_C} {x1 : Int32} {x2 : Int32} {x3 : Int32} {L : Nat} {ps : List (Option (Option Nat))} {rest : List mj_K}   : mj_EV 57 32 [some (.ref 2), some (.int x1), some (.int x2), some (.int x3)] [] (w_sh L ps rest) c = (mj_then 57 38 [some (.ref 2), some (.int x1), some (.int x2), some (.int x3)] [] (mj_EV 55 0 [some (.ref 2), some (.int x1), some (.int x2), none, none, none] [] (w_sh L ps rest) c)) := (mj_aload_n d57_32 rfl (mj_iload_n d57_33 rfl (mj_iload_n d57_34 rfl (mj_invV [some (.ref 2), some (.int x1), some (.int x2), none, none, none] [] d57_35 rfl rfl rfl w_2 rfl rfl))))
theorem e57_38 {c : mj_C} {x1 : Int32} {x2 : Int32} {x3 : Int32} {L : Nat} {ps : List (Option (Option Nat))} {rest : List mj_K}   : mj_EV 57 38 [some (.ref 2), some (.int x1), some (.int x2), some (.int x3)] [] (w_sh L ps rest) c = (mj_then 57 48 [some (.ref 2), some (.int x1), some (.int x2), some (.int x3)] [] (mj_EV 56 0 [some (.ref 3), some (.int x1), some (.int x2), some (.int x3)] [] (w_sh L ps rest) c)) := (mj_aload_n d57_38 rfl (mj_getR d57_39 w_2 rfl (mj_iload_n d57_42 rfl (mj_iload_n d57_43 rfl (mj_iload_n d57_44 rfl (mj_invV [some (.ref 3), some (.int x1), some (.int x2), some (.int x3)] [] d57_45 rfl rfl rfl w_3 rfl rfl))))))
theorem e57_48 {c : mj_C} {x1 : Int32} {x2 : Int32} {x3 : Int32} {z0 : Int32} {L : Nat} {ps : List (Option (Option Nat))} {rest : List mj_K}   : mj_EV 57 48 [some (.ref 2), some (.int x1), some (.int x2), some (.int x3)] [.int z0] (w_sh L ps rest) c = (some (some (.int z0), (w_sh L ps rest), c)) := (mj_iret d57_48)
/-- SqueezedLines$State.numberOfPages()I -/
theorem f58 : mj_cd 58 = mj_c58 := rfl
theorem d58_0 : mj_At 58 0 (.iconst (0)) 1 [] (.int 0) := ⟨1, (congrArg (fun z => mj_at z 0) f58).trans rfl, rfl⟩
theorem d58_1 : mj_At 58 1 (.istore_n 1) 2 [1] (.null) := ⟨1, (congrArg (fun z => mj_at z 1) f58).trans rfl, rfl⟩
theorem d58_2 : mj_At 58 2 (.iconst (0)) 3 [] (.int 0) := ⟨1, (congrArg (fun z => mj_at z 2) f58).trans rfl, rfl⟩
theorem d58_3 : mj_At 58 3 (.istore_n 2) 4 [2] (.null) := ⟨1, (congrArg (fun z => mj_at z 3) f58).trans rfl, rfl⟩
theorem d58_4 : mj_At 58 4 (.iload_n 2) 5 [2] (.null) := ⟨1, (congrArg (fun z => mj_at z 4) f58).trans rfl, rfl⟩
theorem d58_5 : mj_At 58 5 (.bipush (10)) 7 [] (.int 10) := ⟨2, (congrArg (fun z => mj_at z 5) f58).trans rfl, rfl⟩
theorem d58_7 : mj_At 58 7 (.if_icmp .ge (22)) 10 [29] (.null) := ⟨3, (congrArg (fun z => mj_at z 7) f58).trans rfl, rfl⟩
theorem d58_10 : mj_At 58 10 (.aload_n 0) 11 [0] (.null) := ⟨1, (congrArg (fun z => mj_at z 10) f58).trans rfl, rfl⟩
theorem d58_11 : mj_At 58 11 (.getfield 34) 14 [2, 7, 56] (.null) := ⟨3, (congrArg (fun z => mj_at z 11) f58).trans rfl, rfl⟩
theorem d58_14 : mj_At 58 14 (.iload_n 2) 15 [2] (.null) := ⟨1, (congrArg (fun z => mj_at z 14) f58).trans rfl, rfl⟩
theorem d58_15 : mj_At 58 15 (.iaload) 16 [] (.null) := ⟨1, (congrArg (fun z => mj_at z 15) f58).trans rfl, rfl⟩
theorem d58_16 : mj_At 58 16 (.iconst (-1)) 17 [] (.int (-1)) := ⟨1, (congrArg (fun z => mj_at z 16) f58).trans rfl, rfl⟩
theorem d58_17 : mj_At 58 17 (.if_icmp .eq (6)) 20 [23] (.null) := ⟨3, (congrArg (fun z => mj_at z 17) f58).trans rfl, rfl⟩
theorem d58_20 : mj_At 58 20 (.iinc 1 (1)) 23 [1] (.int 1) := ⟨3, (congrArg (fun z => mj_at z 20) f58).trans rfl, rfl⟩
theorem d58_23 : mj_At 58 23 (.iinc 2 (1)) 26 [2] (.int 1) := ⟨3, (congrArg (fun z => mj_at z 23) f58).trans rfl, rfl⟩
theorem d58_26 : mj_At 58 26 (.goto (-22)) 29 [4] (.null) := ⟨3, (congrArg (fun z => mj_at z 26) f58).trans rfl, rfl⟩
theorem d58_29 : mj_At 58 29 (.iload_n 1) 30 [1] (.null) := ⟨1, (congrArg (fun z => mj_at z 29) f58).trans rfl, rfl⟩
theorem d58_30 : mj_At 58 30 (.ireturn) 31 [0] (.null) := ⟨1, (congrArg (fun z => mj_at z 30) f58).trans rfl, rfl⟩
theorem e58_0 {c : mj_C}  {L : Nat} {ps : List (Option (Option Nat))} {rest : List mj_K}   : mj_EV 58 0 [some (.ref 3), none, none] [] (w_sh L ps rest) c = mj_EV 58 4 [some (.ref 3), some (.int (nI 0)), some (.int (nI 0))] [] (w_sh L ps rest) c := (mj_iconst d58_0 (mj_istore_n [some (.ref 3), some (.int (nI 0)), none] d58_1 rfl rfl (mj_iconst d58_2 (mj_istore_n [some (.ref 3), some (.int (nI 0)), some (.int (nI 0))] d58_3 rfl rfl rfl))))
theorem e58_4 {c : mj_C} {x1 : Int32} {x2 : Int32} {L : Nat} {ps : List (Option (Option Nat))} {rest : List mj_K}   : mj_EV 58 4 [some (.ref 3), some (.int x1), some (.int x2)] [] (w_sh L ps rest) c = (if (nI 10) ≤ x2 then (some (some (.int x1), (w_sh L ps rest), c)) else (if mj_in x2 10 = true then (if (c 6 x2.toNatClampNeg) = (-1) then mj_EV 58 4 [some (.ref 3), some (.int x1), some (.int (x2 + (nI 1)))] [] (w_sh L ps rest) c else mj_EV 58 4 [some (.ref 3), some (.int (x1 + (nI 1))), some (.int (x2 + (nI 1)))] [] (w_sh L ps rest) c) else none)) := (mj_iload_n d58_4 rfl (mj_bipush d58_5 (mj_icge d58_7 (mj_iload_n d58_29 rfl (mj_iret d58_30)) (mj_aload_n d58_10 rfl (mj_getR d58_11 w_3 rfl (mj_iload_n d58_14 rfl (mj_iald d58_15 w_6 (mj_iconst d58_16 (mj_iceq d58_17 (mj_iinc [some (.ref 3), some (.int x1), some (.int (x2 + (nI 1)))] d58_23 rfl rfl rfl (mj_goto d58_26 rfl)) (mj_iinc [some (.ref 3), some (.int (x1 + (nI 1))), some (.int x2)] d58_20 rfl rfl rfl (mj_iinc [some (.ref 3), some (.int (x1 + (nI 1))), some (.int (x2 + (nI 1)))] d58_23 rfl rfl rfl (mj_goto d58_26 rfl))))))))))))
/-- SqueezedLines.linesBeside()I -/
theorem f59 : mj_cd 59 = mj_c59 := rfl
theorem d59_0 : mj_At 59 0 (.iconst (0)) 1 [] (.int 0) := ⟨1, (congrArg (fun z => mj_at z 0) f59).trans rfl, rfl⟩
theorem d59_1 : mj_At 59 1 (.istore_n 1) 2 [1] (.null) := ⟨1, (congrArg (fun z => mj_at z 1) f59).trans rfl, rfl⟩
theorem d59_2 : mj_At 59 2 (.iconst (0)) 3 [] (.int 0) := ⟨1, (congrArg (fun z => mj_at z 2) f59).trans rfl, rfl⟩
theorem d59_3 : mj_At 59 3 (.istore_n 2) 4 [2] (.null) := ⟨1, (congrArg (fun z => mj_at z 3) f59).trans rfl, rfl⟩
theorem d59_4 : mj_At 59 4 (.iload_n 2) 5 [2] (.null) := ⟨1, (congrArg (fun z => mj_at z 4) f59).trans rfl, rfl⟩
theorem d59_5 : mj_At 59 5 (.bipush (10)) 7 [] (.int 10) := ⟨2, (congrArg (fun z => mj_at z 5) f59).trans rfl, rfl⟩
theorem d59_7 : mj_At 59 7 (.if_icmp .ge (28)) 10 [35] (.null) := ⟨3, (congrArg (fun z => mj_at z 7) f59).trans rfl, rfl⟩
theorem d59_10 : mj_At 59 10 (.aload_n 0) 11 [0] (.null) := ⟨1, (congrArg (fun z => mj_at z 10) f59).trans rfl, rfl⟩
theorem d59_11 : mj_At 59 11 (.getfield 12) 14 [3, 0, 122] (.null) := ⟨3, (congrArg (fun z => mj_at z 11) f59).trans rfl, rfl⟩
theorem d59_14 : mj_At 59 14 (.iload_n 2) 15 [2] (.null) := ⟨1, (congrArg (fun z => mj_at z 14) f59).trans rfl, rfl⟩
theorem d59_15 : mj_At 59 15 (.invokevirtual 63) 18 [1, 6, 2, 2, 156, 157, 158, 19] (.null) := ⟨3, (congrArg (fun z => mj_at z 15) f59).trans rfl, rfl⟩
theorem d59_18 : mj_At 59 18 (.ifCond .eq (11)) 21 [29] (.null) := ⟨3, (congrArg (fun z => mj_at z 18) f59).trans rfl, rfl⟩
theorem d59_21 : mj_At 59 21 (.iload_n 1) 22 [1] (.null) := ⟨1, (congrArg (fun z => mj_at z 21) f59).trans rfl, rfl⟩
theorem d59_22 : mj_At 59 22 (.aload_n 0) 23 [0] (.null) := ⟨1, (congrArg (fun z => mj_at z 22) f59).trans rfl, rfl⟩
theorem d59_23 : mj_At 59 23 (.iload_n 2) 24 [2] (.null) := ⟨1, (congrArg (fun z => mj_at z 23) f59).trans rfl, rfl⟩
theorem d59_24 : mj_At 59 24 (.invokevirtual 261) 27 [1, 9, 2, 3, 160, 162, 1, 18] (.null) := ⟨3, (congrArg (fun z => mj_at z 24) f59).trans rfl, rfl⟩
theorem d59_27 : mj_At 59 27 (.iadd) 28 [] (.null) := ⟨1, (congrArg (fun z => mj_at z 27) f59).trans rfl, rfl⟩
theorem d59_28 : mj_At 59 28 (.istore_n 1) 29 [1] (.null) := ⟨1, (congrArg (fun z => mj_at z 28) f59).trans rfl, rfl⟩
theorem d59_29 : mj_At 59 29 (.iinc 2 (1)) 32 [2] (.int 1) := ⟨3, (congrArg (fun z => mj_at z 29) f59).trans rfl, rfl⟩
theorem d59_32 : mj_At 59 32 (.goto (-28)) 35 [4] (.null) := ⟨3, (congrArg (fun z => mj_at z 32) f59).trans rfl, rfl⟩
theorem d59_35 : mj_At 59 35 (.iload_n 1) 36 [1] (.null) := ⟨1, (congrArg (fun z => mj_at z 35) f59).trans rfl, rfl⟩
theorem d59_36 : mj_At 59 36 (.ireturn) 37 [0] (.null) := ⟨1, (congrArg (fun z => mj_at z 36) f59).trans rfl, rfl⟩
theorem e59_0 {c : mj_C}  {L : Nat} {ps : List (Option (Option Nat))} {rest : List mj_K}   : mj_EV 59 0 [some (.ref 2), none, none] [] (w_sh L ps rest) c = mj_EV 59 4 [some (.ref 2), some (.int (nI 0)), some (.int (nI 0))] [] (w_sh L ps rest) c := (mj_iconst d59_0 (mj_istore_n [some (.ref 2), some (.int (nI 0)), none] d59_1 rfl rfl (mj_iconst d59_2 (mj_istore_n [some (.ref 2), some (.int (nI 0)), some (.int (nI 0))] d59_3 rfl rfl rfl))))
theorem e59_4 {c : mj_C} {x1 : Int32} {x2 : Int32} {L : Nat} {ps : List (Option (Option Nat))} {rest : List mj_K}   : mj_EV 59 4 [some (.ref 2), some (.int x1), some (.int x2)] [] (w_sh L ps rest) c = (if (nI 10) ≤ x2 then (some (some (.int x1), (w_sh L ps rest), c)) else (mj_then 59 18 [some (.ref 2), some (.int x1), some (.int x2)] [] (mj_EV 6 0 [some (.ref 3), some (.int x2)] [] (w_sh L ps rest) c))) := (mj_iload_n d59_4 rfl (mj_bipush d59_5 (mj_icge d59_7 (mj_iload_n d59_35 rfl (mj_iret d59_36)) (mj_aload_n d59_10 rfl (mj_getR d59_11 w_2 rfl (mj_iload_n d59_14 rfl (mj_invV [some (.ref 3), some (.int x2)] [] d59_15 rfl rfl rfl w_3 rfl rfl)))))))
theorem e59_18 {c : mj_C} {x1 : Int32} {x2 : Int32} {z0 : Int32} {L : Nat} {ps : List (Option (Option Nat))} {rest : List mj_K}   : mj_EV 59 18 [some (.ref 2), some (.int x1), some (.int x2)] [.int z0] (w_sh L ps rest) c = (if z0 = nI 0 then mj_EV 59 4 [some (.ref 2), some (.int x1), some (.int (x2 + (nI 1)))] [] (w_sh L ps rest) c else (mj_then 59 27 [some (.ref 2), some (.int x1), some (.int x2)] [.int x1] (mj_EV 9 0 [some (.ref 2), some (.int x2)] [] (w_sh L ps rest) c))) := (mj_ifeq d59_18 (mj_iinc [some (.ref 2), some (.int x1), some (.int (x2 + (nI 1)))] d59_29 rfl rfl rfl (mj_goto d59_32 rfl)) (mj_iload_n d59_21 rfl (mj_aload_n d59_22 rfl (mj_iload_n d59_23 rfl (mj_invV [some (.ref 2), some (.int x2)] [.int x1] d59_24 rfl rfl rfl w_2 rfl rfl)))))
theorem e59_27 {c : mj_C} {x1 : Int32} {x2 : Int32} {z0 : Int32} {z1 : Int32} {L : Nat} {ps : List (Option (Option Nat))} {rest : List mj_K}   : mj_EV 59 27 [some (.ref 2), some (.int x1), some (.int x2)] [.int z1, .int z0] (w_sh L ps rest) c = mj_EV 59 4 [some (.ref 2), some (.int (z0 + z1)), some (.int (x2 + (nI 1)))] [] (w_sh L ps rest) c := (mj_iadd d59_27 (mj_istore_n [some (.ref 2), some (.int (z0 + z1)), some (.int x2)] d59_28 rfl rfl (mj_iinc [some (.ref 2), some (.int (z0 + z1)), some (.int (x2 + (nI 1)))] d59_29 rfl rfl rfl (mj_goto d59_32 rfl))))
/-- SqueezedLines.count(I)I -/
theorem f60 : mj_cd 60 = mj_c60 := rfl
theorem d60_0 : mj_At 60 0 (.iload_n 1) 1 [1] (.null) := ⟨1, (congrArg (fun z => mj_at z 0) f60).trans rfl, rfl⟩
theorem d60_1 : mj_At 60 1 (.tableswitch (127) (0) (8) #[51, 59, 64, 72, 80, 85, 93, 101, 119]) 52 [128, 52, 60, 65, 73, 81, 86, 94, 102, 120] (.int 0) := ⟨51, (congrArg (fun z => mj_at z 1) f60).trans rfl, rfl⟩
theorem d60_52 : mj_At 60 52 (.aload_n 0) 53 [0] (.null) := ⟨1, (congrArg (fun z => mj_at z 52) f60).trans rfl, rfl⟩
theorem d60_53 : mj_At 60 53 (.getfield 12) 56 [3, 0, 122] (.null) := ⟨3, (congrArg (fun z => mj_at z 53) f60).trans rfl, rfl⟩
theorem d60_56 : mj_At 60 56 (.invokevirtual 134) 59 [1, 58, 1, 2, 420, 421, 422, 19] (.null) := ⟨3, (congrArg (fun z => mj_at z 56) f60).trans rfl, rfl⟩
theorem d60_59 : mj_At 60 59 (.ireturn) 60 [0] (.null) := ⟨1, (congrArg (fun z => mj_at z 59) f60).trans rfl, rfl⟩
theorem d60_60 : mj_At 60 60 (.aload_n 0) 61 [0] (.null) := ⟨1, (congrArg (fun z => mj_at z 60) f60).trans rfl, rfl⟩
theorem d60_61 : mj_At 60 61 (.invokevirtual 77) 64 [1, 16, 1, 3, 194, 196, 6, 18] (.null) := ⟨3, (congrArg (fun z => mj_at z 61) f60).trans rfl, rfl⟩
theorem d60_64 : mj_At 60 64 (.ireturn) 65 [0] (.null) := ⟨1, (congrArg (fun z => mj_at z 64) f60).trans rfl, rfl⟩
theorem d60_65 : mj_At 60 65 (.aload_n 0) 66 [0] (.null) := ⟨1, (congrArg (fun z => mj_at z 65) f60).trans rfl, rfl⟩
theorem d60_66 : mj_At 60 66 (.getfield 12) 69 [3, 0, 122] (.null) := ⟨3, (congrArg (fun z => mj_at z 66) f60).trans rfl, rfl⟩
theorem d60_69 : mj_At 60 69 (.getfield 70) 72 [2, 1, 45] (.null) := ⟨3, (congrArg (fun z => mj_at z 69) f60).trans rfl, rfl⟩
theorem d60_72 : mj_At 60 72 (.ireturn) 73 [0] (.null) := ⟨1, (congrArg (fun z => mj_at z 72) f60).trans rfl, rfl⟩
theorem d60_73 : mj_At 60 73 (.aload_n 0) 74 [0] (.null) := ⟨1, (congrArg (fun z => mj_at z 73) f60).trans rfl, rfl⟩
theorem d60_74 : mj_At 60 74 (.getfield 12) 77 [3, 0, 122] (.null) := ⟨3, (congrArg (fun z => mj_at z 74) f60).trans rfl, rfl⟩
theorem d60_77 : mj_At 60 77 (.getfield 60) 80 [2, 0, 43] (.null) := ⟨3, (congrArg (fun z => mj_at z 77) f60).trans rfl, rfl⟩
theorem d60_80 : mj_At 60 80 (.ireturn) 81 [0] (.null) := ⟨1, (congrArg (fun z => mj_at z 80) f60).trans rfl, rfl⟩
theorem d60_81 : mj_At 60 81 (.aload_n 0) 82 [0] (.null) := ⟨1, (congrArg (fun z => mj_at z 81) f60).trans rfl, rfl⟩
theorem d60_82 : mj_At 60 82 (.invokevirtual 137) 85 [1, 59, 1, 3, 424, 426, 16, 18] (.null) := ⟨3, (congrArg (fun z => mj_at z 82) f60).trans rfl, rfl⟩
theorem d60_85 : mj_At 60 85 (.ireturn) 86 [0] (.null) := ⟨1, (congrArg (fun z => mj_at z 85) f60).trans rfl, rfl⟩
theorem d60_86 : mj_At 60 86 (.aload_n 0) 87 [0] (.null) := ⟨1, (congrArg (fun z => mj_at z 86) f60).trans rfl, rfl⟩
theorem d60_87 : mj_At 60 87 (.getfield 12) 90 [3, 0, 122] (.null) := ⟨3, (congrArg (fun z => mj_at z 87) f60).trans rfl, rfl⟩
theorem d60_90 : mj_At 60 90 (.getfield 140) 93 [2, 2, 47] (.null) := ⟨3, (congrArg (fun z => mj_at z 90) f60).trans rfl, rfl⟩
theorem d60_93 : mj_At 60 93 (.ireturn) 94 [0] (.null) := ⟨1, (congrArg (fun z => mj_at z 93) f60).trans rfl, rfl⟩
theorem d60_94 : mj_At 60 94 (.aload_n 0) 95 [0] (.null) := ⟨1, (congrArg (fun z => mj_at z 94) f60).trans rfl, rfl⟩
theorem d60_95 : mj_At 60 95 (.getfield 12) 98 [3, 0, 122] (.null) := ⟨3, (congrArg (fun z => mj_at z 95) f60).trans rfl, rfl⟩
theorem d60_98 : mj_At 60 98 (.getfield 143) 101 [2, 3, 49] (.null) := ⟨3, (congrArg (fun z => mj_at z 98) f60).trans rfl, rfl⟩
theorem d60_101 : mj_At 60 101 (.ireturn) 102 [0] (.null) := ⟨1, (congrArg (fun z => mj_at z 101) f60).trans rfl, rfl⟩
theorem d60_102 : mj_At 60 102 (.aload_n 0) 103 [0] (.null) := ⟨1, (congrArg (fun z => mj_at z 102) f60).trans rfl, rfl⟩
theorem d60_103 : mj_At 60 103 (.getfield 12) 106 [3, 0, 122] (.null) := ⟨3, (congrArg (fun z => mj_at z 103) f60).trans rfl, rfl⟩
theorem d60_106 : mj_At 60 106 (.getfield 140) 109 [2, 2, 47] (.null) := ⟨3, (congrArg (fun z => mj_at z 106) f60).trans rfl, rfl⟩
theorem d60_109 : mj_At 60 109 (.iconst (2)) 110 [] (.int 2) := ⟨1, (congrArg (fun z => mj_at z 109) f60).trans rfl, rfl⟩
theorem d60_110 : mj_At 60 110 (.aload_n 0) 111 [0] (.null) := ⟨1, (congrArg (fun z => mj_at z 110) f60).trans rfl, rfl⟩
theorem d60_111 : mj_At 60 111 (.getfield 12) 114 [3, 0, 122] (.null) := ⟨3, (congrArg (fun z => mj_at z 111) f60).trans rfl, rfl⟩
theorem d60_114 : mj_At 60 114 (.getfield 143) 117 [2, 3, 49] (.null) := ⟨3, (congrArg (fun z => mj_at z 114) f60).trans rfl, rfl⟩
theorem d60_117 : mj_At 60 117 (.imul) 118 [] (.null) := ⟨1, (congrArg (fun z => mj_at z 117) f60).trans rfl, rfl⟩
theorem d60_118 : mj_At 60 118 (.iadd) 119 [] (.null) := ⟨1, (congrArg (fun z => mj_at z 118) f60).trans rfl, rfl⟩
theorem d60_119 : mj_At 60 119 (.ireturn) 120 [0] (.null) := ⟨1, (congrArg (fun z => mj_at z 119) f60).trans rfl, rfl⟩
theorem d60_120 : mj_At 60 120 (.aload_n 0) 121 [0] (.null) := ⟨1, (congrArg (fun z => mj_at z 120) f60).trans rfl, rfl⟩
theorem d60_121 : mj_At 60 121 (.getfield 12) 124 [3, 0, 122] (.null) := ⟨3, (congrArg (fun z => mj_at z 121) f60).trans rfl, rfl⟩
theorem d60_124 : mj_At 60 124 (.getfield 146) 127 [2, 4, 51] (.null) := ⟨3, (congrArg (fun z => mj_at z 124) f60).trans rfl, rfl⟩
theorem d60_127 : mj_At 60 127 (.ireturn) 128 [0] (.null) := ⟨1, (congrArg (fun z => mj_at z 127) f60).trans rfl, rfl⟩
theorem d60_128 : mj_At 60 128 (.bipush (-2)) 130 [] (.int (-2)) := ⟨2, (congrArg (fun z => mj_at z 128) f60).trans rfl, rfl⟩
theorem d60_130 : mj_At 60 130 (.ireturn) 131 [0] (.null) := ⟨1, (congrArg (fun z => mj_at z 130) f60).trans rfl, rfl⟩
theorem e60_0 {c : mj_C} {x1 : Int32} {L : Nat} {ps : List (Option (Option Nat))} {rest : List mj_K}   : mj_EV 60 0 [some (.ref 2), some (.int x1)] [] (w_sh L ps rest) c = (if x1 = nI 0 then (mj_then 60 59 [some (.ref 2), some (.int x1)] [] (mj_EV 58 0 [some (.ref 3), none, none] [] (w_sh L ps rest) c)) else (if x1 = nI 1 then (mj_then 60 64 [some (.ref 2), some (.int x1)] [] (mj_EV 16 0 [some (.ref 2), none, none] [] (w_sh L ps rest) c)) else (if x1 = nI 2 then (some (some (.int (c 3 1)), (w_sh L ps rest), c)) else (if x1 = nI 3 then (some (some (.int (c 3 0)), (w_sh L ps rest), c)) else (if x1 = nI 4 then (mj_then 60 85 [some (.ref 2), some (.int x1)] [] (mj_EV 59 0 [some (.ref 2), none, none] [] (w_sh L ps rest) c)) else (if x1 = nI 5 then (some (some (.int (c 3 2)), (w_sh L ps rest), c)) else (if x1 = nI 6 then (some (some (.int (c 3 3)), (w_sh L ps rest), c)) else (if x1 = nI 7 then (some (some (.int ((c 3 2) + ((nI 2) * (c 3 3)))), (w_sh L ps rest), c)) else (if x1 = nI 8 then (some (some (.int (c 3 4)), (w_sh L ps rest), c)) else (some (some (.int (-2)), (w_sh L ps rest), c))))))))))) := (mj_iload_n d60_0 rfl ((mj_tsw d60_1).trans (mj_ite rfl (mj_aload_n d60_52 rfl (mj_getR d60_53 w_2 rfl (mj_invV [some (.ref 3), none, none] [] d60_56 rfl rfl rfl w_3 rfl rfl))) (mj_ite rfl (mj_aload_n d60_60 rfl (mj_invV [some (.ref 2), none, none] [] d60_61 rfl rfl rfl w_2 rfl rfl)) (mj_ite rfl (mj_aload_n d60_65 rfl (mj_getR d60_66 w_2 rfl (mj_getI d60_69 w_3 rfl (mj_iret d60_72)))) (mj_ite rfl (mj_aload_n d60_73 rfl (mj_getR d60_74 w_2 rfl (mj_getI d60_77 w_3 rfl (mj_iret d60_80)))) (mj_ite rfl (mj_aload_n d60_81 rfl (mj_invV [some (.ref 2), none, none] [] d60_82 rfl rfl rfl w_2 rfl rfl)) (mj_ite rfl (mj_aload_n d60_86 rfl (mj_getR d60_87 w_2 rfl (mj_getI d60_90 w_3 rfl (mj_iret d60_93)))) (mj_ite rfl (mj_aload_n d60_94 rfl (mj_getR d60_95 w_2 rfl (mj_getI d60_98 w_3 rfl (mj_iret d60_101)))) (mj_ite rfl (mj_aload_n d60_102 rfl (mj_getR d60_103 w_2 rfl (mj_getI d60_106 w_3 rfl (mj_iconst d60_109 (mj_aload_n d60_110 rfl (mj_getR d60_111 w_2 rfl (mj_getI d60_114 w_3 rfl (mj_imul d60_117 (mj_iadd d60_118 (mj_iret d60_119)))))))))) (mj_ite rfl (mj_aload_n d60_120 rfl (mj_getR d60_121 w_2 rfl (mj_getI d60_124 w_3 rfl (mj_iret d60_127)))) (mj_bipush d60_128 (mj_iret d60_130)))))))))))))
theorem e60_59 {c : mj_C} {x1 : Int32} {z0 : Int32} {L : Nat} {ps : List (Option (Option Nat))} {rest : List mj_K}   : mj_EV 60 59 [some (.ref 2), some (.int x1)] [.int z0] (w_sh L ps rest) c = (some (some (.int z0), (w_sh L ps rest), c)) := (mj_iret d60_59)
theorem e60_64 {c : mj_C} {x1 : Int32} {z0 : Int32} {L : Nat} {ps : List (Option (Option Nat))} {rest : List mj_K}   : mj_EV 60 64 [some (.ref 2), some (.int x1)] [.int z0] (w_sh L ps rest) c = (some (some (.int z0), (w_sh L ps rest), c)) := (mj_iret d60_64)
theorem e60_85 {c : mj_C} {x1 : Int32} {z0 : Int32} {L : Nat} {ps : List (Option (Option Nat))} {rest : List mj_K}   : mj_EV 60 85 [some (.ref 2), some (.int x1)] [.int z0] (w_sh L ps rest) c = (some (some (.int z0), (w_sh L ps rest), c)) := (mj_iret d60_85)
/-- SqueezedLines.peek(III)I -/
theorem f61 : mj_cd 61 = mj_c61 := rfl
theorem d61_0 : mj_At 61 0 (.aload_n 0) 1 [0] (.null) := ⟨1, (congrArg (fun z => mj_at z 0) f61).trans rfl, rfl⟩
theorem d61_1 : mj_At 61 1 (.getfield 12) 4 [3, 0, 122] (.null) := ⟨3, (congrArg (fun z => mj_at z 1) f61).trans rfl, rfl⟩
theorem d61_4 : mj_At 61 4 (.iload_n 1) 5 [1] (.null) := ⟨1, (congrArg (fun z => mj_at z 4) f61).trans rfl, rfl⟩
theorem d61_5 : mj_At 61 5 (.iload_n 2) 6 [2] (.null) := ⟨1, (congrArg (fun z => mj_at z 5) f61).trans rfl, rfl⟩
theorem d61_6 : mj_At 61 6 (.invokevirtual 96) 9 [1, 34, 3, 2, 263, 264, 265, 19] (.null) := ⟨3, (congrArg (fun z => mj_at z 6) f61).trans rfl, rfl⟩
theorem d61_9 : mj_At 61 9 (.ifCond .eq (10)) 12 [19] (.null) := ⟨3, (congrArg (fun z => mj_at z 9) f61).trans rfl, rfl⟩
theorem d61_12 : mj_At 61 12 (.iload_n 3) 13 [3] (.null) := ⟨1, (congrArg (fun z => mj_at z 12) f61).trans rfl, rfl⟩
theorem d61_13 : mj_At 61 13 (.invokestatic 100) 16 [0, 35, 1, 268, 269, 18] (.null) := ⟨3, (congrArg (fun z => mj_at z 13) f61).trans rfl, rfl⟩
theorem d61_16 : mj_At 61 16 (.ifCond .ne (5)) 19 [21] (.null) := ⟨3, (congrArg (fun z => mj_at z 16) f61).trans rfl, rfl⟩
theorem d61_19 : mj_At 61 19 (.iconst (-1)) 20 [] (.int (-1)) := ⟨1, (congrArg (fun z => mj_at z 19) f61).trans rfl, rfl⟩
theorem d61_20 : mj_At 61 20 (.ireturn) 21 [0] (.null) := ⟨1, (congrArg (fun z => mj_at z 20) f61).trans rfl, rfl⟩
theorem d61_21 : mj_At 61 21 (.aload_n 0) 22 [0] (.null) := ⟨1, (congrArg (fun z => mj_at z 21) f61).trans rfl, rfl⟩
theorem d61_22 : mj_At 61 22 (.getfield 12) 25 [3, 0, 122] (.null) := ⟨3, (congrArg (fun z => mj_at z 22) f61).trans rfl, rfl⟩
theorem d61_25 : mj_At 61 25 (.iload_n 1) 26 [1] (.null) := ⟨1, (congrArg (fun z => mj_at z 25) f61).trans rfl, rfl⟩
theorem d61_26 : mj_At 61 26 (.iload_n 2) 27 [2] (.null) := ⟨1, (congrArg (fun z => mj_at z 26) f61).trans rfl, rfl⟩
theorem d61_27 : mj_At 61 27 (.iload_n 3) 28 [3] (.null) := ⟨1, (congrArg (fun z => mj_at z 27) f61).trans rfl, rfl⟩
theorem d61_28 : mj_At 61 28 (.invokevirtual 130) 31 [1, 56, 4, 2, 351, 352, 353, 19] (.null) := ⟨3, (congrArg (fun z => mj_at z 28) f61).trans rfl, rfl⟩
theorem d61_31 : mj_At 61 31 (.ireturn) 32 [0] (.null) := ⟨1, (congrArg (fun z => mj_at z 31) f61).trans rfl, rfl⟩
theorem e61_0 {c : mj_C} {x1 : Int32} {x2 : Int32} {x3 : Int32} {L : Nat} {ps : List (Option (Option Nat))} {rest : List mj_K}   : mj_EV 61 0 [some (.ref 2), some (.int x1), some (.int x2), some (.int x3)] [] (w_sh L ps rest) c = (mj_then 61 9 [some (.ref 2), some (.int x1), some (.int x2), some (.int x3)] [] (mj_EV 34 0 [some (.ref 3), some (.int x1), some (.int x2)] [] (w_sh L ps rest) c)) := (mj_aload_n d61_0 rfl (mj_getR d61_1 w_2 rfl (mj_iload_n d61_4 rfl (mj_iload_n d61_5 rfl (mj_invV [some (.ref 3), some (.int x1), some (.int x2)] [] d61_6 rfl rfl rfl w_3 rfl rfl)))))
theorem e61_9 {c : mj_C} {x1 : Int32} {x2 : Int32} {x3 : Int32} {z0 : Int32} {L : Nat} {ps : List (Option (Option Nat))} {rest : List mj_K}   : mj_EV 61 9 [some (.ref 2), some (.int x1), some (.int x2), some (.int x3)] [.int z0] (w_sh L ps rest) c = (if z0 = nI 0 then (some (some (.int (-1)), (w_sh L ps rest), c)) else (mj_then 61 16 [some (.ref 2), some (.int x1), some (.int x2), some (.int x3)] [] (mj_EV 35 0 [some (.int x3)] [] (w_sh L ps rest) c))) := (mj_ifeq d61_9 (mj_iconst d61_19 (mj_iret d61_20)) (mj_iload_n d61_12 rfl (mj_invS [some (.int x3)] [] d61_13 (by decide) rfl rfl rfl rfl)))
theorem e61_16 {c : mj_C} {x1 : Int32} {x2 : Int32} {x3 : Int32} {z0 : Int32} {L : Nat} {ps : List (Option (Option Nat))} {rest : List mj_K}   : mj_EV 61 16 [some (.ref 2), some (.int x1), some (.int x2), some (.int x3)] [.int z0] (w_sh L ps rest) c = (if z0 = nI 0 then (some (some (.int (-1)), (w_sh L ps rest), c)) else (mj_then 61 31 [some (.ref 2), some (.int x1), some (.int x2), some (.int x3)] [] (mj_EV 56 0 [some (.ref 3), some (.int x1), some (.int x2), some (.int x3)] [] (w_sh L ps rest) c))) := (mj_ifne d61_16 (mj_aload_n d61_21 rfl (mj_getR d61_22 w_2 rfl (mj_iload_n d61_25 rfl (mj_iload_n d61_26 rfl (mj_iload_n d61_27 rfl (mj_invV [some (.ref 3), some (.int x1), some (.int x2), some (.int x3)] [] d61_28 rfl rfl rfl w_3 rfl rfl)))))) (mj_iconst d61_19 (mj_iret d61_20)))
theorem e61_31 {c : mj_C} {x1 : Int32} {x2 : Int32} {x3 : Int32} {z0 : Int32} {L : Nat} {ps : List (Option (Option Nat))} {rest : List mj_K}   : mj_EV 61 31 [some (.ref 2), some (.int x1), some (.int x2), some (.int x3)] [.int z0] (w_sh L ps rest) c = (some (some (.int z0), (w_sh L ps rest), c)) := (mj_iret d61_31)
/-- SqueezedLines.page(II)I -/
theorem f62 : mj_cd 62 = mj_c62 := rfl
theorem d62_0 : mj_At 62 0 (.aload_n 0) 1 [0] (.null) := ⟨1, (congrArg (fun z => mj_at z 0) f62).trans rfl, rfl⟩
theorem d62_1 : mj_At 62 1 (.getfield 12) 4 [3, 0, 122] (.null) := ⟨3, (congrArg (fun z => mj_at z 1) f62).trans rfl, rfl⟩
theorem d62_4 : mj_At 62 4 (.iload_n 1) 5 [1] (.null) := ⟨1, (congrArg (fun z => mj_at z 4) f62).trans rfl, rfl⟩
theorem d62_5 : mj_At 62 5 (.invokevirtual 63) 8 [1, 6, 2, 2, 156, 157, 158, 19] (.null) := ⟨3, (congrArg (fun z => mj_at z 5) f62).trans rfl, rfl⟩
theorem d62_8 : mj_At 62 8 (.ifCond .ne (5)) 11 [13] (.null) := ⟨3, (congrArg (fun z => mj_at z 8) f62).trans rfl, rfl⟩
theorem d62_11 : mj_At 62 11 (.iconst (-1)) 12 [] (.int (-1)) := ⟨1, (congrArg (fun z => mj_at z 11) f62).trans rfl, rfl⟩
theorem d62_12 : mj_At 62 12 (.ireturn) 13 [0] (.null) := ⟨1, (congrArg (fun z => mj_at z 12) f62).trans rfl, rfl⟩
theorem d62_13 : mj_At 62 13 (.iload_n 2) 14 [2] (.null) := ⟨1, (congrArg (fun z => mj_at z 13) f62).trans rfl, rfl⟩
theorem d62_14 : mj_At 62 14 (.tableswitch (82) (0) (4) #[34, 44, 50, 56, 69]) 48 [96, 48, 58, 64, 70, 83] (.int 0) := ⟨34, (congrArg (fun z => mj_at z 14) f62).trans rfl, rfl⟩
theorem d62_48 : mj_At 62 48 (.aload_n 0) 49 [0] (.null) := ⟨1, (congrArg (fun z => mj_at z 48) f62).trans rfl, rfl⟩
theorem d62_49 : mj_At 62 49 (.getfield 12) 52 [3, 0, 122] (.null) := ⟨3, (congrArg (fun z => mj_at z 49) f62).trans rfl, rfl⟩
theorem d62_52 : mj_At 62 52 (.getfield 89) 55 [2, 7, 57] (.null) := ⟨3, (congrArg (fun z => mj_at z 52) f62).trans rfl, rfl⟩
theorem d62_55 : mj_At 62 55 (.iload_n 1) 56 [1] (.null) := ⟨1, (congrArg (fun z => mj_at z 55) f62).trans rfl, rfl⟩
theorem d62_56 : mj_At 62 56 (.iaload) 57 [] (.null) := ⟨1, (congrArg (fun z => mj_at z 56) f62).trans rfl, rfl⟩
theorem d62_57 : mj_At 62 57 (.ireturn) 58 [0] (.null) := ⟨1, (congrArg (fun z => mj_at z 57) f62).trans rfl, rfl⟩
theorem d62_58 : mj_At 62 58 (.aload_n 0) 59 [0] (.null) := ⟨1, (congrArg (fun z => mj_at z 58) f62).trans rfl, rfl⟩
theorem d62_59 : mj_At 62 59 (.iload_n 1) 60 [1] (.null) := ⟨1, (congrArg (fun z => mj_at z 59) f62).trans rfl, rfl⟩
theorem d62_60 : mj_At 62 60 (.invokevirtual 83) 63 [1, 14, 2, 3, 186, 188, 4, 18] (.null) := ⟨3, (congrArg (fun z => mj_at z 60) f62).trans rfl, rfl⟩
theorem d62_63 : mj_At 62 63 (.ireturn) 64 [0] (.null) := ⟨1, (congrArg (fun z => mj_at z 63) f62).trans rfl, rfl⟩
theorem d62_64 : mj_At 62 64 (.aload_n 0) 65 [0] (.null) := ⟨1, (congrArg (fun z => mj_at z 64) f62).trans rfl, rfl⟩
theorem d62_65 : mj_At 62 65 (.iload_n 1) 66 [1] (.null) := ⟨1, (congrArg (fun z => mj_at z 65) f62).trans rfl, rfl⟩
theorem d62_66 : mj_At 62 66 (.invokevirtual 149) 69 [1, 54, 2, 3, 343, 345, 14, 18] (.null) := ⟨3, (congrArg (fun z => mj_at z 66) f62).trans rfl, rfl⟩
theorem d62_69 : mj_At 62 69 (.ireturn) 70 [0] (.null) := ⟨1, (congrArg (fun z => mj_at z 69) f62).trans rfl, rfl⟩
theorem d62_70 : mj_At 62 70 (.aload_n 0) 71 [0] (.null) := ⟨1, (congrArg (fun z => mj_at z 70) f62).trans rfl, rfl⟩
theorem d62_71 : mj_At 62 71 (.iload_n 1) 72 [1] (.null) := ⟨1, (congrArg (fun z => mj_at z 71) f62).trans rfl, rfl⟩
theorem d62_72 : mj_At 62 72 (.aload_n 0) 73 [0] (.null) := ⟨1, (congrArg (fun z => mj_at z 72) f62).trans rfl, rfl⟩
theorem d62_73 : mj_At 62 73 (.getfield 12) 76 [3, 0, 122] (.null) := ⟨3, (congrArg (fun z => mj_at z 73) f62).trans rfl, rfl⟩
theorem d62_76 : mj_At 62 76 (.getfield 60) 79 [2, 0, 43] (.null) := ⟨3, (congrArg (fun z => mj_at z 76) f62).trans rfl, rfl⟩
theorem d62_79 : mj_At 62 79 (.invokevirtual 92) 82 [1, 12, 3, 3, 176, 178, 3, 18] (.null) := ⟨3, (congrArg (fun z => mj_at z 79) f62).trans rfl, rfl⟩
theorem d62_82 : mj_At 62 82 (.ireturn) 83 [0] (.null) := ⟨1, (congrArg (fun z => mj_at z 82) f62).trans rfl, rfl⟩
theorem d62_83 : mj_At 62 83 (.aload_n 0) 84 [0] (.null) := ⟨1, (congrArg (fun z => mj_at z 83) f62).trans rfl, rfl⟩
theorem d62_84 : mj_At 62 84 (.iload_n 1) 85 [1] (.null) := ⟨1, (congrArg (fun z => mj_at z 84) f62).trans rfl, rfl⟩
theorem d62_85 : mj_At 62 85 (.aload_n 0) 86 [0] (.null) := ⟨1, (congrArg (fun z => mj_at z 85) f62).trans rfl, rfl⟩
theorem d62_86 : mj_At 62 86 (.getfield 12) 89 [3, 0, 122] (.null) := ⟨3, (congrArg (fun z => mj_at z 86) f62).trans rfl, rfl⟩
theorem d62_89 : mj_At 62 89 (.getfield 60) 92 [2, 0, 43] (.null) := ⟨3, (congrArg (fun z => mj_at z 89) f62).trans rfl, rfl⟩
theorem d62_92 : mj_At 62 92 (.invokevirtual 152) 95 [1, 13, 3, 3, 172, 174, 2, 18] (.null) := ⟨3, (congrArg (fun z => mj_at z 92) f62).trans rfl, rfl⟩
theorem d62_95 : mj_At 62 95 (.ireturn) 96 [0] (.null) := ⟨1, (congrArg (fun z => mj_at z 95) f62).trans rfl, rfl⟩
theorem d62_96 : mj_At 62 96 (.bipush (-2)) 98 [] (.int (-2)) := ⟨2, (congrArg (fun z => mj_at z 96) f62).trans rfl, rfl⟩
theorem d62_98 : mj_At 62 98 (.ireturn) 99 [0] (.null) := ⟨1, (congrArg (fun z => mj_at z 98) f62).trans rfl, rfl⟩
theorem e62_0 {c : mj_C} {x1 : Int32} {x2 : Int32} {L : Nat} {ps : List (Option (Option Nat))} {rest : List mj_K}   : mj_EV 62 0 [some (.ref 2), some (.int x1), some (.int x2)] [] (w_sh L ps rest) c = (mj_then 62 8 [some (.ref 2), some (.int x1), some (.int x2)] [] (mj_EV 6 0 [some (.ref 3), some (.int x1)] [] (w_sh L ps rest) c)) := (mj_aload_n d62_0 rfl (mj_getR d62_1 w_2 rfl (mj_iload_n d62_4 rfl (mj_invV [some (.ref 3), some (.int x1)] [] d62_5 rfl rfl rfl w_3 rfl rfl))))
theorem e62_8 {c : mj_C} {x1 : Int32} {x2 : Int32} {z0 : Int32} {L : Nat} {ps : List (Option (Option Nat))} {rest : List mj_K}   : mj_EV 62 8 [some (.ref 2), some (.int x1), some (.int x2)] [.int z0] (w_sh L ps rest) c = (if z0 = nI 0 then (some (some (.int (-1)), (w_sh L ps rest), c)) else (if x2 = nI 0 then (if mj_in x1 10 = true then (some (some (.int (c 6 x1.toNatClampNeg)), (w_sh L ps rest), c)) else none) else (if x2 = nI 1 then (mj_then 62 63 [some (.ref 2), some (.int x1), some (.int x2)] [] (mj_EV 14 0 [some (.ref 2), some (.int x1)] [] (w_sh L ps rest) c)) else (if x2 = nI 2 then (mj_then 62 69 [some (.ref 2), some (.int x1), some (.int x2)] [] (mj_EV 54 0 [some (.ref 2), some (.int x1), none, none] [] (w_sh L ps rest) c)) else (if x2 = nI 3 then (mj_then 62 82 [some (.ref 2), some (.int x1), some (.int x2)] [] (mj_EV 12 0 [some (.ref 2), some (.int x1), some (.int (c 3 0))] [] (w_sh L ps rest) c)) else (if x2 = nI 4 then (mj_then 62 95 [some (.ref 2), some (.int x1), some (.int x2)] [] (mj_EV 13 0 [some (.ref 2), some (.int x1), some (.int (c 3 0)), none] [] (w_sh L ps rest) c)) else (some (some (.int (-2)), (w_sh L ps rest), c)))))))) := (mj_ifne d62_8 (mj_iload_n d62_13 rfl ((mj_tsw d62_14).trans (mj_ite rfl (mj_aload_n d62_48 rfl (mj_getR d62_49 w_2 rfl (mj_getR d62_52 w_3 rfl (mj_iload_n d62_55 rfl (mj_iald d62_56 w_6 (mj_iret d62_57)))))) (mj_ite rfl (mj_aload_n d62_58 rfl (mj_iload_n d62_59 rfl (mj_invV [some (.ref 2), some (.int x1)] [] d62_60 rfl rfl rfl w_2 rfl rfl))) (mj_ite rfl (mj_aload_n d62_64 rfl (mj_iload_n d62_65 rfl (mj_invV [some (.ref 2), some (.int x1), none, none] [] d62_66 rfl rfl rfl w_2 rfl rfl))) (mj_ite rfl (mj_aload_n d62_70 rfl (mj_iload_n d62_71 rfl (mj_aload_n d62_72 rfl (mj_getR d62_73 w_2 rfl (mj_getI d62_76 w_3 rfl (mj_invV [some (.ref 2), some (.int x1), some (.int (c 3 0))] [] d62_79 rfl rfl rfl w_2 rfl rfl)))))) (mj_ite rfl (mj_aload_n d62_83 rfl (mj_iload_n d62_84 rfl (mj_aload_n d62_85 rfl (mj_getR d62_86 w_2 rfl (mj_getI d62_89 w_3 rfl (mj_invV [some (.ref 2), some (.int x1), some (.int (c 3 0)), none] [] d62_92 rfl rfl rfl w_2 rfl rfl)))))) (mj_bipush d62_96 (mj_iret d62_98))))))))) (mj_iconst d62_11 (mj_iret d62_12)))
theorem e62_63 {c : mj_C} {x1 : Int32} {x2 : Int32} {z0 : Int32} {L : Nat} {ps : List (Option (Option Nat))} {rest : List mj_K}   : mj_EV 62 63 [some (.ref 2), some (.int x1), some (.int x2)] [.int z0] (w_sh L ps rest) c = (some (some (.int z0), (w_sh L ps rest), c)) := (mj_iret d62_63)
theorem e62_69 {c : mj_C} {x1 : Int32} {x2 : Int32} {z0 : Int32} {L : Nat} {ps : List (Option (Option Nat))} {rest : List mj_K}   : mj_EV 62 69 [some (.ref 2), some (.int x1), some (.int x2)] [.int z0] (w_sh L ps rest) c = (some (some (.int z0), (w_sh L ps rest), c)) := (mj_iret d62_69)
theorem e62_82 {c : mj_C} {x1 : Int32} {x2 : Int32} {z0 : Int32} {L : Nat} {ps : List (Option (Option Nat))} {rest : List mj_K}   : mj_EV 62 82 [some (.ref 2), some (.int x1), some (.int x2)] [.int z0] (w_sh L ps rest) c = (some (some (.int z0), (w_sh L ps rest), c)) := (mj_iret d62_82)
theorem e62_95 {c : mj_C} {x1 : Int32} {x2 : Int32} {z0 : Int32} {L : Nat} {ps : List (Option (Option Nat))} {rest : List mj_K}   : mj_EV 62 95 [some (.ref 2), some (.int x1), some (.int x2)] [.int z0] (w_sh L ps rest) c = (some (some (.int z0), (w_sh L ps rest), c)) := (mj_iret d62_95)
/-- SqueezedLines.line(III)I -/
theorem f63 : mj_cd 63 = mj_c63 := rfl
theorem d63_0 : mj_At 63 0 (.aload_n 0) 1 [0] (.null) := ⟨1, (congrArg (fun z => mj_at z 0) f63).trans rfl, rfl⟩
theorem d63_1 : mj_At 63 1 (.getfield 12) 4 [3, 0, 122] (.null) := ⟨3, (congrArg (fun z => mj_at z 1) f63).trans rfl, rfl⟩
theorem d63_4 : mj_At 63 4 (.iload_n 1) 5 [1] (.null) := ⟨1, (congrArg (fun z => mj_at z 4) f63).trans rfl, rfl⟩
theorem d63_5 : mj_At 63 5 (.iload_n 2) 6 [2] (.null) := ⟨1, (congrArg (fun z => mj_at z 5) f63).trans rfl, rfl⟩
theorem d63_6 : mj_At 63 6 (.invokevirtual 96) 9 [1, 34, 3, 2, 263, 264, 265, 19] (.null) := ⟨3, (congrArg (fun z => mj_at z 6) f63).trans rfl, rfl⟩
theorem d63_9 : mj_At 63 9 (.ifCond .ne (5)) 12 [14] (.null) := ⟨3, (congrArg (fun z => mj_at z 9) f63).trans rfl, rfl⟩
theorem d63_12 : mj_At 63 12 (.iconst (-1)) 13 [] (.int (-1)) := ⟨1, (congrArg (fun z => mj_at z 12) f63).trans rfl, rfl⟩
theorem d63_13 : mj_At 63 13 (.ireturn) 14 [0] (.null) := ⟨1, (congrArg (fun z => mj_at z 13) f63).trans rfl, rfl⟩
theorem d63_14 : mj_At 63 14 (.iload_n 3) 15 [3] (.null) := ⟨1, (congrArg (fun z => mj_at z 14) f63).trans rfl, rfl⟩
theorem d63_15 : mj_At 63 15 (.tableswitch (104) (0) (4) #[33, 43, 57, 72, 88]) 48 [119, 48, 58, 72, 87, 103] (.int 0) := ⟨33, (congrArg (fun z => mj_at z 15) f63).trans rfl, rfl⟩
theorem d63_48 : mj_At 63 48 (.aload_n 0) 49 [0] (.null) := ⟨1, (congrArg (fun z => mj_at z 48) f63).trans rfl, rfl⟩
theorem d63_49 : mj_At 63 49 (.getfield 12) 52 [3, 0, 122] (.null) := ⟨3, (congrArg (fun z => mj_at z 49) f63).trans rfl, rfl⟩
theorem d63_52 : mj_At 63 52 (.iload_n 1) 53 [1] (.null) := ⟨1, (congrArg (fun z => mj_at z 52) f63).trans rfl, rfl⟩
theorem d63_53 : mj_At 63 53 (.iload_n 2) 54 [2] (.null) := ⟨1, (congrArg (fun z => mj_at z 53) f63).trans rfl, rfl⟩
theorem d63_54 : mj_At 63 54 (.invokevirtual 155) 57 [1, 46, 3, 2, 313, 314, 315, 19] (.null) := ⟨3, (congrArg (fun z => mj_at z 54) f63).trans rfl, rfl⟩
theorem d63_57 : mj_At 63 57 (.ireturn) 58 [0] (.null) := ⟨1, (congrArg (fun z => mj_at z 57) f63).trans rfl, rfl⟩
theorem d63_58 : mj_At 63 58 (.getstatic 158) 61 [170] (.null) := ⟨3, (congrArg (fun z => mj_at z 58) f63).trans rfl, rfl⟩
theorem d63_61 : mj_At 63 61 (.aload_n 0) 62 [0] (.null) := ⟨1, (congrArg (fun z => mj_at z 61) f63).trans rfl, rfl⟩
theorem d63_62 : mj_At 63 62 (.getfield 12) 65 [3, 0, 122] (.null) := ⟨3, (congrArg (fun z => mj_at z 62) f63).trans rfl, rfl⟩
theorem d63_65 : mj_At 63 65 (.iload_n 1) 66 [1] (.null) := ⟨1, (congrArg (fun z => mj_at z 65) f63).trans rfl, rfl⟩
theorem d63_66 : mj_At 63 66 (.iload_n 2) 67 [2] (.null) := ⟨1, (congrArg (fun z => mj_at z 66) f63).trans rfl, rfl⟩
theorem d63_67 : mj_At 63 67 (.invokevirtual 155) 70 [1, 46, 3, 2, 313, 314, 315, 19] (.null) := ⟨3, (congrArg (fun z => mj_at z 67) f63).trans rfl, rfl⟩
theorem d63_70 : mj_At 63 70 (.iaload) 71 [] (.null) := ⟨1, (congrArg (fun z => mj_at z 70) f63).trans rfl, rfl⟩
theorem d63_71 : mj_At 63 71 (.ireturn) 72 [0] (.null) := ⟨1, (congrArg (fun z => mj_at z 71) f63).trans rfl, rfl⟩
theorem d63_72 : mj_At 63 72 (.aload_n 0) 73 [0] (.null) := ⟨1, (congrArg (fun z => mj_at z 72) f63).trans rfl, rfl⟩
theorem d63_73 : mj_At 63 73 (.iload_n 1) 74 [1] (.null) := ⟨1, (congrArg (fun z => mj_at z 73) f63).trans rfl, rfl⟩
theorem d63_74 : mj_At 63 74 (.iload_n 2) 75 [2] (.null) := ⟨1, (congrArg (fun z => mj_at z 74) f63).trans rfl, rfl⟩
theorem d63_75 : mj_At 63 75 (.invokevirtual 161) 78 [1, 53, 3, 3, 347, 349, 15, 18] (.null) := ⟨3, (congrArg (fun z => mj_at z 75) f63).trans rfl, rfl⟩
theorem d63_78 : mj_At 63 78 (.ifCond .eq (7)) 81 [85] (.null) := ⟨3, (congrArg (fun z => mj_at z 78) f63).trans rfl, rfl⟩
theorem d63_81 : mj_At 63 81 (.iconst (1)) 82 [] (.int 1) := ⟨1, (congrArg (fun z => mj_at z 81) f63).trans rfl, rfl⟩
theorem d63_82 : mj_At 63 82 (.goto (4)) 85 [86] (.null) := ⟨3, (congrArg (fun z => mj_at z 82) f63).trans rfl, rfl⟩
theorem d63_85 : mj_At 63 85 (.iconst (0)) 86 [] (.int 0) := ⟨1, (congrArg (fun z => mj_at z 85) f63).trans rfl, rfl⟩
theorem d63_86 : mj_At 63 86 (.ireturn) 87 [0] (.null) := ⟨1, (congrArg (fun z => mj_at z 86) f63).trans rfl, rfl⟩
theorem d63_87 : mj_At 63 87 (.aload_n 0) 88 [0] (.null) := ⟨1, (congrArg (fun z => mj_at z 87) f63).trans rfl, rfl⟩
theorem d63_88 : mj_At 63 88 (.getfield 12) 91 [3, 0, 122] (.null) := ⟨3, (congrArg (fun z => mj_at z 88) f63).trans rfl, rfl⟩
theorem d63_91 : mj_At 63 91 (.getfield 164) 94 [2, 5, 53] (.null) := ⟨3, (congrArg (fun z => mj_at z 91) f63).trans rfl, rfl⟩
theorem d63_94 : mj_At 63 94 (.iload_n 1) 95 [1] (.null) := ⟨1, (congrArg (fun z => mj_at z 94) f63).trans rfl, rfl⟩
theorem d63_95 : mj_At 63 95 (.iload_n 2) 96 [2] (.null) := ⟨1, (congrArg (fun z => mj_at z 95) f63).trans rfl, rfl⟩
theorem d63_96 : mj_At 63 96 (.invokestatic 167) 99 [0, 25, 2, 279, 234, 18] (.null) := ⟨3, (congrArg (fun z => mj_at z 96) f63).trans rfl, rfl⟩
theorem d63_99 : mj_At 63 99 (.invokestatic 170) 102 [0, 39, 2, 292, 293, 18] (.null) := ⟨3, (congrArg (fun z => mj_at z 99) f63).trans rfl, rfl⟩
theorem d63_102 : mj_At 63 102 (.ireturn) 103 [0] (.null) := ⟨1, (congrArg (fun z => mj_at z 102) f63).trans rfl, rfl⟩
theorem d63_103 : mj_At 63 103 (.aload_n 0) 104 [0] (.null) := ⟨1, (congrArg (fun z => mj_at z 103) f63).trans rfl, rfl⟩
theorem d63_104 : mj_At 63 104 (.getfield 12) 107 [3, 0, 122] (.null) := ⟨3, (congrArg (fun z => mj_at z 104) f63).trans rfl, rfl⟩
theorem d63_107 : mj_At 63 107 (.getfield 164) 110 [2, 5, 53] (.null) := ⟨3, (congrArg (fun z => mj_at z 107) f63).trans rfl, rfl⟩
theorem d63_110 : mj_At 63 110 (.iload_n 1) 111 [1] (.null) := ⟨1, (congrArg (fun z => mj_at z 110) f63).trans rfl, rfl⟩
theorem d63_111 : mj_At 63 111 (.iload_n 2) 112 [2] (.null) := ⟨1, (congrArg (fun z => mj_at z 111) f63).trans rfl, rfl⟩
theorem d63_112 : mj_At 63 112 (.invokestatic 167) 115 [0, 25, 2, 279, 234, 18] (.null) := ⟨3, (congrArg (fun z => mj_at z 112) f63).trans rfl, rfl⟩
theorem d63_115 : mj_At 63 115 (.invokestatic 174) 118 [0, 41, 2, 298, 299, 18] (.null) := ⟨3, (congrArg (fun z => mj_at z 115) f63).trans rfl, rfl⟩
theorem d63_118 : mj_At 63 118 (.ireturn) 119 [0] (.null) := ⟨1, (congrArg (fun z => mj_at z 118) f63).trans rfl, rfl⟩
theorem d63_119 : mj_At 63 119 (.bipush (-2)) 121 [] (.int (-2)) := ⟨2, (congrArg (fun z => mj_at z 119) f63).trans rfl, rfl⟩
theorem d63_121 : mj_At 63 121 (.ireturn) 122 [0] (.null) := ⟨1, (congrArg (fun z => mj_at z 121) f63).trans rfl, rfl⟩
theorem e63_0 {c : mj_C} {x1 : Int32} {x2 : Int32} {x3 : Int32} {L : Nat} {ps : List (Option (Option Nat))} {rest : List mj_K}   : mj_EV 63 0 [some (.ref 2), some (.int x1), some (.int x2), some (.int x3)] [] (w_sh L ps rest) c = (mj_then 63 9 [some (.ref 2), some (.int x1), some (.int x2), some (.int x3)] [] (mj_EV 34 0 [some (.ref 3), some (.int x1), some (.int x2)] [] (w_sh L ps rest) c)) := (mj_aload_n d63_0 rfl (mj_getR d63_1 w_2 rfl (mj_iload_n d63_4 rfl (mj_iload_n d63_5 rfl (mj_invV [some (.ref 3), some (.int x1), some (.int x2)] [] d63_6 rfl rfl rfl w_3 rfl rfl)))))
theorem e63_9 {c : mj_C} {x1 : Int32} {x2 : Int32} {x3 : Int32} {z0 : Int32} {L : Nat} {ps : List (Option (Option Nat))} {rest : List mj_K}   : mj_EV 63 9 [some (.ref 2), some (.int x1), some (.int x2), some (.int x3)] [.int z0] (w_sh L ps rest) c = (if z0 = nI 0 then (some (some (.int (-1)), (w_sh L ps rest), c)) else (if x3 = nI 0 then (mj_then 63 57 [some (.ref 2), some (.int x1), some (.int x2), some (.int x3)] [] (mj_EV 46 0 [some (.ref 3), some (.int x1), some (.int x2)] [] (w_sh L ps rest) c)) else (if x3 = nI 1 then (mj_then 63 70 [some (.ref 2), some (.int x1), some (.int x2), some (.int x3)] [.ref 1] (mj_EV 46 0 [some (.ref 3), some (.int x1), some (.int x2)] [] (w_sh L ps rest) c)) else (if x3 = nI 2 then (mj_then 63 78 [some (.ref 2), some (.int x1), some (.int x2), some (.int x3)] [] (mj_EV 53 0 [some (.ref 2), some (.int x1), some (.int x2)] [] (w_sh L ps rest) c)) else (if x3 = nI 3 then (mj_then 63 99 [some (.ref 2), some (.int x1), some (.int x2), some (.int x3)] [.ref 4] (mj_EV 25 0 [some (.int x1), some (.int x2)] [] (w_sh L ps rest) c)) else (if x3 = nI 4 then (mj_then 63 115 [some (.ref 2), some (.int x1), some (.int x2), some (.int x3)] [.ref 4] (mj_EV 25 0 [some (.int x1), some (.int x2)] [] (w_sh L ps rest) c)) else (some (some (.int (-2)), (w_sh L ps rest), c)))))))) := (mj_ifne d63_9 (mj_iload_n d63_14 rfl ((mj_tsw d63_15).trans (mj_ite rfl (mj_aload_n d63_48 rfl (mj_getR d63_49 w_2 rfl (mj_iload_n d63_52 rfl (mj_iload_n d63_53 rfl (mj_invV [some (.ref 3), some (.int x1), some (.int x2)] [] d63_54 rfl rfl rfl w_3 rfl rfl))))) (mj_ite rfl (mj_gets d63_58 (mj_aload_n d63_61 rfl (mj_getR d63_62 w_2 rfl (mj_iload_n d63_65 rfl (mj_iload_n d63_66 rfl (mj_invV [some (.ref 3), some (.int x1), some (.int x2)] [.ref 1] d63_67 rfl rfl rfl w_3 rfl rfl)))))) (mj_ite rfl (mj_aload_n d63_72 rfl (mj_iload_n d63_73 rfl (mj_iload_n d63_74 rfl (mj_invV [some (.ref 2), some (.int x1), some (.int x2)] [] d63_75 rfl rfl rfl w_2 rfl rfl)))) (mj_ite rfl (mj_aload_n d63_87 rfl (mj_getR d63_88 w_2 rfl (mj_getR d63_91 w_3 rfl (mj_iload_n d63_94 rfl (mj_iload_n d63_95 rfl (mj_invS [some (.int x1), some (.int x2)] [.ref 4] d63_96 (by decide) rfl rfl rfl rfl)))))) (mj_ite rfl (mj_aload_n d63_103 rfl (mj_getR d63_104 w_2 rfl (mj_getR d63_107 w_3 rfl (mj_iload_n d63_110 rfl (mj_iload_n d63_111 rfl (mj_invS [some (.int x1), some (.int x2)] [.ref 4] d63_112 (by decide) rfl rfl rfl rfl)))))) (mj_bipush d63_119 (mj_iret d63_121))))))))) (mj_iconst d63_12 (mj_iret d63_13)))
theorem e63_57 {c : mj_C} {x1 : Int32} {x2 : Int32} {x3 : Int32} {z0 : Int32} {L : Nat} {ps : List (Option (Option Nat))} {rest : List mj_K}   : mj_EV 63 57 [some (.ref 2), some (.int x1), some (.int x2), some (.int x3)] [.int z0] (w_sh L ps rest) c = (some (some (.int z0), (w_sh L ps rest), c)) := (mj_iret d63_57)
theorem e63_70 {c : mj_C} {x1 : Int32} {x2 : Int32} {x3 : Int32} {z1 : Int32} {L : Nat} {ps : List (Option (Option Nat))} {rest : List mj_K}   : mj_EV 63 70 [some (.ref 2), some (.int x1), some (.int x2), some (.int x3)] [.int z1, .ref 1] (w_sh L ps rest) c = (if mj_in z1 5 = true then (some (some (.int (c 1 z1.toNatClampNeg)), (w_sh L ps rest), c)) else none) := (mj_roald d63_70 w_1 rfl (mj_iret d63_71))
theorem e63_78 {c : mj_C} {x1 : Int32} {x2 : Int32} {x3 : Int32} {z0 : Int32} {L : Nat} {ps : List (Option (Option Nat))} {rest : List mj_K}   : mj_EV 63 78 [some (.ref 2), some (.int x1), some (.int x2), some (.int x3)] [.int z0] (w_sh L ps rest) c = (if z0 = nI 0 then (some (some (.int (nI 0)), (w_sh L ps rest), c)) else (some (some (.int (nI 1)), (w_sh L ps rest), c))) := (mj_ifeq d63_78 (mj_iconst d63_85 (mj_iret d63_86)) (mj_iconst d63_81 (mj_goto d63_82 (mj_iret d63_86))))
theorem e63_99 {c : mj_C} {x1 : Int32} {x2 : Int32} {x3 : Int32} {z1 : Int32} {L : Nat} {ps : List (Option (Option Nat))} {rest : List mj_K}   : mj_EV 63 99 [some (.ref 2), some (.int x1), some (.int x2), some (.int x3)] [.int z1, .ref 4] (w_sh L ps rest) c = (mj_then 63 102 [some (.ref 2), some (.int x1), some (.int x2), some (.int x3)] [] (mj_EV 39 0 [some (.ref 4), some (.int z1), none, none] [] (w_sh L ps rest) c)) := (mj_invS [some (.ref 4), some (.int z1), none, none] [] d63_99 (by decide) rfl rfl rfl rfl)
theorem e63_102 {c : mj_C} {x1 : Int32} {x2 : Int32} {x3 : Int32} {z0 : Int32} {L : Nat} {ps : List (Option (Option Nat))} {rest : List mj_K}   : mj_EV 63 102 [some (.ref 2), some (.int x1), some (.int x2), some (.int x3)] [.int z0] (w_sh L ps rest) c = (some (some (.int z0), (w_sh L ps rest), c)) := (mj_iret d63_102)
theorem e63_115 {c : mj_C} {x1 : Int32} {x2 : Int32} {x3 : Int32} {z1 : Int32} {L : Nat} {ps : List (Option (Option Nat))} {rest : List mj_K}   : mj_EV 63 115 [some (.ref 2), some (.int x1), some (.int x2), some (.int x3)] [.int z1, .ref 4] (w_sh L ps rest) c = (mj_then 63 118 [some (.ref 2), some (.int x1), some (.int x2), some (.int x3)] [] (mj_EV 41 0 [some (.ref 4), some (.int z1), none, none] [] (w_sh L ps rest) c)) := (mj_invS [some (.ref 4), some (.int z1), none, none] [] d63_115 (by decide) rfl rfl rfl rfl)
theorem e63_118 {c : mj_C} {x1 : Int32} {x2 : Int32} {x3 : Int32} {z0 : Int32} {L : Nat} {ps : List (Option (Option Nat))} {rest : List mj_K}   : mj_EV 63 118 [some (.ref 2), some (.int x1), some (.int x2), some (.int x3)] [.int z0] (w_sh L ps rest) c = (some (some (.int z0), (w_sh L ps rest), c)) := (mj_iret d63_118)
/-- SqueezedLines.lines(I)I -/
theorem f64 : mj_cd 64 = mj_c64 := rfl
theorem d64_0 : mj_At 64 0 (.iload_n 1) 1 [1] (.null) := ⟨1, (congrArg (fun z => mj_at z 0) f64).trans rfl, rfl⟩
theorem d64_1 : mj_At 64 1 (.ifCond .lt (8)) 4 [9] (.null) := ⟨3, (congrArg (fun z => mj_at z 1) f64).trans rfl, rfl⟩
theorem d64_4 : mj_At 64 4 (.iload_n 1) 5 [1] (.null) := ⟨1, (congrArg (fun z => mj_at z 4) f64).trans rfl, rfl⟩
theorem d64_5 : mj_At 64 5 (.iconst (5)) 6 [] (.int 5) := ⟨1, (congrArg (fun z => mj_at z 5) f64).trans rfl, rfl⟩
theorem d64_6 : mj_At 64 6 (.if_icmp .lt (6)) 9 [12] (.null) := ⟨3, (congrArg (fun z => mj_at z 6) f64).trans rfl, rfl⟩
theorem d64_9 : mj_At 64 9 (.bipush (-2)) 11 [] (.int (-2)) := ⟨2, (congrArg (fun z => mj_at z 9) f64).trans rfl, rfl⟩
theorem d64_11 : mj_At 64 11 (.ireturn) 12 [0] (.null) := ⟨1, (congrArg (fun z => mj_at z 11) f64).trans rfl, rfl⟩
theorem d64_12 : mj_At 64 12 (.iconst (0)) 13 [] (.int 0) := ⟨1, (congrArg (fun z => mj_at z 12) f64).trans rfl, rfl⟩
theorem d64_13 : mj_At 64 13 (.istore_n 2) 14 [2] (.null) := ⟨1, (congrArg (fun z => mj_at z 13) f64).trans rfl, rfl⟩
theorem d64_14 : mj_At 64 14 (.iconst (0)) 15 [] (.int 0) := ⟨1, (congrArg (fun z => mj_at z 14) f64).trans rfl, rfl⟩
theorem d64_15 : mj_At 64 15 (.istore_n 3) 16 [3] (.null) := ⟨1, (congrArg (fun z => mj_at z 15) f64).trans rfl, rfl⟩
theorem d64_16 : mj_At 64 16 (.iload_n 3) 17 [3] (.null) := ⟨1, (congrArg (fun z => mj_at z 16) f64).trans rfl, rfl⟩
theorem d64_17 : mj_At 64 17 (.bipush (10)) 19 [] (.int 10) := ⟨2, (congrArg (fun z => mj_at z 17) f64).trans rfl, rfl⟩
theorem d64_19 : mj_At 64 19 (.if_icmp .ge (55)) 22 [74] (.null) := ⟨3, (congrArg (fun z => mj_at z 19) f64).trans rfl, rfl⟩
theorem d64_22 : mj_At 64 22 (.iconst (0)) 23 [] (.int 0) := ⟨1, (congrArg (fun z => mj_at z 22) f64).trans rfl, rfl⟩
theorem d64_23 : mj_At 64 23 (.istore 4) 25 [4] (.null) := ⟨2, (congrArg (fun z => mj_at z 23) f64).trans rfl, rfl⟩
theorem d64_25 : mj_At 64 25 (.iload 4) 27 [4] (.null) := ⟨2, (congrArg (fun z => mj_at z 25) f64).trans rfl, rfl⟩
theorem d64_27 : mj_At 64 27 (.bipush (8)) 29 [] (.int 8) := ⟨2, (congrArg (fun z => mj_at z 27) f64).trans rfl, rfl⟩
theorem d64_29 : mj_At 64 29 (.if_icmp .ge (39)) 32 [68] (.null) := ⟨3, (congrArg (fun z => mj_at z 29) f64).trans rfl, rfl⟩
theorem d64_32 : mj_At 64 32 (.aload_n 0) 33 [0] (.null) := ⟨1, (congrArg (fun z => mj_at z 32) f64).trans rfl, rfl⟩
theorem d64_33 : mj_At 64 33 (.getfield 12) 36 [3, 0, 122] (.null) := ⟨3, (congrArg (fun z => mj_at z 33) f64).trans rfl, rfl⟩
theorem d64_36 : mj_At 64 36 (.iload_n 3) 37 [3] (.null) := ⟨1, (congrArg (fun z => mj_at z 36) f64).trans rfl, rfl⟩
theorem d64_37 : mj_At 64 37 (.iload 4) 39 [4] (.null) := ⟨2, (congrArg (fun z => mj_at z 37) f64).trans rfl, rfl⟩
theorem d64_39 : mj_At 64 39 (.invokevirtual 96) 42 [1, 34, 3, 2, 263, 264, 265, 19] (.null) := ⟨3, (congrArg (fun z => mj_at z 39) f64).trans rfl, rfl⟩
theorem d64_42 : mj_At 64 42 (.ifCond .eq (20)) 45 [62] (.null) := ⟨3, (congrArg (fun z => mj_at z 42) f64).trans rfl, rfl⟩
theorem d64_45 : mj_At 64 45 (.aload_n 0) 46 [0] (.null) := ⟨1, (congrArg (fun z => mj_at z 45) f64).trans rfl, rfl⟩
theorem d64_46 : mj_At 64 46 (.getfield 12) 49 [3, 0, 122] (.null) := ⟨3, (congrArg (fun z => mj_at z 46) f64).trans rfl, rfl⟩
theorem d64_49 : mj_At 64 49 (.iload_n 3) 50 [3] (.null) := ⟨1, (congrArg (fun z => mj_at z 49) f64).trans rfl, rfl⟩
theorem d64_50 : mj_At 64 50 (.iload 4) 52 [4] (.null) := ⟨2, (congrArg (fun z => mj_at z 50) f64).trans rfl, rfl⟩
theorem d64_52 : mj_At 64 52 (.invokevirtual 155) 55 [1, 46, 3, 2, 313, 314, 315, 19] (.null) := ⟨3, (congrArg (fun z => mj_at z 52) f64).trans rfl, rfl⟩
theorem d64_55 : mj_At 64 55 (.iload_n 1) 56 [1] (.null) := ⟨1, (congrArg (fun z => mj_at z 55) f64).trans rfl, rfl⟩
theorem d64_56 : mj_At 64 56 (.if_icmp .ne (6)) 59 [62] (.null) := ⟨3, (congrArg (fun z => mj_at z 56) f64).trans rfl, rfl⟩
theorem d64_59 : mj_At 64 59 (.iinc 2 (1)) 62 [2] (.int 1) := ⟨3, (congrArg (fun z => mj_at z 59) f64).trans rfl, rfl⟩
theorem d64_62 : mj_At 64 62 (.iinc 4 (1)) 65 [4] (.int 1) := ⟨3, (congrArg (fun z => mj_at z 62) f64).trans rfl, rfl⟩
theorem d64_65 : mj_At 64 65 (.goto (-40)) 68 [25] (.null) := ⟨3, (congrArg (fun z => mj_at z 65) f64).trans rfl, rfl⟩
theorem d64_68 : mj_At 64 68 (.iinc 3 (1)) 71 [3] (.int 1) := ⟨3, (congrArg (fun z => mj_at z 68) f64).trans rfl, rfl⟩
theorem d64_71 : mj_At 64 71 (.goto (-55)) 74 [16] (.null) := ⟨3, (congrArg (fun z => mj_at z 71) f64).trans rfl, rfl⟩
theorem d64_74 : mj_At 64 74 (.iload_n 2) 75 [2] (.null) := ⟨1, (congrArg (fun z => mj_at z 74) f64).trans rfl, rfl⟩
theorem d64_75 : mj_At 64 75 (.ireturn) 76 [0] (.null) := ⟨1, (congrArg (fun z => mj_at z 75) f64).trans rfl, rfl⟩
theorem e64_0 {c : mj_C} {x1 : Int32} {L : Nat} {ps : List (Option (Option Nat))} {rest : List mj_K}   : mj_EV 64 0 [some (.ref 2), some (.int x1), none, none, none] [] (w_sh L ps rest) c = (if x1 < nI 0 then (some (some (.int (-2)), (w_sh L ps rest), c)) else (if x1 < (nI 5) then mj_EV 64 16 [some (.ref 2), some (.int x1), some (.int (nI 0)), some (.int (nI 0)), none] [] (w_sh L ps rest) c else (some (some (.int (-2)), (w_sh L ps rest), c)))) := (mj_iload_n d64_0 rfl (mj_iflt d64_1 (mj_bipush d64_9 (mj_iret d64_11)) (mj_iload_n d64_4 rfl (mj_iconst d64_5 (mj_iclt d64_6 (mj_iconst d64_12 (mj_istore_n [some (.ref 2), some (.int x1), some (.int (nI 0)), none, none] d64_13 rfl rfl (mj_iconst d64_14 (mj_istore_n [some (.ref 2), some (.int x1), some (.int (nI 0)), some (.int (nI 0)), none] d64_15 rfl rfl rfl)))) (mj_bipush d64_9 (mj_iret d64_11)))))))
theorem e64_16 {c : mj_C} {x1 : Int32} {x2 : Int32} {x3 : Int32} {o4 : Option Value} {L : Nat} {ps : List (Option (Option Nat))} {rest : List mj_K}   : mj_EV 64 16 [some (.ref 2), some (.int x1), some (.int x2), some (.int x3), o4] [] (w_sh L ps rest) c = (if (nI 10) ≤ x3 then (some (some (.int x2), (w_sh L ps rest), c)) else mj_EV 64 25 [some (.ref 2), some (.int x1), some (.int x2), some (.int x3), some (.int (nI 0))] [] (w_sh L ps rest) c) := (mj_iload_n d64_16 rfl (mj_bipush d64_17 (mj_icge d64_19 (mj_iload_n d64_74 rfl (mj_iret d64_75)) (mj_iconst d64_22 (mj_istore [some (.ref 2), some (.int x1), some (.int x2), some (.int x3), some (.int (nI 0))] d64_23 rfl rfl rfl)))))
theorem e64_25 {c : mj_C} {x1 : Int32} {x2 : Int32} {x3 : Int32} {x4 : Int32} {L : Nat} {ps : List (Option (Option Nat))} {rest : List mj_K}   : mj_EV 64 25 [some (.ref 2), some (.int x1), some (.int x2), some (.int x3), some (.int x4)] [] (w_sh L ps rest) c = (if (nI 8) ≤ x4 then mj_EV 64 16 [some (.ref 2), some (.int x1), some (.int x2), some (.int (x3 + (nI 1))), some (.int x4)] [] (w_sh L ps rest) c else (mj_then 64 42 [some (.ref 2), some (.int x1), some (.int x2), some (.int x3), some (.int x4)] [] (mj_EV 34 0 [some (.ref 3), some (.int x3), some (.int x4)] [] (w_sh L ps rest) c))) := (mj_iload d64_25 rfl (mj_bipush d64_27 (mj_icge d64_29 (mj_iinc [some (.ref 2), some (.int x1), some (.int x2), some (.int (x3 + (nI 1))), some (.int x4)] d64_68 rfl rfl rfl (mj_goto d64_71 rfl)) (mj_aload_n d64_32 rfl (mj_getR d64_33 w_2 rfl (mj_iload_n d64_36 rfl (mj_iload d64_37 rfl (mj_invV [some (.ref 3), some (.int x3), some (.int x4)] [] d64_39 rfl rfl rfl w_3 rfl rfl))))))))
theorem e64_42 {c : mj_C} {x1 : Int32} {x2 : Int32} {x3 : Int32} {x4 : Int32} {z0 : Int32} {L : Nat} {ps : List (Option (Option Nat))} {rest : List mj_K}   : mj_EV 64 42 [some (.ref 2), some (.int x1), some (.int x2), some (.int x3), some (.int x4)] [.int z0] (w_sh L ps rest) c = (if z0 = nI 0 then mj_EV 64 25 [some (.ref 2), some (.int x1), some (.int x2), some (.int x3), some (.int (x4 + (nI 1)))] [] (w_sh L ps rest) c else (mj_then 64 55 [some (.ref 2), some (.int x1), some (.int x2), some (.int x3), some (.int x4)] [] (mj_EV 46 0 [some (.ref 3), some (.int x3), some (.int x4)] [] (w_sh L ps rest) c))) := (mj_ifeq d64_42 (mj_iinc [some (.ref 2), some (.int x1), some (.int x2), some (.int x3), some (.int (x4 + (nI 1)))] d64_62 rfl rfl rfl (mj_goto d64_65 rfl)) (mj_aload_n d64_45 rfl (mj_getR d64_46 w_2 rfl (mj_iload_n d64_49 rfl (mj_iload d64_50 rfl (mj_invV [some (.ref 3), some (.int x3), some (.int x4)] [] d64_52 rfl rfl rfl w_3 rfl rfl))))))
theorem e64_55 {c : mj_C} {x1 : Int32} {x2 : Int32} {x3 : Int32} {x4 : Int32} {z0 : Int32} {L : Nat} {ps : List (Option (Option Nat))} {rest : List mj_K}   : mj_EV 64 55 [some (.ref 2), some (.int x1), some (.int x2), some (.int x3), some (.int x4)] [.int z0] (w_sh L ps rest) c = (if z0 = x1 then mj_EV 64 25 [some (.ref 2), some (.int x1), some (.int (x2 + (nI 1))), some (.int x3), some (.int (x4 + (nI 1)))] [] (w_sh L ps rest) c else mj_EV 64 25 [some (.ref 2), some (.int x1), some (.int x2), some (.int x3), some (.int (x4 + (nI 1)))] [] (w_sh L ps rest) c) := (mj_iload_n d64_55 rfl (mj_icne d64_56 (mj_iinc [some (.ref 2), some (.int x1), some (.int x2), some (.int x3), some (.int (x4 + (nI 1)))] d64_62 rfl rfl rfl (mj_goto d64_65 rfl)) (mj_iinc [some (.ref 2), some (.int x1), some (.int (x2 + (nI 1))), some (.int x3), some (.int x4)] d64_59 rfl rfl rfl (mj_iinc [some (.ref 2), some (.int x1), some (.int (x2 + (nI 1))), some (.int x3), some (.int (x4 + (nI 1)))] d64_62 rfl rfl rfl (mj_goto d64_65 rfl)))))
/-- SqueezedLines.hint(II)I -/
theorem f65 : mj_cd 65 = mj_c65 := rfl
theorem d65_0 : mj_At 65 0 (.iload_n 1) 1 [1] (.null) := ⟨1, (congrArg (fun z => mj_at z 0) f65).trans rfl, rfl⟩
theorem d65_1 : mj_At 65 1 (.ifCond .lt (8)) 4 [9] (.null) := ⟨3, (congrArg (fun z => mj_at z 1) f65).trans rfl, rfl⟩
theorem d65_4 : mj_At 65 4 (.iload_n 1) 5 [1] (.null) := ⟨1, (congrArg (fun z => mj_at z 4) f65).trans rfl, rfl⟩
theorem d65_5 : mj_At 65 5 (.iconst (4)) 6 [] (.int 4) := ⟨1, (congrArg (fun z => mj_at z 5) f65).trans rfl, rfl⟩
theorem d65_6 : mj_At 65 6 (.if_icmp .lt (5)) 9 [11] (.null) := ⟨3, (congrArg (fun z => mj_at z 6) f65).trans rfl, rfl⟩
theorem d65_9 : mj_At 65 9 (.iconst (-1)) 10 [] (.int (-1)) := ⟨1, (congrArg (fun z => mj_at z 9) f65).trans rfl, rfl⟩
theorem d65_10 : mj_At 65 10 (.ireturn) 11 [0] (.null) := ⟨1, (congrArg (fun z => mj_at z 10) f65).trans rfl, rfl⟩
theorem d65_11 : mj_At 65 11 (.iload_n 2) 12 [2] (.null) := ⟨1, (congrArg (fun z => mj_at z 11) f65).trans rfl, rfl⟩
theorem d65_12 : mj_At 65 12 (.ifCond .lt (8)) 15 [20] (.null) := ⟨3, (congrArg (fun z => mj_at z 12) f65).trans rfl, rfl⟩
theorem d65_15 : mj_At 65 15 (.iload_n 2) 16 [2] (.null) := ⟨1, (congrArg (fun z => mj_at z 15) f65).trans rfl, rfl⟩
theorem d65_16 : mj_At 65 16 (.iconst (1)) 17 [] (.int 1) := ⟨1, (congrArg (fun z => mj_at z 16) f65).trans rfl, rfl⟩
theorem d65_17 : mj_At 65 17 (.if_icmp .le (6)) 20 [23] (.null) := ⟨3, (congrArg (fun z => mj_at z 17) f65).trans rfl, rfl⟩
theorem d65_20 : mj_At 65 20 (.bipush (-2)) 22 [] (.int (-2)) := ⟨2, (congrArg (fun z => mj_at z 20) f65).trans rfl, rfl⟩
theorem d65_22 : mj_At 65 22 (.ireturn) 23 [0] (.null) := ⟨1, (congrArg (fun z => mj_at z 22) f65).trans rfl, rfl⟩
theorem d65_23 : mj_At 65 23 (.aload_n 0) 24 [0] (.null) := ⟨1, (congrArg (fun z => mj_at z 23) f65).trans rfl, rfl⟩
theorem d65_24 : mj_At 65 24 (.getfield 12) 27 [3, 0, 122] (.null) := ⟨3, (congrArg (fun z => mj_at z 24) f65).trans rfl, rfl⟩
theorem d65_27 : mj_At 65 27 (.getfield 177) 30 [2, 8, 59] (.null) := ⟨3, (congrArg (fun z => mj_at z 27) f65).trans rfl, rfl⟩
theorem d65_30 : mj_At 65 30 (.iload_n 1) 31 [1] (.null) := ⟨1, (congrArg (fun z => mj_at z 30) f65).trans rfl, rfl⟩
theorem d65_31 : mj_At 65 31 (.iaload) 32 [] (.null) := ⟨1, (congrArg (fun z => mj_at z 31) f65).trans rfl, rfl⟩
theorem d65_32 : mj_At 65 32 (.iconst (-1)) 33 [] (.int (-1)) := ⟨1, (congrArg (fun z => mj_at z 32) f65).trans rfl, rfl⟩
theorem d65_33 : mj_At 65 33 (.if_icmp .ne (6)) 36 [39] (.null) := ⟨3, (congrArg (fun z => mj_at z 33) f65).trans rfl, rfl⟩
theorem d65_36 : mj_At 65 36 (.bipush (-6)) 38 [] (.int (-6)) := ⟨2, (congrArg (fun z => mj_at z 36) f65).trans rfl, rfl⟩
theorem d65_38 : mj_At 65 38 (.ireturn) 39 [0] (.null) := ⟨1, (congrArg (fun z => mj_at z 38) f65).trans rfl, rfl⟩
theorem d65_39 : mj_At 65 39 (.iload_n 2) 40 [2] (.null) := ⟨1, (congrArg (fun z => mj_at z 39) f65).trans rfl, rfl⟩
theorem d65_40 : mj_At 65 40 (.ifCond .ne (15)) 43 [55] (.null) := ⟨3, (congrArg (fun z => mj_at z 40) f65).trans rfl, rfl⟩
theorem d65_43 : mj_At 65 43 (.aload_n 0) 44 [0] (.null) := ⟨1, (congrArg (fun z => mj_at z 43) f65).trans rfl, rfl⟩
theorem d65_44 : mj_At 65 44 (.getfield 12) 47 [3, 0, 122] (.null) := ⟨3, (congrArg (fun z => mj_at z 44) f65).trans rfl, rfl⟩
theorem d65_47 : mj_At 65 47 (.getfield 177) 50 [2, 8, 59] (.null) := ⟨3, (congrArg (fun z => mj_at z 47) f65).trans rfl, rfl⟩
theorem d65_50 : mj_At 65 50 (.iload_n 1) 51 [1] (.null) := ⟨1, (congrArg (fun z => mj_at z 50) f65).trans rfl, rfl⟩
theorem d65_51 : mj_At 65 51 (.iaload) 52 [] (.null) := ⟨1, (congrArg (fun z => mj_at z 51) f65).trans rfl, rfl⟩
theorem d65_52 : mj_At 65 52 (.goto (12)) 55 [64] (.null) := ⟨3, (congrArg (fun z => mj_at z 52) f65).trans rfl, rfl⟩
theorem d65_55 : mj_At 65 55 (.aload_n 0) 56 [0] (.null) := ⟨1, (congrArg (fun z => mj_at z 55) f65).trans rfl, rfl⟩
theorem d65_56 : mj_At 65 56 (.getfield 12) 59 [3, 0, 122] (.null) := ⟨3, (congrArg (fun z => mj_at z 56) f65).trans rfl, rfl⟩
theorem d65_59 : mj_At 65 59 (.getfield 180) 62 [2, 9, 61] (.null) := ⟨3, (congrArg (fun z => mj_at z 59) f65).trans rfl, rfl⟩
theorem d65_62 : mj_At 65 62 (.iload_n 1) 63 [1] (.null) := ⟨1, (congrArg (fun z => mj_at z 62) f65).trans rfl, rfl⟩
theorem d65_63 : mj_At 65 63 (.iaload) 64 [] (.null) := ⟨1, (congrArg (fun z => mj_at z 63) f65).trans rfl, rfl⟩
theorem d65_64 : mj_At 65 64 (.ireturn) 65 [0] (.null) := ⟨1, (congrArg (fun z => mj_at z 64) f65).trans rfl, rfl⟩
theorem e65_0 {c : mj_C} {x1 : Int32} {x2 : Int32} {L : Nat} {ps : List (Option (Option Nat))} {rest : List mj_K}   : mj_EV 65 0 [some (.ref 2), some (.int x1), some (.int x2)] [] (w_sh L ps rest) c = (if x1 < nI 0 then (some (some (.int (-1)), (w_sh L ps rest), c)) else (if x1 < (nI 4) then (if x2 < nI 0 then (some (some (.int (-2)), (w_sh L ps rest), c)) else (if x2 ≤ (nI 1) then (if mj_in x1 4 = true then (if (c 7 x1.toNatClampNeg) = (-1) then (some (some (.int (-6)), (w_sh L ps rest), c)) else (if x2 = nI 0 then (if mj_in x1 4 = true then (some (some (.int (c 7 x1.toNatClampNeg)), (w_sh L ps rest), c)) else none) else (if mj_in x1 4 = true then (some (some (.int (c 8 x1.toNatClampNeg)), (w_sh L ps rest), c)) else none))) else none) else (some (some (.int (-2)), (w_sh L ps rest), c)))) else (some (some (.int (-1)), (w_sh L ps rest), c)))) := (mj_iload_n d65_0 rfl (mj_iflt d65_1 (mj_iconst d65_9 (mj_iret d65_10)) (mj_iload_n d65_4 rfl (mj_iconst d65_5 (mj_iclt d65_6 (mj_iload_n d65_11 rfl (mj_iflt d65_12 (mj_bipush d65_20 (mj_iret d65_22)) (mj_iload_n d65_15 rfl (mj_iconst d65_16 (mj_icle d65_17 (mj_aload_n d65_23 rfl (mj_getR d65_24 w_2 rfl (mj_getR d65_27 w_3 rfl (mj_iload_n d65_30 rfl (mj_iald d65_31 w_7 (mj_iconst d65_32 (mj_icne d65_33 (mj_iload_n d65_39 rfl (mj_ifne d65_40 (mj_aload_n d65_55 rfl (mj_getR d65_56 w_2 rfl (mj_getR d65_59 w_3 rfl (mj_iload_n d65_62 rfl (mj_iald d65_63 w_8 (mj_iret d65_64)))))) (mj_aload_n d65_43 rfl (mj_getR d65_44 w_2 rfl (mj_getR d65_47 w_3 rfl (mj_iload_n d65_50 rfl (mj_iald d65_51 w_7 (mj_goto d65_52 (mj_iret d65_64))))))))) (mj_bipush d65_36 (mj_iret d65_38))))))))) (mj_bipush d65_20 (mj_iret d65_22))))))) (mj_iconst d65_9 (mj_iret d65_10)))))))
/-- SqueezedLines.ifWritten(IIII)I -/
theorem f68 : mj_cd 68 = mj_c68 := rfl
theorem d68_0 : mj_At 68 0 (.aload_n 0) 1 [0] (.null) := ⟨1, (congrArg (fun z => mj_at z 0) f68).trans rfl, rfl⟩
theorem d68_1 : mj_At 68 1 (.getfield 12) 4 [3, 0, 122] (.null) := ⟨3, (congrArg (fun z => mj_at z 1) f68).trans rfl, rfl⟩
theorem d68_4 : mj_At 68 4 (.iload_n 1) 5 [1] (.null) := ⟨1, (congrArg (fun z => mj_at z 4) f68).trans rfl, rfl⟩
theorem d68_5 : mj_At 68 5 (.iload_n 2) 6 [2] (.null) := ⟨1, (congrArg (fun z => mj_at z 5) f68).trans rfl, rfl⟩
theorem d68_6 : mj_At 68 6 (.invokevirtual 96) 9 [1, 34, 3, 2, 263, 264, 265, 19] (.null) := ⟨3, (congrArg (fun z => mj_at z 6) f68).trans rfl, rfl⟩
theorem d68_9 : mj_At 68 9 (.ifCond .eq (10)) 12 [19] (.null) := ⟨3, (congrArg (fun z => mj_at z 9) f68).trans rfl, rfl⟩
theorem d68_12 : mj_At 68 12 (.iload_n 3) 13 [3] (.null) := ⟨1, (congrArg (fun z => mj_at z 12) f68).trans rfl, rfl⟩
theorem d68_13 : mj_At 68 13 (.invokestatic 100) 16 [0, 35, 1, 268, 269, 18] (.null) := ⟨3, (congrArg (fun z => mj_at z 13) f68).trans rfl, rfl⟩
theorem d68_16 : mj_At 68 16 (.ifCond .ne (5)) 19 [21] (.null) := ⟨3, (congrArg (fun z => mj_at z 16) f68).trans rfl, rfl⟩
theorem d68_19 : mj_At 68 19 (.iconst (-1)) 20 [] (.int (-1)) := ⟨1, (congrArg (fun z => mj_at z 19) f68).trans rfl, rfl⟩
theorem d68_20 : mj_At 68 20 (.ireturn) 21 [0] (.null) := ⟨1, (congrArg (fun z => mj_at z 20) f68).trans rfl, rfl⟩
theorem d68_21 : mj_At 68 21 (.iload 4) 23 [4] (.null) := ⟨2, (congrArg (fun z => mj_at z 21) f68).trans rfl, rfl⟩
theorem d68_23 : mj_At 68 23 (.invokestatic 103) 26 [0, 36, 1, 271, 272, 18] (.null) := ⟨3, (congrArg (fun z => mj_at z 23) f68).trans rfl, rfl⟩
theorem d68_26 : mj_At 68 26 (.ifCond .ne (6)) 29 [32] (.null) := ⟨3, (congrArg (fun z => mj_at z 26) f68).trans rfl, rfl⟩
theorem d68_29 : mj_At 68 29 (.bipush (-2)) 31 [] (.int (-2)) := ⟨2, (congrArg (fun z => mj_at z 29) f68).trans rfl, rfl⟩
theorem d68_31 : mj_At 68 31 (.ireturn) 32 [0] (.null) := ⟨1, (congrArg (fun z => mj_at z 31) f68).trans rfl, rfl⟩
theorem d68_32 : mj_At 68 32 (.aload_n 0) 33 [0] (.null) := ⟨1, (congrArg (fun z => mj_at z 32) f68).trans rfl, rfl⟩
theorem d68_33 : mj_At 68 33 (.iload_n 1) 34 [1] (.null) := ⟨1, (congrArg (fun z => mj_at z 33) f68).trans rfl, rfl⟩
theorem d68_34 : mj_At 68 34 (.iload_n 2) 35 [2] (.null) := ⟨1, (congrArg (fun z => mj_at z 34) f68).trans rfl, rfl⟩
theorem d68_35 : mj_At 68 35 (.invokevirtual 106) 38 [1, 37, 3, 3, 275, 277, 9, 18] (.null) := ⟨3, (congrArg (fun z => mj_at z 35) f68).trans rfl, rfl⟩
theorem d68_38 : mj_At 68 38 (.aload_n 0) 39 [0] (.null) := ⟨1, (congrArg (fun z => mj_at z 38) f68).trans rfl, rfl⟩
theorem d68_39 : mj_At 68 39 (.getfield 30) 42 [3, 3, 125] (.null) := ⟨3, (congrArg (fun z => mj_at z 39) f68).trans rfl, rfl⟩
theorem d68_42 : mj_At 68 42 (.iload_n 3) 43 [3] (.null) := ⟨1, (congrArg (fun z => mj_at z 42) f68).trans rfl, rfl⟩
theorem d68_43 : mj_At 68 43 (.iload 4) 45 [4] (.null) := ⟨2, (congrArg (fun z => mj_at z 43) f68).trans rfl, rfl⟩
theorem d68_45 : mj_At 68 45 (.iastore) 46 [] (.null) := ⟨1, (congrArg (fun z => mj_at z 45) f68).trans rfl, rfl⟩
theorem d68_46 : mj_At 68 46 (.aload_n 0) 47 [0] (.null) := ⟨1, (congrArg (fun z => mj_at z 46) f68).trans rfl, rfl⟩
theorem d68_47 : mj_At 68 47 (.iload_n 1) 48 [1] (.null) := ⟨1, (congrArg (fun z => mj_at z 47) f68).trans rfl, rfl⟩
theorem d68_48 : mj_At 68 48 (.iload_n 2) 49 [2] (.null) := ⟨1, (congrArg (fun z => mj_at z 48) f68).trans rfl, rfl⟩
theorem d68_49 : mj_At 68 49 (.aload_n 0) 50 [0] (.null) := ⟨1, (congrArg (fun z => mj_at z 49) f68).trans rfl, rfl⟩
theorem d68_50 : mj_At 68 50 (.getfield 30) 53 [3, 3, 125] (.null) := ⟨3, (congrArg (fun z => mj_at z 50) f68).trans rfl, rfl⟩
theorem d68_53 : mj_At 68 53 (.invokevirtual 187) 56 [1, 43, 4, 3, 285, 287, 11, 18] (.null) := ⟨3, (congrArg (fun z => mj_at z 53) f68).trans rfl, rfl⟩
theorem d68_56 : mj_At 68 56 (.ireturn) 57 [0] (.null) := ⟨1, (congrArg (fun z => mj_at z 56) f68).trans rfl, rfl⟩
theorem e68_0 {c : mj_C} {x1 : Int32} {x2 : Int32} {x3 : Int32} {x4 : Int32} {L : Nat} {ps : List (Option (Option Nat))} {rest : List mj_K}   : mj_EV 68 0 [some (.ref 2), some (.int x1), some (.int x2), some (.int x3), some (.int x4)] [] (w_sh L ps rest) c = (mj_then 68 9 [some (.ref 2), some (.int x1), some (.int x2), some (.int x3), some (.int x4)] [] (mj_EV 34 0 [some (.ref 3), some (.int x1), some (.int x2)] [] (w_sh L ps rest) c)) := (mj_aload_n d68_0 rfl (mj_getR d68_1 w_2 rfl (mj_iload_n d68_4 rfl (mj_iload_n d68_5 rfl (mj_invV [some (.ref 3), some (.int x1), some (.int x2)] [] d68_6 rfl rfl rfl w_3 rfl rfl)))))
theorem e68_9 {c : mj_C} {x1 : Int32} {x2 : Int32} {x3 : Int32} {x4 : Int32} {z0 : Int32} {L : Nat} {ps : List (Option (Option Nat))} {rest : List mj_K}   : mj_EV 68 9 [some (.ref 2), some (.int x1), some (.int x2), some (.int x3), some (.int x4)] [.int z0] (w_sh L ps rest) c = (if z0 = nI 0 then (some (some (.int (-1)), (w_sh L ps rest), c)) else (mj_then 68 16 [some (.ref 2), some (.int x1), some (.int x2), some (.int x3), some (.int x4)] [] (mj_EV 35 0 [some (.int x3)] [] (w_sh L ps rest) c))) := (mj_ifeq d68_9 (mj_iconst d68_19 (mj_iret d68_20)) (mj_iload_n d68_12 rfl (mj_invS [some (.int x3)] [] d68_13 (by decide) rfl rfl rfl rfl)))
theorem e68_16 {c : mj_C} {x1 : Int32} {x2 : Int32} {x3 : Int32} {x4 : Int32} {z0 : Int32} {L : Nat} {ps : List (Option (Option Nat))} {rest : List mj_K}   : mj_EV 68 16 [some (.ref 2), some (.int x1), some (.int x2), some (.int x3), some (.int x4)] [.int z0] (w_sh L ps rest) c = (if z0 = nI 0 then (some (some (.int (-1)), (w_sh L ps rest), c)) else (mj_then 68 26 [some (.ref 2), some (.int x1), some (.int x2), some (.int x3), some (.int x4)] [] (mj_EV 36 0 [some (.int x4)] [] (w_sh L ps rest) c))) := (mj_ifne d68_16 (mj_iload d68_21 rfl (mj_invS [some (.int x4)] [] d68_23 (by decide) rfl rfl rfl rfl)) (mj_iconst d68_19 (mj_iret d68_20)))
theorem e68_26 {c : mj_C} {x1 : Int32} {x2 : Int32} {x3 : Int32} {x4 : Int32} {z0 : Int32} {L : Nat} {ps : List (Option (Option Nat))} {rest : List mj_K}   : mj_EV 68 26 [some (.ref 2), some (.int x1), some (.int x2), some (.int x3), some (.int x4)] [.int z0] (w_sh L ps rest) c = (if z0 = nI 0 then (some (some (.int (-2)), (w_sh L ps rest), c)) else (mj_then 68 38 [some (.ref 2), some (.int x1), some (.int x2), some (.int x3), some (.int x4)] [] (mj_EV 37 0 [some (.ref 2), some (.int x1), some (.int x2)] [] (w_sh L ps rest) c))) := (mj_ifne d68_26 (mj_aload_n d68_32 rfl (mj_iload_n d68_33 rfl (mj_iload_n d68_34 rfl (mj_invV [some (.ref 2), some (.int x1), some (.int x2)] [] d68_35 rfl rfl rfl w_2 rfl rfl)))) (mj_bipush d68_29 (mj_iret d68_31)))
theorem e68_38 {c : mj_C} {x1 : Int32} {x2 : Int32} {x3 : Int32} {x4 : Int32} {L : Nat} {ps : List (Option (Option Nat))} {rest : List mj_K}   : mj_EV 68 38 [some (.ref 2), some (.int x1), some (.int x2), some (.int x3), some (.int x4)] [] (w_sh L ps rest) c = (if mj_in x3 8 = true then (mj_then 68 56 [some (.ref 2), some (.int x1), some (.int x2), some (.int x3), some (.int x4)] [] (mj_EV 43 0 [some (.ref 2), some (.int x1), some (.int x2), some (.ref 49), none] [] (w_sh L ps rest) (mj_u c 49 x3.toNatClampNeg x4))) else none) := (mj_aload_n d68_38 rfl (mj_getR d68_39 w_2 rfl (mj_iload_n d68_42 rfl (mj_iload d68_43 rfl (mj_iast d68_45 w_49 (mj_aload_n d68_46 rfl (mj_iload_n d68_47 rfl (mj_iload_n d68_48 rfl (mj_aload_n d68_49 rfl (mj_getR d68_50 w_2 rfl (mj_invV [some (.ref 2), some (.int x1), some (.int x2), some (.ref 49), none] [] d68_53 rfl rfl rfl w_2 rfl rfl)))))))))))
theorem e68_56 {c : mj_C} {x1 : Int32} {x2 : Int32} {x3 : Int32} {x4 : Int32} {z0 : Int32} {L : Nat} {ps : List (Option (Option Nat))} {rest : List mj_K}   : mj_EV 68 56 [some (.ref 2), some (.int x1), some (.int x2), some (.int x3), some (.int x4)] [.int z0] (w_sh L ps rest) c = (some (some (.int z0), (w_sh L ps rest), c)) := (mj_iret d68_56)
/-- SqueezedLines.ifRoom(I)I -/
theorem f69 : mj_cd 69 = mj_c69 := rfl
theorem d69_0 : mj_At 69 0 (.iload_n 1) 1 [1] (.null) := ⟨1, (congrArg (fun z => mj_at z 0) f69).trans rfl, rfl⟩
theorem d69_1 : mj_At 69 1 (.invokestatic 45) 4 [0, 5, 1, 149, 150, 18] (.null) := ⟨3, (congrArg (fun z => mj_at z 1) f69).trans rfl, rfl⟩
theorem d69_4 : mj_At 69 4 (.ifCond .ne (6)) 7 [10] (.null) := ⟨3, (congrArg (fun z => mj_at z 4) f69).trans rfl, rfl⟩
theorem d69_7 : mj_At 69 7 (.bipush (-2)) 9 [] (.int (-2)) := ⟨2, (congrArg (fun z => mj_at z 7) f69).trans rfl, rfl⟩
theorem d69_9 : mj_At 69 9 (.ireturn) 10 [0] (.null) := ⟨1, (congrArg (fun z => mj_at z 9) f69).trans rfl, rfl⟩
theorem d69_10 : mj_At 69 10 (.iconst (0)) 11 [] (.int 0) := ⟨1, (congrArg (fun z => mj_at z 10) f69).trans rfl, rfl⟩
theorem d69_11 : mj_At 69 11 (.istore_n 2) 12 [2] (.null) := ⟨1, (congrArg (fun z => mj_at z 11) f69).trans rfl, rfl⟩
theorem d69_12 : mj_At 69 12 (.iconst (0)) 13 [] (.int 0) := ⟨1, (congrArg (fun z => mj_at z 12) f69).trans rfl, rfl⟩
theorem d69_13 : mj_At 69 13 (.istore_n 3) 14 [3] (.null) := ⟨1, (congrArg (fun z => mj_at z 13) f69).trans rfl, rfl⟩
theorem d69_14 : mj_At 69 14 (.iload_n 3) 15 [3] (.null) := ⟨1, (congrArg (fun z => mj_at z 14) f69).trans rfl, rfl⟩
theorem d69_15 : mj_At 69 15 (.bipush (10)) 17 [] (.int 10) := ⟨2, (congrArg (fun z => mj_at z 15) f69).trans rfl, rfl⟩
theorem d69_17 : mj_At 69 17 (.if_icmp .ge (29)) 20 [46] (.null) := ⟨3, (congrArg (fun z => mj_at z 17) f69).trans rfl, rfl⟩
theorem d69_20 : mj_At 69 20 (.aload_n 0) 21 [0] (.null) := ⟨1, (congrArg (fun z => mj_at z 20) f69).trans rfl, rfl⟩
theorem d69_21 : mj_At 69 21 (.getfield 12) 24 [3, 0, 122] (.null) := ⟨3, (congrArg (fun z => mj_at z 21) f69).trans rfl, rfl⟩
theorem d69_24 : mj_At 69 24 (.iload_n 3) 25 [3] (.null) := ⟨1, (congrArg (fun z => mj_at z 24) f69).trans rfl, rfl⟩
theorem d69_25 : mj_At 69 25 (.invokevirtual 63) 28 [1, 6, 2, 2, 156, 157, 158, 19] (.null) := ⟨3, (congrArg (fun z => mj_at z 25) f69).trans rfl, rfl⟩
theorem d69_28 : mj_At 69 28 (.ifCond .eq (12)) 31 [40] (.null) := ⟨3, (congrArg (fun z => mj_at z 28) f69).trans rfl, rfl⟩
theorem d69_31 : mj_At 69 31 (.iload_n 2) 32 [2] (.null) := ⟨1, (congrArg (fun z => mj_at z 31) f69).trans rfl, rfl⟩
theorem d69_32 : mj_At 69 32 (.aload_n 0) 33 [0] (.null) := ⟨1, (congrArg (fun z => mj_at z 32) f69).trans rfl, rfl⟩
theorem d69_33 : mj_At 69 33 (.iload_n 3) 34 [3] (.null) := ⟨1, (congrArg (fun z => mj_at z 33) f69).trans rfl, rfl⟩
theorem d69_34 : mj_At 69 34 (.iload_n 1) 35 [1] (.null) := ⟨1, (congrArg (fun z => mj_at z 34) f69).trans rfl, rfl⟩
theorem d69_35 : mj_At 69 35 (.invokevirtual 152) 38 [1, 13, 3, 3, 172, 174, 2, 18] (.null) := ⟨3, (congrArg (fun z => mj_at z 35) f69).trans rfl, rfl⟩
theorem d69_38 : mj_At 69 38 (.iadd) 39 [] (.null) := ⟨1, (congrArg (fun z => mj_at z 38) f69).trans rfl, rfl⟩
theorem d69_39 : mj_At 69 39 (.istore_n 2) 40 [2] (.null) := ⟨1, (congrArg (fun z => mj_at z 39) f69).trans rfl, rfl⟩
theorem d69_40 : mj_At 69 40 (.iinc 3 (1)) 43 [3] (.int 1) := ⟨3, (congrArg (fun z => mj_at z 40) f69).trans rfl, rfl⟩
theorem d69_43 : mj_At 69 43 (.goto (-29)) 46 [14] (.null) := ⟨3, (congrArg (fun z => mj_at z 43) f69).trans rfl, rfl⟩
theorem d69_46 : mj_At 69 46 (.iload_n 2) 47 [2] (.null) := ⟨1, (congrArg (fun z => mj_at z 46) f69).trans rfl, rfl⟩
theorem d69_47 : mj_At 69 47 (.ireturn) 48 [0] (.null) := ⟨1, (congrArg (fun z => mj_at z 47) f69).trans rfl, rfl⟩
theorem e69_0 {c : mj_C} {x1 : Int32} {L : Nat} {ps : List (Option (Option Nat))} {rest : List mj_K}   : mj_EV 69 0 [some (.ref 2), some (.int x1), none, none] [] (w_sh L ps rest) c = (mj_then 69 4 [some (.ref 2), some (.int x1), none, none] [] (mj_EV 5 0 [some (.int x1)] [] (w_sh L ps rest) c)) := (mj_iload_n d69_0 rfl (mj_invS [some (.int x1)] [] d69_1 (by decide) rfl rfl rfl rfl))
theorem e69_4 {c : mj_C} {x1 : Int32} {z0 : Int32} {L : Nat} {ps : List (Option (Option Nat))} {rest : List mj_K}   : mj_EV 69 4 [some (.ref 2), some (.int x1), none, none] [.int z0] (w_sh L ps rest) c = (if z0 = nI 0 then (some (some (.int (-2)), (w_sh L ps rest), c)) else mj_EV 69 14 [some (.ref 2), some (.int x1), some (.int (nI 0)), some (.int (nI 0))] [] (w_sh L ps rest) c) := (mj_ifne d69_4 (mj_iconst d69_10 (mj_istore_n [some (.ref 2), some (.int x1), some (.int (nI 0)), none] d69_11 rfl rfl (mj_iconst d69_12 (mj_istore_n [some (.ref 2), some (.int x1), some (.int (nI 0)), some (.int (nI 0))] d69_13 rfl rfl rfl)))) (mj_bipush d69_7 (mj_iret d69_9)))
theorem e69_14 {c : mj_C} {x1 : Int32} {x2 : Int32} {x3 : Int32} {L : Nat} {ps : List (Option (Option Nat))} {rest : List mj_K}   : mj_EV 69 14 [some (.ref 2), some (.int x1), some (.int x2), some (.int x3)] [] (w_sh L ps rest) c = (if (nI 10) ≤ x3 then (some (some (.int x2), (w_sh L ps rest), c)) else (mj_then 69 28 [some (.ref 2), some (.int x1), some (.int x2), some (.int x3)] [] (mj_EV 6 0 [some (.ref 3), some (.int x3)] [] (w_sh L ps rest) c))) := (mj_iload_n d69_14 rfl (mj_bipush d69_15 (mj_icge d69_17 (mj_iload_n d69_46 rfl (mj_iret d69_47)) (mj_aload_n d69_20 rfl (mj_getR d69_21 w_2 rfl (mj_iload_n d69_24 rfl (mj_invV [some (.ref 3), some (.int x3)] [] d69_25 rfl rfl rfl w_3 rfl rfl)))))))
theorem e69_28 {c : mj_C} {x1 : Int32} {x2 : Int32} {x3 : Int32} {z0 : Int32} {L : Nat} {ps : List (Option (Option Nat))} {rest : List mj_K}   : mj_EV 69 28 [some (.ref 2), some (.int x1), some (.int x2), some (.int x3)] [.int z0] (w_sh L ps rest) c = (if z0 = nI 0 then mj_EV 69 14 [some (.ref 2), some (.int x1), some (.int x2), some (.int (x3 + (nI 1)))] [] (w_sh L ps rest) c else (mj_then 69 38 [some (.ref 2), some (.int x1), some (.int x2), some (.int x3)] [.int x2] (mj_EV 13 0 [some (.ref 2), some (.int x3), some (.int x1), none] [] (w_sh L ps rest) c))) := (mj_ifeq d69_28 (mj_iinc [some (.ref 2), some (.int x1), some (.int x2), some (.int (x3 + (nI 1)))] d69_40 rfl rfl rfl (mj_goto d69_43 rfl)) (mj_iload_n d69_31 rfl (mj_aload_n d69_32 rfl (mj_iload_n d69_33 rfl (mj_iload_n d69_34 rfl (mj_invV [some (.ref 2), some (.int x3), some (.int x1), none] [.int x2] d69_35 rfl rfl rfl w_2 rfl rfl))))))
theorem e69_38 {c : mj_C} {x1 : Int32} {x2 : Int32} {x3 : Int32} {z0 : Int32} {z1 : Int32} {L : Nat} {ps : List (Option (Option Nat))} {rest : List mj_K}   : mj_EV 69 38 [some (.ref 2), some (.int x1), some (.int x2), some (.int x3)] [.int z1, .int z0] (w_sh L ps rest) c = mj_EV 69 14 [some (.ref 2), some (.int x1), some (.int (z0 + z1)), some (.int (x3 + (nI 1)))] [] (w_sh L ps rest) c := (mj_iadd d69_38 (mj_istore_n [some (.ref 2), some (.int x1), some (.int (z0 + z1)), some (.int x3)] d69_39 rfl rfl (mj_iinc [some (.ref 2), some (.int x1), some (.int (z0 + z1)), some (.int (x3 + (nI 1)))] d69_40 rfl rfl rfl (mj_goto d69_43 rfl))))
/-- SqueezedLines.loosest()I -/
theorem f70 : mj_cd 70 = mj_c70 := rfl
theorem d70_0 : mj_At 70 0 (.bipush (-6)) 2 [] (.int (-6)) := ⟨2, (congrArg (fun z => mj_at z 0) f70).trans rfl, rfl⟩
theorem d70_2 : mj_At 70 2 (.istore_n 1) 3 [1] (.null) := ⟨1, (congrArg (fun z => mj_at z 2) f70).trans rfl, rfl⟩
theorem d70_3 : mj_At 70 3 (.iconst (0)) 4 [] (.int 0) := ⟨1, (congrArg (fun z => mj_at z 3) f70).trans rfl, rfl⟩
theorem d70_4 : mj_At 70 4 (.istore_n 2) 5 [2] (.null) := ⟨1, (congrArg (fun z => mj_at z 4) f70).trans rfl, rfl⟩
theorem d70_5 : mj_At 70 5 (.iconst (0)) 6 [] (.int 0) := ⟨1, (congrArg (fun z => mj_at z 5) f70).trans rfl, rfl⟩
theorem d70_6 : mj_At 70 6 (.istore_n 3) 7 [3] (.null) := ⟨1, (congrArg (fun z => mj_at z 6) f70).trans rfl, rfl⟩
theorem d70_7 : mj_At 70 7 (.iload_n 3) 8 [3] (.null) := ⟨1, (congrArg (fun z => mj_at z 7) f70).trans rfl, rfl⟩
theorem d70_8 : mj_At 70 8 (.bipush (10)) 10 [] (.int 10) := ⟨2, (congrArg (fun z => mj_at z 8) f70).trans rfl, rfl⟩
theorem d70_10 : mj_At 70 10 (.if_icmp .ge (51)) 13 [61] (.null) := ⟨3, (congrArg (fun z => mj_at z 10) f70).trans rfl, rfl⟩
theorem d70_13 : mj_At 70 13 (.aload_n 0) 14 [0] (.null) := ⟨1, (congrArg (fun z => mj_at z 13) f70).trans rfl, rfl⟩
theorem d70_14 : mj_At 70 14 (.getfield 12) 17 [3, 0, 122] (.null) := ⟨3, (congrArg (fun z => mj_at z 14) f70).trans rfl, rfl⟩
theorem d70_17 : mj_At 70 17 (.iload_n 3) 18 [3] (.null) := ⟨1, (congrArg (fun z => mj_at z 17) f70).trans rfl, rfl⟩
theorem d70_18 : mj_At 70 18 (.invokevirtual 63) 21 [1, 6, 2, 2, 156, 157, 158, 19] (.null) := ⟨3, (congrArg (fun z => mj_at z 18) f70).trans rfl, rfl⟩
theorem d70_21 : mj_At 70 21 (.ifCond .eq (34)) 24 [55] (.null) := ⟨3, (congrArg (fun z => mj_at z 21) f70).trans rfl, rfl⟩
theorem d70_24 : mj_At 70 24 (.aload_n 0) 25 [0] (.null) := ⟨1, (congrArg (fun z => mj_at z 24) f70).trans rfl, rfl⟩
theorem d70_25 : mj_At 70 25 (.iload_n 3) 26 [3] (.null) := ⟨1, (congrArg (fun z => mj_at z 25) f70).trans rfl, rfl⟩
theorem d70_26 : mj_At 70 26 (.invokevirtual 83) 29 [1, 14, 2, 3, 186, 188, 4, 18] (.null) := ⟨3, (congrArg (fun z => mj_at z 26) f70).trans rfl, rfl⟩
theorem d70_29 : mj_At 70 29 (.aload_n 0) 30 [0] (.null) := ⟨1, (congrArg (fun z => mj_at z 29) f70).trans rfl, rfl⟩
theorem d70_30 : mj_At 70 30 (.iload_n 3) 31 [3] (.null) := ⟨1, (congrArg (fun z => mj_at z 30) f70).trans rfl, rfl⟩
theorem d70_31 : mj_At 70 31 (.aload_n 0) 32 [0] (.null) := ⟨1, (congrArg (fun z => mj_at z 31) f70).trans rfl, rfl⟩
theorem d70_32 : mj_At 70 32 (.getfield 12) 35 [3, 0, 122] (.null) := ⟨3, (congrArg (fun z => mj_at z 32) f70).trans rfl, rfl⟩
theorem d70_35 : mj_At 70 35 (.getfield 60) 38 [2, 0, 43] (.null) := ⟨3, (congrArg (fun z => mj_at z 35) f70).trans rfl, rfl⟩
theorem d70_38 : mj_At 70 38 (.invokevirtual 152) 41 [1, 13, 3, 3, 172, 174, 2, 18] (.null) := ⟨3, (congrArg (fun z => mj_at z 38) f70).trans rfl, rfl⟩
theorem d70_41 : mj_At 70 41 (.isub) 42 [] (.null) := ⟨1, (congrArg (fun z => mj_at z 41) f70).trans rfl, rfl⟩
theorem d70_42 : mj_At 70 42 (.istore 4) 44 [4] (.null) := ⟨2, (congrArg (fun z => mj_at z 42) f70).trans rfl, rfl⟩
theorem d70_44 : mj_At 70 44 (.iload 4) 46 [4] (.null) := ⟨2, (congrArg (fun z => mj_at z 44) f70).trans rfl, rfl⟩
theorem d70_46 : mj_At 70 46 (.iload_n 2) 47 [2] (.null) := ⟨1, (congrArg (fun z => mj_at z 46) f70).trans rfl, rfl⟩
theorem d70_47 : mj_At 70 47 (.if_icmp .le (8)) 50 [55] (.null) := ⟨3, (congrArg (fun z => mj_at z 47) f70).trans rfl, rfl⟩
theorem d70_50 : mj_At 70 50 (.iload_n 3) 51 [3] (.null) := ⟨1, (congrArg (fun z => mj_at z 50) f70).trans rfl, rfl⟩
theorem d70_51 : mj_At 70 51 (.istore_n 1) 52 [1] (.null) := ⟨1, (congrArg (fun z => mj_at z 51) f70).trans rfl, rfl⟩
theorem d70_52 : mj_At 70 52 (.iload 4) 54 [4] (.null) := ⟨2, (congrArg (fun z => mj_at z 52) f70).trans rfl, rfl⟩
theorem d70_54 : mj_At 70 54 (.istore_n 2) 55 [2] (.null) := ⟨1, (congrArg (fun z => mj_at z 54) f70).trans rfl, rfl⟩
theorem d70_55 : mj_At 70 55 (.iinc 3 (1)) 58 [3] (.int 1) := ⟨3, (congrArg (fun z => mj_at z 55) f70).trans rfl, rfl⟩
theorem d70_58 : mj_At 70 58 (.goto (-51)) 61 [7] (.null) := ⟨3, (congrArg (fun z => mj_at z 58) f70).trans rfl, rfl⟩
theorem d70_61 : mj_At 70 61 (.iload_n 1) 62 [1] (.null) := ⟨1, (congrArg (fun z => mj_at z 61) f70).trans rfl, rfl⟩
theorem d70_62 : mj_At 70 62 (.ireturn) 63 [0] (.null) := ⟨1, (congrArg (fun z => mj_at z 62) f70).trans rfl, rfl⟩
theorem e70_0 {c : mj_C}  {L : Nat} {ps : List (Option (Option Nat))} {rest : List mj_K}   : mj_EV 70 0 [some (.ref 2), none, none, none, none] [] (w_sh L ps rest) c = mj_EV 70 7 [some (.ref 2), some (.int (-6)), some (.int (nI 0)), some (.int (nI 0)), none] [] (w_sh L ps rest) c := (mj_bipush d70_0 (mj_istore_n [some (.ref 2), some (.int (-6)), none, none, none] d70_2 rfl rfl (mj_iconst d70_3 (mj_istore_n [some (.ref 2), some (.int (-6)), some (.int (nI 0)), none, none] d70_4 rfl rfl (mj_iconst d70_5 (mj_istore_n [some (.ref 2), some (.int (-6)), some (.int (nI 0)), some (.int (nI 0)), none] d70_6 rfl rfl rfl))))))
theorem e70_7 {c : mj_C} {x1 : Int32} {x2 : Int32} {x3 : Int32} {o4 : Option Value} {L : Nat} {ps : List (Option (Option Nat))} {rest : List mj_K}   : mj_EV 70 7 [some (.ref 2), some (.int x1), some (.int x2), some (.int x3), o4] [] (w_sh L ps rest) c = (if (nI 10) ≤ x3 then (some (some (.int x1), (w_sh L ps rest), c)) else (mj_then 70 21 [some (.ref 2), some (.int x1), some (.int x2), some (.int x3), o4] [] (mj_EV 6 0 [some (.ref 3), some (.int x3)] [] (w_sh L ps rest) c))) := (mj_iload_n d70_7 rfl (mj_bipush d70_8 (mj_icge d70_10 (mj_iload_n d70_61 rfl (mj_iret d70_62)) (mj_aload_n d70_13 rfl (mj_getR d70_14 w_2 rfl (mj_iload_n d70_17 rfl (mj_invV [some (.ref 3), some (.int x3)] [] d70_18 rfl rfl rfl w_3 rfl rfl)))))))
theorem e70_21 {c : mj_C} {x1 : Int32} {x2 : Int32} {x3 : Int32} {o4 : Option Value} {z0 : Int32} {L : Nat} {ps : List (Option (Option Nat))} {rest : List mj_K}   : mj_EV 70 21 [some (.ref 2), some (.int x1), some (.int x2), some (.int x3), o4] [.int z0] (w_sh L ps rest) c = (if z0 = nI 0 then mj_EV 70 7 [some (.ref 2), some (.int x1), some (.int x2), some (.int (x3 + (nI 1))), o4] [] (w_sh L ps rest) c else (mj_then 70 29 [some (.ref 2), some (.int x1), some (.int x2), some (.int x3), o4] [] (mj_EV 14 0 [some (.ref 2), some (.int x3)] [] (w_sh L ps rest) c))) := (mj_ifeq d70_21 (mj_iinc [some (.ref 2), some (.int x1), some (.int x2), some (.int (x3 + (nI 1))), o4] d70_55 rfl rfl rfl (mj_goto d70_58 rfl)) (mj_aload_n d70_24 rfl (mj_iload_n d70_25 rfl (mj_invV [some (.ref 2), some (.int x3)] [] d70_26 rfl rfl rfl w_2 rfl rfl))))
theorem e70_29 {c : mj_C} {x1 : Int32} {x2 : Int32} {x3 : Int32} {o4 : Option Value} {z0 : Int32} {L : Nat} {ps : List (Option (Option Nat))} {rest : List mj_K}   : mj_EV 70 29 [some (.ref 2), some (.int x1), some (.int x2), some (.int x3), o4] [.int z0] (w_sh L ps rest) c = (mj_then 70 41 [some (.ref 2), some (.int x1), some (.int x2), some (.int x3), o4] [.int z0] (mj_EV 13 0 [some (.ref 2), some (.int x3), some (.int (c 3 0)), none] [] (w_sh L ps rest) c)) := (mj_aload_n d70_29 rfl (mj_iload_n d70_30 rfl (mj_aload_n d70_31 rfl (mj_getR d70_32 w_2 rfl (mj_getI d70_35 w_3 rfl (mj_invV [some (.ref 2), some (.int x3), some (.int (c 3 0)), none] [.int z0] d70_38 rfl rfl rfl w_2 rfl rfl))))))
theorem e70_41 {c : mj_C} {x1 : Int32} {x2 : Int32} {x3 : Int32} {o4 : Option Value} {z0 : Int32} {z1 : Int32} {L : Nat} {ps : List (Option (Option Nat))} {rest : List mj_K}   : mj_EV 70 41 [some (.ref 2), some (.int x1), some (.int x2), some (.int x3), o4] [.int z1, .int z0] (w_sh L ps rest) c = (if (z0 - z1) ≤ x2 then mj_EV 70 7 [some (.ref 2), some (.int x1), some (.int x2), some (.int (x3 + (nI 1))), some (.int (z0 - z1))] [] (w_sh L ps rest) c else mj_EV 70 7 [some (.ref 2), some (.int x3), some (.int (z0 - z1)), some (.int (x3 + (nI 1))), some (.int (z0 - z1))] [] (w_sh L ps rest) c) := (mj_isub d70_41 (mj_istore [some (.ref 2), some (.int x1), some (.int x2), some (.int x3), some (.int (z0 - z1))] d70_42 rfl rfl (mj_iload d70_44 rfl (mj_iload_n d70_46 rfl (mj_icle d70_47 (mj_iinc [some (.ref 2), some (.int x1), some (.int x2), some (.int (x3 + (nI 1))), some (.int (z0 - z1))] d70_55 rfl rfl rfl (mj_goto d70_58 rfl)) (mj_iload_n d70_50 rfl (mj_istore_n [some (.ref 2), some (.int x3), some (.int x2), some (.int x3), some (.int (z0 - z1))] d70_51 rfl rfl (mj_iload d70_52 rfl (mj_istore_n [some (.ref 2), some (.int x3), some (.int (z0 - z1)), some (.int x3), some (.int (z0 - z1))] d70_54 rfl rfl (mj_iinc [some (.ref 2), some (.int x3), some (.int (z0 - z1)), some (.int (x3 + (nI 1))), some (.int (z0 - z1))] d70_55 rfl rfl rfl (mj_goto d70_58 rfl)))))))))))
/-- SqueezedLines.rawPagesLeft()I -/
theorem f71 : mj_cd 71 = mj_c71 := rfl
theorem d71_0 : mj_At 71 0 (.iconst (0)) 1 [] (.int 0) := ⟨1, (congrArg (fun z => mj_at z 0) f71).trans rfl, rfl⟩
theorem d71_1 : mj_At 71 1 (.aload_n 0) 2 [0] (.null) := ⟨1, (congrArg (fun z => mj_at z 1) f71).trans rfl, rfl⟩
theorem d71_2 : mj_At 71 2 (.getfield 12) 5 [3, 0, 122] (.null) := ⟨3, (congrArg (fun z => mj_at z 2) f71).trans rfl, rfl⟩
theorem d71_5 : mj_At 71 5 (.getfield 70) 8 [2, 1, 45] (.null) := ⟨3, (congrArg (fun z => mj_at z 5) f71).trans rfl, rfl⟩
theorem d71_8 : mj_At 71 8 (.aload_n 0) 9 [0] (.null) := ⟨1, (congrArg (fun z => mj_at z 8) f71).trans rfl, rfl⟩
theorem d71_9 : mj_At 71 9 (.invokevirtual 77) 12 [1, 16, 1, 3, 194, 196, 6, 18] (.null) := ⟨3, (congrArg (fun z => mj_at z 9) f71).trans rfl, rfl⟩
theorem d71_12 : mj_At 71 12 (.isub) 13 [] (.null) := ⟨1, (congrArg (fun z => mj_at z 12) f71).trans rfl, rfl⟩
theorem d71_13 : mj_At 71 13 (.invokestatic 191) 16 [0, 40, 2, 301, 302, 24] (.null) := ⟨3, (congrArg (fun z => mj_at z 13) f71).trans rfl, rfl⟩
theorem d71_16 : mj_At 71 16 (.bipush (65)) 18 [] (.int 65) := ⟨2, (congrArg (fun z => mj_at z 16) f71).trans rfl, rfl⟩
theorem d71_18 : mj_At 71 18 (.idiv) 19 [] (.null) := ⟨1, (congrArg (fun z => mj_at z 18) f71).trans rfl, rfl⟩
theorem d71_19 : mj_At 71 19 (.ireturn) 20 [0] (.null) := ⟨1, (congrArg (fun z => mj_at z 19) f71).trans rfl, rfl⟩
theorem e71_0 {c : mj_C}  {L : Nat} {ps : List (Option (Option Nat))} {rest : List mj_K}   : mj_EV 71 0 [some (.ref 2)] [] (w_sh L ps rest) c = (mj_then 71 12 [some (.ref 2)] [.int (c 3 1), .int (nI 0)] (mj_EV 16 0 [some (.ref 2), none, none] [] (w_sh L ps rest) c)) := (mj_iconst d71_0 (mj_aload_n d71_1 rfl (mj_getR d71_2 w_2 rfl (mj_getI d71_5 w_3 rfl (mj_aload_n d71_8 rfl (mj_invV [some (.ref 2), none, none] [.int (c 3 1), .int (nI 0)] d71_9 rfl rfl rfl w_2 rfl rfl))))))
theorem e71_12 {c : mj_C} {z0 : Int32} {z1 : Int32} {z2 : Int32} {L : Nat} {ps : List (Option (Option Nat))} {rest : List mj_K}   : mj_EV 71 12 [some (.ref 2)] [.int z2, .int z1, .int z0] (w_sh L ps rest) c = (mj_then 71 16 [some (.ref 2)] [] (mj_EV 40 0 [some (.int z0), some (.int (z1 - z2))] [] (w_sh L ps rest) c)) := (mj_isub d71_12 (mj_invS [some (.int z0), some (.int (z1 - z2))] [] d71_13 (by decide) rfl rfl rfl rfl))
theorem e71_16 {c : mj_C} {z0 : Int32} {L : Nat} {ps : List (Option (Option Nat))} {rest : List mj_K}   : mj_EV 71 16 [some (.ref 2)] [.int z0] (w_sh L ps rest) c = (if (!decide ((nI 65) = nI 0)) = true then (some (some (.int (z0 / (nI 65))), (w_sh L ps rest), c)) else none) := (mj_bipush d71_16 (mj_idiv d71_18 (mj_iret d71_19)))
