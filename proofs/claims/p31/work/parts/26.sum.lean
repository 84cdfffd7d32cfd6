/-- SqueezedLinesLaw.sum.([I[I[I[I)I -/
theorem f101 : mj_cd 101 = mj_c101 := rfl
set_option maxRecDepth 20000 in
theorem d101_0 : mj_At 101 0 (.iconst (0)) 1 [] (.int 0) := ⟨1, (congrArg (fun z => mj_at z 0) f101).trans rfl, rfl⟩
set_option maxRecDepth 20000 in
theorem d101_1 : mj_At 101 1 (.istore 4) 3 [4] (.null) := ⟨2, (congrArg (fun z => mj_at z 1) f101).trans rfl, rfl⟩
set_option maxRecDepth 20000 in
theorem d101_3 : mj_At 101 3 (.iconst (0)) 4 [] (.int 0) := ⟨1, (congrArg (fun z => mj_at z 3) f101).trans rfl, rfl⟩
set_option maxRecDepth 20000 in
theorem d101_4 : mj_At 101 4 (.istore 5) 6 [5] (.null) := ⟨2, (congrArg (fun z => mj_at z 4) f101).trans rfl, rfl⟩
set_option maxRecDepth 20000 in
theorem d101_6 : mj_At 101 6 (.iload 5) 8 [5] (.null) := ⟨2, (congrArg (fun z => mj_at z 6) f101).trans rfl, rfl⟩
set_option maxRecDepth 20000 in
theorem d101_8 : mj_At 101 8 (.iconst (3)) 9 [] (.int 3) := ⟨1, (congrArg (fun z => mj_at z 8) f101).trans rfl, rfl⟩
set_option maxRecDepth 20000 in
theorem d101_9 : mj_At 101 9 (.if_icmp .ge (46)) 12 [55] (.null) := ⟨3, (congrArg (fun z => mj_at z 9) f101).trans rfl, rfl⟩
set_option maxRecDepth 20000 in
theorem d101_12 : mj_At 101 12 (.iload 4) 14 [4] (.null) := ⟨2, (congrArg (fun z => mj_at z 12) f101).trans rfl, rfl⟩
set_option maxRecDepth 20000 in
theorem d101_14 : mj_At 101 14 (.aload_n 0) 15 [0] (.null) := ⟨1, (congrArg (fun z => mj_at z 14) f101).trans rfl, rfl⟩
set_option maxRecDepth 20000 in
theorem d101_15 : mj_At 101 15 (.bipush (6)) 17 [] (.int 6) := ⟨2, (congrArg (fun z => mj_at z 15) f101).trans rfl, rfl⟩
set_option maxRecDepth 20000 in
theorem d101_17 : mj_At 101 17 (.iload 5) 19 [5] (.null) := ⟨2, (congrArg (fun z => mj_at z 17) f101).trans rfl, rfl⟩
set_option maxRecDepth 20000 in
theorem d101_19 : mj_At 101 19 (.iadd) 20 [] (.null) := ⟨1, (congrArg (fun z => mj_at z 19) f101).trans rfl, rfl⟩
set_option maxRecDepth 20000 in
theorem d101_20 : mj_At 101 20 (.iaload) 21 [] (.null) := ⟨1, (congrArg (fun z => mj_at z 20) f101).trans rfl, rfl⟩
set_option maxRecDepth 20000 in
theorem d101_21 : mj_At 101 21 (.ifCond .ge (7)) 24 [28] (.null) := ⟨3, (congrArg (fun z => mj_at z 21) f101).trans rfl, rfl⟩
set_option maxRecDepth 20000 in
theorem d101_24 : mj_At 101 24 (.iconst (0)) 25 [] (.int 0) := ⟨1, (congrArg (fun z => mj_at z 24) f101).trans rfl, rfl⟩
set_option maxRecDepth 20000 in
theorem d101_25 : mj_At 101 25 (.goto (21)) 28 [46] (.null) := ⟨3, (congrArg (fun z => mj_at z 25) f101).trans rfl, rfl⟩
set_option maxRecDepth 20000 in
theorem d101_28 : mj_At 101 28 (.aload_n 0) 29 [0] (.null) := ⟨1, (congrArg (fun z => mj_at z 28) f101).trans rfl, rfl⟩
set_option maxRecDepth 20000 in
theorem d101_29 : mj_At 101 29 (.bipush (6)) 31 [] (.int 6) := ⟨2, (congrArg (fun z => mj_at z 29) f101).trans rfl, rfl⟩
set_option maxRecDepth 20000 in
theorem d101_31 : mj_At 101 31 (.iload 5) 33 [5] (.null) := ⟨2, (congrArg (fun z => mj_at z 31) f101).trans rfl, rfl⟩
set_option maxRecDepth 20000 in
theorem d101_33 : mj_At 101 33 (.iadd) 34 [] (.null) := ⟨1, (congrArg (fun z => mj_at z 33) f101).trans rfl, rfl⟩
set_option maxRecDepth 20000 in
theorem d101_34 : mj_At 101 34 (.iaload) 35 [] (.null) := ⟨1, (congrArg (fun z => mj_at z 34) f101).trans rfl, rfl⟩
set_option maxRecDepth 20000 in
theorem d101_35 : mj_At 101 35 (.iload 5) 37 [5] (.null) := ⟨2, (congrArg (fun z => mj_at z 35) f101).trans rfl, rfl⟩
set_option maxRecDepth 20000 in
theorem d101_37 : mj_At 101 37 (.aload_n 1) 38 [1] (.null) := ⟨1, (congrArg (fun z => mj_at z 37) f101).trans rfl, rfl⟩
set_option maxRecDepth 20000 in
theorem d101_38 : mj_At 101 38 (.aload_n 2) 39 [2] (.null) := ⟨1, (congrArg (fun z => mj_at z 38) f101).trans rfl, rfl⟩
set_option maxRecDepth 20000 in
theorem d101_39 : mj_At 101 39 (.aload_n 3) 40 [3] (.null) := ⟨1, (congrArg (fun z => mj_at z 39) f101).trans rfl, rfl⟩
set_option maxRecDepth 20000 in
theorem d101_40 : mj_At 101 40 (.invokestatic 29) 43 [0, 94, 4, 368, 369, 17] (.null) := ⟨3, (congrArg (fun z => mj_at z 40) f101).trans rfl, rfl⟩
set_option maxRecDepth 20000 in
theorem d101_43 : mj_At 101 43 (.invokestatic 26) 46 [0, 99, 2, 383, 384, 17] (.null) := ⟨3, (congrArg (fun z => mj_at z 43) f101).trans rfl, rfl⟩
set_option maxRecDepth 20000 in
theorem d101_46 : mj_At 101 46 (.iadd) 47 [] (.null) := ⟨1, (congrArg (fun z => mj_at z 46) f101).trans rfl, rfl⟩
set_option maxRecDepth 20000 in
theorem d101_47 : mj_At 101 47 (.istore 4) 49 [4] (.null) := ⟨2, (congrArg (fun z => mj_at z 47) f101).trans rfl, rfl⟩
set_option maxRecDepth 20000 in
theorem d101_49 : mj_At 101 49 (.iinc 5 (1)) 52 [5] (.int 1) := ⟨3, (congrArg (fun z => mj_at z 49) f101).trans rfl, rfl⟩
set_option maxRecDepth 20000 in
theorem d101_52 : mj_At 101 52 (.goto (-46)) 55 [6] (.null) := ⟨3, (congrArg (fun z => mj_at z 52) f101).trans rfl, rfl⟩
set_option maxRecDepth 20000 in
theorem d101_55 : mj_At 101 55 (.iload 4) 57 [4] (.null) := ⟨2, (congrArg (fun z => mj_at z 55) f101).trans rfl, rfl⟩
set_option maxRecDepth 20000 in
theorem d101_57 : mj_At 101 57 (.ireturn) 58 [0] (.null) := ⟨1, (congrArg (fun z => mj_at z 57) f101).trans rfl, rfl⟩
theorem e101_0 {c : mj_C}  {L n : Nat} {ps : List (Option (Option Nat))}   : mj_EV 101 0 [some (.ref 52), some (.ref 53), some (.ref 54), some (.ref 55), none, none] [] (w_sh L ps (w_lo n)) c = mj_EV 101 6 [some (.ref 52), some (.ref 53), some (.ref 54), some (.ref 55), some (.int (nI 0)), some (.int (nI 0))] [] (w_sh L ps (w_lo n)) c := (mj_iconst d101_0 (mj_istore [some (.ref 52), some (.ref 53), some (.ref 54), some (.ref 55), some (.int (nI 0)), none] d101_1 rfl rfl (mj_iconst d101_3 (mj_istore [some (.ref 52), some (.ref 53), some (.ref 54), some (.ref 55), some (.int (nI 0)), some (.int (nI 0))] d101_4 rfl rfl rfl))))
theorem e101_6 {c : mj_C} {x4 : Int32} {x5 : Int32} {L n : Nat} {ps : List (Option (Option Nat))}   : mj_EV 101 6 [some (.ref 52), some (.ref 53), some (.ref 54), some (.ref 55), some (.int x4), some (.int x5)] [] (w_sh L ps (w_lo n)) c = (if (nI 3) ≤ x5 then (some (some (.int x4), (w_sh L ps (w_lo n)), c)) else (if mj_in ((nI 6) + x5) 17 = true then (if nI 0 ≤ (c 52 ((nI 6) + x5).toNatClampNeg) then (if mj_in ((nI 6) + x5) 17 = true then (mj_then 101 43 [some (.ref 52), some (.ref 53), some (.ref 54), some (.ref 55), some (.int x4), some (.int x5)] [.int (c 52 ((nI 6) + x5).toNatClampNeg), .int x4] (mj_EV 94 0 [some (.int x5), some (.ref 53), some (.ref 54), some (.ref 55)] [] (w_sh L ps (w_lo n)) c)) else none) else mj_EV 101 46 [some (.ref 52), some (.ref 53), some (.ref 54), some (.ref 55), some (.int x4), some (.int x5)] [.int (nI 0), .int x4] (w_sh L ps (w_lo n)) c) else none)) := (mj_iload d101_6 rfl (mj_iconst d101_8 (mj_icge d101_9 (mj_iload d101_55 rfl (mj_iret d101_57)) (mj_iload d101_12 rfl (mj_aload_n d101_14 rfl (mj_bipush d101_15 (mj_iload d101_17 rfl (mj_iadd d101_19 (mj_iald d101_20 w_52 (mj_ifge d101_21 (mj_aload_n d101_28 rfl (mj_bipush d101_29 (mj_iload d101_31 rfl (mj_iadd d101_33 (mj_iald d101_34 w_52 (mj_iload d101_35 rfl (mj_aload_n d101_37 rfl (mj_aload_n d101_38 rfl (mj_aload_n d101_39 rfl (mj_invS [some (.int x5), some (.ref 53), some (.ref 54), some (.ref 55)] [.int (c 52 ((nI 6) + x5).toNatClampNeg), .int x4] d101_40 (by decide) rfl rfl rfl rfl)))))))))) (mj_iconst d101_24 (mj_goto d101_25 rfl))))))))))))
theorem e101_43 {c : mj_C} {x4 : Int32} {x5 : Int32} {z0 : Int32} {z1 : Int32} {L n : Nat} {ps : List (Option (Option Nat))} {rr40 : Nat} (hrr40 : (w_sh L ps (w_lo n))[rr40]? = some (0, 64, []))  : mj_EV 101 43 [some (.ref 52), some (.ref 53), some (.ref 54), some (.ref 55), some (.int x4), some (.int x5)] [.ref rr40, .int z1, .int z0] (w_sh L ps (w_lo n)) c = (mj_then 101 46 [some (.ref 52), some (.ref 53), some (.ref 54), some (.ref 55), some (.int x4), some (.int x5)] [.int z0] (mj_EV 99 0 [some (.int z1), some (.ref rr40)] [] (w_sh L ps (w_lo n)) c)) := (mj_invS [some (.int z1), some (.ref rr40)] [.int z0] d101_43 (by decide) rfl rfl rfl rfl)
theorem e101_46 {c : mj_C} {x4 : Int32} {x5 : Int32} {z0 : Int32} {z1 : Int32} {L n : Nat} {ps : List (Option (Option Nat))}   : mj_EV 101 46 [some (.ref 52), some (.ref 53), some (.ref 54), some (.ref 55), some (.int x4), some (.int x5)] [.int z1, .int z0] (w_sh L ps (w_lo n)) c = mj_EV 101 6 [some (.ref 52), some (.ref 53), some (.ref 54), some (.ref 55), some (.int (z0 + z1)), some (.int (x5 + (nI 1)))] [] (w_sh L ps (w_lo n)) c := (mj_iadd d101_46 (mj_istore [some (.ref 52), some (.ref 53), some (.ref 54), some (.ref 55), some (.int (z0 + z1)), some (.int x5)] d101_47 rfl rfl (mj_iinc [some (.ref 52), some (.ref 53), some (.ref 54), some (.ref 55), some (.int (z0 + z1)), some (.int (x5 + (nI 1)))] d101_49 rfl rfl rfl (mj_goto d101_52 rfl))))
