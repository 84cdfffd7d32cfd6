/-- java/util/Arrays.fill([II)V -/
theorem f0 : mj_cd 0 = mj_c0 := rfl
theorem d0_0 : mj_At 0 0 (.iconst (0)) 1 [] (.int 0) := ⟨1, (congrArg (fun z => mj_at z 0) f0).trans rfl, rfl⟩
theorem d0_1 : mj_At 0 1 (.istore_n 2) 2 [2] (.null) := ⟨1, (congrArg (fun z => mj_at z 1) f0).trans rfl, rfl⟩
theorem d0_2 : mj_At 0 2 (.aload_n 0) 3 [0] (.null) := ⟨1, (congrArg (fun z => mj_at z 2) f0).trans rfl, rfl⟩
theorem d0_3 : mj_At 0 3 (.arraylength) 4 [] (.null) := ⟨1, (congrArg (fun z => mj_at z 3) f0).trans rfl, rfl⟩
theorem d0_4 : mj_At 0 4 (.istore_n 3) 5 [3] (.null) := ⟨1, (congrArg (fun z => mj_at z 4) f0).trans rfl, rfl⟩
theorem d0_5 : mj_At 0 5 (.iload_n 2) 6 [2] (.null) := ⟨1, (congrArg (fun z => mj_at z 5) f0).trans rfl, rfl⟩
theorem d0_6 : mj_At 0 6 (.iload_n 3) 7 [3] (.null) := ⟨1, (congrArg (fun z => mj_at z 6) f0).trans rfl, rfl⟩
theorem d0_7 : mj_At 0 7 (.if_icmp .ge (13)) 10 [20] (.null) := ⟨3, (congrArg (fun z => mj_at z 7) f0).trans rfl, rfl⟩
theorem d0_10 : mj_At 0 10 (.aload_n 0) 11 [0] (.null) := ⟨1, (congrArg (fun z => mj_at z 10) f0).trans rfl, rfl⟩
theorem d0_11 : mj_At 0 11 (.iload_n 2) 12 [2] (.null) := ⟨1, (congrArg (fun z => mj_at z 11) f0).trans rfl, rfl⟩
theorem d0_12 : mj_At 0 12 (.iload_n 1) 13 [1] (.null) := ⟨1, (congrArg (fun z => mj_at z 12) f0).trans rfl, rfl⟩
theorem d0_13 : mj_At 0 13 (.iastore) 14 [] (.null) := ⟨1, (congrArg (fun z => mj_at z 13) f0).trans rfl, rfl⟩
theorem d0_14 : mj_At 0 14 (.iinc 2 (1)) 17 [2] (.int 1) := ⟨3, (congrArg (fun z => mj_at z 14) f0).trans rfl, rfl⟩
theorem d0_17 : mj_At 0 17 (.goto (-12)) 20 [5] (.null) := ⟨3, (congrArg (fun z => mj_at z 17) f0).trans rfl, rfl⟩
theorem d0_20 : mj_At 0 20 (.return_) 21 [] (.null) := ⟨1, (congrArg (fun z => mj_at z 20) f0).trans rfl, rfl⟩
theorem e0_0 {c : mj_C} {x1 : Int32} {sh : List mj_K} {a na : Nat} (ha : sh[a]? = some (0, na, []))  : mj_EV 0 0 [some (.ref a), some (.int x1), none, none] [] sh c = mj_EV 0 5 [some (.ref a), some (.int x1), some (.int (nI 0)), some (.int (Int32.ofNat na))] [] sh c := (mj_iconst d0_0 (mj_istore_n [some (.ref a), some (.int x1), some (.int (nI 0)), none] d0_1 rfl rfl (mj_aload_n d0_2 rfl (mj_alen d0_3 ha rfl (mj_istore_n [some (.ref a), some (.int x1), some (.int (nI 0)), some (.int (Int32.ofNat na))] d0_4 rfl rfl rfl)))))
theorem e0_5 {c : mj_C} {x1 : Int32} {x2 : Int32} {x3 : Int32} {sh : List mj_K} {a na : Nat} (ha : sh[a]? = some (0, na, []))  : mj_EV 0 5 [some (.ref a), some (.int x1), some (.int x2), some (.int x3)] [] sh c = (if x3 ≤ x2 then (some (none, sh, c)) else (if mj_in x2 na = true then mj_EV 0 5 [some (.ref a), some (.int x1), some (.int (x2 + (nI 1))), some (.int x3)] [] sh (mj_u c a x2.toNatClampNeg x1) else none)) := (mj_iload_n d0_5 rfl (mj_iload_n d0_6 rfl (mj_icge d0_7 (mj_vret d0_20) (mj_aload_n d0_10 rfl (mj_iload_n d0_11 rfl (mj_iload_n d0_12 rfl (mj_iast d0_13 ha (mj_iinc [some (.ref a), some (.int x1), some (.int (x2 + (nI 1))), some (.int x3)] d0_14 rfl rfl rfl (mj_goto d0_17 rfl)))))))))
/-- java/util/Arrays.fill([IIII)V -/
theorem f27 : mj_cd 27 = mj_c27 := rfl
theorem d27_0 : mj_At 27 0 (.aload_n 0) 1 [0] (.null) := ⟨1, (congrArg (fun z => mj_at z 0) f27).trans rfl, rfl⟩
theorem d27_1 : mj_At 27 1 (.arraylength) 2 [] (.null) := ⟨1, (congrArg (fun z => mj_at z 1) f27).trans rfl, rfl⟩
theorem d27_2 : mj_At 27 2 (.iload_n 1) 3 [1] (.null) := ⟨1, (congrArg (fun z => mj_at z 2) f27).trans rfl, rfl⟩
theorem d27_3 : mj_At 27 3 (.iload_n 2) 4 [2] (.null) := ⟨1, (congrArg (fun z => mj_at z 3) f27).trans rfl, rfl⟩
theorem d27_4 : mj_At 27 4 (.invokestatic 13) 7 [0, 26, 3, 239, 240, 20] (.null) := ⟨3, (congrArg (fun z => mj_at z 4) f27).trans rfl, rfl⟩
theorem d27_7 : mj_At 27 7 (.iload_n 1) 8 [1] (.null) := ⟨1, (congrArg (fun z => mj_at z 7) f27).trans rfl, rfl⟩
theorem d27_8 : mj_At 27 8 (.istore 4) 10 [4] (.null) := ⟨2, (congrArg (fun z => mj_at z 8) f27).trans rfl, rfl⟩
theorem d27_10 : mj_At 27 10 (.iload 4) 12 [4] (.null) := ⟨2, (congrArg (fun z => mj_at z 10) f27).trans rfl, rfl⟩
theorem d27_12 : mj_At 27 12 (.iload_n 2) 13 [2] (.null) := ⟨1, (congrArg (fun z => mj_at z 12) f27).trans rfl, rfl⟩
theorem d27_13 : mj_At 27 13 (.if_icmp .ge (14)) 16 [27] (.null) := ⟨3, (congrArg (fun z => mj_at z 13) f27).trans rfl, rfl⟩
theorem d27_16 : mj_At 27 16 (.aload_n 0) 17 [0] (.null) := ⟨1, (congrArg (fun z => mj_at z 16) f27).trans rfl, rfl⟩
theorem d27_17 : mj_At 27 17 (.iload 4) 19 [4] (.null) := ⟨2, (congrArg (fun z => mj_at z 17) f27).trans rfl, rfl⟩
theorem d27_19 : mj_At 27 19 (.iload_n 3) 20 [3] (.null) := ⟨1, (congrArg (fun z => mj_at z 19) f27).trans rfl, rfl⟩
theorem d27_20 : mj_At 27 20 (.iastore) 21 [] (.null) := ⟨1, (congrArg (fun z => mj_at z 20) f27).trans rfl, rfl⟩
theorem d27_21 : mj_At 27 21 (.iinc 4 (1)) 24 [4] (.int 1) := ⟨3, (congrArg (fun z => mj_at z 21) f27).trans rfl, rfl⟩
theorem d27_24 : mj_At 27 24 (.goto (-14)) 27 [10] (.null) := ⟨3, (congrArg (fun z => mj_at z 24) f27).trans rfl, rfl⟩
theorem d27_27 : mj_At 27 27 (.return_) 28 [] (.null) := ⟨1, (congrArg (fun z => mj_at z 27) f27).trans rfl, rfl⟩
theorem e27_0 {c : mj_C} {x1 : Int32} {x2 : Int32} {x3 : Int32} {sh : List mj_K} {a na : Nat} (ha : sh[a]? = some (0, na, []))  : mj_EV 27 0 [some (.ref a), some (.int x1), some (.int x2), some (.int x3), none] [] sh c = (mj_then 27 7 [some (.ref a), some (.int x1), some (.int x2), some (.int x3), none] [] (mj_EV 26 0 [some (.int (Int32.ofNat na)), some (.int x1), some (.int x2)] [] sh c)) := (mj_aload_n d27_0 rfl (mj_alen d27_1 ha rfl (mj_iload_n d27_2 rfl (mj_iload_n d27_3 rfl (mj_invS [some (.int (Int32.ofNat na)), some (.int x1), some (.int x2)] [] d27_4 (by decide) rfl rfl rfl rfl)))))
theorem e27_7 {c : mj_C} {x1 : Int32} {x2 : Int32} {x3 : Int32} {sh : List mj_K} {a na : Nat} (ha : sh[a]? = some (0, na, []))  : mj_EV 27 7 [some (.ref a), some (.int x1), some (.int x2), some (.int x3), none] [] sh c = mj_EV 27 10 [some (.ref a), some (.int x1), some (.int x2), some (.int x3), some (.int x1)] [] sh c := (mj_iload_n d27_7 rfl (mj_istore [some (.ref a), some (.int x1), some (.int x2), some (.int x3), some (.int x1)] d27_8 rfl rfl rfl))
theorem e27_10 {c : mj_C} {x1 : Int32} {x2 : Int32} {x3 : Int32} {x4 : Int32} {sh : List mj_K} {a na : Nat} (ha : sh[a]? = some (0, na, []))  : mj_EV 27 10 [some (.ref a), some (.int x1), some (.int x2), some (.int x3), some (.int x4)] [] sh c = (if x2 ≤ x4 then (some (none, sh, c)) else (if mj_in x4 na = true then mj_EV 27 10 [some (.ref a), some (.int x1), some (.int x2), some (.int x3), some (.int (x4 + (nI 1)))] [] sh (mj_u c a x4.toNatClampNeg x3) else none)) := (mj_iload d27_10 rfl (mj_iload_n d27_12 rfl (mj_icge d27_13 (mj_vret d27_27) (mj_aload_n d27_16 rfl (mj_iload d27_17 rfl (mj_iload_n d27_19 rfl (mj_iast d27_20 ha (mj_iinc [some (.ref a), some (.int x1), some (.int x2), some (.int x3), some (.int (x4 + (nI 1)))] d27_21 rfl rfl rfl (mj_goto d27_24 rfl)))))))))
/-- java/lang/Math.min(II)I -/
theorem f38 : mj_cd 38 = mj_c38 := rfl
theorem d38_0 : mj_At 38 0 (.iload_n 0) 1 [0] (.null) := ⟨1, (congrArg (fun z => mj_at z 0) f38).trans rfl, rfl⟩
theorem d38_1 : mj_At 38 1 (.iload_n 1) 2 [1] (.null) := ⟨1, (congrArg (fun z => mj_at z 1) f38).trans rfl, rfl⟩
theorem d38_2 : mj_At 38 2 (.if_icmp .gt (7)) 5 [9] (.null) := ⟨3, (congrArg (fun z => mj_at z 2) f38).trans rfl, rfl⟩
theorem d38_5 : mj_At 38 5 (.iload_n 0) 6 [0] (.null) := ⟨1, (congrArg (fun z => mj_at z 5) f38).trans rfl, rfl⟩
theorem d38_6 : mj_At 38 6 (.goto (4)) 9 [10] (.null) := ⟨3, (congrArg (fun z => mj_at z 6) f38).trans rfl, rfl⟩
theorem d38_9 : mj_At 38 9 (.iload_n 1) 10 [1] (.null) := ⟨1, (congrArg (fun z => mj_at z 9) f38).trans rfl, rfl⟩
theorem d38_10 : mj_At 38 10 (.ireturn) 11 [0] (.null) := ⟨1, (congrArg (fun z => mj_at z 10) f38).trans rfl, rfl⟩
theorem e38_0 {c : mj_C} {x0 : Int32} {x1 : Int32} {sh : List mj_K}   : mj_EV 38 0 [some (.int x0), some (.int x1)] [] sh c = (if x1 < x0 then (some (some (.int x1), sh, c)) else (some (some (.int x0), sh, c))) := (mj_iload_n d38_0 rfl (mj_iload_n d38_1 rfl (mj_icgt d38_2 (mj_iload_n d38_9 rfl (mj_iret d38_10)) (mj_iload_n d38_5 rfl (mj_goto d38_6 (mj_iret d38_10))))))
/-- java/lang/Math.max(II)I -/
theorem f40 : mj_cd 40 = mj_c40 := rfl
theorem d40_0 : mj_At 40 0 (.iload_n 0) 1 [0] (.null) := ⟨1, (congrArg (fun z => mj_at z 0) f40).trans rfl, rfl⟩
theorem d40_1 : mj_At 40 1 (.iload_n 1) 2 [1] (.null) := ⟨1, (congrArg (fun z => mj_at z 1) f40).trans rfl, rfl⟩
theorem d40_2 : mj_At 40 2 (.if_icmp .lt (7)) 5 [9] (.null) := ⟨3, (congrArg (fun z => mj_at z 2) f40).trans rfl, rfl⟩
theorem d40_5 : mj_At 40 5 (.iload_n 0) 6 [0] (.null) := ⟨1, (congrArg (fun z => mj_at z 5) f40).trans rfl, rfl⟩
theorem d40_6 : mj_At 40 6 (.goto (4)) 9 [10] (.null) := ⟨3, (congrArg (fun z => mj_at z 6) f40).trans rfl, rfl⟩
theorem d40_9 : mj_At 40 9 (.iload_n 1) 10 [1] (.null) := ⟨1, (congrArg (fun z => mj_at z 9) f40).trans rfl, rfl⟩
theorem d40_10 : mj_At 40 10 (.ireturn) 11 [0] (.null) := ⟨1, (congrArg (fun z => mj_at z 10) f40).trans rfl, rfl⟩
theorem e40_0 {c : mj_C} {x0 : Int32} {x1 : Int32} {sh : List mj_K}   : mj_EV 40 0 [some (.int x0), some (.int x1)] [] sh c = (if x0 < x1 then (some (some (.int x1), sh, c)) else (some (some (.int x0), sh, c))) := (mj_iload_n d40_0 rfl (mj_iload_n d40_1 rfl (mj_iclt d40_2 (mj_iload_n d40_9 rfl (mj_iret d40_10)) (mj_iload_n d40_5 rfl (mj_goto d40_6 (mj_iret d40_10))))))
/-- java/lang/Math.floorMod(II)I -/
theorem f50 : mj_cd 50 = mj_c50 := rfl
theorem d50_0 : mj_At 50 0 (.iload_n 0) 1 [0] (.null) := ⟨1, (congrArg (fun z => mj_at z 0) f50).trans rfl, rfl⟩
theorem d50_1 : mj_At 50 1 (.iload_n 1) 2 [1] (.null) := ⟨1, (congrArg (fun z => mj_at z 1) f50).trans rfl, rfl⟩
theorem d50_2 : mj_At 50 2 (.irem) 3 [] (.null) := ⟨1, (congrArg (fun z => mj_at z 2) f50).trans rfl, rfl⟩
theorem d50_3 : mj_At 50 3 (.istore_n 2) 4 [2] (.null) := ⟨1, (congrArg (fun z => mj_at z 3) f50).trans rfl, rfl⟩
theorem d50_4 : mj_At 50 4 (.iload_n 0) 5 [0] (.null) := ⟨1, (congrArg (fun z => mj_at z 4) f50).trans rfl, rfl⟩
theorem d50_5 : mj_At 50 5 (.iload_n 1) 6 [1] (.null) := ⟨1, (congrArg (fun z => mj_at z 5) f50).trans rfl, rfl⟩
theorem d50_6 : mj_At 50 6 (.ixor) 7 [] (.null) := ⟨1, (congrArg (fun z => mj_at z 6) f50).trans rfl, rfl⟩
theorem d50_7 : mj_At 50 7 (.ifCond .ge (11)) 10 [18] (.null) := ⟨3, (congrArg (fun z => mj_at z 7) f50).trans rfl, rfl⟩
theorem d50_10 : mj_At 50 10 (.iload_n 2) 11 [2] (.null) := ⟨1, (congrArg (fun z => mj_at z 10) f50).trans rfl, rfl⟩
theorem d50_11 : mj_At 50 11 (.ifCond .eq (7)) 14 [18] (.null) := ⟨3, (congrArg (fun z => mj_at z 11) f50).trans rfl, rfl⟩
theorem d50_14 : mj_At 50 14 (.iload_n 2) 15 [2] (.null) := ⟨1, (congrArg (fun z => mj_at z 14) f50).trans rfl, rfl⟩
theorem d50_15 : mj_At 50 15 (.iload_n 1) 16 [1] (.null) := ⟨1, (congrArg (fun z => mj_at z 15) f50).trans rfl, rfl⟩
theorem d50_16 : mj_At 50 16 (.iadd) 17 [] (.null) := ⟨1, (congrArg (fun z => mj_at z 16) f50).trans rfl, rfl⟩
theorem d50_17 : mj_At 50 17 (.ireturn) 18 [0] (.null) := ⟨1, (congrArg (fun z => mj_at z 17) f50).trans rfl, rfl⟩
theorem d50_18 : mj_At 50 18 (.iload_n 2) 19 [2] (.null) := ⟨1, (congrArg (fun z => mj_at z 18) f50).trans rfl, rfl⟩
theorem d50_19 : mj_At 50 19 (.ireturn) 20 [0] (.null) := ⟨1, (congrArg (fun z => mj_at z 19) f50).trans rfl, rfl⟩
theorem e50_0 {c : mj_C} {x0 : Int32} {x1 : Int32} {sh : List mj_K}   : mj_EV 50 0 [some (.int x0), some (.int x1), none] [] sh c = (if (!decide (x1 = nI 0)) = true then (if nI 0 ≤ (x0 ^^^ x1) then (some (some (.int (x0 - x0 / x1 * x1)), sh, c)) else (if (x0 - x0 / x1 * x1) = nI 0 then (some (some (.int (x0 - x0 / x1 * x1)), sh, c)) else (some (some (.int ((x0 - x0 / x1 * x1) + x1)), sh, c)))) else none) := (mj_iload_n d50_0 rfl (mj_iload_n d50_1 rfl (mj_irem d50_2 (mj_istore_n [some (.int x0), some (.int x1), some (.int (x0 - x0 / x1 * x1))] d50_3 rfl rfl (mj_iload_n d50_4 rfl (mj_iload_n d50_5 rfl (mj_ixor d50_6 (mj_ifge d50_7 (mj_iload_n d50_18 rfl (mj_iret d50_19)) (mj_iload_n d50_10 rfl (mj_ifeq d50_11 (mj_iload_n d50_18 rfl (mj_iret d50_19)) (mj_iload_n d50_14 rfl (mj_iload_n d50_15 rfl (mj_iadd d50_16 (mj_iret d50_17))))))))))))))
