/-! THE CONSTRUCTORS, step by step -/
theorem c_at {pre l : List mj_K} {a : Nat} (ha : pre.length = a) (k : Nat) : (pre ++ l)[a + k]? = l[k]? := by
  subst ha
  rw [List.getElem?_append_right (by omega), Nat.add_sub_cancel_left]
theorem c_set {pre t : List mj_K} {X Y : mj_K} {a : Nat} (ha : pre.length = a) : (pre ++ X :: t).set a Y = pre ++ Y :: t := by
  subst ha
  rw [List.set_append_right _ _ (by omega), Nat.sub_self]
  rfl
theorem c_len {pre l : List mj_K} {a : Nat} (ha : pre.length = a) : (pre ++ l).length = a + l.length := by rw [List.length_append, ha]
theorem f1 : mj_cd 1 = mj_c1 := rfl
theorem d1_0 : mj_At 1 0 (.aload_n 0) 1 [0] (.null) := ⟨1, (congrArg (fun z => mj_at z 0) f1).trans rfl, rfl⟩
theorem d1_1 : mj_At 1 1 (.invokespecial 3) 4 [5, 38, 31, 32] (.null) := ⟨3, (congrArg (fun z => mj_at z 1) f1).trans rfl, rfl⟩
theorem d1_4 : mj_At 1 4 (.aload_n 0) 5 [0] (.null) := ⟨1, (congrArg (fun z => mj_at z 4) f1).trans rfl, rfl⟩
theorem d1_5 : mj_At 1 5 (.iconst (3)) 6 [] (.int 3) := ⟨1, (congrArg (fun z => mj_at z 5) f1).trans rfl, rfl⟩
theorem d1_6 : mj_At 1 6 (.putfield 9) 9 [2, 0, 0, 42] (.null) := ⟨3, (congrArg (fun z => mj_at z 6) f1).trans rfl, rfl⟩
theorem d1_9 : mj_At 1 9 (.aload_n 0) 10 [0] (.null) := ⟨1, (congrArg (fun z => mj_at z 9) f1).trans rfl, rfl⟩
theorem d1_10 : mj_At 1 10 (.sipush (300)) 13 [] (.int 300) := ⟨3, (congrArg (fun z => mj_at z 10) f1).trans rfl, rfl⟩
theorem d1_13 : mj_At 1 13 (.putfield 15) 16 [2, 1, 0, 44] (.null) := ⟨3, (congrArg (fun z => mj_at z 13) f1).trans rfl, rfl⟩
theorem d1_16 : mj_At 1 16 (.aload_n 0) 17 [0] (.null) := ⟨1, (congrArg (fun z => mj_at z 16) f1).trans rfl, rfl⟩
theorem d1_17 : mj_At 1 17 (.iconst (0)) 18 [] (.int 0) := ⟨1, (congrArg (fun z => mj_at z 17) f1).trans rfl, rfl⟩
theorem d1_18 : mj_At 1 18 (.putfield 18) 21 [2, 2, 0, 46] (.null) := ⟨3, (congrArg (fun z => mj_at z 18) f1).trans rfl, rfl⟩
theorem d1_21 : mj_At 1 21 (.aload_n 0) 22 [0] (.null) := ⟨1, (congrArg (fun z => mj_at z 21) f1).trans rfl, rfl⟩
theorem d1_22 : mj_At 1 22 (.iconst (0)) 23 [] (.int 0) := ⟨1, (congrArg (fun z => mj_at z 22) f1).trans rfl, rfl⟩
theorem d1_23 : mj_At 1 23 (.putfield 21) 26 [2, 3, 0, 48] (.null) := ⟨3, (congrArg (fun z => mj_at z 23) f1).trans rfl, rfl⟩
theorem d1_26 : mj_At 1 26 (.aload_n 0) 27 [0] (.null) := ⟨1, (congrArg (fun z => mj_at z 26) f1).trans rfl, rfl⟩
theorem d1_27 : mj_At 1 27 (.iconst (0)) 28 [] (.int 0) := ⟨1, (congrArg (fun z => mj_at z 27) f1).trans rfl, rfl⟩
theorem d1_28 : mj_At 1 28 (.putfield 24) 31 [2, 4, 0, 50] (.null) := ⟨3, (congrArg (fun z => mj_at z 28) f1).trans rfl, rfl⟩
theorem d1_31 : mj_At 1 31 (.aload_n 0) 32 [0] (.null) := ⟨1, (congrArg (fun z => mj_at z 31) f1).trans rfl, rfl⟩
theorem d1_32 : mj_At 1 32 (.sipush (640)) 35 [] (.int 640) := ⟨3, (congrArg (fun z => mj_at z 32) f1).trans rfl, rfl⟩
theorem d1_35 : mj_At 1 35 (.newarray .int) 37 [0, 83] (.null) := ⟨2, (congrArg (fun z => mj_at z 35) f1).trans rfl, rfl⟩
theorem d1_37 : mj_At 1 37 (.putfield 27) 40 [2, 5, 1, 52] (.null) := ⟨3, (congrArg (fun z => mj_at z 37) f1).trans rfl, rfl⟩
theorem d1_40 : mj_At 1 40 (.aload_n 0) 41 [0] (.null) := ⟨1, (congrArg (fun z => mj_at z 40) f1).trans rfl, rfl⟩
theorem d1_41 : mj_At 1 41 (.bipush (80)) 43 [] (.int 80) := ⟨2, (congrArg (fun z => mj_at z 41) f1).trans rfl, rfl⟩
theorem d1_43 : mj_At 1 43 (.newarray .int) 45 [0, 83] (.null) := ⟨2, (congrArg (fun z => mj_at z 43) f1).trans rfl, rfl⟩
theorem d1_45 : mj_At 1 45 (.putfield 31) 48 [2, 6, 1, 54] (.null) := ⟨3, (congrArg (fun z => mj_at z 45) f1).trans rfl, rfl⟩
theorem d1_48 : mj_At 1 48 (.aload_n 0) 49 [0] (.null) := ⟨1, (congrArg (fun z => mj_at z 48) f1).trans rfl, rfl⟩
theorem d1_49 : mj_At 1 49 (.bipush (10)) 51 [] (.int 10) := ⟨2, (congrArg (fun z => mj_at z 49) f1).trans rfl, rfl⟩
theorem d1_51 : mj_At 1 51 (.newarray .int) 53 [0, 83] (.null) := ⟨2, (congrArg (fun z => mj_at z 51) f1).trans rfl, rfl⟩
theorem d1_53 : mj_At 1 53 (.putfield 34) 56 [2, 7, 1, 56] (.null) := ⟨3, (congrArg (fun z => mj_at z 53) f1).trans rfl, rfl⟩
theorem d1_56 : mj_At 1 56 (.aload_n 0) 57 [0] (.null) := ⟨1, (congrArg (fun z => mj_at z 56) f1).trans rfl, rfl⟩
theorem d1_57 : mj_At 1 57 (.iconst (4)) 58 [] (.int 4) := ⟨1, (congrArg (fun z => mj_at z 57) f1).trans rfl, rfl⟩
theorem d1_58 : mj_At 1 58 (.newarray .int) 60 [0, 83] (.null) := ⟨2, (congrArg (fun z => mj_at z 58) f1).trans rfl, rfl⟩
theorem d1_60 : mj_At 1 60 (.putfield 37) 63 [2, 8, 1, 58] (.null) := ⟨3, (congrArg (fun z => mj_at z 60) f1).trans rfl, rfl⟩
theorem d1_63 : mj_At 1 63 (.aload_n 0) 64 [0] (.null) := ⟨1, (congrArg (fun z => mj_at z 63) f1).trans rfl, rfl⟩
theorem d1_64 : mj_At 1 64 (.iconst (4)) 65 [] (.int 4) := ⟨1, (congrArg (fun z => mj_at z 64) f1).trans rfl, rfl⟩
theorem d1_65 : mj_At 1 65 (.newarray .int) 67 [0, 83] (.null) := ⟨2, (congrArg (fun z => mj_at z 65) f1).trans rfl, rfl⟩
theorem d1_67 : mj_At 1 67 (.putfield 40) 70 [2, 9, 1, 60] (.null) := ⟨3, (congrArg (fun z => mj_at z 67) f1).trans rfl, rfl⟩
theorem d1_70 : mj_At 1 70 (.aload_n 0) 71 [0] (.null) := ⟨1, (congrArg (fun z => mj_at z 70) f1).trans rfl, rfl⟩
theorem d1_71 : mj_At 1 71 (.getfield 34) 74 [2, 7, 56] (.null) := ⟨3, (congrArg (fun z => mj_at z 71) f1).trans rfl, rfl⟩
theorem d1_74 : mj_At 1 74 (.iconst (-1)) 75 [] (.int (-1)) := ⟨1, (congrArg (fun z => mj_at z 74) f1).trans rfl, rfl⟩
theorem d1_75 : mj_At 1 75 (.invokestatic 43) 78 [0, 0, 2, 39, 40, 20] (.null) := ⟨3, (congrArg (fun z => mj_at z 75) f1).trans rfl, rfl⟩
theorem d1_78 : mj_At 1 78 (.aload_n 0) 79 [0] (.null) := ⟨1, (congrArg (fun z => mj_at z 78) f1).trans rfl, rfl⟩
theorem d1_79 : mj_At 1 79 (.getfield 37) 82 [2, 8, 58] (.null) := ⟨3, (congrArg (fun z => mj_at z 79) f1).trans rfl, rfl⟩
theorem d1_82 : mj_At 1 82 (.iconst (-1)) 83 [] (.int (-1)) := ⟨1, (congrArg (fun z => mj_at z 82) f1).trans rfl, rfl⟩
theorem d1_83 : mj_At 1 83 (.invokestatic 43) 86 [0, 0, 2, 39, 40, 20] (.null) := ⟨3, (congrArg (fun z => mj_at z 83) f1).trans rfl, rfl⟩
theorem d1_86 : mj_At 1 86 (.return_) 87 [] (.null) := ⟨1, (congrArg (fun z => mj_at z 86) f1).trans rfl, rfl⟩
theorem u1_0 {pre : List mj_K} {a : Nat} {c : mj_C} (ha : pre.length = a) : mj_EV 1 0 [some (.ref a)] [] (pre ++ [(5, 10, [none, none, none, none, none, some none, some none, some none, some none, some none])]) c = mj_then 1 78 [some (.ref a)] [] (mj_EV 0 0 [some (.ref (a + 3)), some (.int (-1)), none, none] [] (pre ++ [(5, 10, [none, none, none, none, none, some (some (a + 1)), some (some (a + 2)), some (some (a + 3)), some (some (a + 4)), some (some (a + 5))]), (0, 640, []), (0, 80, []), (0, 10, []), (0, 4, []), (0, 4, [])]) (mj_z (mj_z (mj_z (mj_z (mj_z (mj_u (mj_u (mj_u (mj_u (mj_u c a 0 (nI 3)) a 1 (nI 300)) a 2 (nI 0)) a 3 (nI 0)) a 4 (nI 0)) (a + 1)) (a + 2)) (a + 3)) (a + 4)) (a + 5))) := (mj_aload_n d1_0 rfl (mj_oini (p1 := 0) d1_1 (mj_aload_n d1_4 rfl (mj_iconst d1_5 (mj_putI d1_6 (c_at ha 0) rfl (mj_aload_n d1_9 rfl (mj_sipush d1_10 (mj_putI d1_13 (c_at ha 0) rfl (mj_aload_n d1_16 rfl (mj_iconst d1_17 (mj_putI d1_18 (c_at ha 0) rfl (mj_aload_n d1_21 rfl (mj_iconst d1_22 (mj_putI d1_23 (c_at ha 0) rfl (mj_aload_n d1_26 rfl (mj_iconst d1_27 (mj_putI d1_28 (c_at ha 0) rfl (mj_aload_n d1_31 rfl (mj_sipush d1_32 (mj_newa (z := (a + 1)) (pre ++ [(5, 10, [none, none, none, none, none, some none, some none, some none, some none, some none]), (0, 640, [])]) d1_35 rfl rfl (c_len ha) (List.append_assoc _ _ _) (mj_putR (pre ++ [(5, 10, [none, none, none, none, none, some (some (a + 1)), some none, some none, some none, some none]), (0, 640, [])]) d1_37 (c_at ha 0) rfl (c_set ha) (mj_aload_n d1_40 rfl (mj_bipush d1_41 (mj_newa (z := (a + 2)) (pre ++ [(5, 10, [none, none, none, none, none, some (some (a + 1)), some none, some none, some none, some none]), (0, 640, []), (0, 80, [])]) d1_43 rfl rfl (c_len ha) (List.append_assoc _ _ _) (mj_putR (pre ++ [(5, 10, [none, none, none, none, none, some (some (a + 1)), some (some (a + 2)), some none, some none, some none]), (0, 640, []), (0, 80, [])]) d1_45 (c_at ha 0) rfl (c_set ha) (mj_aload_n d1_48 rfl (mj_bipush d1_49 (mj_newa (z := (a + 3)) (pre ++ [(5, 10, [none, none, none, none, none, some (some (a + 1)), some (some (a + 2)), some none, some none, some none]), (0, 640, []), (0, 80, []), (0, 10, [])]) d1_51 rfl rfl (c_len ha) (List.append_assoc _ _ _) (mj_putR (pre ++ [(5, 10, [none, none, none, none, none, some (some (a + 1)), some (some (a + 2)), some (some (a + 3)), some none, some none]), (0, 640, []), (0, 80, []), (0, 10, [])]) d1_53 (c_at ha 0) rfl (c_set ha) (mj_aload_n d1_56 rfl (mj_iconst d1_57 (mj_newa (z := (a + 4)) (pre ++ [(5, 10, [none, none, none, none, none, some (some (a + 1)), some (some (a + 2)), some (some (a + 3)), some none, some none]), (0, 640, []), (0, 80, []), (0, 10, []), (0, 4, [])]) d1_58 rfl rfl (c_len ha) (List.append_assoc _ _ _) (mj_putR (pre ++ [(5, 10, [none, none, none, none, none, some (some (a + 1)), some (some (a + 2)), some (some (a + 3)), some (some (a + 4)), some none]), (0, 640, []), (0, 80, []), (0, 10, []), (0, 4, [])]) d1_60 (c_at ha 0) rfl (c_set ha) (mj_aload_n d1_63 rfl (mj_iconst d1_64 (mj_newa (z := (a + 5)) (pre ++ [(5, 10, [none, none, none, none, none, some (some (a + 1)), some (some (a + 2)), some (some (a + 3)), some (some (a + 4)), some none]), (0, 640, []), (0, 80, []), (0, 10, []), (0, 4, []), (0, 4, [])]) d1_65 rfl rfl (c_len ha) (List.append_assoc _ _ _) (mj_putR (pre ++ [(5, 10, [none, none, none, none, none, some (some (a + 1)), some (some (a + 2)), some (some (a + 3)), some (some (a + 4)), some (some (a + 5))]), (0, 640, []), (0, 80, []), (0, 10, []), (0, 4, []), (0, 4, [])]) d1_67 (c_at ha 0) rfl (c_set ha) (mj_aload_n d1_70 rfl (mj_getR d1_71 (c_at ha 0) rfl (mj_iconst d1_74 (mj_invS [some (.ref (a + 3)), some (.int (-1)), none, none] [] d1_75 (by decide) rfl rfl rfl rfl)))))))))))))))))))))))))))))))))))))))))
theorem u1_78 {pre : List mj_K} {a : Nat} {c : mj_C} (ha : pre.length = a) : mj_EV 1 78 [some (.ref a)] [] (pre ++ [(5, 10, [none, none, none, none, none, some (some (a + 1)), some (some (a + 2)), some (some (a + 3)), some (some (a + 4)), some (some (a + 5))]), (0, 640, []), (0, 80, []), (0, 10, []), (0, 4, []), (0, 4, [])]) c = mj_then 1 86 [some (.ref a)] [] (mj_EV 0 0 [some (.ref (a + 4)), some (.int (-1)), none, none] [] (pre ++ [(5, 10, [none, none, none, none, none, some (some (a + 1)), some (some (a + 2)), some (some (a + 3)), some (some (a + 4)), some (some (a + 5))]), (0, 640, []), (0, 80, []), (0, 10, []), (0, 4, []), (0, 4, [])]) c) := (mj_aload_n d1_78 rfl (mj_getR d1_79 (c_at ha 0) rfl (mj_iconst d1_82 (mj_invS [some (.ref (a + 4)), some (.int (-1)), none, none] [] d1_83 (by decide) rfl rfl rfl rfl))))
theorem u1_86 {pre : List mj_K} {a : Nat} {c : mj_C} (ha : pre.length = a) : mj_EV 1 86 [some (.ref a)] [] (pre ++ [(5, 10, [none, none, none, none, none, some (some (a + 1)), some (some (a + 2)), some (some (a + 3)), some (some (a + 4)), some (some (a + 5))]), (0, 640, []), (0, 80, []), (0, 10, []), (0, 4, []), (0, 4, [])]) c = some (none, (pre ++ [(5, 10, [none, none, none, none, none, some (some (a + 1)), some (some (a + 2)), some (some (a + 3)), some (some (a + 4)), some (some (a + 5))]), (0, 640, []), (0, 80, []), (0, 10, []), (0, 4, []), (0, 4, [])]), c) := (mj_vret d1_86)
theorem f3 : mj_cd 3 = mj_c3 := rfl
theorem d3_0 : mj_At 3 0 (.aload_n 0) 1 [0] (.null) := ⟨1, (congrArg (fun z => mj_at z 0) f3).trans rfl, rfl⟩
theorem d3_1 : mj_At 3 1 (.invokespecial 3) 4 [5, 105, 31, 32] (.null) := ⟨3, (congrArg (fun z => mj_at z 1) f3).trans rfl, rfl⟩
theorem d3_4 : mj_At 3 4 (.aload_n 0) 5 [0] (.null) := ⟨1, (congrArg (fun z => mj_at z 4) f3).trans rfl, rfl⟩
theorem d3_5 : mj_At 3 5 (.iconst (0)) 6 [] (.int 0) := ⟨1, (congrArg (fun z => mj_at z 5) f3).trans rfl, rfl⟩
theorem d3_6 : mj_At 3 6 (.putfield 9) 9 [0, 0, 0, 106] (.null) := ⟨3, (congrArg (fun z => mj_at z 6) f3).trans rfl, rfl⟩
theorem d3_9 : mj_At 3 9 (.aload_n 0) 10 [0] (.null) := ⟨1, (congrArg (fun z => mj_at z 9) f3).trans rfl, rfl⟩
theorem d3_10 : mj_At 3 10 (.iconst (0)) 11 [] (.int 0) := ⟨1, (congrArg (fun z => mj_at z 10) f3).trans rfl, rfl⟩
theorem d3_11 : mj_At 3 11 (.putfield 15) 14 [0, 1, 0, 107] (.null) := ⟨3, (congrArg (fun z => mj_at z 11) f3).trans rfl, rfl⟩
theorem d3_14 : mj_At 3 14 (.aload_n 0) 15 [0] (.null) := ⟨1, (congrArg (fun z => mj_at z 14) f3).trans rfl, rfl⟩
theorem d3_15 : mj_At 3 15 (.bipush (8)) 17 [] (.int 8) := ⟨2, (congrArg (fun z => mj_at z 15) f3).trans rfl, rfl⟩
theorem d3_17 : mj_At 3 17 (.newarray .int) 19 [0, 83] (.null) := ⟨2, (congrArg (fun z => mj_at z 17) f3).trans rfl, rfl⟩
theorem d3_19 : mj_At 3 19 (.putfield 18) 22 [0, 2, 1, 108] (.null) := ⟨3, (congrArg (fun z => mj_at z 19) f3).trans rfl, rfl⟩
theorem d3_22 : mj_At 3 22 (.aload_n 0) 23 [0] (.null) := ⟨1, (congrArg (fun z => mj_at z 22) f3).trans rfl, rfl⟩
theorem d3_23 : mj_At 3 23 (.iconst (0)) 24 [] (.int 0) := ⟨1, (congrArg (fun z => mj_at z 23) f3).trans rfl, rfl⟩
theorem d3_24 : mj_At 3 24 (.putfield 22) 27 [0, 3, 0, 109] (.null) := ⟨3, (congrArg (fun z => mj_at z 24) f3).trans rfl, rfl⟩
theorem d3_27 : mj_At 3 27 (.aload_n 0) 28 [0] (.null) := ⟨1, (congrArg (fun z => mj_at z 27) f3).trans rfl, rfl⟩
theorem d3_28 : mj_At 3 28 (.iconst (0)) 29 [] (.int 0) := ⟨1, (congrArg (fun z => mj_at z 28) f3).trans rfl, rfl⟩
theorem d3_29 : mj_At 3 29 (.putfield 25) 32 [0, 4, 0, 110] (.null) := ⟨3, (congrArg (fun z => mj_at z 29) f3).trans rfl, rfl⟩
theorem d3_32 : mj_At 3 32 (.return_) 33 [] (.null) := ⟨1, (congrArg (fun z => mj_at z 32) f3).trans rfl, rfl⟩
theorem u3_0 {pre : List mj_K} {a : Nat} {c : mj_C} (ha : pre.length = a) : mj_EV 3 0 [some (.ref a)] [] (pre ++ [(3, 5, [none, none, some none, none, none])]) c = some (none, (pre ++ [(3, 5, [none, none, some (some (a + 1)), none, none]), (0, 8, [])]), (mj_u (mj_u (mj_z (mj_u (mj_u c a 0 (nI 0)) a 1 (nI 0)) (a + 1)) a 3 (nI 0)) a 4 (nI 0))) := (mj_aload_n d3_0 rfl (mj_oini (p1 := 0) d3_1 (mj_aload_n d3_4 rfl (mj_iconst d3_5 (mj_putI d3_6 (c_at ha 0) rfl (mj_aload_n d3_9 rfl (mj_iconst d3_10 (mj_putI d3_11 (c_at ha 0) rfl (mj_aload_n d3_14 rfl (mj_bipush d3_15 (mj_newa (z := (a + 1)) (pre ++ [(3, 5, [none, none, some none, none, none]), (0, 8, [])]) d3_17 rfl rfl (c_len ha) (List.append_assoc _ _ _) (mj_putR (pre ++ [(3, 5, [none, none, some (some (a + 1)), none, none]), (0, 8, [])]) d3_19 (c_at ha 0) rfl (c_set ha) (mj_aload_n d3_22 rfl (mj_iconst d3_23 (mj_putI d3_24 (c_at ha 0) rfl (mj_aload_n d3_27 rfl (mj_iconst d3_28 (mj_putI d3_29 (c_at ha 0) rfl (mj_vret d3_32)))))))))))))))))))
