/-- SqueezedLinesLaw.same.(LSqueezedLines;I[I[I[I[I)Z -/
theorem f102 : mj_cd 102 = mj_c102 := rfl
set_option maxRecDepth 20000 in
theorem d102_0 : mj_At 102 0 (.iconst (0)) 1 [] (.int 0) := ⟨1, (congrArg (fun z => mj_at z 0) f102).trans rfl, rfl⟩
set_option maxRecDepth 20000 in
theorem d102_1 : mj_At 102 1 (.istore 6) 3 [6] (.null) := ⟨2, (congrArg (fun z => mj_at z 1) f102).trans rfl, rfl⟩
set_option maxRecDepth 20000 in
theorem d102_3 : mj_At 102 3 (.iconst (0)) 4 [] (.int 0) := ⟨1, (congrArg (fun z => mj_at z 3) f102).trans rfl, rfl⟩
set_option maxRecDepth 20000 in
theorem d102_4 : mj_At 102 4 (.istore 7) 6 [7] (.null) := ⟨2, (congrArg (fun z => mj_at z 4) f102).trans rfl, rfl⟩
set_option maxRecDepth 20000 in
theorem d102_6 : mj_At 102 6 (.bipush (-6)) 8 [] (.int (-6)) := ⟨2, (congrArg (fun z => mj_at z 6) f102).trans rfl, rfl⟩
set_option maxRecDepth 20000 in
theorem d102_8 : mj_At 102 8 (.istore 8) 10 [8] (.null) := ⟨2, (congrArg (fun z => mj_at z 8) f102).trans rfl, rfl⟩
set_option maxRecDepth 20000 in
theorem d102_10 : mj_At 102 10 (.iconst (0)) 11 [] (.int 0) := ⟨1, (congrArg (fun z => mj_at z 10) f102).trans rfl, rfl⟩
set_option maxRecDepth 20000 in
theorem d102_11 : mj_At 102 11 (.istore 9) 13 [9] (.null) := ⟨2, (congrArg (fun z => mj_at z 11) f102).trans rfl, rfl⟩
set_option maxRecDepth 20000 in
theorem d102_13 : mj_At 102 13 (.iconst (5)) 14 [] (.int 5) := ⟨1, (congrArg (fun z => mj_at z 13) f102).trans rfl, rfl⟩
set_option maxRecDepth 20000 in
theorem d102_14 : mj_At 102 14 (.newarray .int) 16 [0, 83] (.null) := ⟨2, (congrArg (fun z => mj_at z 14) f102).trans rfl, rfl⟩
set_option maxRecDepth 20000 in
theorem d102_16 : mj_At 102 16 (.astore 10) 18 [10] (.null) := ⟨2, (congrArg (fun z => mj_at z 16) f102).trans rfl, rfl⟩
set_option maxRecDepth 20000 in
theorem d102_18 : mj_At 102 18 (.iconst (0)) 19 [] (.int 0) := ⟨1, (congrArg (fun z => mj_at z 18) f102).trans rfl, rfl⟩
set_option maxRecDepth 20000 in
theorem d102_19 : mj_At 102 19 (.istore 11) 21 [11] (.null) := ⟨2, (congrArg (fun z => mj_at z 19) f102).trans rfl, rfl⟩
set_option maxRecDepth 20000 in
theorem d102_21 : mj_At 102 21 (.iload 11) 23 [11] (.null) := ⟨2, (congrArg (fun z => mj_at z 21) f102).trans rfl, rfl⟩
set_option maxRecDepth 20000 in
theorem d102_23 : mj_At 102 23 (.iconst (3)) 24 [] (.int 3) := ⟨1, (congrArg (fun z => mj_at z 23) f102).trans rfl, rfl⟩
set_option maxRecDepth 20000 in
theorem d102_24 : mj_At 102 24 (.if_icmp .ge (392)) 27 [416] (.null) := ⟨3, (congrArg (fun z => mj_at z 24) f102).trans rfl, rfl⟩
set_option maxRecDepth 20000 in
theorem d102_27 : mj_At 102 27 (.iload 11) 29 [11] (.null) := ⟨2, (congrArg (fun z => mj_at z 27) f102).trans rfl, rfl⟩
set_option maxRecDepth 20000 in
theorem d102_29 : mj_At 102 29 (.aload_n 3) 30 [3] (.null) := ⟨1, (congrArg (fun z => mj_at z 29) f102).trans rfl, rfl⟩
set_option maxRecDepth 20000 in
theorem d102_30 : mj_At 102 30 (.aload 4) 32 [4] (.null) := ⟨2, (congrArg (fun z => mj_at z 30) f102).trans rfl, rfl⟩
set_option maxRecDepth 20000 in
theorem d102_32 : mj_At 102 32 (.aload 5) 34 [5] (.null) := ⟨2, (congrArg (fun z => mj_at z 32) f102).trans rfl, rfl⟩
set_option maxRecDepth 20000 in
theorem d102_34 : mj_At 102 34 (.invokestatic 29) 37 [0, 94, 4, 368, 369, 17] (.null) := ⟨3, (congrArg (fun z => mj_at z 34) f102).trans rfl, rfl⟩
set_option maxRecDepth 20000 in
theorem d102_37 : mj_At 102 37 (.astore 12) 39 [12] (.null) := ⟨2, (congrArg (fun z => mj_at z 37) f102).trans rfl, rfl⟩
set_option maxRecDepth 20000 in
theorem d102_39 : mj_At 102 39 (.aload_n 2) 40 [2] (.null) := ⟨1, (congrArg (fun z => mj_at z 39) f102).trans rfl, rfl⟩
set_option maxRecDepth 20000 in
theorem d102_40 : mj_At 102 40 (.bipush (6)) 42 [] (.int 6) := ⟨2, (congrArg (fun z => mj_at z 40) f102).trans rfl, rfl⟩
set_option maxRecDepth 20000 in
theorem d102_42 : mj_At 102 42 (.iload 11) 44 [11] (.null) := ⟨2, (congrArg (fun z => mj_at z 42) f102).trans rfl, rfl⟩
set_option maxRecDepth 20000 in
theorem d102_44 : mj_At 102 44 (.iadd) 45 [] (.null) := ⟨1, (congrArg (fun z => mj_at z 44) f102).trans rfl, rfl⟩
set_option maxRecDepth 20000 in
theorem d102_45 : mj_At 102 45 (.iaload) 46 [] (.null) := ⟨1, (congrArg (fun z => mj_at z 45) f102).trans rfl, rfl⟩
set_option maxRecDepth 20000 in
theorem d102_46 : mj_At 102 46 (.istore 13) 48 [13] (.null) := ⟨2, (congrArg (fun z => mj_at z 46) f102).trans rfl, rfl⟩
set_option maxRecDepth 20000 in
theorem d102_48 : mj_At 102 48 (.iload 13) 50 [13] (.null) := ⟨2, (congrArg (fun z => mj_at z 48) f102).trans rfl, rfl⟩
set_option maxRecDepth 20000 in
theorem d102_50 : mj_At 102 50 (.ifCond .ge (16)) 53 [66] (.null) := ⟨3, (congrArg (fun z => mj_at z 50) f102).trans rfl, rfl⟩
set_option maxRecDepth 20000 in
theorem d102_53 : mj_At 102 53 (.aload_n 0) 54 [0] (.null) := ⟨1, (congrArg (fun z => mj_at z 53) f102).trans rfl, rfl⟩
set_option maxRecDepth 20000 in
theorem d102_54 : mj_At 102 54 (.iload 11) 56 [11] (.null) := ⟨2, (congrArg (fun z => mj_at z 54) f102).trans rfl, rfl⟩
set_option maxRecDepth 20000 in
theorem d102_56 : mj_At 102 56 (.iconst (0)) 57 [] (.int 0) := ⟨1, (congrArg (fun z => mj_at z 56) f102).trans rfl, rfl⟩
set_option maxRecDepth 20000 in
theorem d102_57 : mj_At 102 57 (.invokevirtual 33) 60 [1, 62, 3, 3, 395, 396, 397, 18] (.null) := ⟨3, (congrArg (fun z => mj_at z 57) f102).trans rfl, rfl⟩
set_option maxRecDepth 20000 in
theorem d102_60 : mj_At 102 60 (.iconst (-1)) 61 [] (.int (-1)) := ⟨1, (congrArg (fun z => mj_at z 60) f102).trans rfl, rfl⟩
set_option maxRecDepth 20000 in
theorem d102_61 : mj_At 102 61 (.if_icmp .eq (349)) 64 [410] (.null) := ⟨3, (congrArg (fun z => mj_at z 61) f102).trans rfl, rfl⟩
set_option maxRecDepth 20000 in
theorem d102_64 : mj_At 102 64 (.iconst (0)) 65 [] (.int 0) := ⟨1, (congrArg (fun z => mj_at z 64) f102).trans rfl, rfl⟩
set_option maxRecDepth 20000 in
theorem d102_65 : mj_At 102 65 (.ireturn) 66 [1] (.null) := ⟨1, (congrArg (fun z => mj_at z 65) f102).trans rfl, rfl⟩
set_option maxRecDepth 20000 in
theorem d102_66 : mj_At 102 66 (.aload_n 2) 67 [2] (.null) := ⟨1, (congrArg (fun z => mj_at z 66) f102).trans rfl, rfl⟩
set_option maxRecDepth 20000 in
theorem d102_67 : mj_At 102 67 (.iconst (0)) 68 [] (.int 0) := ⟨1, (congrArg (fun z => mj_at z 67) f102).trans rfl, rfl⟩
set_option maxRecDepth 20000 in
theorem d102_68 : mj_At 102 68 (.iaload) 69 [] (.null) := ⟨1, (congrArg (fun z => mj_at z 68) f102).trans rfl, rfl⟩
set_option maxRecDepth 20000 in
theorem d102_69 : mj_At 102 69 (.aload 12) 71 [12] (.null) := ⟨2, (congrArg (fun z => mj_at z 69) f102).trans rfl, rfl⟩
set_option maxRecDepth 20000 in
theorem d102_71 : mj_At 102 71 (.invokestatic 39) 74 [0, 100, 2, 386, 387, 17] (.null) := ⟨3, (congrArg (fun z => mj_at z 71) f102).trans rfl, rfl⟩
set_option maxRecDepth 20000 in
theorem d102_74 : mj_At 102 74 (.istore 14) 76 [14] (.null) := ⟨2, (congrArg (fun z => mj_at z 74) f102).trans rfl, rfl⟩
set_option maxRecDepth 20000 in
theorem d102_76 : mj_At 102 76 (.iload 13) 78 [13] (.null) := ⟨2, (congrArg (fun z => mj_at z 76) f102).trans rfl, rfl⟩
set_option maxRecDepth 20000 in
theorem d102_78 : mj_At 102 78 (.aload 12) 80 [12] (.null) := ⟨2, (congrArg (fun z => mj_at z 78) f102).trans rfl, rfl⟩
set_option maxRecDepth 20000 in
theorem d102_80 : mj_At 102 80 (.invokestatic 26) 83 [0, 99, 2, 383, 384, 17] (.null) := ⟨3, (congrArg (fun z => mj_at z 80) f102).trans rfl, rfl⟩
set_option maxRecDepth 20000 in
theorem d102_83 : mj_At 102 83 (.iload 14) 85 [14] (.null) := ⟨2, (congrArg (fun z => mj_at z 83) f102).trans rfl, rfl⟩
set_option maxRecDepth 20000 in
theorem d102_85 : mj_At 102 85 (.aload 12) 87 [12] (.null) := ⟨2, (congrArg (fun z => mj_at z 85) f102).trans rfl, rfl⟩
set_option maxRecDepth 20000 in
theorem d102_87 : mj_At 102 87 (.invokestatic 26) 90 [0, 99, 2, 383, 384, 17] (.null) := ⟨3, (congrArg (fun z => mj_at z 87) f102).trans rfl, rfl⟩
set_option maxRecDepth 20000 in
theorem d102_90 : mj_At 102 90 (.isub) 91 [] (.null) := ⟨1, (congrArg (fun z => mj_at z 90) f102).trans rfl, rfl⟩
set_option maxRecDepth 20000 in
theorem d102_91 : mj_At 102 91 (.istore 15) 93 [15] (.null) := ⟨2, (congrArg (fun z => mj_at z 91) f102).trans rfl, rfl⟩
set_option maxRecDepth 20000 in
theorem d102_93 : mj_At 102 93 (.iinc 6 (1)) 96 [6] (.int 1) := ⟨3, (congrArg (fun z => mj_at z 93) f102).trans rfl, rfl⟩
set_option maxRecDepth 20000 in
theorem d102_96 : mj_At 102 96 (.iload 7) 98 [7] (.null) := ⟨2, (congrArg (fun z => mj_at z 96) f102).trans rfl, rfl⟩
set_option maxRecDepth 20000 in
theorem d102_98 : mj_At 102 98 (.iload 13) 100 [13] (.null) := ⟨2, (congrArg (fun z => mj_at z 98) f102).trans rfl, rfl⟩
set_option maxRecDepth 20000 in
theorem d102_100 : mj_At 102 100 (.aload 12) 102 [12] (.null) := ⟨2, (congrArg (fun z => mj_at z 100) f102).trans rfl, rfl⟩
set_option maxRecDepth 20000 in
theorem d102_102 : mj_At 102 102 (.invokestatic 20) 105 [0, 97, 2, 374, 375, 17] (.null) := ⟨3, (congrArg (fun z => mj_at z 102) f102).trans rfl, rfl⟩
set_option maxRecDepth 20000 in
theorem d102_105 : mj_At 102 105 (.invokestatic 23) 108 [0, 98, 1, 380, 381, 17] (.null) := ⟨3, (congrArg (fun z => mj_at z 105) f102).trans rfl, rfl⟩
set_option maxRecDepth 20000 in
theorem d102_108 : mj_At 102 108 (.iadd) 109 [] (.null) := ⟨1, (congrArg (fun z => mj_at z 108) f102).trans rfl, rfl⟩
set_option maxRecDepth 20000 in
theorem d102_109 : mj_At 102 109 (.istore 7) 111 [7] (.null) := ⟨2, (congrArg (fun z => mj_at z 109) f102).trans rfl, rfl⟩
set_option maxRecDepth 20000 in
theorem d102_111 : mj_At 102 111 (.iload 15) 113 [15] (.null) := ⟨2, (congrArg (fun z => mj_at z 111) f102).trans rfl, rfl⟩
set_option maxRecDepth 20000 in
theorem d102_113 : mj_At 102 113 (.iload 9) 115 [9] (.null) := ⟨2, (congrArg (fun z => mj_at z 113) f102).trans rfl, rfl⟩
set_option maxRecDepth 20000 in
theorem d102_115 : mj_At 102 115 (.if_icmp .le (11)) 118 [126] (.null) := ⟨3, (congrArg (fun z => mj_at z 115) f102).trans rfl, rfl⟩
set_option maxRecDepth 20000 in
theorem d102_118 : mj_At 102 118 (.iload 15) 120 [15] (.null) := ⟨2, (congrArg (fun z => mj_at z 118) f102).trans rfl, rfl⟩
set_option maxRecDepth 20000 in
theorem d102_120 : mj_At 102 120 (.istore 9) 122 [9] (.null) := ⟨2, (congrArg (fun z => mj_at z 120) f102).trans rfl, rfl⟩
set_option maxRecDepth 20000 in
theorem d102_122 : mj_At 102 122 (.iload 11) 124 [11] (.null) := ⟨2, (congrArg (fun z => mj_at z 122) f102).trans rfl, rfl⟩
set_option maxRecDepth 20000 in
theorem d102_124 : mj_At 102 124 (.istore 8) 126 [8] (.null) := ⟨2, (congrArg (fun z => mj_at z 124) f102).trans rfl, rfl⟩
set_option maxRecDepth 20000 in
theorem d102_126 : mj_At 102 126 (.aload_n 0) 127 [0] (.null) := ⟨1, (congrArg (fun z => mj_at z 126) f102).trans rfl, rfl⟩
set_option maxRecDepth 20000 in
theorem d102_127 : mj_At 102 127 (.iload 11) 129 [11] (.null) := ⟨2, (congrArg (fun z => mj_at z 127) f102).trans rfl, rfl⟩
set_option maxRecDepth 20000 in
theorem d102_129 : mj_At 102 129 (.iconst (0)) 130 [] (.int 0) := ⟨1, (congrArg (fun z => mj_at z 129) f102).trans rfl, rfl⟩
set_option maxRecDepth 20000 in
theorem d102_130 : mj_At 102 130 (.invokevirtual 33) 133 [1, 62, 3, 3, 395, 396, 397, 18] (.null) := ⟨3, (congrArg (fun z => mj_at z 130) f102).trans rfl, rfl⟩
set_option maxRecDepth 20000 in
theorem d102_133 : mj_At 102 133 (.iload 13) 135 [13] (.null) := ⟨2, (congrArg (fun z => mj_at z 133) f102).trans rfl, rfl⟩
set_option maxRecDepth 20000 in
theorem d102_135 : mj_At 102 135 (.if_icmp .ne (66)) 138 [201] (.null) := ⟨3, (congrArg (fun z => mj_at z 135) f102).trans rfl, rfl⟩
set_option maxRecDepth 20000 in
theorem d102_138 : mj_At 102 138 (.aload_n 0) 139 [0] (.null) := ⟨1, (congrArg (fun z => mj_at z 138) f102).trans rfl, rfl⟩
set_option maxRecDepth 20000 in
theorem d102_139 : mj_At 102 139 (.iload 11) 141 [11] (.null) := ⟨2, (congrArg (fun z => mj_at z 139) f102).trans rfl, rfl⟩
set_option maxRecDepth 20000 in
theorem d102_141 : mj_At 102 141 (.iconst (1)) 142 [] (.int 1) := ⟨1, (congrArg (fun z => mj_at z 141) f102).trans rfl, rfl⟩
set_option maxRecDepth 20000 in
theorem d102_142 : mj_At 102 142 (.invokevirtual 33) 145 [1, 62, 3, 3, 395, 396, 397, 18] (.null) := ⟨3, (congrArg (fun z => mj_at z 142) f102).trans rfl, rfl⟩
set_option maxRecDepth 20000 in
theorem d102_145 : mj_At 102 145 (.iload 13) 147 [13] (.null) := ⟨2, (congrArg (fun z => mj_at z 145) f102).trans rfl, rfl⟩
set_option maxRecDepth 20000 in
theorem d102_147 : mj_At 102 147 (.aload 12) 149 [12] (.null) := ⟨2, (congrArg (fun z => mj_at z 147) f102).trans rfl, rfl⟩
set_option maxRecDepth 20000 in
theorem d102_149 : mj_At 102 149 (.invokestatic 26) 152 [0, 99, 2, 383, 384, 17] (.null) := ⟨3, (congrArg (fun z => mj_at z 149) f102).trans rfl, rfl⟩
set_option maxRecDepth 20000 in
theorem d102_152 : mj_At 102 152 (.if_icmp .ne (49)) 155 [201] (.null) := ⟨3, (congrArg (fun z => mj_at z 152) f102).trans rfl, rfl⟩
set_option maxRecDepth 20000 in
theorem d102_155 : mj_At 102 155 (.aload_n 0) 156 [0] (.null) := ⟨1, (congrArg (fun z => mj_at z 155) f102).trans rfl, rfl⟩
set_option maxRecDepth 20000 in
theorem d102_156 : mj_At 102 156 (.iload 11) 158 [11] (.null) := ⟨2, (congrArg (fun z => mj_at z 156) f102).trans rfl, rfl⟩
set_option maxRecDepth 20000 in
theorem d102_158 : mj_At 102 158 (.iconst (2)) 159 [] (.int 2) := ⟨1, (congrArg (fun z => mj_at z 158) f102).trans rfl, rfl⟩
set_option maxRecDepth 20000 in
theorem d102_159 : mj_At 102 159 (.invokevirtual 33) 162 [1, 62, 3, 3, 395, 396, 397, 18] (.null) := ⟨3, (congrArg (fun z => mj_at z 159) f102).trans rfl, rfl⟩
set_option maxRecDepth 20000 in
theorem d102_162 : mj_At 102 162 (.iload 13) 164 [13] (.null) := ⟨2, (congrArg (fun z => mj_at z 162) f102).trans rfl, rfl⟩
set_option maxRecDepth 20000 in
theorem d102_164 : mj_At 102 164 (.aload 12) 166 [12] (.null) := ⟨2, (congrArg (fun z => mj_at z 164) f102).trans rfl, rfl⟩
set_option maxRecDepth 20000 in
theorem d102_166 : mj_At 102 166 (.invokestatic 20) 169 [0, 97, 2, 374, 375, 17] (.null) := ⟨3, (congrArg (fun z => mj_at z 166) f102).trans rfl, rfl⟩
set_option maxRecDepth 20000 in
theorem d102_169 : mj_At 102 169 (.if_icmp .ne (32)) 172 [201] (.null) := ⟨3, (congrArg (fun z => mj_at z 169) f102).trans rfl, rfl⟩
set_option maxRecDepth 20000 in
theorem d102_172 : mj_At 102 172 (.aload_n 0) 173 [0] (.null) := ⟨1, (congrArg (fun z => mj_at z 172) f102).trans rfl, rfl⟩
set_option maxRecDepth 20000 in
theorem d102_173 : mj_At 102 173 (.iload 11) 175 [11] (.null) := ⟨2, (congrArg (fun z => mj_at z 173) f102).trans rfl, rfl⟩
set_option maxRecDepth 20000 in
theorem d102_175 : mj_At 102 175 (.iconst (3)) 176 [] (.int 3) := ⟨1, (congrArg (fun z => mj_at z 175) f102).trans rfl, rfl⟩
set_option maxRecDepth 20000 in
theorem d102_176 : mj_At 102 176 (.invokevirtual 33) 179 [1, 62, 3, 3, 395, 396, 397, 18] (.null) := ⟨3, (congrArg (fun z => mj_at z 176) f102).trans rfl, rfl⟩
set_option maxRecDepth 20000 in
theorem d102_179 : mj_At 102 179 (.iload 14) 181 [14] (.null) := ⟨2, (congrArg (fun z => mj_at z 179) f102).trans rfl, rfl⟩
set_option maxRecDepth 20000 in
theorem d102_181 : mj_At 102 181 (.if_icmp .ne (20)) 184 [201] (.null) := ⟨3, (congrArg (fun z => mj_at z 181) f102).trans rfl, rfl⟩
set_option maxRecDepth 20000 in
theorem d102_184 : mj_At 102 184 (.aload_n 0) 185 [0] (.null) := ⟨1, (congrArg (fun z => mj_at z 184) f102).trans rfl, rfl⟩
set_option maxRecDepth 20000 in
theorem d102_185 : mj_At 102 185 (.iload 11) 187 [11] (.null) := ⟨2, (congrArg (fun z => mj_at z 185) f102).trans rfl, rfl⟩
set_option maxRecDepth 20000 in
theorem d102_187 : mj_At 102 187 (.iconst (4)) 188 [] (.int 4) := ⟨1, (congrArg (fun z => mj_at z 187) f102).trans rfl, rfl⟩
set_option maxRecDepth 20000 in
theorem d102_188 : mj_At 102 188 (.invokevirtual 33) 191 [1, 62, 3, 3, 395, 396, 397, 18] (.null) := ⟨3, (congrArg (fun z => mj_at z 188) f102).trans rfl, rfl⟩
set_option maxRecDepth 20000 in
theorem d102_191 : mj_At 102 191 (.iload 14) 193 [14] (.null) := ⟨2, (congrArg (fun z => mj_at z 191) f102).trans rfl, rfl⟩
set_option maxRecDepth 20000 in
theorem d102_193 : mj_At 102 193 (.aload 12) 195 [12] (.null) := ⟨2, (congrArg (fun z => mj_at z 193) f102).trans rfl, rfl⟩
set_option maxRecDepth 20000 in
theorem d102_195 : mj_At 102 195 (.invokestatic 26) 198 [0, 99, 2, 383, 384, 17] (.null) := ⟨3, (congrArg (fun z => mj_at z 195) f102).trans rfl, rfl⟩
set_option maxRecDepth 20000 in
theorem d102_198 : mj_At 102 198 (.if_icmp .eq (5)) 201 [203] (.null) := ⟨3, (congrArg (fun z => mj_at z 198) f102).trans rfl, rfl⟩
set_option maxRecDepth 20000 in
theorem d102_201 : mj_At 102 201 (.iconst (0)) 202 [] (.int 0) := ⟨1, (congrArg (fun z => mj_at z 201) f102).trans rfl, rfl⟩
set_option maxRecDepth 20000 in
theorem d102_202 : mj_At 102 202 (.ireturn) 203 [1] (.null) := ⟨1, (congrArg (fun z => mj_at z 202) f102).trans rfl, rfl⟩
set_option maxRecDepth 20000 in
theorem d102_203 : mj_At 102 203 (.iconst (0)) 204 [] (.int 0) := ⟨1, (congrArg (fun z => mj_at z 203) f102).trans rfl, rfl⟩
set_option maxRecDepth 20000 in
theorem d102_204 : mj_At 102 204 (.istore 16) 206 [16] (.null) := ⟨2, (congrArg (fun z => mj_at z 204) f102).trans rfl, rfl⟩
set_option maxRecDepth 20000 in
theorem d102_206 : mj_At 102 206 (.iload 16) 208 [16] (.null) := ⟨2, (congrArg (fun z => mj_at z 206) f102).trans rfl, rfl⟩
set_option maxRecDepth 20000 in
theorem d102_208 : mj_At 102 208 (.bipush (8)) 210 [] (.int 8) := ⟨2, (congrArg (fun z => mj_at z 208) f102).trans rfl, rfl⟩
set_option maxRecDepth 20000 in
theorem d102_210 : mj_At 102 210 (.if_icmp .ge (200)) 213 [410] (.null) := ⟨3, (congrArg (fun z => mj_at z 210) f102).trans rfl, rfl⟩
set_option maxRecDepth 20000 in
theorem d102_213 : mj_At 102 213 (.iload 16) 215 [16] (.null) := ⟨2, (congrArg (fun z => mj_at z 213) f102).trans rfl, rfl⟩
set_option maxRecDepth 20000 in
theorem d102_215 : mj_At 102 215 (.aload 12) 217 [12] (.null) := ⟨2, (congrArg (fun z => mj_at z 215) f102).trans rfl, rfl⟩
set_option maxRecDepth 20000 in
theorem d102_217 : mj_At 102 217 (.invokestatic 10) 220 [0, 95, 2, 371, 372, 17] (.null) := ⟨3, (congrArg (fun z => mj_at z 217) f102).trans rfl, rfl⟩
set_option maxRecDepth 20000 in
theorem d102_220 : mj_At 102 220 (.istore 17) 222 [17] (.null) := ⟨2, (congrArg (fun z => mj_at z 220) f102).trans rfl, rfl⟩
set_option maxRecDepth 20000 in
theorem d102_222 : mj_At 102 222 (.ldc 42) 224 [399] (.int 65535) := ⟨2, (congrArg (fun z => mj_at z 222) f102).trans rfl, rfl⟩
set_option maxRecDepth 20000 in
theorem d102_224 : mj_At 102 224 (.istore 18) 226 [18] (.null) := ⟨2, (congrArg (fun z => mj_at z 224) f102).trans rfl, rfl⟩
set_option maxRecDepth 20000 in
theorem d102_226 : mj_At 102 226 (.iconst (0)) 227 [] (.int 0) := ⟨1, (congrArg (fun z => mj_at z 226) f102).trans rfl, rfl⟩
set_option maxRecDepth 20000 in
theorem d102_227 : mj_At 102 227 (.istore 19) 229 [19] (.null) := ⟨2, (congrArg (fun z => mj_at z 227) f102).trans rfl, rfl⟩
set_option maxRecDepth 20000 in
theorem d102_229 : mj_At 102 229 (.aload 10) 231 [10] (.null) := ⟨2, (congrArg (fun z => mj_at z 229) f102).trans rfl, rfl⟩
set_option maxRecDepth 20000 in
theorem d102_231 : mj_At 102 231 (.iload 17) 233 [17] (.null) := ⟨2, (congrArg (fun z => mj_at z 231) f102).trans rfl, rfl⟩
set_option maxRecDepth 20000 in
theorem d102_233 : mj_At 102 233 (.dup2) 234 [] (.null) := ⟨1, (congrArg (fun z => mj_at z 233) f102).trans rfl, rfl⟩
set_option maxRecDepth 20000 in
theorem d102_234 : mj_At 102 234 (.iaload) 235 [] (.null) := ⟨1, (congrArg (fun z => mj_at z 234) f102).trans rfl, rfl⟩
set_option maxRecDepth 20000 in
theorem d102_235 : mj_At 102 235 (.iconst (1)) 236 [] (.int 1) := ⟨1, (congrArg (fun z => mj_at z 235) f102).trans rfl, rfl⟩
set_option maxRecDepth 20000 in
theorem d102_236 : mj_At 102 236 (.iadd) 237 [] (.null) := ⟨1, (congrArg (fun z => mj_at z 236) f102).trans rfl, rfl⟩
set_option maxRecDepth 20000 in
theorem d102_237 : mj_At 102 237 (.iastore) 238 [] (.null) := ⟨1, (congrArg (fun z => mj_at z 237) f102).trans rfl, rfl⟩
set_option maxRecDepth 20000 in
theorem d102_238 : mj_At 102 238 (.iconst (0)) 239 [] (.int 0) := ⟨1, (congrArg (fun z => mj_at z 238) f102).trans rfl, rfl⟩
set_option maxRecDepth 20000 in
theorem d102_239 : mj_At 102 239 (.istore 20) 241 [20] (.null) := ⟨2, (congrArg (fun z => mj_at z 239) f102).trans rfl, rfl⟩
set_option maxRecDepth 20000 in
theorem d102_241 : mj_At 102 241 (.iload 20) 243 [20] (.null) := ⟨2, (congrArg (fun z => mj_at z 241) f102).trans rfl, rfl⟩
set_option maxRecDepth 20000 in
theorem d102_243 : mj_At 102 243 (.bipush (8)) 245 [] (.int 8) := ⟨2, (congrArg (fun z => mj_at z 243) f102).trans rfl, rfl⟩
set_option maxRecDepth 20000 in
theorem d102_245 : mj_At 102 245 (.if_icmp .ge (71)) 248 [316] (.null) := ⟨3, (congrArg (fun z => mj_at z 245) f102).trans rfl, rfl⟩
set_option maxRecDepth 20000 in
theorem d102_248 : mj_At 102 248 (.aload 12) 250 [12] (.null) := ⟨2, (congrArg (fun z => mj_at z 248) f102).trans rfl, rfl⟩
set_option maxRecDepth 20000 in
theorem d102_250 : mj_At 102 250 (.bipush (8)) 252 [] (.int 8) := ⟨2, (congrArg (fun z => mj_at z 250) f102).trans rfl, rfl⟩
set_option maxRecDepth 20000 in
theorem d102_252 : mj_At 102 252 (.iload 16) 254 [16] (.null) := ⟨2, (congrArg (fun z => mj_at z 252) f102).trans rfl, rfl⟩
set_option maxRecDepth 20000 in
theorem d102_254 : mj_At 102 254 (.imul) 255 [] (.null) := ⟨1, (congrArg (fun z => mj_at z 254) f102).trans rfl, rfl⟩
set_option maxRecDepth 20000 in
theorem d102_255 : mj_At 102 255 (.iload 20) 257 [20] (.null) := ⟨2, (congrArg (fun z => mj_at z 255) f102).trans rfl, rfl⟩
set_option maxRecDepth 20000 in
theorem d102_257 : mj_At 102 257 (.iadd) 258 [] (.null) := ⟨1, (congrArg (fun z => mj_at z 257) f102).trans rfl, rfl⟩
set_option maxRecDepth 20000 in
theorem d102_258 : mj_At 102 258 (.iaload) 259 [] (.null) := ⟨1, (congrArg (fun z => mj_at z 258) f102).trans rfl, rfl⟩
set_option maxRecDepth 20000 in
theorem d102_259 : mj_At 102 259 (.istore 21) 261 [21] (.null) := ⟨2, (congrArg (fun z => mj_at z 259) f102).trans rfl, rfl⟩
set_option maxRecDepth 20000 in
theorem d102_261 : mj_At 102 261 (.iload 21) 263 [21] (.null) := ⟨2, (congrArg (fun z => mj_at z 261) f102).trans rfl, rfl⟩
set_option maxRecDepth 20000 in
theorem d102_263 : mj_At 102 263 (.iload 18) 265 [18] (.null) := ⟨2, (congrArg (fun z => mj_at z 263) f102).trans rfl, rfl⟩
set_option maxRecDepth 20000 in
theorem d102_265 : mj_At 102 265 (.if_icmp .ge (8)) 268 [273] (.null) := ⟨3, (congrArg (fun z => mj_at z 265) f102).trans rfl, rfl⟩
set_option maxRecDepth 20000 in
theorem d102_268 : mj_At 102 268 (.iload 21) 270 [21] (.null) := ⟨2, (congrArg (fun z => mj_at z 268) f102).trans rfl, rfl⟩
set_option maxRecDepth 20000 in
theorem d102_270 : mj_At 102 270 (.goto (5)) 273 [275] (.null) := ⟨3, (congrArg (fun z => mj_at z 270) f102).trans rfl, rfl⟩
set_option maxRecDepth 20000 in
theorem d102_273 : mj_At 102 273 (.iload 18) 275 [18] (.null) := ⟨2, (congrArg (fun z => mj_at z 273) f102).trans rfl, rfl⟩
set_option maxRecDepth 20000 in
theorem d102_275 : mj_At 102 275 (.istore 18) 277 [18] (.null) := ⟨2, (congrArg (fun z => mj_at z 275) f102).trans rfl, rfl⟩
set_option maxRecDepth 20000 in
theorem d102_277 : mj_At 102 277 (.iload 21) 279 [21] (.null) := ⟨2, (congrArg (fun z => mj_at z 277) f102).trans rfl, rfl⟩
set_option maxRecDepth 20000 in
theorem d102_279 : mj_At 102 279 (.iload 19) 281 [19] (.null) := ⟨2, (congrArg (fun z => mj_at z 279) f102).trans rfl, rfl⟩
set_option maxRecDepth 20000 in
theorem d102_281 : mj_At 102 281 (.if_icmp .le (8)) 284 [289] (.null) := ⟨3, (congrArg (fun z => mj_at z 281) f102).trans rfl, rfl⟩
set_option maxRecDepth 20000 in
theorem d102_284 : mj_At 102 284 (.iload 21) 286 [21] (.null) := ⟨2, (congrArg (fun z => mj_at z 284) f102).trans rfl, rfl⟩
set_option maxRecDepth 20000 in
theorem d102_286 : mj_At 102 286 (.goto (5)) 289 [291] (.null) := ⟨3, (congrArg (fun z => mj_at z 286) f102).trans rfl, rfl⟩
set_option maxRecDepth 20000 in
theorem d102_289 : mj_At 102 289 (.iload 19) 291 [19] (.null) := ⟨2, (congrArg (fun z => mj_at z 289) f102).trans rfl, rfl⟩
set_option maxRecDepth 20000 in
theorem d102_291 : mj_At 102 291 (.istore 19) 293 [19] (.null) := ⟨2, (congrArg (fun z => mj_at z 291) f102).trans rfl, rfl⟩
set_option maxRecDepth 20000 in
theorem d102_293 : mj_At 102 293 (.aload_n 0) 294 [0] (.null) := ⟨1, (congrArg (fun z => mj_at z 293) f102).trans rfl, rfl⟩
set_option maxRecDepth 20000 in
theorem d102_294 : mj_At 102 294 (.iload 11) 296 [11] (.null) := ⟨2, (congrArg (fun z => mj_at z 294) f102).trans rfl, rfl⟩
set_option maxRecDepth 20000 in
theorem d102_296 : mj_At 102 296 (.iload 16) 298 [16] (.null) := ⟨2, (congrArg (fun z => mj_at z 296) f102).trans rfl, rfl⟩
set_option maxRecDepth 20000 in
theorem d102_298 : mj_At 102 298 (.iload 20) 300 [20] (.null) := ⟨2, (congrArg (fun z => mj_at z 298) f102).trans rfl, rfl⟩
set_option maxRecDepth 20000 in
theorem d102_300 : mj_At 102 300 (.invokevirtual 43) 303 [1, 61, 4, 3, 400, 401, 402, 18] (.null) := ⟨3, (congrArg (fun z => mj_at z 300) f102).trans rfl, rfl⟩
set_option maxRecDepth 20000 in
theorem d102_303 : mj_At 102 303 (.iload 21) 305 [21] (.null) := ⟨2, (congrArg (fun z => mj_at z 303) f102).trans rfl, rfl⟩
set_option maxRecDepth 20000 in
theorem d102_305 : mj_At 102 305 (.if_icmp .eq (5)) 308 [310] (.null) := ⟨3, (congrArg (fun z => mj_at z 305) f102).trans rfl, rfl⟩
set_option maxRecDepth 20000 in
theorem d102_308 : mj_At 102 308 (.iconst (0)) 309 [] (.int 0) := ⟨1, (congrArg (fun z => mj_at z 308) f102).trans rfl, rfl⟩
set_option maxRecDepth 20000 in
theorem d102_309 : mj_At 102 309 (.ireturn) 310 [1] (.null) := ⟨1, (congrArg (fun z => mj_at z 309) f102).trans rfl, rfl⟩
set_option maxRecDepth 20000 in
theorem d102_310 : mj_At 102 310 (.iinc 20 (1)) 313 [20] (.int 1) := ⟨3, (congrArg (fun z => mj_at z 310) f102).trans rfl, rfl⟩
set_option maxRecDepth 20000 in
theorem d102_313 : mj_At 102 313 (.goto (-72)) 316 [241] (.null) := ⟨3, (congrArg (fun z => mj_at z 313) f102).trans rfl, rfl⟩
set_option maxRecDepth 20000 in
theorem d102_316 : mj_At 102 316 (.aload_n 0) 317 [0] (.null) := ⟨1, (congrArg (fun z => mj_at z 316) f102).trans rfl, rfl⟩
set_option maxRecDepth 20000 in
theorem d102_317 : mj_At 102 317 (.iload 11) 319 [11] (.null) := ⟨2, (congrArg (fun z => mj_at z 317) f102).trans rfl, rfl⟩
set_option maxRecDepth 20000 in
theorem d102_319 : mj_At 102 319 (.iload 16) 321 [16] (.null) := ⟨2, (congrArg (fun z => mj_at z 319) f102).trans rfl, rfl⟩
set_option maxRecDepth 20000 in
theorem d102_321 : mj_At 102 321 (.iconst (0)) 322 [] (.int 0) := ⟨1, (congrArg (fun z => mj_at z 321) f102).trans rfl, rfl⟩
set_option maxRecDepth 20000 in
theorem d102_322 : mj_At 102 322 (.invokevirtual 47) 325 [1, 63, 4, 3, 404, 405, 406, 18] (.null) := ⟨3, (congrArg (fun z => mj_at z 322) f102).trans rfl, rfl⟩
set_option maxRecDepth 20000 in
theorem d102_325 : mj_At 102 325 (.iload 17) 327 [17] (.null) := ⟨2, (congrArg (fun z => mj_at z 325) f102).trans rfl, rfl⟩
set_option maxRecDepth 20000 in
theorem d102_327 : mj_At 102 327 (.if_icmp .ne (75)) 330 [402] (.null) := ⟨3, (congrArg (fun z => mj_at z 327) f102).trans rfl, rfl⟩
set_option maxRecDepth 20000 in
theorem d102_330 : mj_At 102 330 (.aload_n 0) 331 [0] (.null) := ⟨1, (congrArg (fun z => mj_at z 330) f102).trans rfl, rfl⟩
set_option maxRecDepth 20000 in
theorem d102_331 : mj_At 102 331 (.iload 11) 333 [11] (.null) := ⟨2, (congrArg (fun z => mj_at z 331) f102).trans rfl, rfl⟩
set_option maxRecDepth 20000 in
theorem d102_333 : mj_At 102 333 (.iload 16) 335 [16] (.null) := ⟨2, (congrArg (fun z => mj_at z 333) f102).trans rfl, rfl⟩
set_option maxRecDepth 20000 in
theorem d102_335 : mj_At 102 335 (.iconst (1)) 336 [] (.int 1) := ⟨1, (congrArg (fun z => mj_at z 335) f102).trans rfl, rfl⟩
set_option maxRecDepth 20000 in
theorem d102_336 : mj_At 102 336 (.invokevirtual 47) 339 [1, 63, 4, 3, 404, 405, 406, 18] (.null) := ⟨3, (congrArg (fun z => mj_at z 336) f102).trans rfl, rfl⟩
set_option maxRecDepth 20000 in
theorem d102_339 : mj_At 102 339 (.iload 17) 341 [17] (.null) := ⟨2, (congrArg (fun z => mj_at z 339) f102).trans rfl, rfl⟩
set_option maxRecDepth 20000 in
theorem d102_341 : mj_At 102 341 (.invokestatic 16) 344 [0, 96, 1, 377, 378, 17] (.null) := ⟨3, (congrArg (fun z => mj_at z 341) f102).trans rfl, rfl⟩
set_option maxRecDepth 20000 in
theorem d102_344 : mj_At 102 344 (.if_icmp .ne (58)) 347 [402] (.null) := ⟨3, (congrArg (fun z => mj_at z 344) f102).trans rfl, rfl⟩
set_option maxRecDepth 20000 in
theorem d102_347 : mj_At 102 347 (.aload_n 0) 348 [0] (.null) := ⟨1, (congrArg (fun z => mj_at z 347) f102).trans rfl, rfl⟩
set_option maxRecDepth 20000 in
theorem d102_348 : mj_At 102 348 (.iload 11) 350 [11] (.null) := ⟨2, (congrArg (fun z => mj_at z 348) f102).trans rfl, rfl⟩
set_option maxRecDepth 20000 in
theorem d102_350 : mj_At 102 350 (.iload 16) 352 [16] (.null) := ⟨2, (congrArg (fun z => mj_at z 350) f102).trans rfl, rfl⟩
set_option maxRecDepth 20000 in
theorem d102_352 : mj_At 102 352 (.iconst (2)) 353 [] (.int 2) := ⟨1, (congrArg (fun z => mj_at z 352) f102).trans rfl, rfl⟩
set_option maxRecDepth 20000 in
theorem d102_353 : mj_At 102 353 (.invokevirtual 47) 356 [1, 63, 4, 3, 404, 405, 406, 18] (.null) := ⟨3, (congrArg (fun z => mj_at z 353) f102).trans rfl, rfl⟩
set_option maxRecDepth 20000 in
theorem d102_356 : mj_At 102 356 (.iload 17) 358 [17] (.null) := ⟨2, (congrArg (fun z => mj_at z 356) f102).trans rfl, rfl⟩
set_option maxRecDepth 20000 in
theorem d102_358 : mj_At 102 358 (.invokestatic 16) 361 [0, 96, 1, 377, 378, 17] (.null) := ⟨3, (congrArg (fun z => mj_at z 358) f102).trans rfl, rfl⟩
set_option maxRecDepth 20000 in
theorem d102_361 : mj_At 102 361 (.iload 13) 363 [13] (.null) := ⟨2, (congrArg (fun z => mj_at z 361) f102).trans rfl, rfl⟩
set_option maxRecDepth 20000 in
theorem d102_363 : mj_At 102 363 (.if_icmp .le (7)) 366 [370] (.null) := ⟨3, (congrArg (fun z => mj_at z 363) f102).trans rfl, rfl⟩
set_option maxRecDepth 20000 in
theorem d102_366 : mj_At 102 366 (.iconst (1)) 367 [] (.int 1) := ⟨1, (congrArg (fun z => mj_at z 366) f102).trans rfl, rfl⟩
set_option maxRecDepth 20000 in
theorem d102_367 : mj_At 102 367 (.goto (4)) 370 [371] (.null) := ⟨3, (congrArg (fun z => mj_at z 367) f102).trans rfl, rfl⟩
set_option maxRecDepth 20000 in
theorem d102_370 : mj_At 102 370 (.iconst (0)) 371 [] (.int 0) := ⟨1, (congrArg (fun z => mj_at z 370) f102).trans rfl, rfl⟩
set_option maxRecDepth 20000 in
theorem d102_371 : mj_At 102 371 (.if_icmp .ne (31)) 374 [402] (.null) := ⟨3, (congrArg (fun z => mj_at z 371) f102).trans rfl, rfl⟩
set_option maxRecDepth 20000 in
theorem d102_374 : mj_At 102 374 (.aload_n 0) 375 [0] (.null) := ⟨1, (congrArg (fun z => mj_at z 374) f102).trans rfl, rfl⟩
set_option maxRecDepth 20000 in
theorem d102_375 : mj_At 102 375 (.iload 11) 377 [11] (.null) := ⟨2, (congrArg (fun z => mj_at z 375) f102).trans rfl, rfl⟩
set_option maxRecDepth 20000 in
theorem d102_377 : mj_At 102 377 (.iload 16) 379 [16] (.null) := ⟨2, (congrArg (fun z => mj_at z 377) f102).trans rfl, rfl⟩
set_option maxRecDepth 20000 in
theorem d102_379 : mj_At 102 379 (.iconst (3)) 380 [] (.int 3) := ⟨1, (congrArg (fun z => mj_at z 379) f102).trans rfl, rfl⟩
set_option maxRecDepth 20000 in
theorem d102_380 : mj_At 102 380 (.invokevirtual 47) 383 [1, 63, 4, 3, 404, 405, 406, 18] (.null) := ⟨3, (congrArg (fun z => mj_at z 380) f102).trans rfl, rfl⟩
set_option maxRecDepth 20000 in
theorem d102_383 : mj_At 102 383 (.iload 18) 385 [18] (.null) := ⟨2, (congrArg (fun z => mj_at z 383) f102).trans rfl, rfl⟩
set_option maxRecDepth 20000 in
theorem d102_385 : mj_At 102 385 (.if_icmp .ne (17)) 388 [402] (.null) := ⟨3, (congrArg (fun z => mj_at z 385) f102).trans rfl, rfl⟩
set_option maxRecDepth 20000 in
theorem d102_388 : mj_At 102 388 (.aload_n 0) 389 [0] (.null) := ⟨1, (congrArg (fun z => mj_at z 388) f102).trans rfl, rfl⟩
set_option maxRecDepth 20000 in
theorem d102_389 : mj_At 102 389 (.iload 11) 391 [11] (.null) := ⟨2, (congrArg (fun z => mj_at z 389) f102).trans rfl, rfl⟩
set_option maxRecDepth 20000 in
theorem d102_391 : mj_At 102 391 (.iload 16) 393 [16] (.null) := ⟨2, (congrArg (fun z => mj_at z 391) f102).trans rfl, rfl⟩
set_option maxRecDepth 20000 in
theorem d102_393 : mj_At 102 393 (.iconst (4)) 394 [] (.int 4) := ⟨1, (congrArg (fun z => mj_at z 393) f102).trans rfl, rfl⟩
set_option maxRecDepth 20000 in
theorem d102_394 : mj_At 102 394 (.invokevirtual 47) 397 [1, 63, 4, 3, 404, 405, 406, 18] (.null) := ⟨3, (congrArg (fun z => mj_at z 394) f102).trans rfl, rfl⟩
set_option maxRecDepth 20000 in
theorem d102_397 : mj_At 102 397 (.iload 19) 399 [19] (.null) := ⟨2, (congrArg (fun z => mj_at z 397) f102).trans rfl, rfl⟩
set_option maxRecDepth 20000 in
theorem d102_399 : mj_At 102 399 (.if_icmp .eq (5)) 402 [404] (.null) := ⟨3, (congrArg (fun z => mj_at z 399) f102).trans rfl, rfl⟩
set_option maxRecDepth 20000 in
theorem d102_402 : mj_At 102 402 (.iconst (0)) 403 [] (.int 0) := ⟨1, (congrArg (fun z => mj_at z 402) f102).trans rfl, rfl⟩
set_option maxRecDepth 20000 in
theorem d102_403 : mj_At 102 403 (.ireturn) 404 [1] (.null) := ⟨1, (congrArg (fun z => mj_at z 403) f102).trans rfl, rfl⟩
set_option maxRecDepth 20000 in
theorem d102_404 : mj_At 102 404 (.iinc 16 (1)) 407 [16] (.int 1) := ⟨3, (congrArg (fun z => mj_at z 404) f102).trans rfl, rfl⟩
set_option maxRecDepth 20000 in
theorem d102_407 : mj_At 102 407 (.goto (-201)) 410 [206] (.null) := ⟨3, (congrArg (fun z => mj_at z 407) f102).trans rfl, rfl⟩
set_option maxRecDepth 20000 in
theorem d102_410 : mj_At 102 410 (.iinc 11 (1)) 413 [11] (.int 1) := ⟨3, (congrArg (fun z => mj_at z 410) f102).trans rfl, rfl⟩
set_option maxRecDepth 20000 in
theorem d102_413 : mj_At 102 413 (.goto (-392)) 416 [21] (.null) := ⟨3, (congrArg (fun z => mj_at z 413) f102).trans rfl, rfl⟩
set_option maxRecDepth 20000 in
theorem d102_416 : mj_At 102 416 (.iconst (0)) 417 [] (.int 0) := ⟨1, (congrArg (fun z => mj_at z 416) f102).trans rfl, rfl⟩
set_option maxRecDepth 20000 in
theorem d102_417 : mj_At 102 417 (.istore 11) 419 [11] (.null) := ⟨2, (congrArg (fun z => mj_at z 417) f102).trans rfl, rfl⟩
set_option maxRecDepth 20000 in
theorem d102_419 : mj_At 102 419 (.iload 11) 421 [11] (.null) := ⟨2, (congrArg (fun z => mj_at z 419) f102).trans rfl, rfl⟩
set_option maxRecDepth 20000 in
theorem d102_421 : mj_At 102 421 (.iconst (5)) 422 [] (.int 5) := ⟨1, (congrArg (fun z => mj_at z 421) f102).trans rfl, rfl⟩
set_option maxRecDepth 20000 in
theorem d102_422 : mj_At 102 422 (.if_icmp .ge (25)) 425 [447] (.null) := ⟨3, (congrArg (fun z => mj_at z 422) f102).trans rfl, rfl⟩
set_option maxRecDepth 20000 in
theorem d102_425 : mj_At 102 425 (.aload_n 0) 426 [0] (.null) := ⟨1, (congrArg (fun z => mj_at z 425) f102).trans rfl, rfl⟩
set_option maxRecDepth 20000 in
theorem d102_426 : mj_At 102 426 (.iload 11) 428 [11] (.null) := ⟨2, (congrArg (fun z => mj_at z 426) f102).trans rfl, rfl⟩
set_option maxRecDepth 20000 in
theorem d102_428 : mj_At 102 428 (.invokevirtual 50) 431 [1, 64, 2, 3, 408, 409, 410, 18] (.null) := ⟨3, (congrArg (fun z => mj_at z 428) f102).trans rfl, rfl⟩
set_option maxRecDepth 20000 in
theorem d102_431 : mj_At 102 431 (.aload 10) 433 [10] (.null) := ⟨2, (congrArg (fun z => mj_at z 431) f102).trans rfl, rfl⟩
set_option maxRecDepth 20000 in
theorem d102_433 : mj_At 102 433 (.iload 11) 435 [11] (.null) := ⟨2, (congrArg (fun z => mj_at z 433) f102).trans rfl, rfl⟩
set_option maxRecDepth 20000 in
theorem d102_435 : mj_At 102 435 (.iaload) 436 [] (.null) := ⟨1, (congrArg (fun z => mj_at z 435) f102).trans rfl, rfl⟩
set_option maxRecDepth 20000 in
theorem d102_436 : mj_At 102 436 (.if_icmp .eq (5)) 439 [441] (.null) := ⟨3, (congrArg (fun z => mj_at z 436) f102).trans rfl, rfl⟩
set_option maxRecDepth 20000 in
theorem d102_439 : mj_At 102 439 (.iconst (0)) 440 [] (.int 0) := ⟨1, (congrArg (fun z => mj_at z 439) f102).trans rfl, rfl⟩
set_option maxRecDepth 20000 in
theorem d102_440 : mj_At 102 440 (.ireturn) 441 [1] (.null) := ⟨1, (congrArg (fun z => mj_at z 440) f102).trans rfl, rfl⟩
set_option maxRecDepth 20000 in
theorem d102_441 : mj_At 102 441 (.iinc 11 (1)) 444 [11] (.int 1) := ⟨3, (congrArg (fun z => mj_at z 441) f102).trans rfl, rfl⟩
set_option maxRecDepth 20000 in
theorem d102_444 : mj_At 102 444 (.goto (-25)) 447 [419] (.null) := ⟨3, (congrArg (fun z => mj_at z 444) f102).trans rfl, rfl⟩
set_option maxRecDepth 20000 in
theorem d102_447 : mj_At 102 447 (.iconst (0)) 448 [] (.int 0) := ⟨1, (congrArg (fun z => mj_at z 447) f102).trans rfl, rfl⟩
set_option maxRecDepth 20000 in
theorem d102_448 : mj_At 102 448 (.istore 11) 450 [11] (.null) := ⟨2, (congrArg (fun z => mj_at z 448) f102).trans rfl, rfl⟩
set_option maxRecDepth 20000 in
theorem d102_450 : mj_At 102 450 (.iload 11) 452 [11] (.null) := ⟨2, (congrArg (fun z => mj_at z 450) f102).trans rfl, rfl⟩
set_option maxRecDepth 20000 in
theorem d102_452 : mj_At 102 452 (.iconst (4)) 453 [] (.int 4) := ⟨1, (congrArg (fun z => mj_at z 452) f102).trans rfl, rfl⟩
set_option maxRecDepth 20000 in
theorem d102_453 : mj_At 102 453 (.if_icmp .ge (60)) 456 [513] (.null) := ⟨3, (congrArg (fun z => mj_at z 453) f102).trans rfl, rfl⟩
set_option maxRecDepth 20000 in
theorem d102_456 : mj_At 102 456 (.aload_n 0) 457 [0] (.null) := ⟨1, (congrArg (fun z => mj_at z 456) f102).trans rfl, rfl⟩
set_option maxRecDepth 20000 in
theorem d102_457 : mj_At 102 457 (.iload 11) 459 [11] (.null) := ⟨2, (congrArg (fun z => mj_at z 457) f102).trans rfl, rfl⟩
set_option maxRecDepth 20000 in
theorem d102_459 : mj_At 102 459 (.iconst (0)) 460 [] (.int 0) := ⟨1, (congrArg (fun z => mj_at z 459) f102).trans rfl, rfl⟩
set_option maxRecDepth 20000 in
theorem d102_460 : mj_At 102 460 (.invokevirtual 53) 463 [1, 65, 3, 3, 412, 413, 414, 18] (.null) := ⟨3, (congrArg (fun z => mj_at z 460) f102).trans rfl, rfl⟩
set_option maxRecDepth 20000 in
theorem d102_463 : mj_At 102 463 (.aload_n 2) 464 [2] (.null) := ⟨1, (congrArg (fun z => mj_at z 463) f102).trans rfl, rfl⟩
set_option maxRecDepth 20000 in
theorem d102_464 : mj_At 102 464 (.bipush (9)) 466 [] (.int 9) := ⟨2, (congrArg (fun z => mj_at z 464) f102).trans rfl, rfl⟩
set_option maxRecDepth 20000 in
theorem d102_466 : mj_At 102 466 (.iload 11) 468 [11] (.null) := ⟨2, (congrArg (fun z => mj_at z 466) f102).trans rfl, rfl⟩
set_option maxRecDepth 20000 in
theorem d102_468 : mj_At 102 468 (.iadd) 469 [] (.null) := ⟨1, (congrArg (fun z => mj_at z 468) f102).trans rfl, rfl⟩
set_option maxRecDepth 20000 in
theorem d102_469 : mj_At 102 469 (.iaload) 470 [] (.null) := ⟨1, (congrArg (fun z => mj_at z 469) f102).trans rfl, rfl⟩
set_option maxRecDepth 20000 in
theorem d102_470 : mj_At 102 470 (.if_icmp .ne (35)) 473 [505] (.null) := ⟨3, (congrArg (fun z => mj_at z 470) f102).trans rfl, rfl⟩
set_option maxRecDepth 20000 in
theorem d102_473 : mj_At 102 473 (.aload_n 0) 474 [0] (.null) := ⟨1, (congrArg (fun z => mj_at z 473) f102).trans rfl, rfl⟩
set_option maxRecDepth 20000 in
theorem d102_474 : mj_At 102 474 (.iload 11) 476 [11] (.null) := ⟨2, (congrArg (fun z => mj_at z 474) f102).trans rfl, rfl⟩
set_option maxRecDepth 20000 in
theorem d102_476 : mj_At 102 476 (.iconst (1)) 477 [] (.int 1) := ⟨1, (congrArg (fun z => mj_at z 476) f102).trans rfl, rfl⟩
set_option maxRecDepth 20000 in
theorem d102_477 : mj_At 102 477 (.invokevirtual 53) 480 [1, 65, 3, 3, 412, 413, 414, 18] (.null) := ⟨3, (congrArg (fun z => mj_at z 477) f102).trans rfl, rfl⟩
set_option maxRecDepth 20000 in
theorem d102_480 : mj_At 102 480 (.aload_n 2) 481 [2] (.null) := ⟨1, (congrArg (fun z => mj_at z 480) f102).trans rfl, rfl⟩
set_option maxRecDepth 20000 in
theorem d102_481 : mj_At 102 481 (.bipush (9)) 483 [] (.int 9) := ⟨2, (congrArg (fun z => mj_at z 481) f102).trans rfl, rfl⟩
set_option maxRecDepth 20000 in
theorem d102_483 : mj_At 102 483 (.iload 11) 485 [11] (.null) := ⟨2, (congrArg (fun z => mj_at z 483) f102).trans rfl, rfl⟩
set_option maxRecDepth 20000 in
theorem d102_485 : mj_At 102 485 (.iadd) 486 [] (.null) := ⟨1, (congrArg (fun z => mj_at z 485) f102).trans rfl, rfl⟩
set_option maxRecDepth 20000 in
theorem d102_486 : mj_At 102 486 (.iaload) 487 [] (.null) := ⟨1, (congrArg (fun z => mj_at z 486) f102).trans rfl, rfl⟩
set_option maxRecDepth 20000 in
theorem d102_487 : mj_At 102 487 (.ifCond .ge (8)) 490 [495] (.null) := ⟨3, (congrArg (fun z => mj_at z 487) f102).trans rfl, rfl⟩
set_option maxRecDepth 20000 in
theorem d102_490 : mj_At 102 490 (.bipush (-6)) 492 [] (.int (-6)) := ⟨2, (congrArg (fun z => mj_at z 490) f102).trans rfl, rfl⟩
set_option maxRecDepth 20000 in
theorem d102_492 : mj_At 102 492 (.goto (10)) 495 [502] (.null) := ⟨3, (congrArg (fun z => mj_at z 492) f102).trans rfl, rfl⟩
set_option maxRecDepth 20000 in
theorem d102_495 : mj_At 102 495 (.aload_n 2) 496 [2] (.null) := ⟨1, (congrArg (fun z => mj_at z 495) f102).trans rfl, rfl⟩
set_option maxRecDepth 20000 in
theorem d102_496 : mj_At 102 496 (.bipush (13)) 498 [] (.int 13) := ⟨2, (congrArg (fun z => mj_at z 496) f102).trans rfl, rfl⟩
set_option maxRecDepth 20000 in
theorem d102_498 : mj_At 102 498 (.iload 11) 500 [11] (.null) := ⟨2, (congrArg (fun z => mj_at z 498) f102).trans rfl, rfl⟩
set_option maxRecDepth 20000 in
theorem d102_500 : mj_At 102 500 (.iadd) 501 [] (.null) := ⟨1, (congrArg (fun z => mj_at z 500) f102).trans rfl, rfl⟩
set_option maxRecDepth 20000 in
theorem d102_501 : mj_At 102 501 (.iaload) 502 [] (.null) := ⟨1, (congrArg (fun z => mj_at z 501) f102).trans rfl, rfl⟩
set_option maxRecDepth 20000 in
theorem d102_502 : mj_At 102 502 (.if_icmp .eq (5)) 505 [507] (.null) := ⟨3, (congrArg (fun z => mj_at z 502) f102).trans rfl, rfl⟩
set_option maxRecDepth 20000 in
theorem d102_505 : mj_At 102 505 (.iconst (0)) 506 [] (.int 0) := ⟨1, (congrArg (fun z => mj_at z 505) f102).trans rfl, rfl⟩
set_option maxRecDepth 20000 in
theorem d102_506 : mj_At 102 506 (.ireturn) 507 [1] (.null) := ⟨1, (congrArg (fun z => mj_at z 506) f102).trans rfl, rfl⟩
set_option maxRecDepth 20000 in
theorem d102_507 : mj_At 102 507 (.iinc 11 (1)) 510 [11] (.int 1) := ⟨3, (congrArg (fun z => mj_at z 507) f102).trans rfl, rfl⟩
set_option maxRecDepth 20000 in
theorem d102_510 : mj_At 102 510 (.goto (-60)) 513 [450] (.null) := ⟨3, (congrArg (fun z => mj_at z 510) f102).trans rfl, rfl⟩
set_option maxRecDepth 20000 in
theorem d102_513 : mj_At 102 513 (.aload_n 2) 514 [2] (.null) := ⟨1, (congrArg (fun z => mj_at z 513) f102).trans rfl, rfl⟩
set_option maxRecDepth 20000 in
theorem d102_514 : mj_At 102 514 (.aload_n 3) 515 [3] (.null) := ⟨1, (congrArg (fun z => mj_at z 514) f102).trans rfl, rfl⟩
set_option maxRecDepth 20000 in
theorem d102_515 : mj_At 102 515 (.aload 4) 517 [4] (.null) := ⟨2, (congrArg (fun z => mj_at z 515) f102).trans rfl, rfl⟩
set_option maxRecDepth 20000 in
theorem d102_517 : mj_At 102 517 (.aload 5) 519 [5] (.null) := ⟨2, (congrArg (fun z => mj_at z 517) f102).trans rfl, rfl⟩
set_option maxRecDepth 20000 in
theorem d102_519 : mj_At 102 519 (.invokestatic 56) 522 [0, 101, 4, 389, 390, 17] (.null) := ⟨3, (congrArg (fun z => mj_at z 519) f102).trans rfl, rfl⟩
set_option maxRecDepth 20000 in
theorem d102_522 : mj_At 102 522 (.istore 11) 524 [11] (.null) := ⟨2, (congrArg (fun z => mj_at z 522) f102).trans rfl, rfl⟩
set_option maxRecDepth 20000 in
theorem d102_524 : mj_At 102 524 (.iload_n 1) 525 [1] (.null) := ⟨1, (congrArg (fun z => mj_at z 524) f102).trans rfl, rfl⟩
set_option maxRecDepth 20000 in
theorem d102_525 : mj_At 102 525 (.bipush (9)) 527 [] (.int 9) := ⟨2, (congrArg (fun z => mj_at z 525) f102).trans rfl, rfl⟩
set_option maxRecDepth 20000 in
theorem d102_527 : mj_At 102 527 (.invokestatic 60) 530 [0, 93, 2, 364, 365, 17] (.null) := ⟨3, (congrArg (fun z => mj_at z 527) f102).trans rfl, rfl⟩
set_option maxRecDepth 20000 in
theorem d102_530 : mj_At 102 530 (.istore 12) 532 [12] (.null) := ⟨2, (congrArg (fun z => mj_at z 530) f102).trans rfl, rfl⟩
set_option maxRecDepth 20000 in
theorem d102_532 : mj_At 102 532 (.iconst (0)) 533 [] (.int 0) := ⟨1, (congrArg (fun z => mj_at z 532) f102).trans rfl, rfl⟩
set_option maxRecDepth 20000 in
theorem d102_533 : mj_At 102 533 (.istore 13) 535 [13] (.null) := ⟨2, (congrArg (fun z => mj_at z 533) f102).trans rfl, rfl⟩
set_option maxRecDepth 20000 in
theorem d102_535 : mj_At 102 535 (.iconst (0)) 536 [] (.int 0) := ⟨1, (congrArg (fun z => mj_at z 535) f102).trans rfl, rfl⟩
set_option maxRecDepth 20000 in
theorem d102_536 : mj_At 102 536 (.istore 14) 538 [14] (.null) := ⟨2, (congrArg (fun z => mj_at z 536) f102).trans rfl, rfl⟩
set_option maxRecDepth 20000 in
theorem d102_538 : mj_At 102 538 (.iload 14) 540 [14] (.null) := ⟨2, (congrArg (fun z => mj_at z 538) f102).trans rfl, rfl⟩
set_option maxRecDepth 20000 in
theorem d102_540 : mj_At 102 540 (.iconst (3)) 541 [] (.int 3) := ⟨1, (congrArg (fun z => mj_at z 540) f102).trans rfl, rfl⟩
set_option maxRecDepth 20000 in
theorem d102_541 : mj_At 102 541 (.if_icmp .ge (56)) 544 [597] (.null) := ⟨3, (congrArg (fun z => mj_at z 541) f102).trans rfl, rfl⟩
set_option maxRecDepth 20000 in
theorem d102_544 : mj_At 102 544 (.iload 13) 546 [13] (.null) := ⟨2, (congrArg (fun z => mj_at z 544) f102).trans rfl, rfl⟩
set_option maxRecDepth 20000 in
theorem d102_546 : mj_At 102 546 (.aload_n 2) 547 [2] (.null) := ⟨1, (congrArg (fun z => mj_at z 546) f102).trans rfl, rfl⟩
set_option maxRecDepth 20000 in
theorem d102_547 : mj_At 102 547 (.bipush (6)) 549 [] (.int 6) := ⟨2, (congrArg (fun z => mj_at z 547) f102).trans rfl, rfl⟩
set_option maxRecDepth 20000 in
theorem d102_549 : mj_At 102 549 (.iload 14) 551 [14] (.null) := ⟨2, (congrArg (fun z => mj_at z 549) f102).trans rfl, rfl⟩
set_option maxRecDepth 20000 in
theorem d102_551 : mj_At 102 551 (.iadd) 552 [] (.null) := ⟨1, (congrArg (fun z => mj_at z 551) f102).trans rfl, rfl⟩
set_option maxRecDepth 20000 in
theorem d102_552 : mj_At 102 552 (.iaload) 553 [] (.null) := ⟨1, (congrArg (fun z => mj_at z 552) f102).trans rfl, rfl⟩
set_option maxRecDepth 20000 in
theorem d102_553 : mj_At 102 553 (.ifCond .ge (7)) 556 [560] (.null) := ⟨3, (congrArg (fun z => mj_at z 553) f102).trans rfl, rfl⟩
set_option maxRecDepth 20000 in
theorem d102_556 : mj_At 102 556 (.iconst (0)) 557 [] (.int 0) := ⟨1, (congrArg (fun z => mj_at z 556) f102).trans rfl, rfl⟩
set_option maxRecDepth 20000 in
theorem d102_557 : mj_At 102 557 (.goto (31)) 560 [588] (.null) := ⟨3, (congrArg (fun z => mj_at z 557) f102).trans rfl, rfl⟩
set_option maxRecDepth 20000 in
theorem d102_560 : mj_At 102 560 (.iload 12) 562 [12] (.null) := ⟨2, (congrArg (fun z => mj_at z 560) f102).trans rfl, rfl⟩
set_option maxRecDepth 20000 in
theorem d102_562 : mj_At 102 562 (.iload 14) 564 [14] (.null) := ⟨2, (congrArg (fun z => mj_at z 562) f102).trans rfl, rfl⟩
set_option maxRecDepth 20000 in
theorem d102_564 : mj_At 102 564 (.aload_n 3) 565 [3] (.null) := ⟨1, (congrArg (fun z => mj_at z 564) f102).trans rfl, rfl⟩
set_option maxRecDepth 20000 in
theorem d102_565 : mj_At 102 565 (.aload 4) 567 [4] (.null) := ⟨2, (congrArg (fun z => mj_at z 565) f102).trans rfl, rfl⟩
set_option maxRecDepth 20000 in
theorem d102_567 : mj_At 102 567 (.aload 5) 569 [5] (.null) := ⟨2, (congrArg (fun z => mj_at z 567) f102).trans rfl, rfl⟩
set_option maxRecDepth 20000 in
theorem d102_569 : mj_At 102 569 (.invokestatic 29) 572 [0, 94, 4, 368, 369, 17] (.null) := ⟨3, (congrArg (fun z => mj_at z 569) f102).trans rfl, rfl⟩
set_option maxRecDepth 20000 in
theorem d102_572 : mj_At 102 572 (.invokestatic 39) 575 [0, 100, 2, 386, 387, 17] (.null) := ⟨3, (congrArg (fun z => mj_at z 572) f102).trans rfl, rfl⟩
set_option maxRecDepth 20000 in
theorem d102_575 : mj_At 102 575 (.iload 14) 577 [14] (.null) := ⟨2, (congrArg (fun z => mj_at z 575) f102).trans rfl, rfl⟩
set_option maxRecDepth 20000 in
theorem d102_577 : mj_At 102 577 (.aload_n 3) 578 [3] (.null) := ⟨1, (congrArg (fun z => mj_at z 577) f102).trans rfl, rfl⟩
set_option maxRecDepth 20000 in
theorem d102_578 : mj_At 102 578 (.aload 4) 580 [4] (.null) := ⟨2, (congrArg (fun z => mj_at z 578) f102).trans rfl, rfl⟩
set_option maxRecDepth 20000 in
theorem d102_580 : mj_At 102 580 (.aload 5) 582 [5] (.null) := ⟨2, (congrArg (fun z => mj_at z 580) f102).trans rfl, rfl⟩
set_option maxRecDepth 20000 in
theorem d102_582 : mj_At 102 582 (.invokestatic 29) 585 [0, 94, 4, 368, 369, 17] (.null) := ⟨3, (congrArg (fun z => mj_at z 582) f102).trans rfl, rfl⟩
set_option maxRecDepth 20000 in
theorem d102_585 : mj_At 102 585 (.invokestatic 26) 588 [0, 99, 2, 383, 384, 17] (.null) := ⟨3, (congrArg (fun z => mj_at z 585) f102).trans rfl, rfl⟩
set_option maxRecDepth 20000 in
theorem d102_588 : mj_At 102 588 (.iadd) 589 [] (.null) := ⟨1, (congrArg (fun z => mj_at z 588) f102).trans rfl, rfl⟩
set_option maxRecDepth 20000 in
theorem d102_589 : mj_At 102 589 (.istore 13) 591 [13] (.null) := ⟨2, (congrArg (fun z => mj_at z 589) f102).trans rfl, rfl⟩
set_option maxRecDepth 20000 in
theorem d102_591 : mj_At 102 591 (.iinc 14 (1)) 594 [14] (.int 1) := ⟨3, (congrArg (fun z => mj_at z 591) f102).trans rfl, rfl⟩
set_option maxRecDepth 20000 in
theorem d102_594 : mj_At 102 594 (.goto (-56)) 597 [538] (.null) := ⟨3, (congrArg (fun z => mj_at z 594) f102).trans rfl, rfl⟩
set_option maxRecDepth 20000 in
theorem d102_597 : mj_At 102 597 (.aload_n 0) 598 [0] (.null) := ⟨1, (congrArg (fun z => mj_at z 597) f102).trans rfl, rfl⟩
set_option maxRecDepth 20000 in
theorem d102_598 : mj_At 102 598 (.iconst (0)) 599 [] (.int 0) := ⟨1, (congrArg (fun z => mj_at z 598) f102).trans rfl, rfl⟩
set_option maxRecDepth 20000 in
theorem d102_599 : mj_At 102 599 (.invokevirtual 63) 602 [1, 60, 2, 3, 416, 417, 418, 18] (.null) := ⟨3, (congrArg (fun z => mj_at z 599) f102).trans rfl, rfl⟩
set_option maxRecDepth 20000 in
theorem d102_602 : mj_At 102 602 (.iload 6) 604 [6] (.null) := ⟨2, (congrArg (fun z => mj_at z 602) f102).trans rfl, rfl⟩
set_option maxRecDepth 20000 in
theorem d102_604 : mj_At 102 604 (.if_icmp .ne (144)) 607 [748] (.null) := ⟨3, (congrArg (fun z => mj_at z 604) f102).trans rfl, rfl⟩
set_option maxRecDepth 20000 in
theorem d102_607 : mj_At 102 607 (.aload_n 0) 608 [0] (.null) := ⟨1, (congrArg (fun z => mj_at z 607) f102).trans rfl, rfl⟩
set_option maxRecDepth 20000 in
theorem d102_608 : mj_At 102 608 (.iconst (1)) 609 [] (.int 1) := ⟨1, (congrArg (fun z => mj_at z 608) f102).trans rfl, rfl⟩
set_option maxRecDepth 20000 in
theorem d102_609 : mj_At 102 609 (.invokevirtual 63) 612 [1, 60, 2, 3, 416, 417, 418, 18] (.null) := ⟨3, (congrArg (fun z => mj_at z 609) f102).trans rfl, rfl⟩
set_option maxRecDepth 20000 in
theorem d102_612 : mj_At 102 612 (.iload 11) 614 [11] (.null) := ⟨2, (congrArg (fun z => mj_at z 612) f102).trans rfl, rfl⟩
set_option maxRecDepth 20000 in
theorem d102_614 : mj_At 102 614 (.if_icmp .ne (134)) 617 [748] (.null) := ⟨3, (congrArg (fun z => mj_at z 614) f102).trans rfl, rfl⟩
set_option maxRecDepth 20000 in
theorem d102_617 : mj_At 102 617 (.aload_n 0) 618 [0] (.null) := ⟨1, (congrArg (fun z => mj_at z 617) f102).trans rfl, rfl⟩
set_option maxRecDepth 20000 in
theorem d102_618 : mj_At 102 618 (.iconst (2)) 619 [] (.int 2) := ⟨1, (congrArg (fun z => mj_at z 618) f102).trans rfl, rfl⟩
set_option maxRecDepth 20000 in
theorem d102_619 : mj_At 102 619 (.invokevirtual 63) 622 [1, 60, 2, 3, 416, 417, 418, 18] (.null) := ⟨3, (congrArg (fun z => mj_at z 619) f102).trans rfl, rfl⟩
set_option maxRecDepth 20000 in
theorem d102_622 : mj_At 102 622 (.aload_n 2) 623 [2] (.null) := ⟨1, (congrArg (fun z => mj_at z 622) f102).trans rfl, rfl⟩
set_option maxRecDepth 20000 in
theorem d102_623 : mj_At 102 623 (.iconst (1)) 624 [] (.int 1) := ⟨1, (congrArg (fun z => mj_at z 623) f102).trans rfl, rfl⟩
set_option maxRecDepth 20000 in
theorem d102_624 : mj_At 102 624 (.iaload) 625 [] (.null) := ⟨1, (congrArg (fun z => mj_at z 624) f102).trans rfl, rfl⟩
set_option maxRecDepth 20000 in
theorem d102_625 : mj_At 102 625 (.if_icmp .ne (123)) 628 [748] (.null) := ⟨3, (congrArg (fun z => mj_at z 625) f102).trans rfl, rfl⟩
set_option maxRecDepth 20000 in
theorem d102_628 : mj_At 102 628 (.aload_n 0) 629 [0] (.null) := ⟨1, (congrArg (fun z => mj_at z 628) f102).trans rfl, rfl⟩
set_option maxRecDepth 20000 in
theorem d102_629 : mj_At 102 629 (.iconst (3)) 630 [] (.int 3) := ⟨1, (congrArg (fun z => mj_at z 629) f102).trans rfl, rfl⟩
set_option maxRecDepth 20000 in
theorem d102_630 : mj_At 102 630 (.invokevirtual 63) 633 [1, 60, 2, 3, 416, 417, 418, 18] (.null) := ⟨3, (congrArg (fun z => mj_at z 630) f102).trans rfl, rfl⟩
set_option maxRecDepth 20000 in
theorem d102_633 : mj_At 102 633 (.aload_n 2) 634 [2] (.null) := ⟨1, (congrArg (fun z => mj_at z 633) f102).trans rfl, rfl⟩
set_option maxRecDepth 20000 in
theorem d102_634 : mj_At 102 634 (.iconst (0)) 635 [] (.int 0) := ⟨1, (congrArg (fun z => mj_at z 634) f102).trans rfl, rfl⟩
set_option maxRecDepth 20000 in
theorem d102_635 : mj_At 102 635 (.iaload) 636 [] (.null) := ⟨1, (congrArg (fun z => mj_at z 635) f102).trans rfl, rfl⟩
set_option maxRecDepth 20000 in
theorem d102_636 : mj_At 102 636 (.if_icmp .ne (112)) 639 [748] (.null) := ⟨3, (congrArg (fun z => mj_at z 636) f102).trans rfl, rfl⟩
set_option maxRecDepth 20000 in
theorem d102_639 : mj_At 102 639 (.aload_n 0) 640 [0] (.null) := ⟨1, (congrArg (fun z => mj_at z 639) f102).trans rfl, rfl⟩
set_option maxRecDepth 20000 in
theorem d102_640 : mj_At 102 640 (.iconst (4)) 641 [] (.int 4) := ⟨1, (congrArg (fun z => mj_at z 640) f102).trans rfl, rfl⟩
set_option maxRecDepth 20000 in
theorem d102_641 : mj_At 102 641 (.invokevirtual 63) 644 [1, 60, 2, 3, 416, 417, 418, 18] (.null) := ⟨3, (congrArg (fun z => mj_at z 641) f102).trans rfl, rfl⟩
set_option maxRecDepth 20000 in
theorem d102_644 : mj_At 102 644 (.iload 7) 646 [7] (.null) := ⟨2, (congrArg (fun z => mj_at z 644) f102).trans rfl, rfl⟩
set_option maxRecDepth 20000 in
theorem d102_646 : mj_At 102 646 (.if_icmp .ne (102)) 649 [748] (.null) := ⟨3, (congrArg (fun z => mj_at z 646) f102).trans rfl, rfl⟩
set_option maxRecDepth 20000 in
theorem d102_649 : mj_At 102 649 (.aload_n 0) 650 [0] (.null) := ⟨1, (congrArg (fun z => mj_at z 649) f102).trans rfl, rfl⟩
set_option maxRecDepth 20000 in
theorem d102_650 : mj_At 102 650 (.iconst (5)) 651 [] (.int 5) := ⟨1, (congrArg (fun z => mj_at z 650) f102).trans rfl, rfl⟩
set_option maxRecDepth 20000 in
theorem d102_651 : mj_At 102 651 (.invokevirtual 63) 654 [1, 60, 2, 3, 416, 417, 418, 18] (.null) := ⟨3, (congrArg (fun z => mj_at z 651) f102).trans rfl, rfl⟩
set_option maxRecDepth 20000 in
theorem d102_654 : mj_At 102 654 (.aload_n 2) 655 [2] (.null) := ⟨1, (congrArg (fun z => mj_at z 654) f102).trans rfl, rfl⟩
set_option maxRecDepth 20000 in
theorem d102_655 : mj_At 102 655 (.iconst (2)) 656 [] (.int 2) := ⟨1, (congrArg (fun z => mj_at z 655) f102).trans rfl, rfl⟩
set_option maxRecDepth 20000 in
theorem d102_656 : mj_At 102 656 (.iaload) 657 [] (.null) := ⟨1, (congrArg (fun z => mj_at z 656) f102).trans rfl, rfl⟩
set_option maxRecDepth 20000 in
theorem d102_657 : mj_At 102 657 (.if_icmp .ne (91)) 660 [748] (.null) := ⟨3, (congrArg (fun z => mj_at z 657) f102).trans rfl, rfl⟩
set_option maxRecDepth 20000 in
theorem d102_660 : mj_At 102 660 (.aload_n 0) 661 [0] (.null) := ⟨1, (congrArg (fun z => mj_at z 660) f102).trans rfl, rfl⟩
set_option maxRecDepth 20000 in
theorem d102_661 : mj_At 102 661 (.bipush (6)) 663 [] (.int 6) := ⟨2, (congrArg (fun z => mj_at z 661) f102).trans rfl, rfl⟩
set_option maxRecDepth 20000 in
theorem d102_663 : mj_At 102 663 (.invokevirtual 63) 666 [1, 60, 2, 3, 416, 417, 418, 18] (.null) := ⟨3, (congrArg (fun z => mj_at z 663) f102).trans rfl, rfl⟩
set_option maxRecDepth 20000 in
theorem d102_666 : mj_At 102 666 (.aload_n 2) 667 [2] (.null) := ⟨1, (congrArg (fun z => mj_at z 666) f102).trans rfl, rfl⟩
set_option maxRecDepth 20000 in
theorem d102_667 : mj_At 102 667 (.iconst (3)) 668 [] (.int 3) := ⟨1, (congrArg (fun z => mj_at z 667) f102).trans rfl, rfl⟩
set_option maxRecDepth 20000 in
theorem d102_668 : mj_At 102 668 (.iaload) 669 [] (.null) := ⟨1, (congrArg (fun z => mj_at z 668) f102).trans rfl, rfl⟩
set_option maxRecDepth 20000 in
theorem d102_669 : mj_At 102 669 (.if_icmp .ne (79)) 672 [748] (.null) := ⟨3, (congrArg (fun z => mj_at z 669) f102).trans rfl, rfl⟩
set_option maxRecDepth 20000 in
theorem d102_672 : mj_At 102 672 (.aload_n 0) 673 [0] (.null) := ⟨1, (congrArg (fun z => mj_at z 672) f102).trans rfl, rfl⟩
set_option maxRecDepth 20000 in
theorem d102_673 : mj_At 102 673 (.bipush (7)) 675 [] (.int 7) := ⟨2, (congrArg (fun z => mj_at z 673) f102).trans rfl, rfl⟩
set_option maxRecDepth 20000 in
theorem d102_675 : mj_At 102 675 (.invokevirtual 63) 678 [1, 60, 2, 3, 416, 417, 418, 18] (.null) := ⟨3, (congrArg (fun z => mj_at z 675) f102).trans rfl, rfl⟩
set_option maxRecDepth 20000 in
theorem d102_678 : mj_At 102 678 (.aload_n 2) 679 [2] (.null) := ⟨1, (congrArg (fun z => mj_at z 678) f102).trans rfl, rfl⟩
set_option maxRecDepth 20000 in
theorem d102_679 : mj_At 102 679 (.iconst (4)) 680 [] (.int 4) := ⟨1, (congrArg (fun z => mj_at z 679) f102).trans rfl, rfl⟩
set_option maxRecDepth 20000 in
theorem d102_680 : mj_At 102 680 (.iaload) 681 [] (.null) := ⟨1, (congrArg (fun z => mj_at z 680) f102).trans rfl, rfl⟩
set_option maxRecDepth 20000 in
theorem d102_681 : mj_At 102 681 (.if_icmp .ne (67)) 684 [748] (.null) := ⟨3, (congrArg (fun z => mj_at z 681) f102).trans rfl, rfl⟩
set_option maxRecDepth 20000 in
theorem d102_684 : mj_At 102 684 (.aload_n 0) 685 [0] (.null) := ⟨1, (congrArg (fun z => mj_at z 684) f102).trans rfl, rfl⟩
set_option maxRecDepth 20000 in
theorem d102_685 : mj_At 102 685 (.bipush (8)) 687 [] (.int 8) := ⟨2, (congrArg (fun z => mj_at z 685) f102).trans rfl, rfl⟩
set_option maxRecDepth 20000 in
theorem d102_687 : mj_At 102 687 (.invokevirtual 63) 690 [1, 60, 2, 3, 416, 417, 418, 18] (.null) := ⟨3, (congrArg (fun z => mj_at z 687) f102).trans rfl, rfl⟩
set_option maxRecDepth 20000 in
theorem d102_690 : mj_At 102 690 (.aload_n 2) 691 [2] (.null) := ⟨1, (congrArg (fun z => mj_at z 690) f102).trans rfl, rfl⟩
set_option maxRecDepth 20000 in
theorem d102_691 : mj_At 102 691 (.iconst (5)) 692 [] (.int 5) := ⟨1, (congrArg (fun z => mj_at z 691) f102).trans rfl, rfl⟩
set_option maxRecDepth 20000 in
theorem d102_692 : mj_At 102 692 (.iaload) 693 [] (.null) := ⟨1, (congrArg (fun z => mj_at z 692) f102).trans rfl, rfl⟩
set_option maxRecDepth 20000 in
theorem d102_693 : mj_At 102 693 (.if_icmp .ne (55)) 696 [748] (.null) := ⟨3, (congrArg (fun z => mj_at z 693) f102).trans rfl, rfl⟩
set_option maxRecDepth 20000 in
theorem d102_696 : mj_At 102 696 (.aload_n 0) 697 [0] (.null) := ⟨1, (congrArg (fun z => mj_at z 696) f102).trans rfl, rfl⟩
set_option maxRecDepth 20000 in
theorem d102_697 : mj_At 102 697 (.invokevirtual 66) 700 [1, 70, 1, 3, 428, 429, 430, 18] (.null) := ⟨3, (congrArg (fun z => mj_at z 697) f102).trans rfl, rfl⟩
set_option maxRecDepth 20000 in
theorem d102_700 : mj_At 102 700 (.iload 8) 702 [8] (.null) := ⟨2, (congrArg (fun z => mj_at z 700) f102).trans rfl, rfl⟩
set_option maxRecDepth 20000 in
theorem d102_702 : mj_At 102 702 (.if_icmp .ne (46)) 705 [748] (.null) := ⟨3, (congrArg (fun z => mj_at z 702) f102).trans rfl, rfl⟩
set_option maxRecDepth 20000 in
theorem d102_705 : mj_At 102 705 (.aload_n 0) 706 [0] (.null) := ⟨1, (congrArg (fun z => mj_at z 705) f102).trans rfl, rfl⟩
set_option maxRecDepth 20000 in
theorem d102_706 : mj_At 102 706 (.invokevirtual 70) 709 [1, 71, 1, 3, 432, 433, 434, 18] (.null) := ⟨3, (congrArg (fun z => mj_at z 706) f102).trans rfl, rfl⟩
set_option maxRecDepth 20000 in
theorem d102_709 : mj_At 102 709 (.aload_n 2) 710 [2] (.null) := ⟨1, (congrArg (fun z => mj_at z 709) f102).trans rfl, rfl⟩
set_option maxRecDepth 20000 in
theorem d102_710 : mj_At 102 710 (.iconst (1)) 711 [] (.int 1) := ⟨1, (congrArg (fun z => mj_at z 710) f102).trans rfl, rfl⟩
set_option maxRecDepth 20000 in
theorem d102_711 : mj_At 102 711 (.iaload) 712 [] (.null) := ⟨1, (congrArg (fun z => mj_at z 711) f102).trans rfl, rfl⟩
set_option maxRecDepth 20000 in
theorem d102_712 : mj_At 102 712 (.iload 11) 714 [11] (.null) := ⟨2, (congrArg (fun z => mj_at z 712) f102).trans rfl, rfl⟩
set_option maxRecDepth 20000 in
theorem d102_714 : mj_At 102 714 (.if_icmp .le (15)) 717 [729] (.null) := ⟨3, (congrArg (fun z => mj_at z 714) f102).trans rfl, rfl⟩
set_option maxRecDepth 20000 in
theorem d102_717 : mj_At 102 717 (.aload_n 2) 718 [2] (.null) := ⟨1, (congrArg (fun z => mj_at z 717) f102).trans rfl, rfl⟩
set_option maxRecDepth 20000 in
theorem d102_718 : mj_At 102 718 (.iconst (1)) 719 [] (.int 1) := ⟨1, (congrArg (fun z => mj_at z 718) f102).trans rfl, rfl⟩
set_option maxRecDepth 20000 in
theorem d102_719 : mj_At 102 719 (.iaload) 720 [] (.null) := ⟨1, (congrArg (fun z => mj_at z 719) f102).trans rfl, rfl⟩
set_option maxRecDepth 20000 in
theorem d102_720 : mj_At 102 720 (.iload 11) 722 [11] (.null) := ⟨2, (congrArg (fun z => mj_at z 720) f102).trans rfl, rfl⟩
set_option maxRecDepth 20000 in
theorem d102_722 : mj_At 102 722 (.isub) 723 [] (.null) := ⟨1, (congrArg (fun z => mj_at z 722) f102).trans rfl, rfl⟩
set_option maxRecDepth 20000 in
theorem d102_723 : mj_At 102 723 (.bipush (65)) 725 [] (.int 65) := ⟨2, (congrArg (fun z => mj_at z 723) f102).trans rfl, rfl⟩
set_option maxRecDepth 20000 in
theorem d102_725 : mj_At 102 725 (.idiv) 726 [] (.null) := ⟨1, (congrArg (fun z => mj_at z 725) f102).trans rfl, rfl⟩
set_option maxRecDepth 20000 in
theorem d102_726 : mj_At 102 726 (.goto (4)) 729 [730] (.null) := ⟨3, (congrArg (fun z => mj_at z 726) f102).trans rfl, rfl⟩
set_option maxRecDepth 20000 in
theorem d102_729 : mj_At 102 729 (.iconst (0)) 730 [] (.int 0) := ⟨1, (congrArg (fun z => mj_at z 729) f102).trans rfl, rfl⟩
set_option maxRecDepth 20000 in
theorem d102_730 : mj_At 102 730 (.if_icmp .ne (18)) 733 [748] (.null) := ⟨3, (congrArg (fun z => mj_at z 730) f102).trans rfl, rfl⟩
set_option maxRecDepth 20000 in
theorem d102_733 : mj_At 102 733 (.aload_n 0) 734 [0] (.null) := ⟨1, (congrArg (fun z => mj_at z 733) f102).trans rfl, rfl⟩
set_option maxRecDepth 20000 in
theorem d102_734 : mj_At 102 734 (.iload 12) 736 [12] (.null) := ⟨2, (congrArg (fun z => mj_at z 734) f102).trans rfl, rfl⟩
set_option maxRecDepth 20000 in
theorem d102_736 : mj_At 102 736 (.invokevirtual 73) 739 [1, 69, 2, 3, 436, 437, 438, 18] (.null) := ⟨3, (congrArg (fun z => mj_at z 736) f102).trans rfl, rfl⟩
set_option maxRecDepth 20000 in
theorem d102_739 : mj_At 102 739 (.iload 13) 741 [13] (.null) := ⟨2, (congrArg (fun z => mj_at z 739) f102).trans rfl, rfl⟩
set_option maxRecDepth 20000 in
theorem d102_741 : mj_At 102 741 (.if_icmp .ne (7)) 744 [748] (.null) := ⟨3, (congrArg (fun z => mj_at z 741) f102).trans rfl, rfl⟩
set_option maxRecDepth 20000 in
theorem d102_744 : mj_At 102 744 (.iconst (1)) 745 [] (.int 1) := ⟨1, (congrArg (fun z => mj_at z 744) f102).trans rfl, rfl⟩
set_option maxRecDepth 20000 in
theorem d102_745 : mj_At 102 745 (.goto (4)) 748 [749] (.null) := ⟨3, (congrArg (fun z => mj_at z 745) f102).trans rfl, rfl⟩
set_option maxRecDepth 20000 in
theorem d102_748 : mj_At 102 748 (.iconst (0)) 749 [] (.int 0) := ⟨1, (congrArg (fun z => mj_at z 748) f102).trans rfl, rfl⟩
set_option maxRecDepth 20000 in
theorem d102_749 : mj_At 102 749 (.ireturn) 750 [1] (.null) := ⟨1, (congrArg (fun z => mj_at z 749) f102).trans rfl, rfl⟩
theorem e102_0 {c : mj_C} {x1 : Int32} {L n : Nat} {ps : List (Option (Option Nat))}   : mj_EV 102 0 [some (.ref 2), some (.int x1), some (.ref 52), some (.ref 53), some (.ref 54), some (.ref 55), none, none, none, none, none, none, none, none, none, none, none, none, none, none, none, none] [] (w_sh L ps (w_lo n)) c = mj_EV 102 21 [some (.ref 2), some (.int x1), some (.ref 52), some (.ref 53), some (.ref 54), some (.ref 55), some (.int (nI 0)), some (.int (nI 0)), some (.int (-6)), some (.int (nI 0)), some (.ref (57 + n)), some (.int (nI 0)), none, none, none, none, none, none, none, none, none, none] [] (w_sh L ps (w_lo (n + 1))) (mj_z c (57 + n)) := (mj_iconst d102_0 (mj_istore [some (.ref 2), some (.int x1), some (.ref 52), some (.ref 53), some (.ref 54), some (.ref 55), some (.int (nI 0)), none, none, none, none, none, none, none, none, none, none, none, none, none, none, none] d102_1 rfl rfl (mj_iconst d102_3 (mj_istore [some (.ref 2), some (.int x1), some (.ref 52), some (.ref 53), some (.ref 54), some (.ref 55), some (.int (nI 0)), some (.int (nI 0)), none, none, none, none, none, none, none, none, none, none, none, none, none, none] d102_4 rfl rfl (mj_bipush d102_6 (mj_istore [some (.ref 2), some (.int x1), some (.ref 52), some (.ref 53), some (.ref 54), some (.ref 55), some (.int (nI 0)), some (.int (nI 0)), some (.int (-6)), none, none, none, none, none, none, none, none, none, none, none, none, none] d102_8 rfl rfl (mj_iconst d102_10 (mj_istore [some (.ref 2), some (.int x1), some (.ref 52), some (.ref 53), some (.ref 54), some (.ref 55), some (.int (nI 0)), some (.int (nI 0)), some (.int (-6)), some (.int (nI 0)), none, none, none, none, none, none, none, none, none, none, none, none] d102_11 rfl rfl (mj_iconst d102_13 (mj_newa (z := 57 + n) (w_sh L ps (w_lo (n + 1))) d102_14 rfl rfl w_len w_app (mj_astore [some (.ref 2), some (.int x1), some (.ref 52), some (.ref 53), some (.ref 54), some (.ref 55), some (.int (nI 0)), some (.int (nI 0)), some (.int (-6)), some (.int (nI 0)), some (.ref (57 + n)), none, none, none, none, none, none, none, none, none, none, none] d102_16 rfl rfl (mj_iconst d102_18 (mj_istore [some (.ref 2), some (.int x1), some (.ref 52), some (.ref 53), some (.ref 54), some (.ref 55), some (.int (nI 0)), some (.int (nI 0)), some (.int (-6)), some (.int (nI 0)), some (.ref (57 + n)), some (.int (nI 0)), none, none, none, none, none, none, none, none, none, none] d102_19 rfl rfl rfl)))))))))))))
theorem e102_21 {c : mj_C} {x1 : Int32} {x6 : Int32} {x7 : Int32} {x8 : Int32} {x9 : Int32} {x11 : Int32} {o12 : Option Value} {o13 : Option Value} {o14 : Option Value} {o15 : Option Value} {o16 : Option Value} {o17 : Option Value} {o18 : Option Value} {o19 : Option Value} {o20 : Option Value} {o21 : Option Value} {L n : Nat} {ps : List (Option (Option Nat))}   : mj_EV 102 21 [some (.ref 2), some (.int x1), some (.ref 52), some (.ref 53), some (.ref 54), some (.ref 55), some (.int x6), some (.int x7), some (.int x8), some (.int x9), some (.ref (57 + n)), some (.int x11), o12, o13, o14, o15, o16, o17, o18, o19, o20, o21] [] (w_sh L ps (w_lo (n + 1))) c = (if (nI 3) ≤ x11 then mj_EV 102 419 [some (.ref 2), some (.int x1), some (.ref 52), some (.ref 53), some (.ref 54), some (.ref 55), some (.int x6), some (.int x7), some (.int x8), some (.int x9), some (.ref (57 + n)), some (.int (nI 0)), o12, o13, o14, o15, o16, o17, o18, o19, o20, o21] [] (w_sh L ps (w_lo (n + 1))) c else (mj_then 102 37 [some (.ref 2), some (.int x1), some (.ref 52), some (.ref 53), some (.ref 54), some (.ref 55), some (.int x6), some (.int x7), some (.int x8), some (.int x9), some (.ref (57 + n)), some (.int x11), o12, o13, o14, o15, o16, o17, o18, o19, o20, o21] [] (mj_EV 94 0 [some (.int x11), some (.ref 53), some (.ref 54), some (.ref 55)] [] (w_sh L ps (w_lo (n + 1))) c))) := (mj_iload d102_21 rfl (mj_iconst d102_23 (mj_icge d102_24 (mj_iconst d102_416 (mj_istore [some (.ref 2), some (.int x1), some (.ref 52), some (.ref 53), some (.ref 54), some (.ref 55), some (.int x6), some (.int x7), some (.int x8), some (.int x9), some (.ref (57 + n)), some (.int (nI 0)), o12, o13, o14, o15, o16, o17, o18, o19, o20, o21] d102_417 rfl rfl rfl)) (mj_iload d102_27 rfl (mj_aload_n d102_29 rfl (mj_aload d102_30 rfl (mj_aload d102_32 rfl (mj_invS [some (.int x11), some (.ref 53), some (.ref 54), some (.ref 55)] [] d102_34 (by decide) rfl rfl rfl rfl))))))))
theorem e102_37 {c : mj_C} {x1 : Int32} {x6 : Int32} {x7 : Int32} {x8 : Int32} {x9 : Int32} {x11 : Int32} {o12 : Option Value} {o13 : Option Value} {o14 : Option Value} {o15 : Option Value} {o16 : Option Value} {o17 : Option Value} {o18 : Option Value} {o19 : Option Value} {o20 : Option Value} {o21 : Option Value} {L n : Nat} {ps : List (Option (Option Nat))} {rr34 : Nat} (hrr34 : (w_sh L ps (w_lo (n + 1)))[rr34]? = some (0, 64, []))  : mj_EV 102 37 [some (.ref 2), some (.int x1), some (.ref 52), some (.ref 53), some (.ref 54), some (.ref 55), some (.int x6), some (.int x7), some (.int x8), some (.int x9), some (.ref (57 + n)), some (.int x11), o12, o13, o14, o15, o16, o17, o18, o19, o20, o21] [.ref rr34] (w_sh L ps (w_lo (n + 1))) c = (if mj_in ((nI 6) + x11) 17 = true then (if nI 0 ≤ (c 52 ((nI 6) + x11).toNatClampNeg) then (if mj_in (nI 0) 17 = true then (mj_then 102 74 [some (.ref 2), some (.int x1), some (.ref 52), some (.ref 53), some (.ref 54), some (.ref 55), some (.int x6), some (.int x7), some (.int x8), some (.int x9), some (.ref (57 + n)), some (.int x11), some (.ref rr34), some (.int (c 52 ((nI 6) + x11).toNatClampNeg)), o14, o15, o16, o17, o18, o19, o20, o21] [] (mj_EV 100 0 [some (.int (c 52 (nI 0).toNatClampNeg)), some (.ref rr34), none, none] [] (w_sh L ps (w_lo (n + 1))) c)) else none) else (mj_then 102 60 [some (.ref 2), some (.int x1), some (.ref 52), some (.ref 53), some (.ref 54), some (.ref 55), some (.int x6), some (.int x7), some (.int x8), some (.int x9), some (.ref (57 + n)), some (.int x11), some (.ref rr34), some (.int (c 52 ((nI 6) + x11).toNatClampNeg)), o14, o15, o16, o17, o18, o19, o20, o21] [] (mj_EV 62 0 [some (.ref 2), some (.int x11), some (.int (nI 0))] [] (w_sh L ps (w_lo (n + 1))) c))) else none) := (mj_astore [some (.ref 2), some (.int x1), some (.ref 52), some (.ref 53), some (.ref 54), some (.ref 55), some (.int x6), some (.int x7), some (.int x8), some (.int x9), some (.ref (57 + n)), some (.int x11), some (.ref rr34), o13, o14, o15, o16, o17, o18, o19, o20, o21] d102_37 rfl rfl (mj_aload_n d102_39 rfl (mj_bipush d102_40 (mj_iload d102_42 rfl (mj_iadd d102_44 (mj_iald d102_45 w_52 (mj_istore [some (.ref 2), some (.int x1), some (.ref 52), some (.ref 53), some (.ref 54), some (.ref 55), some (.int x6), some (.int x7), some (.int x8), some (.int x9), some (.ref (57 + n)), some (.int x11), some (.ref rr34), some (.int (c 52 ((nI 6) + x11).toNatClampNeg)), o14, o15, o16, o17, o18, o19, o20, o21] d102_46 rfl rfl (mj_iload d102_48 rfl (mj_ifge d102_50 (mj_aload_n d102_66 rfl (mj_iconst d102_67 (mj_iald d102_68 w_52 (mj_aload d102_69 rfl (mj_invS [some (.int (c 52 (nI 0).toNatClampNeg)), some (.ref rr34), none, none] [] d102_71 (by decide) rfl rfl rfl rfl))))) (mj_aload_n d102_53 rfl (mj_iload d102_54 rfl (mj_iconst d102_56 (mj_invV [some (.ref 2), some (.int x11), some (.int (nI 0))] [] d102_57 rfl rfl rfl w_2 rfl rfl)))))))))))))
theorem e102_60 {c : mj_C} {x1 : Int32} {x6 : Int32} {x7 : Int32} {x8 : Int32} {x9 : Int32} {x11 : Int32} {x13 : Int32} {o14 : Option Value} {o15 : Option Value} {o16 : Option Value} {o17 : Option Value} {o18 : Option Value} {o19 : Option Value} {o20 : Option Value} {o21 : Option Value} {z0 : Int32} {L n : Nat} {ps : List (Option (Option Nat))} {rr34 : Nat} (hrr34 : (w_sh L ps (w_lo (n + 1)))[rr34]? = some (0, 64, []))  : mj_EV 102 60 [some (.ref 2), some (.int x1), some (.ref 52), some (.ref 53), some (.ref 54), some (.ref 55), some (.int x6), some (.int x7), some (.int x8), some (.int x9), some (.ref (57 + n)), some (.int x11), some (.ref rr34), some (.int x13), o14, o15, o16, o17, o18, o19, o20, o21] [.int z0] (w_sh L ps (w_lo (n + 1))) c = (if z0 = (-1) then mj_EV 102 21 [some (.ref 2), some (.int x1), some (.ref 52), some (.ref 53), some (.ref 54), some (.ref 55), some (.int x6), some (.int x7), some (.int x8), some (.int x9), some (.ref (57 + n)), some (.int (x11 + (nI 1))), some (.ref rr34), some (.int x13), o14, o15, o16, o17, o18, o19, o20, o21] [] (w_sh L ps (w_lo (n + 1))) c else (some (some (.int (nI 0)), (w_sh L ps (w_lo (n + 1))), c))) := (mj_iconst d102_60 (mj_iceq d102_61 (mj_iinc [some (.ref 2), some (.int x1), some (.ref 52), some (.ref 53), some (.ref 54), some (.ref 55), some (.int x6), some (.int x7), some (.int x8), some (.int x9), some (.ref (57 + n)), some (.int (x11 + (nI 1))), some (.ref rr34), some (.int x13), o14, o15, o16, o17, o18, o19, o20, o21] d102_410 rfl rfl rfl (mj_goto d102_413 rfl)) (mj_iconst d102_64 (mj_zret0 d102_65))))
theorem e102_74 {c : mj_C} {x1 : Int32} {x6 : Int32} {x7 : Int32} {x8 : Int32} {x9 : Int32} {x11 : Int32} {x13 : Int32} {o14 : Option Value} {o15 : Option Value} {o16 : Option Value} {o17 : Option Value} {o18 : Option Value} {o19 : Option Value} {o20 : Option Value} {o21 : Option Value} {z0 : Int32} {L n : Nat} {ps : List (Option (Option Nat))} {rr34 : Nat} (hrr34 : (w_sh L ps (w_lo (n + 1)))[rr34]? = some (0, 64, []))  : mj_EV 102 74 [some (.ref 2), some (.int x1), some (.ref 52), some (.ref 53), some (.ref 54), some (.ref 55), some (.int x6), some (.int x7), some (.int x8), some (.int x9), some (.ref (57 + n)), some (.int x11), some (.ref rr34), some (.int x13), o14, o15, o16, o17, o18, o19, o20, o21] [.int z0] (w_sh L ps (w_lo (n + 1))) c = (mj_then 102 83 [some (.ref 2), some (.int x1), some (.ref 52), some (.ref 53), some (.ref 54), some (.ref 55), some (.int x6), some (.int x7), some (.int x8), some (.int x9), some (.ref (57 + n)), some (.int x11), some (.ref rr34), some (.int x13), some (.int z0), o15, o16, o17, o18, o19, o20, o21] [] (mj_EV 99 0 [some (.int x13), some (.ref rr34)] [] (w_sh L ps (w_lo (n + 1))) c)) := (mj_istore [some (.ref 2), some (.int x1), some (.ref 52), some (.ref 53), some (.ref 54), some (.ref 55), some (.int x6), some (.int x7), some (.int x8), some (.int x9), some (.ref (57 + n)), some (.int x11), some (.ref rr34), some (.int x13), some (.int z0), o15, o16, o17, o18, o19, o20, o21] d102_74 rfl rfl (mj_iload d102_76 rfl (mj_aload d102_78 rfl (mj_invS [some (.int x13), some (.ref rr34)] [] d102_80 (by decide) rfl rfl rfl rfl))))
theorem e102_83 {c : mj_C} {x1 : Int32} {x6 : Int32} {x7 : Int32} {x8 : Int32} {x9 : Int32} {x11 : Int32} {x13 : Int32} {x14 : Int32} {o15 : Option Value} {o16 : Option Value} {o17 : Option Value} {o18 : Option Value} {o19 : Option Value} {o20 : Option Value} {o21 : Option Value} {z0 : Int32} {L n : Nat} {ps : List (Option (Option Nat))} {rr34 : Nat} (hrr34 : (w_sh L ps (w_lo (n + 1)))[rr34]? = some (0, 64, []))  : mj_EV 102 83 [some (.ref 2), some (.int x1), some (.ref 52), some (.ref 53), some (.ref 54), some (.ref 55), some (.int x6), some (.int x7), some (.int x8), some (.int x9), some (.ref (57 + n)), some (.int x11), some (.ref rr34), some (.int x13), some (.int x14), o15, o16, o17, o18, o19, o20, o21] [.int z0] (w_sh L ps (w_lo (n + 1))) c = (mj_then 102 90 [some (.ref 2), some (.int x1), some (.ref 52), some (.ref 53), some (.ref 54), some (.ref 55), some (.int x6), some (.int x7), some (.int x8), some (.int x9), some (.ref (57 + n)), some (.int x11), some (.ref rr34), some (.int x13), some (.int x14), o15, o16, o17, o18, o19, o20, o21] [.int z0] (mj_EV 99 0 [some (.int x14), some (.ref rr34)] [] (w_sh L ps (w_lo (n + 1))) c)) := (mj_iload d102_83 rfl (mj_aload d102_85 rfl (mj_invS [some (.int x14), some (.ref rr34)] [.int z0] d102_87 (by decide) rfl rfl rfl rfl)))
theorem e102_90 {c : mj_C} {x1 : Int32} {x6 : Int32} {x7 : Int32} {x8 : Int32} {x9 : Int32} {x11 : Int32} {x13 : Int32} {x14 : Int32} {o15 : Option Value} {o16 : Option Value} {o17 : Option Value} {o18 : Option Value} {o19 : Option Value} {o20 : Option Value} {o21 : Option Value} {z0 : Int32} {z1 : Int32} {L n : Nat} {ps : List (Option (Option Nat))} {rr34 : Nat} (hrr34 : (w_sh L ps (w_lo (n + 1)))[rr34]? = some (0, 64, []))  : mj_EV 102 90 [some (.ref 2), some (.int x1), some (.ref 52), some (.ref 53), some (.ref 54), some (.ref 55), some (.int x6), some (.int x7), some (.int x8), some (.int x9), some (.ref (57 + n)), some (.int x11), some (.ref rr34), some (.int x13), some (.int x14), o15, o16, o17, o18, o19, o20, o21] [.int z1, .int z0] (w_sh L ps (w_lo (n + 1))) c = (mj_then 102 105 [some (.ref 2), some (.int x1), some (.ref 52), some (.ref 53), some (.ref 54), some (.ref 55), some (.int (x6 + (nI 1))), some (.int x7), some (.int x8), some (.int x9), some (.ref (57 + n)), some (.int x11), some (.ref rr34), some (.int x13), some (.int x14), some (.int (z0 - z1)), o16, o17, o18, o19, o20, o21] [.int x7] (mj_EV 97 0 [some (.int x13), some (.ref rr34), none, none] [] (w_sh L ps (w_lo (n + 1))) c)) := (mj_isub d102_90 (mj_istore [some (.ref 2), some (.int x1), some (.ref 52), some (.ref 53), some (.ref 54), some (.ref 55), some (.int x6), some (.int x7), some (.int x8), some (.int x9), some (.ref (57 + n)), some (.int x11), some (.ref rr34), some (.int x13), some (.int x14), some (.int (z0 - z1)), o16, o17, o18, o19, o20, o21] d102_91 rfl rfl (mj_iinc [some (.ref 2), some (.int x1), some (.ref 52), some (.ref 53), some (.ref 54), some (.ref 55), some (.int (x6 + (nI 1))), some (.int x7), some (.int x8), some (.int x9), some (.ref (57 + n)), some (.int x11), some (.ref rr34), some (.int x13), some (.int x14), some (.int (z0 - z1)), o16, o17, o18, o19, o20, o21] d102_93 rfl rfl rfl (mj_iload d102_96 rfl (mj_iload d102_98 rfl (mj_aload d102_100 rfl (mj_invS [some (.int x13), some (.ref rr34), none, none] [.int x7] d102_102 (by decide) rfl rfl rfl rfl)))))))
theorem e102_105 {c : mj_C} {x1 : Int32} {x6 : Int32} {x7 : Int32} {x8 : Int32} {x9 : Int32} {x11 : Int32} {x13 : Int32} {x14 : Int32} {x15 : Int32} {o16 : Option Value} {o17 : Option Value} {o18 : Option Value} {o19 : Option Value} {o20 : Option Value} {o21 : Option Value} {z0 : Int32} {z1 : Int32} {L n : Nat} {ps : List (Option (Option Nat))} {rr34 : Nat} (hrr34 : (w_sh L ps (w_lo (n + 1)))[rr34]? = some (0, 64, []))  : mj_EV 102 105 [some (.ref 2), some (.int x1), some (.ref 52), some (.ref 53), some (.ref 54), some (.ref 55), some (.int x6), some (.int x7), some (.int x8), some (.int x9), some (.ref (57 + n)), some (.int x11), some (.ref rr34), some (.int x13), some (.int x14), some (.int x15), o16, o17, o18, o19, o20, o21] [.int z1, .int z0] (w_sh L ps (w_lo (n + 1))) c = (mj_then 102 108 [some (.ref 2), some (.int x1), some (.ref 52), some (.ref 53), some (.ref 54), some (.ref 55), some (.int x6), some (.int x7), some (.int x8), some (.int x9), some (.ref (57 + n)), some (.int x11), some (.ref rr34), some (.int x13), some (.int x14), some (.int x15), o16, o17, o18, o19, o20, o21] [.int z0] (mj_EV 98 0 [some (.int z1), none, none] [] (w_sh L ps (w_lo (n + 1))) c)) := (mj_invS [some (.int z1), none, none] [.int z0] d102_105 (by decide) rfl rfl rfl rfl)
theorem e102_108 {c : mj_C} {x1 : Int32} {x6 : Int32} {x7 : Int32} {x8 : Int32} {x9 : Int32} {x11 : Int32} {x13 : Int32} {x14 : Int32} {x15 : Int32} {o16 : Option Value} {o17 : Option Value} {o18 : Option Value} {o19 : Option Value} {o20 : Option Value} {o21 : Option Value} {z0 : Int32} {z1 : Int32} {L n : Nat} {ps : List (Option (Option Nat))} {rr34 : Nat} (hrr34 : (w_sh L ps (w_lo (n + 1)))[rr34]? = some (0, 64, []))  : mj_EV 102 108 [some (.ref 2), some (.int x1), some (.ref 52), some (.ref 53), some (.ref 54), some (.ref 55), some (.int x6), some (.int x7), some (.int x8), some (.int x9), some (.ref (57 + n)), some (.int x11), some (.ref rr34), some (.int x13), some (.int x14), some (.int x15), o16, o17, o18, o19, o20, o21] [.int z1, .int z0] (w_sh L ps (w_lo (n + 1))) c = (if x15 ≤ x9 then (mj_then 102 133 [some (.ref 2), some (.int x1), some (.ref 52), some (.ref 53), some (.ref 54), some (.ref 55), some (.int x6), some (.int (z0 + z1)), some (.int x8), some (.int x9), some (.ref (57 + n)), some (.int x11), some (.ref rr34), some (.int x13), some (.int x14), some (.int x15), o16, o17, o18, o19, o20, o21] [] (mj_EV 62 0 [some (.ref 2), some (.int x11), some (.int (nI 0))] [] (w_sh L ps (w_lo (n + 1))) c)) else (mj_then 102 133 [some (.ref 2), some (.int x1), some (.ref 52), some (.ref 53), some (.ref 54), some (.ref 55), some (.int x6), some (.int (z0 + z1)), some (.int x11), some (.int x15), some (.ref (57 + n)), some (.int x11), some (.ref rr34), some (.int x13), some (.int x14), some (.int x15), o16, o17, o18, o19, o20, o21] [] (mj_EV 62 0 [some (.ref 2), some (.int x11), some (.int (nI 0))] [] (w_sh L ps (w_lo (n + 1))) c))) := (mj_iadd d102_108 (mj_istore [some (.ref 2), some (.int x1), some (.ref 52), some (.ref 53), some (.ref 54), some (.ref 55), some (.int x6), some (.int (z0 + z1)), some (.int x8), some (.int x9), some (.ref (57 + n)), some (.int x11), some (.ref rr34), some (.int x13), some (.int x14), some (.int x15), o16, o17, o18, o19, o20, o21] d102_109 rfl rfl (mj_iload d102_111 rfl (mj_iload d102_113 rfl (mj_icle d102_115 (mj_aload_n d102_126 rfl (mj_iload d102_127 rfl (mj_iconst d102_129 (mj_invV [some (.ref 2), some (.int x11), some (.int (nI 0))] [] d102_130 rfl rfl rfl w_2 rfl rfl)))) (mj_iload d102_118 rfl (mj_istore [some (.ref 2), some (.int x1), some (.ref 52), some (.ref 53), some (.ref 54), some (.ref 55), some (.int x6), some (.int (z0 + z1)), some (.int x8), some (.int x15), some (.ref (57 + n)), some (.int x11), some (.ref rr34), some (.int x13), some (.int x14), some (.int x15), o16, o17, o18, o19, o20, o21] d102_120 rfl rfl (mj_iload d102_122 rfl (mj_istore [some (.ref 2), some (.int x1), some (.ref 52), some (.ref 53), some (.ref 54), some (.ref 55), some (.int x6), some (.int (z0 + z1)), some (.int x11), some (.int x15), some (.ref (57 + n)), some (.int x11), some (.ref rr34), some (.int x13), some (.int x14), some (.int x15), o16, o17, o18, o19, o20, o21] d102_124 rfl rfl (mj_aload_n d102_126 rfl (mj_iload d102_127 rfl (mj_iconst d102_129 (mj_invV [some (.ref 2), some (.int x11), some (.int (nI 0))] [] d102_130 rfl rfl rfl w_2 rfl rfl)))))))))))))
theorem e102_133 {c : mj_C} {x1 : Int32} {x6 : Int32} {x7 : Int32} {x8 : Int32} {x9 : Int32} {x11 : Int32} {x13 : Int32} {x14 : Int32} {x15 : Int32} {o16 : Option Value} {o17 : Option Value} {o18 : Option Value} {o19 : Option Value} {o20 : Option Value} {o21 : Option Value} {z0 : Int32} {L n : Nat} {ps : List (Option (Option Nat))} {rr34 : Nat} (hrr34 : (w_sh L ps (w_lo (n + 1)))[rr34]? = some (0, 64, []))  : mj_EV 102 133 [some (.ref 2), some (.int x1), some (.ref 52), some (.ref 53), some (.ref 54), some (.ref 55), some (.int x6), some (.int x7), some (.int x8), some (.int x9), some (.ref (57 + n)), some (.int x11), some (.ref rr34), some (.int x13), some (.int x14), some (.int x15), o16, o17, o18, o19, o20, o21] [.int z0] (w_sh L ps (w_lo (n + 1))) c = (if z0 = x13 then (mj_then 102 145 [some (.ref 2), some (.int x1), some (.ref 52), some (.ref 53), some (.ref 54), some (.ref 55), some (.int x6), some (.int x7), some (.int x8), some (.int x9), some (.ref (57 + n)), some (.int x11), some (.ref rr34), some (.int x13), some (.int x14), some (.int x15), o16, o17, o18, o19, o20, o21] [] (mj_EV 62 0 [some (.ref 2), some (.int x11), some (.int (nI 1))] [] (w_sh L ps (w_lo (n + 1))) c)) else (some (some (.int (nI 0)), (w_sh L ps (w_lo (n + 1))), c))) := (mj_iload d102_133 rfl (mj_icne d102_135 (mj_iconst d102_201 (mj_zret0 d102_202)) (mj_aload_n d102_138 rfl (mj_iload d102_139 rfl (mj_iconst d102_141 (mj_invV [some (.ref 2), some (.int x11), some (.int (nI 1))] [] d102_142 rfl rfl rfl w_2 rfl rfl))))))
theorem e102_145 {c : mj_C} {x1 : Int32} {x6 : Int32} {x7 : Int32} {x8 : Int32} {x9 : Int32} {x11 : Int32} {x13 : Int32} {x14 : Int32} {x15 : Int32} {o16 : Option Value} {o17 : Option Value} {o18 : Option Value} {o19 : Option Value} {o20 : Option Value} {o21 : Option Value} {z0 : Int32} {L n : Nat} {ps : List (Option (Option Nat))} {rr34 : Nat} (hrr34 : (w_sh L ps (w_lo (n + 1)))[rr34]? = some (0, 64, []))  : mj_EV 102 145 [some (.ref 2), some (.int x1), some (.ref 52), some (.ref 53), some (.ref 54), some (.ref 55), some (.int x6), some (.int x7), some (.int x8), some (.int x9), some (.ref (57 + n)), some (.int x11), some (.ref rr34), some (.int x13), some (.int x14), some (.int x15), o16, o17, o18, o19, o20, o21] [.int z0] (w_sh L ps (w_lo (n + 1))) c = (mj_then 102 152 [some (.ref 2), some (.int x1), some (.ref 52), some (.ref 53), some (.ref 54), some (.ref 55), some (.int x6), some (.int x7), some (.int x8), some (.int x9), some (.ref (57 + n)), some (.int x11), some (.ref rr34), some (.int x13), some (.int x14), some (.int x15), o16, o17, o18, o19, o20, o21] [.int z0] (mj_EV 99 0 [some (.int x13), some (.ref rr34)] [] (w_sh L ps (w_lo (n + 1))) c)) := (mj_iload d102_145 rfl (mj_aload d102_147 rfl (mj_invS [some (.int x13), some (.ref rr34)] [.int z0] d102_149 (by decide) rfl rfl rfl rfl)))
theorem e102_152 {c : mj_C} {x1 : Int32} {x6 : Int32} {x7 : Int32} {x8 : Int32} {x9 : Int32} {x11 : Int32} {x13 : Int32} {x14 : Int32} {x15 : Int32} {o16 : Option Value} {o17 : Option Value} {o18 : Option Value} {o19 : Option Value} {o20 : Option Value} {o21 : Option Value} {z0 : Int32} {z1 : Int32} {L n : Nat} {ps : List (Option (Option Nat))} {rr34 : Nat} (hrr34 : (w_sh L ps (w_lo (n + 1)))[rr34]? = some (0, 64, []))  : mj_EV 102 152 [some (.ref 2), some (.int x1), some (.ref 52), some (.ref 53), some (.ref 54), some (.ref 55), some (.int x6), some (.int x7), some (.int x8), some (.int x9), some (.ref (57 + n)), some (.int x11), some (.ref rr34), some (.int x13), some (.int x14), some (.int x15), o16, o17, o18, o19, o20, o21] [.int z1, .int z0] (w_sh L ps (w_lo (n + 1))) c = (if z0 = z1 then (mj_then 102 162 [some (.ref 2), some (.int x1), some (.ref 52), some (.ref 53), some (.ref 54), some (.ref 55), some (.int x6), some (.int x7), some (.int x8), some (.int x9), some (.ref (57 + n)), some (.int x11), some (.ref rr34), some (.int x13), some (.int x14), some (.int x15), o16, o17, o18, o19, o20, o21] [] (mj_EV 62 0 [some (.ref 2), some (.int x11), some (.int (nI 2))] [] (w_sh L ps (w_lo (n + 1))) c)) else (some (some (.int (nI 0)), (w_sh L ps (w_lo (n + 1))), c))) := (mj_icne d102_152 (mj_iconst d102_201 (mj_zret0 d102_202)) (mj_aload_n d102_155 rfl (mj_iload d102_156 rfl (mj_iconst d102_158 (mj_invV [some (.ref 2), some (.int x11), some (.int (nI 2))] [] d102_159 rfl rfl rfl w_2 rfl rfl)))))
theorem e102_162 {c : mj_C} {x1 : Int32} {x6 : Int32} {x7 : Int32} {x8 : Int32} {x9 : Int32} {x11 : Int32} {x13 : Int32} {x14 : Int32} {x15 : Int32} {o16 : Option Value} {o17 : Option Value} {o18 : Option Value} {o19 : Option Value} {o20 : Option Value} {o21 : Option Value} {z0 : Int32} {L n : Nat} {ps : List (Option (Option Nat))} {rr34 : Nat} (hrr34 : (w_sh L ps (w_lo (n + 1)))[rr34]? = some (0, 64, []))  : mj_EV 102 162 [some (.ref 2), some (.int x1), some (.ref 52), some (.ref 53), some (.ref 54), some (.ref 55), some (.int x6), some (.int x7), some (.int x8), some (.int x9), some (.ref (57 + n)), some (.int x11), some (.ref rr34), some (.int x13), some (.int x14), some (.int x15), o16, o17, o18, o19, o20, o21] [.int z0] (w_sh L ps (w_lo (n + 1))) c = (mj_then 102 169 [some (.ref 2), some (.int x1), some (.ref 52), some (.ref 53), some (.ref 54), some (.ref 55), some (.int x6), some (.int x7), some (.int x8), some (.int x9), some (.ref (57 + n)), some (.int x11), some (.ref rr34), some (.int x13), some (.int x14), some (.int x15), o16, o17, o18, o19, o20, o21] [.int z0] (mj_EV 97 0 [some (.int x13), some (.ref rr34), none, none] [] (w_sh L ps (w_lo (n + 1))) c)) := (mj_iload d102_162 rfl (mj_aload d102_164 rfl (mj_invS [some (.int x13), some (.ref rr34), none, none] [.int z0] d102_166 (by decide) rfl rfl rfl rfl)))
theorem e102_169 {c : mj_C} {x1 : Int32} {x6 : Int32} {x7 : Int32} {x8 : Int32} {x9 : Int32} {x11 : Int32} {x13 : Int32} {x14 : Int32} {x15 : Int32} {o16 : Option Value} {o17 : Option Value} {o18 : Option Value} {o19 : Option Value} {o20 : Option Value} {o21 : Option Value} {z0 : Int32} {z1 : Int32} {L n : Nat} {ps : List (Option (Option Nat))} {rr34 : Nat} (hrr34 : (w_sh L ps (w_lo (n + 1)))[rr34]? = some (0, 64, []))  : mj_EV 102 169 [some (.ref 2), some (.int x1), some (.ref 52), some (.ref 53), some (.ref 54), some (.ref 55), some (.int x6), some (.int x7), some (.int x8), some (.int x9), some (.ref (57 + n)), some (.int x11), some (.ref rr34), some (.int x13), some (.int x14), some (.int x15), o16, o17, o18, o19, o20, o21] [.int z1, .int z0] (w_sh L ps (w_lo (n + 1))) c = (if z0 = z1 then (mj_then 102 179 [some (.ref 2), some (.int x1), some (.ref 52), some (.ref 53), some (.ref 54), some (.ref 55), some (.int x6), some (.int x7), some (.int x8), some (.int x9), some (.ref (57 + n)), some (.int x11), some (.ref rr34), some (.int x13), some (.int x14), some (.int x15), o16, o17, o18, o19, o20, o21] [] (mj_EV 62 0 [some (.ref 2), some (.int x11), some (.int (nI 3))] [] (w_sh L ps (w_lo (n + 1))) c)) else (some (some (.int (nI 0)), (w_sh L ps (w_lo (n + 1))), c))) := (mj_icne d102_169 (mj_iconst d102_201 (mj_zret0 d102_202)) (mj_aload_n d102_172 rfl (mj_iload d102_173 rfl (mj_iconst d102_175 (mj_invV [some (.ref 2), some (.int x11), some (.int (nI 3))] [] d102_176 rfl rfl rfl w_2 rfl rfl)))))
theorem e102_179 {c : mj_C} {x1 : Int32} {x6 : Int32} {x7 : Int32} {x8 : Int32} {x9 : Int32} {x11 : Int32} {x13 : Int32} {x14 : Int32} {x15 : Int32} {o16 : Option Value} {o17 : Option Value} {o18 : Option Value} {o19 : Option Value} {o20 : Option Value} {o21 : Option Value} {z0 : Int32} {L n : Nat} {ps : List (Option (Option Nat))} {rr34 : Nat} (hrr34 : (w_sh L ps (w_lo (n + 1)))[rr34]? = some (0, 64, []))  : mj_EV 102 179 [some (.ref 2), some (.int x1), some (.ref 52), some (.ref 53), some (.ref 54), some (.ref 55), some (.int x6), some (.int x7), some (.int x8), some (.int x9), some (.ref (57 + n)), some (.int x11), some (.ref rr34), some (.int x13), some (.int x14), some (.int x15), o16, o17, o18, o19, o20, o21] [.int z0] (w_sh L ps (w_lo (n + 1))) c = (if z0 = x14 then (mj_then 102 191 [some (.ref 2), some (.int x1), some (.ref 52), some (.ref 53), some (.ref 54), some (.ref 55), some (.int x6), some (.int x7), some (.int x8), some (.int x9), some (.ref (57 + n)), some (.int x11), some (.ref rr34), some (.int x13), some (.int x14), some (.int x15), o16, o17, o18, o19, o20, o21] [] (mj_EV 62 0 [some (.ref 2), some (.int x11), some (.int (nI 4))] [] (w_sh L ps (w_lo (n + 1))) c)) else (some (some (.int (nI 0)), (w_sh L ps (w_lo (n + 1))), c))) := (mj_iload d102_179 rfl (mj_icne d102_181 (mj_iconst d102_201 (mj_zret0 d102_202)) (mj_aload_n d102_184 rfl (mj_iload d102_185 rfl (mj_iconst d102_187 (mj_invV [some (.ref 2), some (.int x11), some (.int (nI 4))] [] d102_188 rfl rfl rfl w_2 rfl rfl))))))
theorem e102_191 {c : mj_C} {x1 : Int32} {x6 : Int32} {x7 : Int32} {x8 : Int32} {x9 : Int32} {x11 : Int32} {x13 : Int32} {x14 : Int32} {x15 : Int32} {o16 : Option Value} {o17 : Option Value} {o18 : Option Value} {o19 : Option Value} {o20 : Option Value} {o21 : Option Value} {z0 : Int32} {L n : Nat} {ps : List (Option (Option Nat))} {rr34 : Nat} (hrr34 : (w_sh L ps (w_lo (n + 1)))[rr34]? = some (0, 64, []))  : mj_EV 102 191 [some (.ref 2), some (.int x1), some (.ref 52), some (.ref 53), some (.ref 54), some (.ref 55), some (.int x6), some (.int x7), some (.int x8), some (.int x9), some (.ref (57 + n)), some (.int x11), some (.ref rr34), some (.int x13), some (.int x14), some (.int x15), o16, o17, o18, o19, o20, o21] [.int z0] (w_sh L ps (w_lo (n + 1))) c = (mj_then 102 198 [some (.ref 2), some (.int x1), some (.ref 52), some (.ref 53), some (.ref 54), some (.ref 55), some (.int x6), some (.int x7), some (.int x8), some (.int x9), some (.ref (57 + n)), some (.int x11), some (.ref rr34), some (.int x13), some (.int x14), some (.int x15), o16, o17, o18, o19, o20, o21] [.int z0] (mj_EV 99 0 [some (.int x14), some (.ref rr34)] [] (w_sh L ps (w_lo (n + 1))) c)) := (mj_iload d102_191 rfl (mj_aload d102_193 rfl (mj_invS [some (.int x14), some (.ref rr34)] [.int z0] d102_195 (by decide) rfl rfl rfl rfl)))
theorem e102_198 {c : mj_C} {x1 : Int32} {x6 : Int32} {x7 : Int32} {x8 : Int32} {x9 : Int32} {x11 : Int32} {x13 : Int32} {x14 : Int32} {x15 : Int32} {o16 : Option Value} {o17 : Option Value} {o18 : Option Value} {o19 : Option Value} {o20 : Option Value} {o21 : Option Value} {z0 : Int32} {z1 : Int32} {L n : Nat} {ps : List (Option (Option Nat))} {rr34 : Nat} (hrr34 : (w_sh L ps (w_lo (n + 1)))[rr34]? = some (0, 64, []))  : mj_EV 102 198 [some (.ref 2), some (.int x1), some (.ref 52), some (.ref 53), some (.ref 54), some (.ref 55), some (.int x6), some (.int x7), some (.int x8), some (.int x9), some (.ref (57 + n)), some (.int x11), some (.ref rr34), some (.int x13), some (.int x14), some (.int x15), o16, o17, o18, o19, o20, o21] [.int z1, .int z0] (w_sh L ps (w_lo (n + 1))) c = (if z0 = z1 then mj_EV 102 206 [some (.ref 2), some (.int x1), some (.ref 52), some (.ref 53), some (.ref 54), some (.ref 55), some (.int x6), some (.int x7), some (.int x8), some (.int x9), some (.ref (57 + n)), some (.int x11), some (.ref rr34), some (.int x13), some (.int x14), some (.int x15), some (.int (nI 0)), o17, o18, o19, o20, o21] [] (w_sh L ps (w_lo (n + 1))) c else (some (some (.int (nI 0)), (w_sh L ps (w_lo (n + 1))), c))) := (mj_iceq d102_198 (mj_iconst d102_203 (mj_istore [some (.ref 2), some (.int x1), some (.ref 52), some (.ref 53), some (.ref 54), some (.ref 55), some (.int x6), some (.int x7), some (.int x8), some (.int x9), some (.ref (57 + n)), some (.int x11), some (.ref rr34), some (.int x13), some (.int x14), some (.int x15), some (.int (nI 0)), o17, o18, o19, o20, o21] d102_204 rfl rfl rfl)) (mj_iconst d102_201 (mj_zret0 d102_202)))
theorem e102_206 {c : mj_C} {x1 : Int32} {x6 : Int32} {x7 : Int32} {x8 : Int32} {x9 : Int32} {x11 : Int32} {x13 : Int32} {x14 : Int32} {x15 : Int32} {x16 : Int32} {o17 : Option Value} {o18 : Option Value} {o19 : Option Value} {o20 : Option Value} {o21 : Option Value} {L n : Nat} {ps : List (Option (Option Nat))} {rr34 : Nat} (hrr34 : (w_sh L ps (w_lo (n + 1)))[rr34]? = some (0, 64, []))  : mj_EV 102 206 [some (.ref 2), some (.int x1), some (.ref 52), some (.ref 53), some (.ref 54), some (.ref 55), some (.int x6), some (.int x7), some (.int x8), some (.int x9), some (.ref (57 + n)), some (.int x11), some (.ref rr34), some (.int x13), some (.int x14), some (.int x15), some (.int x16), o17, o18, o19, o20, o21] [] (w_sh L ps (w_lo (n + 1))) c = (if (nI 8) ≤ x16 then mj_EV 102 21 [some (.ref 2), some (.int x1), some (.ref 52), some (.ref 53), some (.ref 54), some (.ref 55), some (.int x6), some (.int x7), some (.int x8), some (.int x9), some (.ref (57 + n)), some (.int (x11 + (nI 1))), some (.ref rr34), some (.int x13), some (.int x14), some (.int x15), some (.int x16), o17, o18, o19, o20, o21] [] (w_sh L ps (w_lo (n + 1))) c else (mj_then 102 220 [some (.ref 2), some (.int x1), some (.ref 52), some (.ref 53), some (.ref 54), some (.ref 55), some (.int x6), some (.int x7), some (.int x8), some (.int x9), some (.ref (57 + n)), some (.int x11), some (.ref rr34), some (.int x13), some (.int x14), some (.int x15), some (.int x16), o17, o18, o19, o20, o21] [] (mj_EV 95 0 [some (.int x16), some (.ref rr34), none, none, none, none, none, none] [] (w_sh L ps (w_lo (n + 1))) c))) := (mj_iload d102_206 rfl (mj_bipush d102_208 (mj_icge d102_210 (mj_iinc [some (.ref 2), some (.int x1), some (.ref 52), some (.ref 53), some (.ref 54), some (.ref 55), some (.int x6), some (.int x7), some (.int x8), some (.int x9), some (.ref (57 + n)), some (.int (x11 + (nI 1))), some (.ref rr34), some (.int x13), some (.int x14), some (.int x15), some (.int x16), o17, o18, o19, o20, o21] d102_410 rfl rfl rfl (mj_goto d102_413 rfl)) (mj_iload d102_213 rfl (mj_aload d102_215 rfl (mj_invS [some (.int x16), some (.ref rr34), none, none, none, none, none, none] [] d102_217 (by decide) rfl rfl rfl rfl))))))
theorem e102_220 {c : mj_C} {x1 : Int32} {x6 : Int32} {x7 : Int32} {x8 : Int32} {x9 : Int32} {x11 : Int32} {x13 : Int32} {x14 : Int32} {x15 : Int32} {x16 : Int32} {o17 : Option Value} {o18 : Option Value} {o19 : Option Value} {o20 : Option Value} {o21 : Option Value} {z0 : Int32} {L n : Nat} {ps : List (Option (Option Nat))} {rr34 : Nat} (hrr34 : (w_sh L ps (w_lo (n + 1)))[rr34]? = some (0, 64, []))  : mj_EV 102 220 [some (.ref 2), some (.int x1), some (.ref 52), some (.ref 53), some (.ref 54), some (.ref 55), some (.int x6), some (.int x7), some (.int x8), some (.int x9), some (.ref (57 + n)), some (.int x11), some (.ref rr34), some (.int x13), some (.int x14), some (.int x15), some (.int x16), o17, o18, o19, o20, o21] [.int z0] (w_sh L ps (w_lo (n + 1))) c = (if mj_in z0 5 = true then (if mj_in z0 5 = true then mj_EV 102 241 [some (.ref 2), some (.int x1), some (.ref 52), some (.ref 53), some (.ref 54), some (.ref 55), some (.int x6), some (.int x7), some (.int x8), some (.int x9), some (.ref (57 + n)), some (.int x11), some (.ref rr34), some (.int x13), some (.int x14), some (.int x15), some (.int x16), some (.int z0), some (.int (nI 65535)), some (.int (nI 0)), some (.int (nI 0)), o21] [] (w_sh L ps (w_lo (n + 1))) (mj_u c (57 + n) z0.toNatClampNeg ((c (57 + n) z0.toNatClampNeg) + (nI 1))) else none) else none) := (mj_istore [some (.ref 2), some (.int x1), some (.ref 52), some (.ref 53), some (.ref 54), some (.ref 55), some (.int x6), some (.int x7), some (.int x8), some (.int x9), some (.ref (57 + n)), some (.int x11), some (.ref rr34), some (.int x13), some (.int x14), some (.int x15), some (.int x16), some (.int z0), o18, o19, o20, o21] d102_220 rfl rfl (mj_ldc d102_222 (mj_istore [some (.ref 2), some (.int x1), some (.ref 52), some (.ref 53), some (.ref 54), some (.ref 55), some (.int x6), some (.int x7), some (.int x8), some (.int x9), some (.ref (57 + n)), some (.int x11), some (.ref rr34), some (.int x13), some (.int x14), some (.int x15), some (.int x16), some (.int z0), some (.int (nI 65535)), o19, o20, o21] d102_224 rfl rfl (mj_iconst d102_226 (mj_istore [some (.ref 2), some (.int x1), some (.ref 52), some (.ref 53), some (.ref 54), some (.ref 55), some (.int x6), some (.int x7), some (.int x8), some (.int x9), some (.ref (57 + n)), some (.int x11), some (.ref rr34), some (.int x13), some (.int x14), some (.int x15), some (.int x16), some (.int z0), some (.int (nI 65535)), some (.int (nI 0)), o20, o21] d102_227 rfl rfl (mj_aload d102_229 rfl (mj_iload d102_231 rfl (mj_dup2 d102_233 (mj_iald d102_234 w_fo (mj_iconst d102_235 (mj_iadd d102_236 (mj_iast d102_237 w_fo (mj_iconst d102_238 (mj_istore [some (.ref 2), some (.int x1), some (.ref 52), some (.ref 53), some (.ref 54), some (.ref 55), some (.int x6), some (.int x7), some (.int x8), some (.int x9), some (.ref (57 + n)), some (.int x11), some (.ref rr34), some (.int x13), some (.int x14), some (.int x15), some (.int x16), some (.int z0), some (.int (nI 65535)), some (.int (nI 0)), some (.int (nI 0)), o21] d102_239 rfl rfl rfl))))))))))))))
theorem e102_241 {c : mj_C} {x1 : Int32} {x6 : Int32} {x7 : Int32} {x8 : Int32} {x9 : Int32} {x11 : Int32} {x13 : Int32} {x14 : Int32} {x15 : Int32} {x16 : Int32} {x17 : Int32} {x18 : Int32} {x19 : Int32} {x20 : Int32} {o21 : Option Value} {L n : Nat} {ps : List (Option (Option Nat))} {rr34 : Nat} (hrr34 : (w_sh L ps (w_lo (n + 1)))[rr34]? = some (0, 64, []))  : mj_EV 102 241 [some (.ref 2), some (.int x1), some (.ref 52), some (.ref 53), some (.ref 54), some (.ref 55), some (.int x6), some (.int x7), some (.int x8), some (.int x9), some (.ref (57 + n)), some (.int x11), some (.ref rr34), some (.int x13), some (.int x14), some (.int x15), some (.int x16), some (.int x17), some (.int x18), some (.int x19), some (.int x20), o21] [] (w_sh L ps (w_lo (n + 1))) c = (if (nI 8) ≤ x20 then (mj_then 102 325 [some (.ref 2), some (.int x1), some (.ref 52), some (.ref 53), some (.ref 54), some (.ref 55), some (.int x6), some (.int x7), some (.int x8), some (.int x9), some (.ref (57 + n)), some (.int x11), some (.ref rr34), some (.int x13), some (.int x14), some (.int x15), some (.int x16), some (.int x17), some (.int x18), some (.int x19), some (.int x20), o21] [] (mj_EV 63 0 [some (.ref 2), some (.int x11), some (.int x16), some (.int (nI 0))] [] (w_sh L ps (w_lo (n + 1))) c)) else (if mj_in (((nI 8) * x16) + x20) 64 = true then (if x18 ≤ (c rr34 (((nI 8) * x16) + x20).toNatClampNeg) then (if (c rr34 (((nI 8) * x16) + x20).toNatClampNeg) ≤ x19 then (mj_then 102 303 [some (.ref 2), some (.int x1), some (.ref 52), some (.ref 53), some (.ref 54), some (.ref 55), some (.int x6), some (.int x7), some (.int x8), some (.int x9), some (.ref (57 + n)), some (.int x11), some (.ref rr34), some (.int x13), some (.int x14), some (.int x15), some (.int x16), some (.int x17), some (.int x18), some (.int x19), some (.int x20), some (.int (c rr34 (((nI 8) * x16) + x20).toNatClampNeg))] [] (mj_EV 61 0 [some (.ref 2), some (.int x11), some (.int x16), some (.int x20)] [] (w_sh L ps (w_lo (n + 1))) c)) else (mj_then 102 303 [some (.ref 2), some (.int x1), some (.ref 52), some (.ref 53), some (.ref 54), some (.ref 55), some (.int x6), some (.int x7), some (.int x8), some (.int x9), some (.ref (57 + n)), some (.int x11), some (.ref rr34), some (.int x13), some (.int x14), some (.int x15), some (.int x16), some (.int x17), some (.int x18), some (.int (c rr34 (((nI 8) * x16) + x20).toNatClampNeg)), some (.int x20), some (.int (c rr34 (((nI 8) * x16) + x20).toNatClampNeg))] [] (mj_EV 61 0 [some (.ref 2), some (.int x11), some (.int x16), some (.int x20)] [] (w_sh L ps (w_lo (n + 1))) c))) else (if (c rr34 (((nI 8) * x16) + x20).toNatClampNeg) ≤ x19 then (mj_then 102 303 [some (.ref 2), some (.int x1), some (.ref 52), some (.ref 53), some (.ref 54), some (.ref 55), some (.int x6), some (.int x7), some (.int x8), some (.int x9), some (.ref (57 + n)), some (.int x11), some (.ref rr34), some (.int x13), some (.int x14), some (.int x15), some (.int x16), some (.int x17), some (.int (c rr34 (((nI 8) * x16) + x20).toNatClampNeg)), some (.int x19), some (.int x20), some (.int (c rr34 (((nI 8) * x16) + x20).toNatClampNeg))] [] (mj_EV 61 0 [some (.ref 2), some (.int x11), some (.int x16), some (.int x20)] [] (w_sh L ps (w_lo (n + 1))) c)) else (mj_then 102 303 [some (.ref 2), some (.int x1), some (.ref 52), some (.ref 53), some (.ref 54), some (.ref 55), some (.int x6), some (.int x7), some (.int x8), some (.int x9), some (.ref (57 + n)), some (.int x11), some (.ref rr34), some (.int x13), some (.int x14), some (.int x15), some (.int x16), some (.int x17), some (.int (c rr34 (((nI 8) * x16) + x20).toNatClampNeg)), some (.int (c rr34 (((nI 8) * x16) + x20).toNatClampNeg)), some (.int x20), some (.int (c rr34 (((nI 8) * x16) + x20).toNatClampNeg))] [] (mj_EV 61 0 [some (.ref 2), some (.int x11), some (.int x16), some (.int x20)] [] (w_sh L ps (w_lo (n + 1))) c)))) else none)) := (mj_iload d102_241 rfl (mj_bipush d102_243 (mj_icge d102_245 (mj_aload_n d102_316 rfl (mj_iload d102_317 rfl (mj_iload d102_319 rfl (mj_iconst d102_321 (mj_invV [some (.ref 2), some (.int x11), some (.int x16), some (.int (nI 0))] [] d102_322 rfl rfl rfl w_2 rfl rfl))))) (mj_aload d102_248 rfl (mj_bipush d102_250 (mj_iload d102_252 rfl (mj_imul d102_254 (mj_iload d102_255 rfl (mj_iadd d102_257 (mj_iald d102_258 hrr34 (mj_istore [some (.ref 2), some (.int x1), some (.ref 52), some (.ref 53), some (.ref 54), some (.ref 55), some (.int x6), some (.int x7), some (.int x8), some (.int x9), some (.ref (57 + n)), some (.int x11), some (.ref rr34), some (.int x13), some (.int x14), some (.int x15), some (.int x16), some (.int x17), some (.int x18), some (.int x19), some (.int x20), some (.int (c rr34 (((nI 8) * x16) + x20).toNatClampNeg))] d102_259 rfl rfl (mj_iload d102_261 rfl (mj_iload d102_263 rfl (mj_icge d102_265 (mj_iload d102_273 rfl (mj_istore [some (.ref 2), some (.int x1), some (.ref 52), some (.ref 53), some (.ref 54), some (.ref 55), some (.int x6), some (.int x7), some (.int x8), some (.int x9), some (.ref (57 + n)), some (.int x11), some (.ref rr34), some (.int x13), some (.int x14), some (.int x15), some (.int x16), some (.int x17), some (.int x18), some (.int x19), some (.int x20), some (.int (c rr34 (((nI 8) * x16) + x20).toNatClampNeg))] d102_275 rfl rfl (mj_iload d102_277 rfl (mj_iload d102_279 rfl (mj_icle d102_281 (mj_iload d102_289 rfl (mj_istore [some (.ref 2), some (.int x1), some (.ref 52), some (.ref 53), some (.ref 54), some (.ref 55), some (.int x6), some (.int x7), some (.int x8), some (.int x9), some (.ref (57 + n)), some (.int x11), some (.ref rr34), some (.int x13), some (.int x14), some (.int x15), some (.int x16), some (.int x17), some (.int x18), some (.int x19), some (.int x20), some (.int (c rr34 (((nI 8) * x16) + x20).toNatClampNeg))] d102_291 rfl rfl (mj_aload_n d102_293 rfl (mj_iload d102_294 rfl (mj_iload d102_296 rfl (mj_iload d102_298 rfl (mj_invV [some (.ref 2), some (.int x11), some (.int x16), some (.int x20)] [] d102_300 rfl rfl rfl w_2 rfl rfl))))))) (mj_iload d102_284 rfl (mj_goto d102_286 (mj_istore [some (.ref 2), some (.int x1), some (.ref 52), some (.ref 53), some (.ref 54), some (.ref 55), some (.int x6), some (.int x7), some (.int x8), some (.int x9), some (.ref (57 + n)), some (.int x11), some (.ref rr34), some (.int x13), some (.int x14), some (.int x15), some (.int x16), some (.int x17), some (.int x18), some (.int (c rr34 (((nI 8) * x16) + x20).toNatClampNeg)), some (.int x20), some (.int (c rr34 (((nI 8) * x16) + x20).toNatClampNeg))] d102_291 rfl rfl (mj_aload_n d102_293 rfl (mj_iload d102_294 rfl (mj_iload d102_296 rfl (mj_iload d102_298 rfl (mj_invV [some (.ref 2), some (.int x11), some (.int x16), some (.int x20)] [] d102_300 rfl rfl rfl w_2 rfl rfl))))))))))))) (mj_iload d102_268 rfl (mj_goto d102_270 (mj_istore [some (.ref 2), some (.int x1), some (.ref 52), some (.ref 53), some (.ref 54), some (.ref 55), some (.int x6), some (.int x7), some (.int x8), some (.int x9), some (.ref (57 + n)), some (.int x11), some (.ref rr34), some (.int x13), some (.int x14), some (.int x15), some (.int x16), some (.int x17), some (.int (c rr34 (((nI 8) * x16) + x20).toNatClampNeg)), some (.int x19), some (.int x20), some (.int (c rr34 (((nI 8) * x16) + x20).toNatClampNeg))] d102_275 rfl rfl (mj_iload d102_277 rfl (mj_iload d102_279 rfl (mj_icle d102_281 (mj_iload d102_289 rfl (mj_istore [some (.ref 2), some (.int x1), some (.ref 52), some (.ref 53), some (.ref 54), some (.ref 55), some (.int x6), some (.int x7), some (.int x8), some (.int x9), some (.ref (57 + n)), some (.int x11), some (.ref rr34), some (.int x13), some (.int x14), some (.int x15), some (.int x16), some (.int x17), some (.int (c rr34 (((nI 8) * x16) + x20).toNatClampNeg)), some (.int x19), some (.int x20), some (.int (c rr34 (((nI 8) * x16) + x20).toNatClampNeg))] d102_291 rfl rfl (mj_aload_n d102_293 rfl (mj_iload d102_294 rfl (mj_iload d102_296 rfl (mj_iload d102_298 rfl (mj_invV [some (.ref 2), some (.int x11), some (.int x16), some (.int x20)] [] d102_300 rfl rfl rfl w_2 rfl rfl))))))) (mj_iload d102_284 rfl (mj_goto d102_286 (mj_istore [some (.ref 2), some (.int x1), some (.ref 52), some (.ref 53), some (.ref 54), some (.ref 55), some (.int x6), some (.int x7), some (.int x8), some (.int x9), some (.ref (57 + n)), some (.int x11), some (.ref rr34), some (.int x13), some (.int x14), some (.int x15), some (.int x16), some (.int x17), some (.int (c rr34 (((nI 8) * x16) + x20).toNatClampNeg)), some (.int (c rr34 (((nI 8) * x16) + x20).toNatClampNeg)), some (.int x20), some (.int (c rr34 (((nI 8) * x16) + x20).toNatClampNeg))] d102_291 rfl rfl (mj_aload_n d102_293 rfl (mj_iload d102_294 rfl (mj_iload d102_296 rfl (mj_iload d102_298 rfl (mj_invV [some (.ref 2), some (.int x11), some (.int x16), some (.int x20)] [] d102_300 rfl rfl rfl w_2 rfl rfl))))))))))))))))))))))))))))
theorem e102_303 {c : mj_C} {x1 : Int32} {x6 : Int32} {x7 : Int32} {x8 : Int32} {x9 : Int32} {x11 : Int32} {x13 : Int32} {x14 : Int32} {x15 : Int32} {x16 : Int32} {x17 : Int32} {x18 : Int32} {x19 : Int32} {x20 : Int32} {x21 : Int32} {z0 : Int32} {L n : Nat} {ps : List (Option (Option Nat))} {rr34 : Nat} (hrr34 : (w_sh L ps (w_lo (n + 1)))[rr34]? = some (0, 64, []))  : mj_EV 102 303 [some (.ref 2), some (.int x1), some (.ref 52), some (.ref 53), some (.ref 54), some (.ref 55), some (.int x6), some (.int x7), some (.int x8), some (.int x9), some (.ref (57 + n)), some (.int x11), some (.ref rr34), some (.int x13), some (.int x14), some (.int x15), some (.int x16), some (.int x17), some (.int x18), some (.int x19), some (.int x20), some (.int x21)] [.int z0] (w_sh L ps (w_lo (n + 1))) c = (if z0 = x21 then mj_EV 102 241 [some (.ref 2), some (.int x1), some (.ref 52), some (.ref 53), some (.ref 54), some (.ref 55), some (.int x6), some (.int x7), some (.int x8), some (.int x9), some (.ref (57 + n)), some (.int x11), some (.ref rr34), some (.int x13), some (.int x14), some (.int x15), some (.int x16), some (.int x17), some (.int x18), some (.int x19), some (.int (x20 + (nI 1))), some (.int x21)] [] (w_sh L ps (w_lo (n + 1))) c else (some (some (.int (nI 0)), (w_sh L ps (w_lo (n + 1))), c))) := (mj_iload d102_303 rfl (mj_iceq d102_305 (mj_iinc [some (.ref 2), some (.int x1), some (.ref 52), some (.ref 53), some (.ref 54), some (.ref 55), some (.int x6), some (.int x7), some (.int x8), some (.int x9), some (.ref (57 + n)), some (.int x11), some (.ref rr34), some (.int x13), some (.int x14), some (.int x15), some (.int x16), some (.int x17), some (.int x18), some (.int x19), some (.int (x20 + (nI 1))), some (.int x21)] d102_310 rfl rfl rfl (mj_goto d102_313 rfl)) (mj_iconst d102_308 (mj_zret0 d102_309))))
theorem e102_325 {c : mj_C} {x1 : Int32} {x6 : Int32} {x7 : Int32} {x8 : Int32} {x9 : Int32} {x11 : Int32} {x13 : Int32} {x14 : Int32} {x15 : Int32} {x16 : Int32} {x17 : Int32} {x18 : Int32} {x19 : Int32} {x20 : Int32} {o21 : Option Value} {z0 : Int32} {L n : Nat} {ps : List (Option (Option Nat))} {rr34 : Nat} (hrr34 : (w_sh L ps (w_lo (n + 1)))[rr34]? = some (0, 64, []))  : mj_EV 102 325 [some (.ref 2), some (.int x1), some (.ref 52), some (.ref 53), some (.ref 54), some (.ref 55), some (.int x6), some (.int x7), some (.int x8), some (.int x9), some (.ref (57 + n)), some (.int x11), some (.ref rr34), some (.int x13), some (.int x14), some (.int x15), some (.int x16), some (.int x17), some (.int x18), some (.int x19), some (.int x20), o21] [.int z0] (w_sh L ps (w_lo (n + 1))) c = (if z0 = x17 then (mj_then 102 339 [some (.ref 2), some (.int x1), some (.ref 52), some (.ref 53), some (.ref 54), some (.ref 55), some (.int x6), some (.int x7), some (.int x8), some (.int x9), some (.ref (57 + n)), some (.int x11), some (.ref rr34), some (.int x13), some (.int x14), some (.int x15), some (.int x16), some (.int x17), some (.int x18), some (.int x19), some (.int x20), o21] [] (mj_EV 63 0 [some (.ref 2), some (.int x11), some (.int x16), some (.int (nI 1))] [] (w_sh L ps (w_lo (n + 1))) c)) else (some (some (.int (nI 0)), (w_sh L ps (w_lo (n + 1))), c))) := (mj_iload d102_325 rfl (mj_icne d102_327 (mj_iconst d102_402 (mj_zret0 d102_403)) (mj_aload_n d102_330 rfl (mj_iload d102_331 rfl (mj_iload d102_333 rfl (mj_iconst d102_335 (mj_invV [some (.ref 2), some (.int x11), some (.int x16), some (.int (nI 1))] [] d102_336 rfl rfl rfl w_2 rfl rfl)))))))
theorem e102_339 {c : mj_C} {x1 : Int32} {x6 : Int32} {x7 : Int32} {x8 : Int32} {x9 : Int32} {x11 : Int32} {x13 : Int32} {x14 : Int32} {x15 : Int32} {x16 : Int32} {x17 : Int32} {x18 : Int32} {x19 : Int32} {x20 : Int32} {o21 : Option Value} {z0 : Int32} {L n : Nat} {ps : List (Option (Option Nat))} {rr34 : Nat} (hrr34 : (w_sh L ps (w_lo (n + 1)))[rr34]? = some (0, 64, []))  : mj_EV 102 339 [some (.ref 2), some (.int x1), some (.ref 52), some (.ref 53), some (.ref 54), some (.ref 55), some (.int x6), some (.int x7), some (.int x8), some (.int x9), some (.ref (57 + n)), some (.int x11), some (.ref rr34), some (.int x13), some (.int x14), some (.int x15), some (.int x16), some (.int x17), some (.int x18), some (.int x19), some (.int x20), o21] [.int z0] (w_sh L ps (w_lo (n + 1))) c = (mj_then 102 344 [some (.ref 2), some (.int x1), some (.ref 52), some (.ref 53), some (.ref 54), some (.ref 55), some (.int x6), some (.int x7), some (.int x8), some (.int x9), some (.ref (57 + n)), some (.int x11), some (.ref rr34), some (.int x13), some (.int x14), some (.int x15), some (.int x16), some (.int x17), some (.int x18), some (.int x19), some (.int x20), o21] [.int z0] (mj_EV 96 0 [some (.int x17)] [] (w_sh L ps (w_lo (n + 1))) c)) := (mj_iload d102_339 rfl (mj_invS [some (.int x17)] [.int z0] d102_341 (by decide) rfl rfl rfl rfl))
theorem e102_344 {c : mj_C} {x1 : Int32} {x6 : Int32} {x7 : Int32} {x8 : Int32} {x9 : Int32} {x11 : Int32} {x13 : Int32} {x14 : Int32} {x15 : Int32} {x16 : Int32} {x17 : Int32} {x18 : Int32} {x19 : Int32} {x20 : Int32} {o21 : Option Value} {z0 : Int32} {z1 : Int32} {L n : Nat} {ps : List (Option (Option Nat))} {rr34 : Nat} (hrr34 : (w_sh L ps (w_lo (n + 1)))[rr34]? = some (0, 64, []))  : mj_EV 102 344 [some (.ref 2), some (.int x1), some (.ref 52), some (.ref 53), some (.ref 54), some (.ref 55), some (.int x6), some (.int x7), some (.int x8), some (.int x9), some (.ref (57 + n)), some (.int x11), some (.ref rr34), some (.int x13), some (.int x14), some (.int x15), some (.int x16), some (.int x17), some (.int x18), some (.int x19), some (.int x20), o21] [.int z1, .int z0] (w_sh L ps (w_lo (n + 1))) c = (if z0 = z1 then (mj_then 102 356 [some (.ref 2), some (.int x1), some (.ref 52), some (.ref 53), some (.ref 54), some (.ref 55), some (.int x6), some (.int x7), some (.int x8), some (.int x9), some (.ref (57 + n)), some (.int x11), some (.ref rr34), some (.int x13), some (.int x14), some (.int x15), some (.int x16), some (.int x17), some (.int x18), some (.int x19), some (.int x20), o21] [] (mj_EV 63 0 [some (.ref 2), some (.int x11), some (.int x16), some (.int (nI 2))] [] (w_sh L ps (w_lo (n + 1))) c)) else (some (some (.int (nI 0)), (w_sh L ps (w_lo (n + 1))), c))) := (mj_icne d102_344 (mj_iconst d102_402 (mj_zret0 d102_403)) (mj_aload_n d102_347 rfl (mj_iload d102_348 rfl (mj_iload d102_350 rfl (mj_iconst d102_352 (mj_invV [some (.ref 2), some (.int x11), some (.int x16), some (.int (nI 2))] [] d102_353 rfl rfl rfl w_2 rfl rfl))))))
theorem e102_356 {c : mj_C} {x1 : Int32} {x6 : Int32} {x7 : Int32} {x8 : Int32} {x9 : Int32} {x11 : Int32} {x13 : Int32} {x14 : Int32} {x15 : Int32} {x16 : Int32} {x17 : Int32} {x18 : Int32} {x19 : Int32} {x20 : Int32} {o21 : Option Value} {z0 : Int32} {L n : Nat} {ps : List (Option (Option Nat))} {rr34 : Nat} (hrr34 : (w_sh L ps (w_lo (n + 1)))[rr34]? = some (0, 64, []))  : mj_EV 102 356 [some (.ref 2), some (.int x1), some (.ref 52), some (.ref 53), some (.ref 54), some (.ref 55), some (.int x6), some (.int x7), some (.int x8), some (.int x9), some (.ref (57 + n)), some (.int x11), some (.ref rr34), some (.int x13), some (.int x14), some (.int x15), some (.int x16), some (.int x17), some (.int x18), some (.int x19), some (.int x20), o21] [.int z0] (w_sh L ps (w_lo (n + 1))) c = (mj_then 102 361 [some (.ref 2), some (.int x1), some (.ref 52), some (.ref 53), some (.ref 54), some (.ref 55), some (.int x6), some (.int x7), some (.int x8), some (.int x9), some (.ref (57 + n)), some (.int x11), some (.ref rr34), some (.int x13), some (.int x14), some (.int x15), some (.int x16), some (.int x17), some (.int x18), some (.int x19), some (.int x20), o21] [.int z0] (mj_EV 96 0 [some (.int x17)] [] (w_sh L ps (w_lo (n + 1))) c)) := (mj_iload d102_356 rfl (mj_invS [some (.int x17)] [.int z0] d102_358 (by decide) rfl rfl rfl rfl))
theorem e102_361 {c : mj_C} {x1 : Int32} {x6 : Int32} {x7 : Int32} {x8 : Int32} {x9 : Int32} {x11 : Int32} {x13 : Int32} {x14 : Int32} {x15 : Int32} {x16 : Int32} {x17 : Int32} {x18 : Int32} {x19 : Int32} {x20 : Int32} {o21 : Option Value} {z0 : Int32} {z1 : Int32} {L n : Nat} {ps : List (Option (Option Nat))} {rr34 : Nat} (hrr34 : (w_sh L ps (w_lo (n + 1)))[rr34]? = some (0, 64, []))  : mj_EV 102 361 [some (.ref 2), some (.int x1), some (.ref 52), some (.ref 53), some (.ref 54), some (.ref 55), some (.int x6), some (.int x7), some (.int x8), some (.int x9), some (.ref (57 + n)), some (.int x11), some (.ref rr34), some (.int x13), some (.int x14), some (.int x15), some (.int x16), some (.int x17), some (.int x18), some (.int x19), some (.int x20), o21] [.int z1, .int z0] (w_sh L ps (w_lo (n + 1))) c = (if z1 ≤ x13 then (if z0 = (nI 0) then (mj_then 102 383 [some (.ref 2), some (.int x1), some (.ref 52), some (.ref 53), some (.ref 54), some (.ref 55), some (.int x6), some (.int x7), some (.int x8), some (.int x9), some (.ref (57 + n)), some (.int x11), some (.ref rr34), some (.int x13), some (.int x14), some (.int x15), some (.int x16), some (.int x17), some (.int x18), some (.int x19), some (.int x20), o21] [] (mj_EV 63 0 [some (.ref 2), some (.int x11), some (.int x16), some (.int (nI 3))] [] (w_sh L ps (w_lo (n + 1))) c)) else (some (some (.int (nI 0)), (w_sh L ps (w_lo (n + 1))), c))) else (if z0 = (nI 1) then (mj_then 102 383 [some (.ref 2), some (.int x1), some (.ref 52), some (.ref 53), some (.ref 54), some (.ref 55), some (.int x6), some (.int x7), some (.int x8), some (.int x9), some (.ref (57 + n)), some (.int x11), some (.ref rr34), some (.int x13), some (.int x14), some (.int x15), some (.int x16), some (.int x17), some (.int x18), some (.int x19), some (.int x20), o21] [] (mj_EV 63 0 [some (.ref 2), some (.int x11), some (.int x16), some (.int (nI 3))] [] (w_sh L ps (w_lo (n + 1))) c)) else (some (some (.int (nI 0)), (w_sh L ps (w_lo (n + 1))), c)))) := (mj_iload d102_361 rfl (mj_icle d102_363 (mj_iconst d102_370 (mj_icne d102_371 (mj_iconst d102_402 (mj_zret0 d102_403)) (mj_aload_n d102_374 rfl (mj_iload d102_375 rfl (mj_iload d102_377 rfl (mj_iconst d102_379 (mj_invV [some (.ref 2), some (.int x11), some (.int x16), some (.int (nI 3))] [] d102_380 rfl rfl rfl w_2 rfl rfl))))))) (mj_iconst d102_366 (mj_goto d102_367 (mj_icne d102_371 (mj_iconst d102_402 (mj_zret0 d102_403)) (mj_aload_n d102_374 rfl (mj_iload d102_375 rfl (mj_iload d102_377 rfl (mj_iconst d102_379 (mj_invV [some (.ref 2), some (.int x11), some (.int x16), some (.int (nI 3))] [] d102_380 rfl rfl rfl w_2 rfl rfl))))))))))
theorem e102_383 {c : mj_C} {x1 : Int32} {x6 : Int32} {x7 : Int32} {x8 : Int32} {x9 : Int32} {x11 : Int32} {x13 : Int32} {x14 : Int32} {x15 : Int32} {x16 : Int32} {x17 : Int32} {x18 : Int32} {x19 : Int32} {x20 : Int32} {o21 : Option Value} {z0 : Int32} {L n : Nat} {ps : List (Option (Option Nat))} {rr34 : Nat} (hrr34 : (w_sh L ps (w_lo (n + 1)))[rr34]? = some (0, 64, []))  : mj_EV 102 383 [some (.ref 2), some (.int x1), some (.ref 52), some (.ref 53), some (.ref 54), some (.ref 55), some (.int x6), some (.int x7), some (.int x8), some (.int x9), some (.ref (57 + n)), some (.int x11), some (.ref rr34), some (.int x13), some (.int x14), some (.int x15), some (.int x16), some (.int x17), some (.int x18), some (.int x19), some (.int x20), o21] [.int z0] (w_sh L ps (w_lo (n + 1))) c = (if z0 = x18 then (mj_then 102 397 [some (.ref 2), some (.int x1), some (.ref 52), some (.ref 53), some (.ref 54), some (.ref 55), some (.int x6), some (.int x7), some (.int x8), some (.int x9), some (.ref (57 + n)), some (.int x11), some (.ref rr34), some (.int x13), some (.int x14), some (.int x15), some (.int x16), some (.int x17), some (.int x18), some (.int x19), some (.int x20), o21] [] (mj_EV 63 0 [some (.ref 2), some (.int x11), some (.int x16), some (.int (nI 4))] [] (w_sh L ps (w_lo (n + 1))) c)) else (some (some (.int (nI 0)), (w_sh L ps (w_lo (n + 1))), c))) := (mj_iload d102_383 rfl (mj_icne d102_385 (mj_iconst d102_402 (mj_zret0 d102_403)) (mj_aload_n d102_388 rfl (mj_iload d102_389 rfl (mj_iload d102_391 rfl (mj_iconst d102_393 (mj_invV [some (.ref 2), some (.int x11), some (.int x16), some (.int (nI 4))] [] d102_394 rfl rfl rfl w_2 rfl rfl)))))))
theorem e102_397 {c : mj_C} {x1 : Int32} {x6 : Int32} {x7 : Int32} {x8 : Int32} {x9 : Int32} {x11 : Int32} {x13 : Int32} {x14 : Int32} {x15 : Int32} {x16 : Int32} {x17 : Int32} {x18 : Int32} {x19 : Int32} {x20 : Int32} {o21 : Option Value} {z0 : Int32} {L n : Nat} {ps : List (Option (Option Nat))} {rr34 : Nat} (hrr34 : (w_sh L ps (w_lo (n + 1)))[rr34]? = some (0, 64, []))  : mj_EV 102 397 [some (.ref 2), some (.int x1), some (.ref 52), some (.ref 53), some (.ref 54), some (.ref 55), some (.int x6), some (.int x7), some (.int x8), some (.int x9), some (.ref (57 + n)), some (.int x11), some (.ref rr34), some (.int x13), some (.int x14), some (.int x15), some (.int x16), some (.int x17), some (.int x18), some (.int x19), some (.int x20), o21] [.int z0] (w_sh L ps (w_lo (n + 1))) c = (if z0 = x19 then mj_EV 102 206 [some (.ref 2), some (.int x1), some (.ref 52), some (.ref 53), some (.ref 54), some (.ref 55), some (.int x6), some (.int x7), some (.int x8), some (.int x9), some (.ref (57 + n)), some (.int x11), some (.ref rr34), some (.int x13), some (.int x14), some (.int x15), some (.int (x16 + (nI 1))), some (.int x17), some (.int x18), some (.int x19), some (.int x20), o21] [] (w_sh L ps (w_lo (n + 1))) c else (some (some (.int (nI 0)), (w_sh L ps (w_lo (n + 1))), c))) := (mj_iload d102_397 rfl (mj_iceq d102_399 (mj_iinc [some (.ref 2), some (.int x1), some (.ref 52), some (.ref 53), some (.ref 54), some (.ref 55), some (.int x6), some (.int x7), some (.int x8), some (.int x9), some (.ref (57 + n)), some (.int x11), some (.ref rr34), some (.int x13), some (.int x14), some (.int x15), some (.int (x16 + (nI 1))), some (.int x17), some (.int x18), some (.int x19), some (.int x20), o21] d102_404 rfl rfl rfl (mj_goto d102_407 rfl)) (mj_iconst d102_402 (mj_zret0 d102_403))))
theorem e102_419 {c : mj_C} {x1 : Int32} {x6 : Int32} {x7 : Int32} {x8 : Int32} {x9 : Int32} {x11 : Int32} {o12 : Option Value} {o13 : Option Value} {o14 : Option Value} {o15 : Option Value} {o16 : Option Value} {o17 : Option Value} {o18 : Option Value} {o19 : Option Value} {o20 : Option Value} {o21 : Option Value} {L n : Nat} {ps : List (Option (Option Nat))}   : mj_EV 102 419 [some (.ref 2), some (.int x1), some (.ref 52), some (.ref 53), some (.ref 54), some (.ref 55), some (.int x6), some (.int x7), some (.int x8), some (.int x9), some (.ref (57 + n)), some (.int x11), o12, o13, o14, o15, o16, o17, o18, o19, o20, o21] [] (w_sh L ps (w_lo (n + 1))) c = (if (nI 5) ≤ x11 then mj_EV 102 450 [some (.ref 2), some (.int x1), some (.ref 52), some (.ref 53), some (.ref 54), some (.ref 55), some (.int x6), some (.int x7), some (.int x8), some (.int x9), some (.ref (57 + n)), some (.int (nI 0)), o12, o13, o14, o15, o16, o17, o18, o19, o20, o21] [] (w_sh L ps (w_lo (n + 1))) c else (mj_then 102 431 [some (.ref 2), some (.int x1), some (.ref 52), some (.ref 53), some (.ref 54), some (.ref 55), some (.int x6), some (.int x7), some (.int x8), some (.int x9), some (.ref (57 + n)), some (.int x11), o12, o13, o14, o15, o16, o17, o18, o19, o20, o21] [] (mj_EV 64 0 [some (.ref 2), some (.int x11), none, none, none] [] (w_sh L ps (w_lo (n + 1))) c))) := (mj_iload d102_419 rfl (mj_iconst d102_421 (mj_icge d102_422 (mj_iconst d102_447 (mj_istore [some (.ref 2), some (.int x1), some (.ref 52), some (.ref 53), some (.ref 54), some (.ref 55), some (.int x6), some (.int x7), some (.int x8), some (.int x9), some (.ref (57 + n)), some (.int (nI 0)), o12, o13, o14, o15, o16, o17, o18, o19, o20, o21] d102_448 rfl rfl rfl)) (mj_aload_n d102_425 rfl (mj_iload d102_426 rfl (mj_invV [some (.ref 2), some (.int x11), none, none, none] [] d102_428 rfl rfl rfl w_2 rfl rfl))))))
theorem e102_431 {c : mj_C} {x1 : Int32} {x6 : Int32} {x7 : Int32} {x8 : Int32} {x9 : Int32} {x11 : Int32} {o12 : Option Value} {o13 : Option Value} {o14 : Option Value} {o15 : Option Value} {o16 : Option Value} {o17 : Option Value} {o18 : Option Value} {o19 : Option Value} {o20 : Option Value} {o21 : Option Value} {z0 : Int32} {L n : Nat} {ps : List (Option (Option Nat))}   : mj_EV 102 431 [some (.ref 2), some (.int x1), some (.ref 52), some (.ref 53), some (.ref 54), some (.ref 55), some (.int x6), some (.int x7), some (.int x8), some (.int x9), some (.ref (57 + n)), some (.int x11), o12, o13, o14, o15, o16, o17, o18, o19, o20, o21] [.int z0] (w_sh L ps (w_lo (n + 1))) c = (if mj_in x11 5 = true then (if z0 = (c (57 + n) x11.toNatClampNeg) then mj_EV 102 419 [some (.ref 2), some (.int x1), some (.ref 52), some (.ref 53), some (.ref 54), some (.ref 55), some (.int x6), some (.int x7), some (.int x8), some (.int x9), some (.ref (57 + n)), some (.int (x11 + (nI 1))), o12, o13, o14, o15, o16, o17, o18, o19, o20, o21] [] (w_sh L ps (w_lo (n + 1))) c else (some (some (.int (nI 0)), (w_sh L ps (w_lo (n + 1))), c))) else none) := (mj_aload d102_431 rfl (mj_iload d102_433 rfl (mj_iald d102_435 w_fo (mj_iceq d102_436 (mj_iinc [some (.ref 2), some (.int x1), some (.ref 52), some (.ref 53), some (.ref 54), some (.ref 55), some (.int x6), some (.int x7), some (.int x8), some (.int x9), some (.ref (57 + n)), some (.int (x11 + (nI 1))), o12, o13, o14, o15, o16, o17, o18, o19, o20, o21] d102_441 rfl rfl rfl (mj_goto d102_444 rfl)) (mj_iconst d102_439 (mj_zret0 d102_440))))))
theorem e102_450 {c : mj_C} {x1 : Int32} {x6 : Int32} {x7 : Int32} {x8 : Int32} {x9 : Int32} {x11 : Int32} {o12 : Option Value} {o13 : Option Value} {o14 : Option Value} {o15 : Option Value} {o16 : Option Value} {o17 : Option Value} {o18 : Option Value} {o19 : Option Value} {o20 : Option Value} {o21 : Option Value} {L n : Nat} {ps : List (Option (Option Nat))}   : mj_EV 102 450 [some (.ref 2), some (.int x1), some (.ref 52), some (.ref 53), some (.ref 54), some (.ref 55), some (.int x6), some (.int x7), some (.int x8), some (.int x9), some (.ref (57 + n)), some (.int x11), o12, o13, o14, o15, o16, o17, o18, o19, o20, o21] [] (w_sh L ps (w_lo (n + 1))) c = (if (nI 4) ≤ x11 then (mj_then 102 522 [some (.ref 2), some (.int x1), some (.ref 52), some (.ref 53), some (.ref 54), some (.ref 55), some (.int x6), some (.int x7), some (.int x8), some (.int x9), some (.ref (57 + n)), some (.int x11), o12, o13, o14, o15, o16, o17, o18, o19, o20, o21] [] (mj_EV 101 0 [some (.ref 52), some (.ref 53), some (.ref 54), some (.ref 55), none, none] [] (w_sh L ps (w_lo (n + 1))) c)) else (mj_then 102 463 [some (.ref 2), some (.int x1), some (.ref 52), some (.ref 53), some (.ref 54), some (.ref 55), some (.int x6), some (.int x7), some (.int x8), some (.int x9), some (.ref (57 + n)), some (.int x11), o12, o13, o14, o15, o16, o17, o18, o19, o20, o21] [] (mj_EV 65 0 [some (.ref 2), some (.int x11), some (.int (nI 0))] [] (w_sh L ps (w_lo (n + 1))) c))) := (mj_iload d102_450 rfl (mj_iconst d102_452 (mj_icge d102_453 (mj_aload_n d102_513 rfl (mj_aload_n d102_514 rfl (mj_aload d102_515 rfl (mj_aload d102_517 rfl (mj_invS [some (.ref 52), some (.ref 53), some (.ref 54), some (.ref 55), none, none] [] d102_519 (by decide) rfl rfl rfl rfl))))) (mj_aload_n d102_456 rfl (mj_iload d102_457 rfl (mj_iconst d102_459 (mj_invV [some (.ref 2), some (.int x11), some (.int (nI 0))] [] d102_460 rfl rfl rfl w_2 rfl rfl)))))))
theorem e102_463 {c : mj_C} {x1 : Int32} {x6 : Int32} {x7 : Int32} {x8 : Int32} {x9 : Int32} {x11 : Int32} {o12 : Option Value} {o13 : Option Value} {o14 : Option Value} {o15 : Option Value} {o16 : Option Value} {o17 : Option Value} {o18 : Option Value} {o19 : Option Value} {o20 : Option Value} {o21 : Option Value} {z0 : Int32} {L n : Nat} {ps : List (Option (Option Nat))}   : mj_EV 102 463 [some (.ref 2), some (.int x1), some (.ref 52), some (.ref 53), some (.ref 54), some (.ref 55), some (.int x6), some (.int x7), some (.int x8), some (.int x9), some (.ref (57 + n)), some (.int x11), o12, o13, o14, o15, o16, o17, o18, o19, o20, o21] [.int z0] (w_sh L ps (w_lo (n + 1))) c = (if mj_in ((nI 9) + x11) 17 = true then (if z0 = (c 52 ((nI 9) + x11).toNatClampNeg) then (mj_then 102 480 [some (.ref 2), some (.int x1), some (.ref 52), some (.ref 53), some (.ref 54), some (.ref 55), some (.int x6), some (.int x7), some (.int x8), some (.int x9), some (.ref (57 + n)), some (.int x11), o12, o13, o14, o15, o16, o17, o18, o19, o20, o21] [] (mj_EV 65 0 [some (.ref 2), some (.int x11), some (.int (nI 1))] [] (w_sh L ps (w_lo (n + 1))) c)) else (some (some (.int (nI 0)), (w_sh L ps (w_lo (n + 1))), c))) else none) := (mj_aload_n d102_463 rfl (mj_bipush d102_464 (mj_iload d102_466 rfl (mj_iadd d102_468 (mj_iald d102_469 w_52 (mj_icne d102_470 (mj_iconst d102_505 (mj_zret0 d102_506)) (mj_aload_n d102_473 rfl (mj_iload d102_474 rfl (mj_iconst d102_476 (mj_invV [some (.ref 2), some (.int x11), some (.int (nI 1))] [] d102_477 rfl rfl rfl w_2 rfl rfl))))))))))
theorem e102_480 {c : mj_C} {x1 : Int32} {x6 : Int32} {x7 : Int32} {x8 : Int32} {x9 : Int32} {x11 : Int32} {o12 : Option Value} {o13 : Option Value} {o14 : Option Value} {o15 : Option Value} {o16 : Option Value} {o17 : Option Value} {o18 : Option Value} {o19 : Option Value} {o20 : Option Value} {o21 : Option Value} {z0 : Int32} {L n : Nat} {ps : List (Option (Option Nat))}   : mj_EV 102 480 [some (.ref 2), some (.int x1), some (.ref 52), some (.ref 53), some (.ref 54), some (.ref 55), some (.int x6), some (.int x7), some (.int x8), some (.int x9), some (.ref (57 + n)), some (.int x11), o12, o13, o14, o15, o16, o17, o18, o19, o20, o21] [.int z0] (w_sh L ps (w_lo (n + 1))) c = (if mj_in ((nI 9) + x11) 17 = true then (if nI 0 ≤ (c 52 ((nI 9) + x11).toNatClampNeg) then (if mj_in ((nI 13) + x11) 17 = true then (if z0 = (c 52 ((nI 13) + x11).toNatClampNeg) then mj_EV 102 450 [some (.ref 2), some (.int x1), some (.ref 52), some (.ref 53), some (.ref 54), some (.ref 55), some (.int x6), some (.int x7), some (.int x8), some (.int x9), some (.ref (57 + n)), some (.int (x11 + (nI 1))), o12, o13, o14, o15, o16, o17, o18, o19, o20, o21] [] (w_sh L ps (w_lo (n + 1))) c else (some (some (.int (nI 0)), (w_sh L ps (w_lo (n + 1))), c))) else none) else (if z0 = (-6) then mj_EV 102 450 [some (.ref 2), some (.int x1), some (.ref 52), some (.ref 53), some (.ref 54), some (.ref 55), some (.int x6), some (.int x7), some (.int x8), some (.int x9), some (.ref (57 + n)), some (.int (x11 + (nI 1))), o12, o13, o14, o15, o16, o17, o18, o19, o20, o21] [] (w_sh L ps (w_lo (n + 1))) c else (some (some (.int (nI 0)), (w_sh L ps (w_lo (n + 1))), c)))) else none) := (mj_aload_n d102_480 rfl (mj_bipush d102_481 (mj_iload d102_483 rfl (mj_iadd d102_485 (mj_iald d102_486 w_52 (mj_ifge d102_487 (mj_aload_n d102_495 rfl (mj_bipush d102_496 (mj_iload d102_498 rfl (mj_iadd d102_500 (mj_iald d102_501 w_52 (mj_iceq d102_502 (mj_iinc [some (.ref 2), some (.int x1), some (.ref 52), some (.ref 53), some (.ref 54), some (.ref 55), some (.int x6), some (.int x7), some (.int x8), some (.int x9), some (.ref (57 + n)), some (.int (x11 + (nI 1))), o12, o13, o14, o15, o16, o17, o18, o19, o20, o21] d102_507 rfl rfl rfl (mj_goto d102_510 rfl)) (mj_iconst d102_505 (mj_zret0 d102_506)))))))) (mj_bipush d102_490 (mj_goto d102_492 (mj_iceq d102_502 (mj_iinc [some (.ref 2), some (.int x1), some (.ref 52), some (.ref 53), some (.ref 54), some (.ref 55), some (.int x6), some (.int x7), some (.int x8), some (.int x9), some (.ref (57 + n)), some (.int (x11 + (nI 1))), o12, o13, o14, o15, o16, o17, o18, o19, o20, o21] d102_507 rfl rfl rfl (mj_goto d102_510 rfl)) (mj_iconst d102_505 (mj_zret0 d102_506)))))))))))
theorem e102_522 {c : mj_C} {x1 : Int32} {x6 : Int32} {x7 : Int32} {x8 : Int32} {x9 : Int32} {x11 : Int32} {o12 : Option Value} {o13 : Option Value} {o14 : Option Value} {o15 : Option Value} {o16 : Option Value} {o17 : Option Value} {o18 : Option Value} {o19 : Option Value} {o20 : Option Value} {o21 : Option Value} {z0 : Int32} {L n : Nat} {ps : List (Option (Option Nat))}   : mj_EV 102 522 [some (.ref 2), some (.int x1), some (.ref 52), some (.ref 53), some (.ref 54), some (.ref 55), some (.int x6), some (.int x7), some (.int x8), some (.int x9), some (.ref (57 + n)), some (.int x11), o12, o13, o14, o15, o16, o17, o18, o19, o20, o21] [.int z0] (w_sh L ps (w_lo (n + 1))) c = (mj_then 102 530 [some (.ref 2), some (.int x1), some (.ref 52), some (.ref 53), some (.ref 54), some (.ref 55), some (.int x6), some (.int x7), some (.int x8), some (.int x9), some (.ref (57 + n)), some (.int z0), o12, o13, o14, o15, o16, o17, o18, o19, o20, o21] [] (mj_EV 93 0 [some (.int x1), some (.int (nI 9))] [] (w_sh L ps (w_lo (n + 1))) c)) := (mj_istore [some (.ref 2), some (.int x1), some (.ref 52), some (.ref 53), some (.ref 54), some (.ref 55), some (.int x6), some (.int x7), some (.int x8), some (.int x9), some (.ref (57 + n)), some (.int z0), o12, o13, o14, o15, o16, o17, o18, o19, o20, o21] d102_522 rfl rfl (mj_iload_n d102_524 rfl (mj_bipush d102_525 (mj_invS [some (.int x1), some (.int (nI 9))] [] d102_527 (by decide) rfl rfl rfl rfl))))
theorem e102_530 {c : mj_C} {x1 : Int32} {x6 : Int32} {x7 : Int32} {x8 : Int32} {x9 : Int32} {x11 : Int32} {o12 : Option Value} {o13 : Option Value} {o14 : Option Value} {o15 : Option Value} {o16 : Option Value} {o17 : Option Value} {o18 : Option Value} {o19 : Option Value} {o20 : Option Value} {o21 : Option Value} {z0 : Int32} {L n : Nat} {ps : List (Option (Option Nat))}   : mj_EV 102 530 [some (.ref 2), some (.int x1), some (.ref 52), some (.ref 53), some (.ref 54), some (.ref 55), some (.int x6), some (.int x7), some (.int x8), some (.int x9), some (.ref (57 + n)), some (.int x11), o12, o13, o14, o15, o16, o17, o18, o19, o20, o21] [.int z0] (w_sh L ps (w_lo (n + 1))) c = mj_EV 102 538 [some (.ref 2), some (.int x1), some (.ref 52), some (.ref 53), some (.ref 54), some (.ref 55), some (.int x6), some (.int x7), some (.int x8), some (.int x9), some (.ref (57 + n)), some (.int x11), some (.int z0), some (.int (nI 0)), some (.int (nI 0)), o15, o16, o17, o18, o19, o20, o21] [] (w_sh L ps (w_lo (n + 1))) c := (mj_istore [some (.ref 2), some (.int x1), some (.ref 52), some (.ref 53), some (.ref 54), some (.ref 55), some (.int x6), some (.int x7), some (.int x8), some (.int x9), some (.ref (57 + n)), some (.int x11), some (.int z0), o13, o14, o15, o16, o17, o18, o19, o20, o21] d102_530 rfl rfl (mj_iconst d102_532 (mj_istore [some (.ref 2), some (.int x1), some (.ref 52), some (.ref 53), some (.ref 54), some (.ref 55), some (.int x6), some (.int x7), some (.int x8), some (.int x9), some (.ref (57 + n)), some (.int x11), some (.int z0), some (.int (nI 0)), o14, o15, o16, o17, o18, o19, o20, o21] d102_533 rfl rfl (mj_iconst d102_535 (mj_istore [some (.ref 2), some (.int x1), some (.ref 52), some (.ref 53), some (.ref 54), some (.ref 55), some (.int x6), some (.int x7), some (.int x8), some (.int x9), some (.ref (57 + n)), some (.int x11), some (.int z0), some (.int (nI 0)), some (.int (nI 0)), o15, o16, o17, o18, o19, o20, o21] d102_536 rfl rfl rfl)))))
theorem e102_538 {c : mj_C} {x1 : Int32} {x6 : Int32} {x7 : Int32} {x8 : Int32} {x9 : Int32} {x11 : Int32} {x12 : Int32} {x13 : Int32} {x14 : Int32} {o15 : Option Value} {o16 : Option Value} {o17 : Option Value} {o18 : Option Value} {o19 : Option Value} {o20 : Option Value} {o21 : Option Value} {L n : Nat} {ps : List (Option (Option Nat))}   : mj_EV 102 538 [some (.ref 2), some (.int x1), some (.ref 52), some (.ref 53), some (.ref 54), some (.ref 55), some (.int x6), some (.int x7), some (.int x8), some (.int x9), some (.ref (57 + n)), some (.int x11), some (.int x12), some (.int x13), some (.int x14), o15, o16, o17, o18, o19, o20, o21] [] (w_sh L ps (w_lo (n + 1))) c = (if (nI 3) ≤ x14 then (mj_then 102 602 [some (.ref 2), some (.int x1), some (.ref 52), some (.ref 53), some (.ref 54), some (.ref 55), some (.int x6), some (.int x7), some (.int x8), some (.int x9), some (.ref (57 + n)), some (.int x11), some (.int x12), some (.int x13), some (.int x14), o15, o16, o17, o18, o19, o20, o21] [] (mj_EV 60 0 [some (.ref 2), some (.int (nI 0))] [] (w_sh L ps (w_lo (n + 1))) c)) else (if mj_in ((nI 6) + x14) 17 = true then (if nI 0 ≤ (c 52 ((nI 6) + x14).toNatClampNeg) then (mj_then 102 572 [some (.ref 2), some (.int x1), some (.ref 52), some (.ref 53), some (.ref 54), some (.ref 55), some (.int x6), some (.int x7), some (.int x8), some (.int x9), some (.ref (57 + n)), some (.int x11), some (.int x12), some (.int x13), some (.int x14), o15, o16, o17, o18, o19, o20, o21] [.int x12, .int x13] (mj_EV 94 0 [some (.int x14), some (.ref 53), some (.ref 54), some (.ref 55)] [] (w_sh L ps (w_lo (n + 1))) c)) else mj_EV 102 588 [some (.ref 2), some (.int x1), some (.ref 52), some (.ref 53), some (.ref 54), some (.ref 55), some (.int x6), some (.int x7), some (.int x8), some (.int x9), some (.ref (57 + n)), some (.int x11), some (.int x12), some (.int x13), some (.int x14), o15, o16, o17, o18, o19, o20, o21] [.int (nI 0), .int x13] (w_sh L ps (w_lo (n + 1))) c) else none)) := (mj_iload d102_538 rfl (mj_iconst d102_540 (mj_icge d102_541 (mj_aload_n d102_597 rfl (mj_iconst d102_598 (mj_invV [some (.ref 2), some (.int (nI 0))] [] d102_599 rfl rfl rfl w_2 rfl rfl))) (mj_iload d102_544 rfl (mj_aload_n d102_546 rfl (mj_bipush d102_547 (mj_iload d102_549 rfl (mj_iadd d102_551 (mj_iald d102_552 w_52 (mj_ifge d102_553 (mj_iload d102_560 rfl (mj_iload d102_562 rfl (mj_aload_n d102_564 rfl (mj_aload d102_565 rfl (mj_aload d102_567 rfl (mj_invS [some (.int x14), some (.ref 53), some (.ref 54), some (.ref 55)] [.int x12, .int x13] d102_569 (by decide) rfl rfl rfl rfl)))))) (mj_iconst d102_556 (mj_goto d102_557 rfl))))))))))))
theorem e102_572 {c : mj_C} {x1 : Int32} {x6 : Int32} {x7 : Int32} {x8 : Int32} {x9 : Int32} {x11 : Int32} {x12 : Int32} {x13 : Int32} {x14 : Int32} {o15 : Option Value} {o16 : Option Value} {o17 : Option Value} {o18 : Option Value} {o19 : Option Value} {o20 : Option Value} {o21 : Option Value} {z0 : Int32} {z1 : Int32} {L n : Nat} {ps : List (Option (Option Nat))} {rr569 : Nat} (hrr569 : (w_sh L ps (w_lo (n + 1)))[rr569]? = some (0, 64, []))  : mj_EV 102 572 [some (.ref 2), some (.int x1), some (.ref 52), some (.ref 53), some (.ref 54), some (.ref 55), some (.int x6), some (.int x7), some (.int x8), some (.int x9), some (.ref (57 + n)), some (.int x11), some (.int x12), some (.int x13), some (.int x14), o15, o16, o17, o18, o19, o20, o21] [.ref rr569, .int z1, .int z0] (w_sh L ps (w_lo (n + 1))) c = (mj_then 102 575 [some (.ref 2), some (.int x1), some (.ref 52), some (.ref 53), some (.ref 54), some (.ref 55), some (.int x6), some (.int x7), some (.int x8), some (.int x9), some (.ref (57 + n)), some (.int x11), some (.int x12), some (.int x13), some (.int x14), o15, o16, o17, o18, o19, o20, o21] [.int z0] (mj_EV 100 0 [some (.int z1), some (.ref rr569), none, none] [] (w_sh L ps (w_lo (n + 1))) c)) := (mj_invS [some (.int z1), some (.ref rr569), none, none] [.int z0] d102_572 (by decide) rfl rfl rfl rfl)
theorem e102_575 {c : mj_C} {x1 : Int32} {x6 : Int32} {x7 : Int32} {x8 : Int32} {x9 : Int32} {x11 : Int32} {x12 : Int32} {x13 : Int32} {x14 : Int32} {o15 : Option Value} {o16 : Option Value} {o17 : Option Value} {o18 : Option Value} {o19 : Option Value} {o20 : Option Value} {o21 : Option Value} {z0 : Int32} {z1 : Int32} {L n : Nat} {ps : List (Option (Option Nat))}   : mj_EV 102 575 [some (.ref 2), some (.int x1), some (.ref 52), some (.ref 53), some (.ref 54), some (.ref 55), some (.int x6), some (.int x7), some (.int x8), some (.int x9), some (.ref (57 + n)), some (.int x11), some (.int x12), some (.int x13), some (.int x14), o15, o16, o17, o18, o19, o20, o21] [.int z1, .int z0] (w_sh L ps (w_lo (n + 1))) c = (mj_then 102 585 [some (.ref 2), some (.int x1), some (.ref 52), some (.ref 53), some (.ref 54), some (.ref 55), some (.int x6), some (.int x7), some (.int x8), some (.int x9), some (.ref (57 + n)), some (.int x11), some (.int x12), some (.int x13), some (.int x14), o15, o16, o17, o18, o19, o20, o21] [.int z1, .int z0] (mj_EV 94 0 [some (.int x14), some (.ref 53), some (.ref 54), some (.ref 55)] [] (w_sh L ps (w_lo (n + 1))) c)) := (mj_iload d102_575 rfl (mj_aload_n d102_577 rfl (mj_aload d102_578 rfl (mj_aload d102_580 rfl (mj_invS [some (.int x14), some (.ref 53), some (.ref 54), some (.ref 55)] [.int z1, .int z0] d102_582 (by decide) rfl rfl rfl rfl)))))
theorem e102_585 {c : mj_C} {x1 : Int32} {x6 : Int32} {x7 : Int32} {x8 : Int32} {x9 : Int32} {x11 : Int32} {x12 : Int32} {x13 : Int32} {x14 : Int32} {o15 : Option Value} {o16 : Option Value} {o17 : Option Value} {o18 : Option Value} {o19 : Option Value} {o20 : Option Value} {o21 : Option Value} {z0 : Int32} {z1 : Int32} {L n : Nat} {ps : List (Option (Option Nat))} {rr582 : Nat} (hrr582 : (w_sh L ps (w_lo (n + 1)))[rr582]? = some (0, 64, []))  : mj_EV 102 585 [some (.ref 2), some (.int x1), some (.ref 52), some (.ref 53), some (.ref 54), some (.ref 55), some (.int x6), some (.int x7), some (.int x8), some (.int x9), some (.ref (57 + n)), some (.int x11), some (.int x12), some (.int x13), some (.int x14), o15, o16, o17, o18, o19, o20, o21] [.ref rr582, .int z1, .int z0] (w_sh L ps (w_lo (n + 1))) c = (mj_then 102 588 [some (.ref 2), some (.int x1), some (.ref 52), some (.ref 53), some (.ref 54), some (.ref 55), some (.int x6), some (.int x7), some (.int x8), some (.int x9), some (.ref (57 + n)), some (.int x11), some (.int x12), some (.int x13), some (.int x14), o15, o16, o17, o18, o19, o20, o21] [.int z0] (mj_EV 99 0 [some (.int z1), some (.ref rr582)] [] (w_sh L ps (w_lo (n + 1))) c)) := (mj_invS [some (.int z1), some (.ref rr582)] [.int z0] d102_585 (by decide) rfl rfl rfl rfl)
theorem e102_588 {c : mj_C} {x1 : Int32} {x6 : Int32} {x7 : Int32} {x8 : Int32} {x9 : Int32} {x11 : Int32} {x12 : Int32} {x13 : Int32} {x14 : Int32} {o15 : Option Value} {o16 : Option Value} {o17 : Option Value} {o18 : Option Value} {o19 : Option Value} {o20 : Option Value} {o21 : Option Value} {z0 : Int32} {z1 : Int32} {L n : Nat} {ps : List (Option (Option Nat))}   : mj_EV 102 588 [some (.ref 2), some (.int x1), some (.ref 52), some (.ref 53), some (.ref 54), some (.ref 55), some (.int x6), some (.int x7), some (.int x8), some (.int x9), some (.ref (57 + n)), some (.int x11), some (.int x12), some (.int x13), some (.int x14), o15, o16, o17, o18, o19, o20, o21] [.int z1, .int z0] (w_sh L ps (w_lo (n + 1))) c = mj_EV 102 538 [some (.ref 2), some (.int x1), some (.ref 52), some (.ref 53), some (.ref 54), some (.ref 55), some (.int x6), some (.int x7), some (.int x8), some (.int x9), some (.ref (57 + n)), some (.int x11), some (.int x12), some (.int (z0 + z1)), some (.int (x14 + (nI 1))), o15, o16, o17, o18, o19, o20, o21] [] (w_sh L ps (w_lo (n + 1))) c := (mj_iadd d102_588 (mj_istore [some (.ref 2), some (.int x1), some (.ref 52), some (.ref 53), some (.ref 54), some (.ref 55), some (.int x6), some (.int x7), some (.int x8), some (.int x9), some (.ref (57 + n)), some (.int x11), some (.int x12), some (.int (z0 + z1)), some (.int x14), o15, o16, o17, o18, o19, o20, o21] d102_589 rfl rfl (mj_iinc [some (.ref 2), some (.int x1), some (.ref 52), some (.ref 53), some (.ref 54), some (.ref 55), some (.int x6), some (.int x7), some (.int x8), some (.int x9), some (.ref (57 + n)), some (.int x11), some (.int x12), some (.int (z0 + z1)), some (.int (x14 + (nI 1))), o15, o16, o17, o18, o19, o20, o21] d102_591 rfl rfl rfl (mj_goto d102_594 rfl))))
theorem e102_602 {c : mj_C} {x1 : Int32} {x6 : Int32} {x7 : Int32} {x8 : Int32} {x9 : Int32} {x11 : Int32} {x12 : Int32} {x13 : Int32} {x14 : Int32} {o15 : Option Value} {o16 : Option Value} {o17 : Option Value} {o18 : Option Value} {o19 : Option Value} {o20 : Option Value} {o21 : Option Value} {z0 : Int32} {L n : Nat} {ps : List (Option (Option Nat))}   : mj_EV 102 602 [some (.ref 2), some (.int x1), some (.ref 52), some (.ref 53), some (.ref 54), some (.ref 55), some (.int x6), some (.int x7), some (.int x8), some (.int x9), some (.ref (57 + n)), some (.int x11), some (.int x12), some (.int x13), some (.int x14), o15, o16, o17, o18, o19, o20, o21] [.int z0] (w_sh L ps (w_lo (n + 1))) c = (if z0 = x6 then (mj_then 102 612 [some (.ref 2), some (.int x1), some (.ref 52), some (.ref 53), some (.ref 54), some (.ref 55), some (.int x6), some (.int x7), some (.int x8), some (.int x9), some (.ref (57 + n)), some (.int x11), some (.int x12), some (.int x13), some (.int x14), o15, o16, o17, o18, o19, o20, o21] [] (mj_EV 60 0 [some (.ref 2), some (.int (nI 1))] [] (w_sh L ps (w_lo (n + 1))) c)) else (some (some (.int (nI 0)), (w_sh L ps (w_lo (n + 1))), c))) := (mj_iload d102_602 rfl (mj_icne d102_604 (mj_iconst d102_748 (mj_zret0 d102_749)) (mj_aload_n d102_607 rfl (mj_iconst d102_608 (mj_invV [some (.ref 2), some (.int (nI 1))] [] d102_609 rfl rfl rfl w_2 rfl rfl)))))
theorem e102_612 {c : mj_C} {x1 : Int32} {x6 : Int32} {x7 : Int32} {x8 : Int32} {x9 : Int32} {x11 : Int32} {x12 : Int32} {x13 : Int32} {x14 : Int32} {o15 : Option Value} {o16 : Option Value} {o17 : Option Value} {o18 : Option Value} {o19 : Option Value} {o20 : Option Value} {o21 : Option Value} {z0 : Int32} {L n : Nat} {ps : List (Option (Option Nat))}   : mj_EV 102 612 [some (.ref 2), some (.int x1), some (.ref 52), some (.ref 53), some (.ref 54), some (.ref 55), some (.int x6), some (.int x7), some (.int x8), some (.int x9), some (.ref (57 + n)), some (.int x11), some (.int x12), some (.int x13), some (.int x14), o15, o16, o17, o18, o19, o20, o21] [.int z0] (w_sh L ps (w_lo (n + 1))) c = (if z0 = x11 then (mj_then 102 622 [some (.ref 2), some (.int x1), some (.ref 52), some (.ref 53), some (.ref 54), some (.ref 55), some (.int x6), some (.int x7), some (.int x8), some (.int x9), some (.ref (57 + n)), some (.int x11), some (.int x12), some (.int x13), some (.int x14), o15, o16, o17, o18, o19, o20, o21] [] (mj_EV 60 0 [some (.ref 2), some (.int (nI 2))] [] (w_sh L ps (w_lo (n + 1))) c)) else (some (some (.int (nI 0)), (w_sh L ps (w_lo (n + 1))), c))) := (mj_iload d102_612 rfl (mj_icne d102_614 (mj_iconst d102_748 (mj_zret0 d102_749)) (mj_aload_n d102_617 rfl (mj_iconst d102_618 (mj_invV [some (.ref 2), some (.int (nI 2))] [] d102_619 rfl rfl rfl w_2 rfl rfl)))))
theorem e102_622 {c : mj_C} {x1 : Int32} {x6 : Int32} {x7 : Int32} {x8 : Int32} {x9 : Int32} {x11 : Int32} {x12 : Int32} {x13 : Int32} {x14 : Int32} {o15 : Option Value} {o16 : Option Value} {o17 : Option Value} {o18 : Option Value} {o19 : Option Value} {o20 : Option Value} {o21 : Option Value} {z0 : Int32} {L n : Nat} {ps : List (Option (Option Nat))}   : mj_EV 102 622 [some (.ref 2), some (.int x1), some (.ref 52), some (.ref 53), some (.ref 54), some (.ref 55), some (.int x6), some (.int x7), some (.int x8), some (.int x9), some (.ref (57 + n)), some (.int x11), some (.int x12), some (.int x13), some (.int x14), o15, o16, o17, o18, o19, o20, o21] [.int z0] (w_sh L ps (w_lo (n + 1))) c = (if mj_in (nI 1) 17 = true then (if z0 = (c 52 (nI 1).toNatClampNeg) then (mj_then 102 633 [some (.ref 2), some (.int x1), some (.ref 52), some (.ref 53), some (.ref 54), some (.ref 55), some (.int x6), some (.int x7), some (.int x8), some (.int x9), some (.ref (57 + n)), some (.int x11), some (.int x12), some (.int x13), some (.int x14), o15, o16, o17, o18, o19, o20, o21] [] (mj_EV 60 0 [some (.ref 2), some (.int (nI 3))] [] (w_sh L ps (w_lo (n + 1))) c)) else (some (some (.int (nI 0)), (w_sh L ps (w_lo (n + 1))), c))) else none) := (mj_aload_n d102_622 rfl (mj_iconst d102_623 (mj_iald d102_624 w_52 (mj_icne d102_625 (mj_iconst d102_748 (mj_zret0 d102_749)) (mj_aload_n d102_628 rfl (mj_iconst d102_629 (mj_invV [some (.ref 2), some (.int (nI 3))] [] d102_630 rfl rfl rfl w_2 rfl rfl)))))))
theorem e102_633 {c : mj_C} {x1 : Int32} {x6 : Int32} {x7 : Int32} {x8 : Int32} {x9 : Int32} {x11 : Int32} {x12 : Int32} {x13 : Int32} {x14 : Int32} {o15 : Option Value} {o16 : Option Value} {o17 : Option Value} {o18 : Option Value} {o19 : Option Value} {o20 : Option Value} {o21 : Option Value} {z0 : Int32} {L n : Nat} {ps : List (Option (Option Nat))}   : mj_EV 102 633 [some (.ref 2), some (.int x1), some (.ref 52), some (.ref 53), some (.ref 54), some (.ref 55), some (.int x6), some (.int x7), some (.int x8), some (.int x9), some (.ref (57 + n)), some (.int x11), some (.int x12), some (.int x13), some (.int x14), o15, o16, o17, o18, o19, o20, o21] [.int z0] (w_sh L ps (w_lo (n + 1))) c = (if mj_in (nI 0) 17 = true then (if z0 = (c 52 (nI 0).toNatClampNeg) then (mj_then 102 644 [some (.ref 2), some (.int x1), some (.ref 52), some (.ref 53), some (.ref 54), some (.ref 55), some (.int x6), some (.int x7), some (.int x8), some (.int x9), some (.ref (57 + n)), some (.int x11), some (.int x12), some (.int x13), some (.int x14), o15, o16, o17, o18, o19, o20, o21] [] (mj_EV 60 0 [some (.ref 2), some (.int (nI 4))] [] (w_sh L ps (w_lo (n + 1))) c)) else (some (some (.int (nI 0)), (w_sh L ps (w_lo (n + 1))), c))) else none) := (mj_aload_n d102_633 rfl (mj_iconst d102_634 (mj_iald d102_635 w_52 (mj_icne d102_636 (mj_iconst d102_748 (mj_zret0 d102_749)) (mj_aload_n d102_639 rfl (mj_iconst d102_640 (mj_invV [some (.ref 2), some (.int (nI 4))] [] d102_641 rfl rfl rfl w_2 rfl rfl)))))))
theorem e102_644 {c : mj_C} {x1 : Int32} {x6 : Int32} {x7 : Int32} {x8 : Int32} {x9 : Int32} {x11 : Int32} {x12 : Int32} {x13 : Int32} {x14 : Int32} {o15 : Option Value} {o16 : Option Value} {o17 : Option Value} {o18 : Option Value} {o19 : Option Value} {o20 : Option Value} {o21 : Option Value} {z0 : Int32} {L n : Nat} {ps : List (Option (Option Nat))}   : mj_EV 102 644 [some (.ref 2), some (.int x1), some (.ref 52), some (.ref 53), some (.ref 54), some (.ref 55), some (.int x6), some (.int x7), some (.int x8), some (.int x9), some (.ref (57 + n)), some (.int x11), some (.int x12), some (.int x13), some (.int x14), o15, o16, o17, o18, o19, o20, o21] [.int z0] (w_sh L ps (w_lo (n + 1))) c = (if z0 = x7 then (mj_then 102 654 [some (.ref 2), some (.int x1), some (.ref 52), some (.ref 53), some (.ref 54), some (.ref 55), some (.int x6), some (.int x7), some (.int x8), some (.int x9), some (.ref (57 + n)), some (.int x11), some (.int x12), some (.int x13), some (.int x14), o15, o16, o17, o18, o19, o20, o21] [] (mj_EV 60 0 [some (.ref 2), some (.int (nI 5))] [] (w_sh L ps (w_lo (n + 1))) c)) else (some (some (.int (nI 0)), (w_sh L ps (w_lo (n + 1))), c))) := (mj_iload d102_644 rfl (mj_icne d102_646 (mj_iconst d102_748 (mj_zret0 d102_749)) (mj_aload_n d102_649 rfl (mj_iconst d102_650 (mj_invV [some (.ref 2), some (.int (nI 5))] [] d102_651 rfl rfl rfl w_2 rfl rfl)))))
theorem e102_654 {c : mj_C} {x1 : Int32} {x6 : Int32} {x7 : Int32} {x8 : Int32} {x9 : Int32} {x11 : Int32} {x12 : Int32} {x13 : Int32} {x14 : Int32} {o15 : Option Value} {o16 : Option Value} {o17 : Option Value} {o18 : Option Value} {o19 : Option Value} {o20 : Option Value} {o21 : Option Value} {z0 : Int32} {L n : Nat} {ps : List (Option (Option Nat))}   : mj_EV 102 654 [some (.ref 2), some (.int x1), some (.ref 52), some (.ref 53), some (.ref 54), some (.ref 55), some (.int x6), some (.int x7), some (.int x8), some (.int x9), some (.ref (57 + n)), some (.int x11), some (.int x12), some (.int x13), some (.int x14), o15, o16, o17, o18, o19, o20, o21] [.int z0] (w_sh L ps (w_lo (n + 1))) c = (if mj_in (nI 2) 17 = true then (if z0 = (c 52 (nI 2).toNatClampNeg) then (mj_then 102 666 [some (.ref 2), some (.int x1), some (.ref 52), some (.ref 53), some (.ref 54), some (.ref 55), some (.int x6), some (.int x7), some (.int x8), some (.int x9), some (.ref (57 + n)), some (.int x11), some (.int x12), some (.int x13), some (.int x14), o15, o16, o17, o18, o19, o20, o21] [] (mj_EV 60 0 [some (.ref 2), some (.int (nI 6))] [] (w_sh L ps (w_lo (n + 1))) c)) else (some (some (.int (nI 0)), (w_sh L ps (w_lo (n + 1))), c))) else none) := (mj_aload_n d102_654 rfl (mj_iconst d102_655 (mj_iald d102_656 w_52 (mj_icne d102_657 (mj_iconst d102_748 (mj_zret0 d102_749)) (mj_aload_n d102_660 rfl (mj_bipush d102_661 (mj_invV [some (.ref 2), some (.int (nI 6))] [] d102_663 rfl rfl rfl w_2 rfl rfl)))))))
theorem e102_666 {c : mj_C} {x1 : Int32} {x6 : Int32} {x7 : Int32} {x8 : Int32} {x9 : Int32} {x11 : Int32} {x12 : Int32} {x13 : Int32} {x14 : Int32} {o15 : Option Value} {o16 : Option Value} {o17 : Option Value} {o18 : Option Value} {o19 : Option Value} {o20 : Option Value} {o21 : Option Value} {z0 : Int32} {L n : Nat} {ps : List (Option (Option Nat))}   : mj_EV 102 666 [some (.ref 2), some (.int x1), some (.ref 52), some (.ref 53), some (.ref 54), some (.ref 55), some (.int x6), some (.int x7), some (.int x8), some (.int x9), some (.ref (57 + n)), some (.int x11), some (.int x12), some (.int x13), some (.int x14), o15, o16, o17, o18, o19, o20, o21] [.int z0] (w_sh L ps (w_lo (n + 1))) c = (if mj_in (nI 3) 17 = true then (if z0 = (c 52 (nI 3).toNatClampNeg) then (mj_then 102 678 [some (.ref 2), some (.int x1), some (.ref 52), some (.ref 53), some (.ref 54), some (.ref 55), some (.int x6), some (.int x7), some (.int x8), some (.int x9), some (.ref (57 + n)), some (.int x11), some (.int x12), some (.int x13), some (.int x14), o15, o16, o17, o18, o19, o20, o21] [] (mj_EV 60 0 [some (.ref 2), some (.int (nI 7))] [] (w_sh L ps (w_lo (n + 1))) c)) else (some (some (.int (nI 0)), (w_sh L ps (w_lo (n + 1))), c))) else none) := (mj_aload_n d102_666 rfl (mj_iconst d102_667 (mj_iald d102_668 w_52 (mj_icne d102_669 (mj_iconst d102_748 (mj_zret0 d102_749)) (mj_aload_n d102_672 rfl (mj_bipush d102_673 (mj_invV [some (.ref 2), some (.int (nI 7))] [] d102_675 rfl rfl rfl w_2 rfl rfl)))))))
theorem e102_678 {c : mj_C} {x1 : Int32} {x6 : Int32} {x7 : Int32} {x8 : Int32} {x9 : Int32} {x11 : Int32} {x12 : Int32} {x13 : Int32} {x14 : Int32} {o15 : Option Value} {o16 : Option Value} {o17 : Option Value} {o18 : Option Value} {o19 : Option Value} {o20 : Option Value} {o21 : Option Value} {z0 : Int32} {L n : Nat} {ps : List (Option (Option Nat))}   : mj_EV 102 678 [some (.ref 2), some (.int x1), some (.ref 52), some (.ref 53), some (.ref 54), some (.ref 55), some (.int x6), some (.int x7), some (.int x8), some (.int x9), some (.ref (57 + n)), some (.int x11), some (.int x12), some (.int x13), some (.int x14), o15, o16, o17, o18, o19, o20, o21] [.int z0] (w_sh L ps (w_lo (n + 1))) c = (if mj_in (nI 4) 17 = true then (if z0 = (c 52 (nI 4).toNatClampNeg) then (mj_then 102 690 [some (.ref 2), some (.int x1), some (.ref 52), some (.ref 53), some (.ref 54), some (.ref 55), some (.int x6), some (.int x7), some (.int x8), some (.int x9), some (.ref (57 + n)), some (.int x11), some (.int x12), some (.int x13), some (.int x14), o15, o16, o17, o18, o19, o20, o21] [] (mj_EV 60 0 [some (.ref 2), some (.int (nI 8))] [] (w_sh L ps (w_lo (n + 1))) c)) else (some (some (.int (nI 0)), (w_sh L ps (w_lo (n + 1))), c))) else none) := (mj_aload_n d102_678 rfl (mj_iconst d102_679 (mj_iald d102_680 w_52 (mj_icne d102_681 (mj_iconst d102_748 (mj_zret0 d102_749)) (mj_aload_n d102_684 rfl (mj_bipush d102_685 (mj_invV [some (.ref 2), some (.int (nI 8))] [] d102_687 rfl rfl rfl w_2 rfl rfl)))))))
theorem e102_690 {c : mj_C} {x1 : Int32} {x6 : Int32} {x7 : Int32} {x8 : Int32} {x9 : Int32} {x11 : Int32} {x12 : Int32} {x13 : Int32} {x14 : Int32} {o15 : Option Value} {o16 : Option Value} {o17 : Option Value} {o18 : Option Value} {o19 : Option Value} {o20 : Option Value} {o21 : Option Value} {z0 : Int32} {L n : Nat} {ps : List (Option (Option Nat))}   : mj_EV 102 690 [some (.ref 2), some (.int x1), some (.ref 52), some (.ref 53), some (.ref 54), some (.ref 55), some (.int x6), some (.int x7), some (.int x8), some (.int x9), some (.ref (57 + n)), some (.int x11), some (.int x12), some (.int x13), some (.int x14), o15, o16, o17, o18, o19, o20, o21] [.int z0] (w_sh L ps (w_lo (n + 1))) c = (if mj_in (nI 5) 17 = true then (if z0 = (c 52 (nI 5).toNatClampNeg) then (mj_then 102 700 [some (.ref 2), some (.int x1), some (.ref 52), some (.ref 53), some (.ref 54), some (.ref 55), some (.int x6), some (.int x7), some (.int x8), some (.int x9), some (.ref (57 + n)), some (.int x11), some (.int x12), some (.int x13), some (.int x14), o15, o16, o17, o18, o19, o20, o21] [] (mj_EV 70 0 [some (.ref 2), none, none, none, none] [] (w_sh L ps (w_lo (n + 1))) c)) else (some (some (.int (nI 0)), (w_sh L ps (w_lo (n + 1))), c))) else none) := (mj_aload_n d102_690 rfl (mj_iconst d102_691 (mj_iald d102_692 w_52 (mj_icne d102_693 (mj_iconst d102_748 (mj_zret0 d102_749)) (mj_aload_n d102_696 rfl (mj_invV [some (.ref 2), none, none, none, none] [] d102_697 rfl rfl rfl w_2 rfl rfl))))))
theorem e102_700 {c : mj_C} {x1 : Int32} {x6 : Int32} {x7 : Int32} {x8 : Int32} {x9 : Int32} {x11 : Int32} {x12 : Int32} {x13 : Int32} {x14 : Int32} {o15 : Option Value} {o16 : Option Value} {o17 : Option Value} {o18 : Option Value} {o19 : Option Value} {o20 : Option Value} {o21 : Option Value} {z0 : Int32} {L n : Nat} {ps : List (Option (Option Nat))}   : mj_EV 102 700 [some (.ref 2), some (.int x1), some (.ref 52), some (.ref 53), some (.ref 54), some (.ref 55), some (.int x6), some (.int x7), some (.int x8), some (.int x9), some (.ref (57 + n)), some (.int x11), some (.int x12), some (.int x13), some (.int x14), o15, o16, o17, o18, o19, o20, o21] [.int z0] (w_sh L ps (w_lo (n + 1))) c = (if z0 = x8 then (mj_then 102 709 [some (.ref 2), some (.int x1), some (.ref 52), some (.ref 53), some (.ref 54), some (.ref 55), some (.int x6), some (.int x7), some (.int x8), some (.int x9), some (.ref (57 + n)), some (.int x11), some (.int x12), some (.int x13), some (.int x14), o15, o16, o17, o18, o19, o20, o21] [] (mj_EV 71 0 [some (.ref 2)] [] (w_sh L ps (w_lo (n + 1))) c)) else (some (some (.int (nI 0)), (w_sh L ps (w_lo (n + 1))), c))) := (mj_iload d102_700 rfl (mj_icne d102_702 (mj_iconst d102_748 (mj_zret0 d102_749)) (mj_aload_n d102_705 rfl (mj_invV [some (.ref 2)] [] d102_706 rfl rfl rfl w_2 rfl rfl))))
theorem e102_709 {c : mj_C} {x1 : Int32} {x6 : Int32} {x7 : Int32} {x8 : Int32} {x9 : Int32} {x11 : Int32} {x12 : Int32} {x13 : Int32} {x14 : Int32} {o15 : Option Value} {o16 : Option Value} {o17 : Option Value} {o18 : Option Value} {o19 : Option Value} {o20 : Option Value} {o21 : Option Value} {z0 : Int32} {L n : Nat} {ps : List (Option (Option Nat))}   : mj_EV 102 709 [some (.ref 2), some (.int x1), some (.ref 52), some (.ref 53), some (.ref 54), some (.ref 55), some (.int x6), some (.int x7), some (.int x8), some (.int x9), some (.ref (57 + n)), some (.int x11), some (.int x12), some (.int x13), some (.int x14), o15, o16, o17, o18, o19, o20, o21] [.int z0] (w_sh L ps (w_lo (n + 1))) c = (if mj_in (nI 1) 17 = true then (if (c 52 (nI 1).toNatClampNeg) ≤ x11 then (if z0 = (nI 0) then (mj_then 102 739 [some (.ref 2), some (.int x1), some (.ref 52), some (.ref 53), some (.ref 54), some (.ref 55), some (.int x6), some (.int x7), some (.int x8), some (.int x9), some (.ref (57 + n)), some (.int x11), some (.int x12), some (.int x13), some (.int x14), o15, o16, o17, o18, o19, o20, o21] [] (mj_EV 69 0 [some (.ref 2), some (.int x12), none, none] [] (w_sh L ps (w_lo (n + 1))) c)) else (some (some (.int (nI 0)), (w_sh L ps (w_lo (n + 1))), c))) else (if mj_in (nI 1) 17 = true then (if (!decide ((nI 65) = nI 0)) = true then (if z0 = (((c 52 (nI 1).toNatClampNeg) - x11) / (nI 65)) then (mj_then 102 739 [some (.ref 2), some (.int x1), some (.ref 52), some (.ref 53), some (.ref 54), some (.ref 55), some (.int x6), some (.int x7), some (.int x8), some (.int x9), some (.ref (57 + n)), some (.int x11), some (.int x12), some (.int x13), some (.int x14), o15, o16, o17, o18, o19, o20, o21] [] (mj_EV 69 0 [some (.ref 2), some (.int x12), none, none] [] (w_sh L ps (w_lo (n + 1))) c)) else (some (some (.int (nI 0)), (w_sh L ps (w_lo (n + 1))), c))) else none) else none)) else none) := (mj_aload_n d102_709 rfl (mj_iconst d102_710 (mj_iald d102_711 w_52 (mj_iload d102_712 rfl (mj_icle d102_714 (mj_iconst d102_729 (mj_icne d102_730 (mj_iconst d102_748 (mj_zret0 d102_749)) (mj_aload_n d102_733 rfl (mj_iload d102_734 rfl (mj_invV [some (.ref 2), some (.int x12), none, none] [] d102_736 rfl rfl rfl w_2 rfl rfl))))) (mj_aload_n d102_717 rfl (mj_iconst d102_718 (mj_iald d102_719 w_52 (mj_iload d102_720 rfl (mj_isub d102_722 (mj_bipush d102_723 (mj_idiv d102_725 (mj_goto d102_726 (mj_icne d102_730 (mj_iconst d102_748 (mj_zret0 d102_749)) (mj_aload_n d102_733 rfl (mj_iload d102_734 rfl (mj_invV [some (.ref 2), some (.int x12), none, none] [] d102_736 rfl rfl rfl w_2 rfl rfl)))))))))))))))))
theorem e102_739 {c : mj_C} {x1 : Int32} {x6 : Int32} {x7 : Int32} {x8 : Int32} {x9 : Int32} {x11 : Int32} {x12 : Int32} {x13 : Int32} {x14 : Int32} {o15 : Option Value} {o16 : Option Value} {o17 : Option Value} {o18 : Option Value} {o19 : Option Value} {o20 : Option Value} {o21 : Option Value} {z0 : Int32} {L n : Nat} {ps : List (Option (Option Nat))}   : mj_EV 102 739 [some (.ref 2), some (.int x1), some (.ref 52), some (.ref 53), some (.ref 54), some (.ref 55), some (.int x6), some (.int x7), some (.int x8), some (.int x9), some (.ref (57 + n)), some (.int x11), some (.int x12), some (.int x13), some (.int x14), o15, o16, o17, o18, o19, o20, o21] [.int z0] (w_sh L ps (w_lo (n + 1))) c = (if z0 = x13 then (some (some (.int (nI 1)), (w_sh L ps (w_lo (n + 1))), c)) else (some (some (.int (nI 0)), (w_sh L ps (w_lo (n + 1))), c))) := (mj_iload d102_739 rfl (mj_icne d102_741 (mj_iconst d102_748 (mj_zret0 d102_749)) (mj_iconst d102_744 (mj_goto d102_745 (mj_zret1 d102_749)))))
