/-! THE LAW, from block to block -/
theorem f103 : mj_cd 103 = mj_c103 := rfl
set_option maxRecDepth 20000 in
theorem d103_96 : mj_At 103 96 (.iload 7) 98 [7] (.null) := ⟨2, (congrArg (fun z => mj_at z 96) f103).trans rfl, rfl⟩
set_option maxRecDepth 20000 in
theorem d103_98 : mj_At 103 98 (.bipush (50)) 100 [] (.int 50) := ⟨2, (congrArg (fun z => mj_at z 98) f103).trans rfl, rfl⟩
set_option maxRecDepth 20000 in
theorem d103_100 : mj_At 103 100 (.if_icmp .ge (1601)) 103 [1701] (.null) := ⟨3, (congrArg (fun z => mj_at z 100) f103).trans rfl, rfl⟩
set_option maxRecDepth 20000 in
theorem d103_103 : mj_At 103 103 (.aload_n 0) 104 [0] (.null) := ⟨1, (congrArg (fun z => mj_at z 103) f103).trans rfl, rfl⟩
set_option maxRecDepth 20000 in
theorem d103_104 : mj_At 103 104 (.iconst (2)) 105 [] (.int 2) := ⟨1, (congrArg (fun z => mj_at z 104) f103).trans rfl, rfl⟩
set_option maxRecDepth 20000 in
theorem d103_105 : mj_At 103 105 (.iload 7) 107 [7] (.null) := ⟨2, (congrArg (fun z => mj_at z 105) f103).trans rfl, rfl⟩
set_option maxRecDepth 20000 in
theorem d103_107 : mj_At 103 107 (.imul) 108 [] (.null) := ⟨1, (congrArg (fun z => mj_at z 107) f103).trans rfl, rfl⟩
set_option maxRecDepth 20000 in
theorem d103_108 : mj_At 103 108 (.invokestatic 77) 111 [0, 92, 2, 359, 360, 17] (.null) := ⟨3, (congrArg (fun z => mj_at z 108) f103).trans rfl, rfl⟩
set_option maxRecDepth 20000 in
theorem d103_111 : mj_At 103 111 (.istore 8) 113 [8] (.null) := ⟨2, (congrArg (fun z => mj_at z 111) f103).trans rfl, rfl⟩
set_option maxRecDepth 20000 in
theorem d103_113 : mj_At 103 113 (.aload_n 0) 114 [0] (.null) := ⟨1, (congrArg (fun z => mj_at z 113) f103).trans rfl, rfl⟩
set_option maxRecDepth 20000 in
theorem d103_114 : mj_At 103 114 (.iconst (2)) 115 [] (.int 2) := ⟨1, (congrArg (fun z => mj_at z 114) f103).trans rfl, rfl⟩
set_option maxRecDepth 20000 in
theorem d103_115 : mj_At 103 115 (.iload 7) 117 [7] (.null) := ⟨2, (congrArg (fun z => mj_at z 115) f103).trans rfl, rfl⟩
set_option maxRecDepth 20000 in
theorem d103_117 : mj_At 103 117 (.imul) 118 [] (.null) := ⟨1, (congrArg (fun z => mj_at z 117) f103).trans rfl, rfl⟩
set_option maxRecDepth 20000 in
theorem d103_118 : mj_At 103 118 (.iconst (1)) 119 [] (.int 1) := ⟨1, (congrArg (fun z => mj_at z 118) f103).trans rfl, rfl⟩
set_option maxRecDepth 20000 in
theorem d103_119 : mj_At 103 119 (.iadd) 120 [] (.null) := ⟨1, (congrArg (fun z => mj_at z 119) f103).trans rfl, rfl⟩
set_option maxRecDepth 20000 in
theorem d103_120 : mj_At 103 120 (.invokestatic 77) 123 [0, 92, 2, 359, 360, 17] (.null) := ⟨3, (congrArg (fun z => mj_at z 120) f103).trans rfl, rfl⟩
set_option maxRecDepth 20000 in
theorem d103_123 : mj_At 103 123 (.istore 9) 125 [9] (.null) := ⟨2, (congrArg (fun z => mj_at z 123) f103).trans rfl, rfl⟩
set_option maxRecDepth 20000 in
theorem d103_125 : mj_At 103 125 (.iload 7) 127 [7] (.null) := ⟨2, (congrArg (fun z => mj_at z 125) f103).trans rfl, rfl⟩
set_option maxRecDepth 20000 in
theorem d103_127 : mj_At 103 127 (.iconst (2)) 128 [] (.int 2) := ⟨1, (congrArg (fun z => mj_at z 127) f103).trans rfl, rfl⟩
set_option maxRecDepth 20000 in
theorem d103_128 : mj_At 103 128 (.if_icmp .ge (7)) 131 [135] (.null) := ⟨3, (congrArg (fun z => mj_at z 128) f103).trans rfl, rfl⟩
set_option maxRecDepth 20000 in
theorem d103_131 : mj_At 103 131 (.iconst (0)) 132 [] (.int 0) := ⟨1, (congrArg (fun z => mj_at z 131) f103).trans rfl, rfl⟩
set_option maxRecDepth 20000 in
theorem d103_132 : mj_At 103 132 (.goto (10)) 135 [142] (.null) := ⟨3, (congrArg (fun z => mj_at z 132) f103).trans rfl, rfl⟩
set_option maxRecDepth 20000 in
theorem d103_135 : mj_At 103 135 (.iload 8) 137 [8] (.null) := ⟨2, (congrArg (fun z => mj_at z 135) f103).trans rfl, rfl⟩
set_option maxRecDepth 20000 in
theorem d103_137 : mj_At 103 137 (.bipush (20)) 139 [] (.int 20) := ⟨2, (congrArg (fun z => mj_at z 137) f103).trans rfl, rfl⟩
set_option maxRecDepth 20000 in
theorem d103_139 : mj_At 103 139 (.invokestatic 60) 142 [0, 93, 2, 364, 365, 17] (.null) := ⟨3, (congrArg (fun z => mj_at z 139) f103).trans rfl, rfl⟩
set_option maxRecDepth 20000 in
theorem d103_142 : mj_At 103 142 (.istore 10) 144 [10] (.null) := ⟨2, (congrArg (fun z => mj_at z 142) f103).trans rfl, rfl⟩
set_option maxRecDepth 20000 in
theorem d103_144 : mj_At 103 144 (.iload 9) 146 [9] (.null) := ⟨2, (congrArg (fun z => mj_at z 144) f103).trans rfl, rfl⟩
set_option maxRecDepth 20000 in
theorem d103_146 : mj_At 103 146 (.iconst (3)) 147 [] (.int 3) := ⟨1, (congrArg (fun z => mj_at z 146) f103).trans rfl, rfl⟩
set_option maxRecDepth 20000 in
theorem d103_147 : mj_At 103 147 (.invokestatic 60) 150 [0, 93, 2, 364, 365, 17] (.null) := ⟨3, (congrArg (fun z => mj_at z 147) f103).trans rfl, rfl⟩
set_option maxRecDepth 20000 in
theorem d103_150 : mj_At 103 150 (.istore 11) 152 [11] (.null) := ⟨2, (congrArg (fun z => mj_at z 150) f103).trans rfl, rfl⟩
set_option maxRecDepth 20000 in
theorem d103_152 : mj_At 103 152 (.iload 9) 154 [9] (.null) := ⟨2, (congrArg (fun z => mj_at z 152) f103).trans rfl, rfl⟩
set_option maxRecDepth 20000 in
theorem d103_154 : mj_At 103 154 (.iconst (2)) 155 [] (.int 2) := ⟨1, (congrArg (fun z => mj_at z 154) f103).trans rfl, rfl⟩
set_option maxRecDepth 20000 in
theorem d103_155 : mj_At 103 155 (.ishr) 156 [] (.null) := ⟨1, (congrArg (fun z => mj_at z 155) f103).trans rfl, rfl⟩
set_option maxRecDepth 20000 in
theorem d103_156 : mj_At 103 156 (.iload 8) 158 [8] (.null) := ⟨2, (congrArg (fun z => mj_at z 156) f103).trans rfl, rfl⟩
set_option maxRecDepth 20000 in
theorem d103_158 : mj_At 103 158 (.iconst (5)) 159 [] (.int 5) := ⟨1, (congrArg (fun z => mj_at z 158) f103).trans rfl, rfl⟩
set_option maxRecDepth 20000 in
theorem d103_159 : mj_At 103 159 (.ishr) 160 [] (.null) := ⟨1, (congrArg (fun z => mj_at z 159) f103).trans rfl, rfl⟩
set_option maxRecDepth 20000 in
theorem d103_160 : mj_At 103 160 (.iconst (3)) 161 [] (.int 3) := ⟨1, (congrArg (fun z => mj_at z 160) f103).trans rfl, rfl⟩
set_option maxRecDepth 20000 in
theorem d103_161 : mj_At 103 161 (.invokestatic 60) 164 [0, 93, 2, 364, 365, 17] (.null) := ⟨3, (congrArg (fun z => mj_at z 161) f103).trans rfl, rfl⟩
set_option maxRecDepth 20000 in
theorem d103_164 : mj_At 103 164 (.ifCond .ne (8)) 167 [172] (.null) := ⟨3, (congrArg (fun z => mj_at z 164) f103).trans rfl, rfl⟩
set_option maxRecDepth 20000 in
theorem d103_167 : mj_At 103 167 (.bipush (8)) 169 [] (.int 8) := ⟨2, (congrArg (fun z => mj_at z 167) f103).trans rfl, rfl⟩
set_option maxRecDepth 20000 in
theorem d103_169 : mj_At 103 169 (.goto (4)) 172 [173] (.null) := ⟨3, (congrArg (fun z => mj_at z 169) f103).trans rfl, rfl⟩
set_option maxRecDepth 20000 in
theorem d103_172 : mj_At 103 172 (.iconst (5)) 173 [] (.int 5) := ⟨1, (congrArg (fun z => mj_at z 172) f103).trans rfl, rfl⟩
set_option maxRecDepth 20000 in
theorem d103_173 : mj_At 103 173 (.invokestatic 60) 176 [0, 93, 2, 364, 365, 17] (.null) := ⟨3, (congrArg (fun z => mj_at z 173) f103).trans rfl, rfl⟩
set_option maxRecDepth 20000 in
theorem d103_176 : mj_At 103 176 (.istore 12) 178 [12] (.null) := ⟨2, (congrArg (fun z => mj_at z 176) f103).trans rfl, rfl⟩
set_option maxRecDepth 20000 in
theorem d103_178 : mj_At 103 178 (.iload 9) 180 [9] (.null) := ⟨2, (congrArg (fun z => mj_at z 178) f103).trans rfl, rfl⟩
set_option maxRecDepth 20000 in
theorem d103_180 : mj_At 103 180 (.iconst (5)) 181 [] (.int 5) := ⟨1, (congrArg (fun z => mj_at z 180) f103).trans rfl, rfl⟩
set_option maxRecDepth 20000 in
theorem d103_181 : mj_At 103 181 (.ishr) 182 [] (.null) := ⟨1, (congrArg (fun z => mj_at z 181) f103).trans rfl, rfl⟩
set_option maxRecDepth 20000 in
theorem d103_182 : mj_At 103 182 (.bipush (8)) 184 [] (.int 8) := ⟨2, (congrArg (fun z => mj_at z 182) f103).trans rfl, rfl⟩
set_option maxRecDepth 20000 in
theorem d103_184 : mj_At 103 184 (.invokestatic 60) 187 [0, 93, 2, 364, 365, 17] (.null) := ⟨3, (congrArg (fun z => mj_at z 184) f103).trans rfl, rfl⟩
set_option maxRecDepth 20000 in
theorem d103_187 : mj_At 103 187 (.istore 13) 189 [13] (.null) := ⟨2, (congrArg (fun z => mj_at z 187) f103).trans rfl, rfl⟩
set_option maxRecDepth 20000 in
theorem d103_189 : mj_At 103 189 (.iload 11) 191 [11] (.null) := ⟨2, (congrArg (fun z => mj_at z 189) f103).trans rfl, rfl⟩
set_option maxRecDepth 20000 in
theorem d103_191 : mj_At 103 191 (.aload_n 3) 192 [3] (.null) := ⟨1, (congrArg (fun z => mj_at z 191) f103).trans rfl, rfl⟩
set_option maxRecDepth 20000 in
theorem d103_192 : mj_At 103 192 (.aload 4) 194 [4] (.null) := ⟨2, (congrArg (fun z => mj_at z 192) f103).trans rfl, rfl⟩
set_option maxRecDepth 20000 in
theorem d103_194 : mj_At 103 194 (.aload 5) 196 [5] (.null) := ⟨2, (congrArg (fun z => mj_at z 194) f103).trans rfl, rfl⟩
set_option maxRecDepth 20000 in
theorem d103_196 : mj_At 103 196 (.invokestatic 29) 199 [0, 94, 4, 368, 369, 17] (.null) := ⟨3, (congrArg (fun z => mj_at z 196) f103).trans rfl, rfl⟩
set_option maxRecDepth 20000 in
theorem d103_199 : mj_At 103 199 (.astore 14) 201 [14] (.null) := ⟨2, (congrArg (fun z => mj_at z 199) f103).trans rfl, rfl⟩
set_option maxRecDepth 20000 in
theorem d103_201 : mj_At 103 201 (.aload_n 2) 202 [2] (.null) := ⟨1, (congrArg (fun z => mj_at z 201) f103).trans rfl, rfl⟩
set_option maxRecDepth 20000 in
theorem d103_202 : mj_At 103 202 (.bipush (6)) 204 [] (.int 6) := ⟨2, (congrArg (fun z => mj_at z 202) f103).trans rfl, rfl⟩
set_option maxRecDepth 20000 in
theorem d103_204 : mj_At 103 204 (.iload 11) 206 [11] (.null) := ⟨2, (congrArg (fun z => mj_at z 204) f103).trans rfl, rfl⟩
set_option maxRecDepth 20000 in
theorem d103_206 : mj_At 103 206 (.iadd) 207 [] (.null) := ⟨1, (congrArg (fun z => mj_at z 206) f103).trans rfl, rfl⟩
set_option maxRecDepth 20000 in
theorem d103_207 : mj_At 103 207 (.iaload) 208 [] (.null) := ⟨1, (congrArg (fun z => mj_at z 207) f103).trans rfl, rfl⟩
set_option maxRecDepth 20000 in
theorem d103_208 : mj_At 103 208 (.ifCond .lt (7)) 211 [215] (.null) := ⟨3, (congrArg (fun z => mj_at z 208) f103).trans rfl, rfl⟩
set_option maxRecDepth 20000 in
theorem d103_211 : mj_At 103 211 (.iconst (1)) 212 [] (.int 1) := ⟨1, (congrArg (fun z => mj_at z 211) f103).trans rfl, rfl⟩
set_option maxRecDepth 20000 in
theorem d103_212 : mj_At 103 212 (.goto (4)) 215 [216] (.null) := ⟨3, (congrArg (fun z => mj_at z 212) f103).trans rfl, rfl⟩
set_option maxRecDepth 20000 in
theorem d103_215 : mj_At 103 215 (.iconst (0)) 216 [] (.int 0) := ⟨1, (congrArg (fun z => mj_at z 215) f103).trans rfl, rfl⟩
set_option maxRecDepth 20000 in
theorem d103_216 : mj_At 103 216 (.istore 15) 218 [15] (.null) := ⟨2, (congrArg (fun z => mj_at z 216) f103).trans rfl, rfl⟩
set_option maxRecDepth 20000 in
theorem d103_218 : mj_At 103 218 (.aload_n 2) 219 [2] (.null) := ⟨1, (congrArg (fun z => mj_at z 218) f103).trans rfl, rfl⟩
set_option maxRecDepth 20000 in
theorem d103_219 : mj_At 103 219 (.aload_n 3) 220 [3] (.null) := ⟨1, (congrArg (fun z => mj_at z 219) f103).trans rfl, rfl⟩
set_option maxRecDepth 20000 in
theorem d103_220 : mj_At 103 220 (.aload 4) 222 [4] (.null) := ⟨2, (congrArg (fun z => mj_at z 220) f103).trans rfl, rfl⟩
set_option maxRecDepth 20000 in
theorem d103_222 : mj_At 103 222 (.aload 5) 224 [5] (.null) := ⟨2, (congrArg (fun z => mj_at z 222) f103).trans rfl, rfl⟩
set_option maxRecDepth 20000 in
theorem d103_224 : mj_At 103 224 (.invokestatic 56) 227 [0, 101, 4, 389, 390, 17] (.null) := ⟨3, (congrArg (fun z => mj_at z 224) f103).trans rfl, rfl⟩
set_option maxRecDepth 20000 in
theorem d103_227 : mj_At 103 227 (.istore 16) 229 [16] (.null) := ⟨2, (congrArg (fun z => mj_at z 227) f103).trans rfl, rfl⟩
set_option maxRecDepth 20000 in
theorem d103_229 : mj_At 103 229 (.iload 10) 231 [10] (.null) := ⟨2, (congrArg (fun z => mj_at z 229) f103).trans rfl, rfl⟩
set_option maxRecDepth 20000 in
theorem d103_231 : mj_At 103 231 (.ifCond .ne (104)) 234 [335] (.null) := ⟨3, (congrArg (fun z => mj_at z 231) f103).trans rfl, rfl⟩
set_option maxRecDepth 20000 in
theorem d103_234 : mj_At 103 234 (.aload_n 2) 235 [2] (.null) := ⟨1, (congrArg (fun z => mj_at z 234) f103).trans rfl, rfl⟩
set_option maxRecDepth 20000 in
theorem d103_235 : mj_At 103 235 (.bipush (6)) 237 [] (.int 6) := ⟨2, (congrArg (fun z => mj_at z 235) f103).trans rfl, rfl⟩
set_option maxRecDepth 20000 in
theorem d103_237 : mj_At 103 237 (.iaload) 238 [] (.null) := ⟨1, (congrArg (fun z => mj_at z 237) f103).trans rfl, rfl⟩
set_option maxRecDepth 20000 in
theorem d103_238 : mj_At 103 238 (.ifCond .ge (7)) 241 [245] (.null) := ⟨3, (congrArg (fun z => mj_at z 238) f103).trans rfl, rfl⟩
set_option maxRecDepth 20000 in
theorem d103_241 : mj_At 103 241 (.iconst (0)) 242 [] (.int 0) := ⟨1, (congrArg (fun z => mj_at z 241) f103).trans rfl, rfl⟩
set_option maxRecDepth 20000 in
theorem d103_242 : mj_At 103 242 (.goto (26)) 245 [268] (.null) := ⟨3, (congrArg (fun z => mj_at z 242) f103).trans rfl, rfl⟩
set_option maxRecDepth 20000 in
theorem d103_245 : mj_At 103 245 (.aload_n 2) 246 [2] (.null) := ⟨1, (congrArg (fun z => mj_at z 245) f103).trans rfl, rfl⟩
set_option maxRecDepth 20000 in
theorem d103_246 : mj_At 103 246 (.bipush (7)) 248 [] (.int 7) := ⟨2, (congrArg (fun z => mj_at z 246) f103).trans rfl, rfl⟩
set_option maxRecDepth 20000 in
theorem d103_248 : mj_At 103 248 (.iaload) 249 [] (.null) := ⟨1, (congrArg (fun z => mj_at z 248) f103).trans rfl, rfl⟩
set_option maxRecDepth 20000 in
theorem d103_249 : mj_At 103 249 (.ifCond .ge (7)) 252 [256] (.null) := ⟨3, (congrArg (fun z => mj_at z 249) f103).trans rfl, rfl⟩
set_option maxRecDepth 20000 in
theorem d103_252 : mj_At 103 252 (.iconst (1)) 253 [] (.int 1) := ⟨1, (congrArg (fun z => mj_at z 252) f103).trans rfl, rfl⟩
set_option maxRecDepth 20000 in
theorem d103_253 : mj_At 103 253 (.goto (15)) 256 [268] (.null) := ⟨3, (congrArg (fun z => mj_at z 253) f103).trans rfl, rfl⟩
set_option maxRecDepth 20000 in
theorem d103_256 : mj_At 103 256 (.aload_n 2) 257 [2] (.null) := ⟨1, (congrArg (fun z => mj_at z 256) f103).trans rfl, rfl⟩
set_option maxRecDepth 20000 in
theorem d103_257 : mj_At 103 257 (.bipush (8)) 259 [] (.int 8) := ⟨2, (congrArg (fun z => mj_at z 257) f103).trans rfl, rfl⟩
set_option maxRecDepth 20000 in
theorem d103_259 : mj_At 103 259 (.iaload) 260 [] (.null) := ⟨1, (congrArg (fun z => mj_at z 259) f103).trans rfl, rfl⟩
set_option maxRecDepth 20000 in
theorem d103_260 : mj_At 103 260 (.ifCond .ge (7)) 263 [267] (.null) := ⟨3, (congrArg (fun z => mj_at z 260) f103).trans rfl, rfl⟩
set_option maxRecDepth 20000 in
theorem d103_263 : mj_At 103 263 (.iconst (2)) 264 [] (.int 2) := ⟨1, (congrArg (fun z => mj_at z 263) f103).trans rfl, rfl⟩
set_option maxRecDepth 20000 in
theorem d103_264 : mj_At 103 264 (.goto (4)) 267 [268] (.null) := ⟨3, (congrArg (fun z => mj_at z 264) f103).trans rfl, rfl⟩
set_option maxRecDepth 20000 in
theorem d103_267 : mj_At 103 267 (.iconst (3)) 268 [] (.int 3) := ⟨1, (congrArg (fun z => mj_at z 267) f103).trans rfl, rfl⟩
set_option maxRecDepth 20000 in
theorem d103_268 : mj_At 103 268 (.istore 17) 270 [17] (.null) := ⟨2, (congrArg (fun z => mj_at z 268) f103).trans rfl, rfl⟩
set_option maxRecDepth 20000 in
theorem d103_270 : mj_At 103 270 (.iload 17) 272 [17] (.null) := ⟨2, (congrArg (fun z => mj_at z 270) f103).trans rfl, rfl⟩
set_option maxRecDepth 20000 in
theorem d103_272 : mj_At 103 272 (.iconst (3)) 273 [] (.int 3) := ⟨1, (congrArg (fun z => mj_at z 272) f103).trans rfl, rfl⟩
set_option maxRecDepth 20000 in
theorem d103_273 : mj_At 103 273 (.if_icmp .ne (6)) 276 [279] (.null) := ⟨3, (congrArg (fun z => mj_at z 273) f103).trans rfl, rfl⟩
set_option maxRecDepth 20000 in
theorem d103_276 : mj_At 103 276 (.goto (1419)) 279 [1695] (.null) := ⟨3, (congrArg (fun z => mj_at z 276) f103).trans rfl, rfl⟩
set_option maxRecDepth 20000 in
theorem d103_279 : mj_At 103 279 (.iload 16) 281 [16] (.null) := ⟨2, (congrArg (fun z => mj_at z 279) f103).trans rfl, rfl⟩
set_option maxRecDepth 20000 in
theorem d103_281 : mj_At 103 281 (.aload_n 2) 282 [2] (.null) := ⟨1, (congrArg (fun z => mj_at z 281) f103).trans rfl, rfl⟩
set_option maxRecDepth 20000 in
theorem d103_282 : mj_At 103 282 (.iconst (1)) 283 [] (.int 1) := ⟨1, (congrArg (fun z => mj_at z 282) f103).trans rfl, rfl⟩
set_option maxRecDepth 20000 in
theorem d103_283 : mj_At 103 283 (.iaload) 284 [] (.null) := ⟨1, (congrArg (fun z => mj_at z 283) f103).trans rfl, rfl⟩
set_option maxRecDepth 20000 in
theorem d103_284 : mj_At 103 284 (.if_icmp .ge (7)) 287 [291] (.null) := ⟨3, (congrArg (fun z => mj_at z 284) f103).trans rfl, rfl⟩
set_option maxRecDepth 20000 in
theorem d103_287 : mj_At 103 287 (.iconst (1)) 288 [] (.int 1) := ⟨1, (congrArg (fun z => mj_at z 287) f103).trans rfl, rfl⟩
set_option maxRecDepth 20000 in
theorem d103_288 : mj_At 103 288 (.goto (4)) 291 [292] (.null) := ⟨3, (congrArg (fun z => mj_at z 288) f103).trans rfl, rfl⟩
set_option maxRecDepth 20000 in
theorem d103_291 : mj_At 103 291 (.iconst (0)) 292 [] (.int 0) := ⟨1, (congrArg (fun z => mj_at z 291) f103).trans rfl, rfl⟩
set_option maxRecDepth 20000 in
theorem d103_292 : mj_At 103 292 (.istore 18) 294 [18] (.null) := ⟨2, (congrArg (fun z => mj_at z 292) f103).trans rfl, rfl⟩
set_option maxRecDepth 20000 in
theorem d103_294 : mj_At 103 294 (.aload_n 1) 295 [1] (.null) := ⟨1, (congrArg (fun z => mj_at z 294) f103).trans rfl, rfl⟩
set_option maxRecDepth 20000 in
theorem d103_295 : mj_At 103 295 (.invokevirtual 81) 298 [1, 29, 1, 3, 221, 222, 223, 18] (.null) := ⟨3, (congrArg (fun z => mj_at z 295) f103).trans rfl, rfl⟩
set_option maxRecDepth 20000 in
theorem d103_298 : mj_At 103 298 (.iload 18) 300 [18] (.null) := ⟨2, (congrArg (fun z => mj_at z 298) f103).trans rfl, rfl⟩
set_option maxRecDepth 20000 in
theorem d103_300 : mj_At 103 300 (.ifCond .eq (8)) 303 [308] (.null) := ⟨3, (congrArg (fun z => mj_at z 300) f103).trans rfl, rfl⟩
set_option maxRecDepth 20000 in
theorem d103_303 : mj_At 103 303 (.iload 17) 305 [17] (.null) := ⟨2, (congrArg (fun z => mj_at z 303) f103).trans rfl, rfl⟩
set_option maxRecDepth 20000 in
theorem d103_305 : mj_At 103 305 (.goto (5)) 308 [310] (.null) := ⟨3, (congrArg (fun z => mj_at z 305) f103).trans rfl, rfl⟩
set_option maxRecDepth 20000 in
theorem d103_308 : mj_At 103 308 (.bipush (-4)) 310 [] (.int (-4)) := ⟨2, (congrArg (fun z => mj_at z 308) f103).trans rfl, rfl⟩
set_option maxRecDepth 20000 in
theorem d103_310 : mj_At 103 310 (.if_icmp .eq (5)) 313 [315] (.null) := ⟨3, (congrArg (fun z => mj_at z 310) f103).trans rfl, rfl⟩
set_option maxRecDepth 20000 in
theorem d103_313 : mj_At 103 313 (.iconst (0)) 314 [] (.int 0) := ⟨1, (congrArg (fun z => mj_at z 313) f103).trans rfl, rfl⟩
set_option maxRecDepth 20000 in
theorem d103_314 : mj_At 103 314 (.ireturn) 315 [1] (.null) := ⟨1, (congrArg (fun z => mj_at z 314) f103).trans rfl, rfl⟩
set_option maxRecDepth 20000 in
theorem d103_315 : mj_At 103 315 (.aload_n 2) 316 [2] (.null) := ⟨1, (congrArg (fun z => mj_at z 315) f103).trans rfl, rfl⟩
set_option maxRecDepth 20000 in
theorem d103_316 : mj_At 103 316 (.bipush (6)) 318 [] (.int 6) := ⟨2, (congrArg (fun z => mj_at z 316) f103).trans rfl, rfl⟩
set_option maxRecDepth 20000 in
theorem d103_318 : mj_At 103 318 (.iload 17) 320 [17] (.null) := ⟨2, (congrArg (fun z => mj_at z 318) f103).trans rfl, rfl⟩
set_option maxRecDepth 20000 in
theorem d103_320 : mj_At 103 320 (.iadd) 321 [] (.null) := ⟨1, (congrArg (fun z => mj_at z 320) f103).trans rfl, rfl⟩
set_option maxRecDepth 20000 in
theorem d103_321 : mj_At 103 321 (.iload 18) 323 [18] (.null) := ⟨2, (congrArg (fun z => mj_at z 321) f103).trans rfl, rfl⟩
set_option maxRecDepth 20000 in
theorem d103_323 : mj_At 103 323 (.ifCond .eq (7)) 326 [330] (.null) := ⟨3, (congrArg (fun z => mj_at z 323) f103).trans rfl, rfl⟩
set_option maxRecDepth 20000 in
theorem d103_326 : mj_At 103 326 (.iconst (0)) 327 [] (.int 0) := ⟨1, (congrArg (fun z => mj_at z 326) f103).trans rfl, rfl⟩
set_option maxRecDepth 20000 in
theorem d103_327 : mj_At 103 327 (.goto (4)) 330 [331] (.null) := ⟨3, (congrArg (fun z => mj_at z 327) f103).trans rfl, rfl⟩
set_option maxRecDepth 20000 in
theorem d103_330 : mj_At 103 330 (.iconst (-1)) 331 [] (.int (-1)) := ⟨1, (congrArg (fun z => mj_at z 330) f103).trans rfl, rfl⟩
set_option maxRecDepth 20000 in
theorem d103_331 : mj_At 103 331 (.iastore) 332 [] (.null) := ⟨1, (congrArg (fun z => mj_at z 331) f103).trans rfl, rfl⟩
set_option maxRecDepth 20000 in
theorem d103_332 : mj_At 103 332 (.goto (1344)) 335 [1676] (.null) := ⟨3, (congrArg (fun z => mj_at z 332) f103).trans rfl, rfl⟩
set_option maxRecDepth 20000 in
theorem d103_335 : mj_At 103 335 (.iload 10) 337 [10] (.null) := ⟨2, (congrArg (fun z => mj_at z 335) f103).trans rfl, rfl⟩
set_option maxRecDepth 20000 in
theorem d103_337 : mj_At 103 337 (.iconst (1)) 338 [] (.int 1) := ⟨1, (congrArg (fun z => mj_at z 337) f103).trans rfl, rfl⟩
set_option maxRecDepth 20000 in
theorem d103_338 : mj_At 103 338 (.if_icmp .ne (116)) 341 [454] (.null) := ⟨3, (congrArg (fun z => mj_at z 338) f103).trans rfl, rfl⟩
set_option maxRecDepth 20000 in
theorem d103_341 : mj_At 103 341 (.iload 9) 343 [9] (.null) := ⟨2, (congrArg (fun z => mj_at z 341) f103).trans rfl, rfl⟩
set_option maxRecDepth 20000 in
theorem d103_343 : mj_At 103 343 (.bipush (8)) 345 [] (.int 8) := ⟨2, (congrArg (fun z => mj_at z 343) f103).trans rfl, rfl⟩
set_option maxRecDepth 20000 in
theorem d103_345 : mj_At 103 345 (.ishr) 346 [] (.null) := ⟨1, (congrArg (fun z => mj_at z 345) f103).trans rfl, rfl⟩
set_option maxRecDepth 20000 in
theorem d103_346 : mj_At 103 346 (.iconst (4)) 347 [] (.int 4) := ⟨1, (congrArg (fun z => mj_at z 346) f103).trans rfl, rfl⟩
set_option maxRecDepth 20000 in
theorem d103_347 : mj_At 103 347 (.invokestatic 60) 350 [0, 93, 2, 364, 365, 17] (.null) := ⟨3, (congrArg (fun z => mj_at z 347) f103).trans rfl, rfl⟩
set_option maxRecDepth 20000 in
theorem d103_350 : mj_At 103 350 (.ifCond .le (6)) 353 [356] (.null) := ⟨3, (congrArg (fun z => mj_at z 350) f103).trans rfl, rfl⟩
set_option maxRecDepth 20000 in
theorem d103_353 : mj_At 103 353 (.goto (1342)) 356 [1695] (.null) := ⟨3, (congrArg (fun z => mj_at z 353) f103).trans rfl, rfl⟩
set_option maxRecDepth 20000 in
theorem d103_356 : mj_At 103 356 (.iload 15) 358 [15] (.null) := ⟨2, (congrArg (fun z => mj_at z 356) f103).trans rfl, rfl⟩
set_option maxRecDepth 20000 in
theorem d103_358 : mj_At 103 358 (.ifCond .eq (18)) 361 [376] (.null) := ⟨3, (congrArg (fun z => mj_at z 358) f103).trans rfl, rfl⟩
set_option maxRecDepth 20000 in
theorem d103_361 : mj_At 103 361 (.aload_n 2) 362 [2] (.null) := ⟨1, (congrArg (fun z => mj_at z 361) f103).trans rfl, rfl⟩
set_option maxRecDepth 20000 in
theorem d103_362 : mj_At 103 362 (.bipush (6)) 364 [] (.int 6) := ⟨2, (congrArg (fun z => mj_at z 362) f103).trans rfl, rfl⟩
set_option maxRecDepth 20000 in
theorem d103_364 : mj_At 103 364 (.iload 11) 366 [11] (.null) := ⟨2, (congrArg (fun z => mj_at z 364) f103).trans rfl, rfl⟩
set_option maxRecDepth 20000 in
theorem d103_366 : mj_At 103 366 (.iadd) 367 [] (.null) := ⟨1, (congrArg (fun z => mj_at z 366) f103).trans rfl, rfl⟩
set_option maxRecDepth 20000 in
theorem d103_367 : mj_At 103 367 (.iaload) 368 [] (.null) := ⟨1, (congrArg (fun z => mj_at z 367) f103).trans rfl, rfl⟩
set_option maxRecDepth 20000 in
theorem d103_368 : mj_At 103 368 (.aload 14) 370 [14] (.null) := ⟨2, (congrArg (fun z => mj_at z 368) f103).trans rfl, rfl⟩
set_option maxRecDepth 20000 in
theorem d103_370 : mj_At 103 370 (.invokestatic 26) 373 [0, 99, 2, 383, 384, 17] (.null) := ⟨3, (congrArg (fun z => mj_at z 370) f103).trans rfl, rfl⟩
set_option maxRecDepth 20000 in
theorem d103_373 : mj_At 103 373 (.goto (4)) 376 [377] (.null) := ⟨3, (congrArg (fun z => mj_at z 373) f103).trans rfl, rfl⟩
set_option maxRecDepth 20000 in
theorem d103_376 : mj_At 103 376 (.iconst (-1)) 377 [] (.int (-1)) := ⟨1, (congrArg (fun z => mj_at z 376) f103).trans rfl, rfl⟩
set_option maxRecDepth 20000 in
theorem d103_377 : mj_At 103 377 (.istore 17) 379 [17] (.null) := ⟨2, (congrArg (fun z => mj_at z 377) f103).trans rfl, rfl⟩
set_option maxRecDepth 20000 in
theorem d103_379 : mj_At 103 379 (.aload_n 1) 380 [1] (.null) := ⟨1, (congrArg (fun z => mj_at z 379) f103).trans rfl, rfl⟩
set_option maxRecDepth 20000 in
theorem d103_380 : mj_At 103 380 (.iload 11) 382 [11] (.null) := ⟨2, (congrArg (fun z => mj_at z 380) f103).trans rfl, rfl⟩
set_option maxRecDepth 20000 in
theorem d103_382 : mj_At 103 382 (.invokevirtual 84) 385 [1, 31, 2, 3, 243, 244, 245, 18] (.null) := ⟨3, (congrArg (fun z => mj_at z 382) f103).trans rfl, rfl⟩
set_option maxRecDepth 20000 in
theorem d103_385 : mj_At 103 385 (.iload 17) 387 [17] (.null) := ⟨2, (congrArg (fun z => mj_at z 385) f103).trans rfl, rfl⟩
set_option maxRecDepth 20000 in
theorem d103_387 : mj_At 103 387 (.if_icmp .eq (5)) 390 [392] (.null) := ⟨3, (congrArg (fun z => mj_at z 387) f103).trans rfl, rfl⟩
set_option maxRecDepth 20000 in
theorem d103_390 : mj_At 103 390 (.iconst (0)) 391 [] (.int 0) := ⟨1, (congrArg (fun z => mj_at z 390) f103).trans rfl, rfl⟩
set_option maxRecDepth 20000 in
theorem d103_391 : mj_At 103 391 (.ireturn) 392 [1] (.null) := ⟨1, (congrArg (fun z => mj_at z 391) f103).trans rfl, rfl⟩
set_option maxRecDepth 20000 in
theorem d103_392 : mj_At 103 392 (.iload 15) 394 [15] (.null) := ⟨2, (congrArg (fun z => mj_at z 392) f103).trans rfl, rfl⟩
set_option maxRecDepth 20000 in
theorem d103_394 : mj_At 103 394 (.ifCond .ne (6)) 397 [400] (.null) := ⟨3, (congrArg (fun z => mj_at z 394) f103).trans rfl, rfl⟩
set_option maxRecDepth 20000 in
theorem d103_397 : mj_At 103 397 (.goto (1298)) 400 [1695] (.null) := ⟨3, (congrArg (fun z => mj_at z 397) f103).trans rfl, rfl⟩
set_option maxRecDepth 20000 in
theorem d103_400 : mj_At 103 400 (.aload_n 2) 401 [2] (.null) := ⟨1, (congrArg (fun z => mj_at z 400) f103).trans rfl, rfl⟩
set_option maxRecDepth 20000 in
theorem d103_401 : mj_At 103 401 (.bipush (6)) 403 [] (.int 6) := ⟨2, (congrArg (fun z => mj_at z 401) f103).trans rfl, rfl⟩
set_option maxRecDepth 20000 in
theorem d103_403 : mj_At 103 403 (.iload 11) 405 [11] (.null) := ⟨2, (congrArg (fun z => mj_at z 403) f103).trans rfl, rfl⟩
set_option maxRecDepth 20000 in
theorem d103_405 : mj_At 103 405 (.iadd) 406 [] (.null) := ⟨1, (congrArg (fun z => mj_at z 405) f103).trans rfl, rfl⟩
set_option maxRecDepth 20000 in
theorem d103_406 : mj_At 103 406 (.iconst (-1)) 407 [] (.int (-1)) := ⟨1, (congrArg (fun z => mj_at z 406) f103).trans rfl, rfl⟩
set_option maxRecDepth 20000 in
theorem d103_407 : mj_At 103 407 (.iastore) 408 [] (.null) := ⟨1, (congrArg (fun z => mj_at z 407) f103).trans rfl, rfl⟩
set_option maxRecDepth 20000 in
theorem d103_408 : mj_At 103 408 (.iconst (0)) 409 [] (.int 0) := ⟨1, (congrArg (fun z => mj_at z 408) f103).trans rfl, rfl⟩
set_option maxRecDepth 20000 in
theorem d103_409 : mj_At 103 409 (.istore 18) 411 [18] (.null) := ⟨2, (congrArg (fun z => mj_at z 409) f103).trans rfl, rfl⟩
set_option maxRecDepth 20000 in
theorem d103_411 : mj_At 103 411 (.iload 18) 413 [18] (.null) := ⟨2, (congrArg (fun z => mj_at z 411) f103).trans rfl, rfl⟩
set_option maxRecDepth 20000 in
theorem d103_413 : mj_At 103 413 (.bipush (64)) 415 [] (.int 64) := ⟨2, (congrArg (fun z => mj_at z 413) f103).trans rfl, rfl⟩
set_option maxRecDepth 20000 in
theorem d103_415 : mj_At 103 415 (.if_icmp .ge (15)) 418 [430] (.null) := ⟨3, (congrArg (fun z => mj_at z 415) f103).trans rfl, rfl⟩
set_option maxRecDepth 20000 in
theorem d103_418 : mj_At 103 418 (.aload 14) 420 [14] (.null) := ⟨2, (congrArg (fun z => mj_at z 418) f103).trans rfl, rfl⟩
set_option maxRecDepth 20000 in
theorem d103_420 : mj_At 103 420 (.iload 18) 422 [18] (.null) := ⟨2, (congrArg (fun z => mj_at z 420) f103).trans rfl, rfl⟩
set_option maxRecDepth 20000 in
theorem d103_422 : mj_At 103 422 (.iconst (0)) 423 [] (.int 0) := ⟨1, (congrArg (fun z => mj_at z 422) f103).trans rfl, rfl⟩
set_option maxRecDepth 20000 in
theorem d103_423 : mj_At 103 423 (.iastore) 424 [] (.null) := ⟨1, (congrArg (fun z => mj_at z 423) f103).trans rfl, rfl⟩
set_option maxRecDepth 20000 in
theorem d103_424 : mj_At 103 424 (.iinc 18 (1)) 427 [18] (.int 1) := ⟨3, (congrArg (fun z => mj_at z 424) f103).trans rfl, rfl⟩
set_option maxRecDepth 20000 in
theorem d103_427 : mj_At 103 427 (.goto (-16)) 430 [411] (.null) := ⟨3, (congrArg (fun z => mj_at z 427) f103).trans rfl, rfl⟩
set_option maxRecDepth 20000 in
theorem d103_430 : mj_At 103 430 (.aload_n 2) 431 [2] (.null) := ⟨1, (congrArg (fun z => mj_at z 430) f103).trans rfl, rfl⟩
set_option maxRecDepth 20000 in
theorem d103_431 : mj_At 103 431 (.bipush (9)) 433 [] (.int 9) := ⟨2, (congrArg (fun z => mj_at z 431) f103).trans rfl, rfl⟩
set_option maxRecDepth 20000 in
theorem d103_433 : mj_At 103 433 (.iload 11) 435 [11] (.null) := ⟨2, (congrArg (fun z => mj_at z 433) f103).trans rfl, rfl⟩
set_option maxRecDepth 20000 in
theorem d103_435 : mj_At 103 435 (.iadd) 436 [] (.null) := ⟨1, (congrArg (fun z => mj_at z 435) f103).trans rfl, rfl⟩
set_option maxRecDepth 20000 in
theorem d103_436 : mj_At 103 436 (.iaload) 437 [] (.null) := ⟨1, (congrArg (fun z => mj_at z 436) f103).trans rfl, rfl⟩
set_option maxRecDepth 20000 in
theorem d103_437 : mj_At 103 437 (.iload 11) 439 [11] (.null) := ⟨2, (congrArg (fun z => mj_at z 437) f103).trans rfl, rfl⟩
set_option maxRecDepth 20000 in
theorem d103_439 : mj_At 103 439 (.if_icmp .ne (12)) 442 [451] (.null) := ⟨3, (congrArg (fun z => mj_at z 439) f103).trans rfl, rfl⟩
set_option maxRecDepth 20000 in
theorem d103_442 : mj_At 103 442 (.aload_n 2) 443 [2] (.null) := ⟨1, (congrArg (fun z => mj_at z 442) f103).trans rfl, rfl⟩
set_option maxRecDepth 20000 in
theorem d103_443 : mj_At 103 443 (.bipush (9)) 445 [] (.int 9) := ⟨2, (congrArg (fun z => mj_at z 443) f103).trans rfl, rfl⟩
set_option maxRecDepth 20000 in
theorem d103_445 : mj_At 103 445 (.iload 11) 447 [11] (.null) := ⟨2, (congrArg (fun z => mj_at z 445) f103).trans rfl, rfl⟩
set_option maxRecDepth 20000 in
theorem d103_447 : mj_At 103 447 (.iadd) 448 [] (.null) := ⟨1, (congrArg (fun z => mj_at z 447) f103).trans rfl, rfl⟩
set_option maxRecDepth 20000 in
theorem d103_448 : mj_At 103 448 (.bipush (-6)) 450 [] (.int (-6)) := ⟨2, (congrArg (fun z => mj_at z 448) f103).trans rfl, rfl⟩
set_option maxRecDepth 20000 in
theorem d103_450 : mj_At 103 450 (.iastore) 451 [] (.null) := ⟨1, (congrArg (fun z => mj_at z 450) f103).trans rfl, rfl⟩
set_option maxRecDepth 20000 in
theorem d103_451 : mj_At 103 451 (.goto (1225)) 454 [1676] (.null) := ⟨3, (congrArg (fun z => mj_at z 451) f103).trans rfl, rfl⟩
set_option maxRecDepth 20000 in
theorem d103_454 : mj_At 103 454 (.iload 10) 456 [10] (.null) := ⟨2, (congrArg (fun z => mj_at z 454) f103).trans rfl, rfl⟩
set_option maxRecDepth 20000 in
theorem d103_456 : mj_At 103 456 (.bipush (12)) 458 [] (.int 12) := ⟨2, (congrArg (fun z => mj_at z 456) f103).trans rfl, rfl⟩
set_option maxRecDepth 20000 in
theorem d103_458 : mj_At 103 458 (.if_icmp .ge (577)) 461 [1035] (.null) := ⟨3, (congrArg (fun z => mj_at z 458) f103).trans rfl, rfl⟩
set_option maxRecDepth 20000 in
theorem d103_461 : mj_At 103 461 (.iload 8) 463 [8] (.null) := ⟨2, (congrArg (fun z => mj_at z 461) f103).trans rfl, rfl⟩
set_option maxRecDepth 20000 in
theorem d103_463 : mj_At 103 463 (.bipush (6)) 465 [] (.int 6) := ⟨2, (congrArg (fun z => mj_at z 463) f103).trans rfl, rfl⟩
set_option maxRecDepth 20000 in
theorem d103_465 : mj_At 103 465 (.ishr) 466 [] (.null) := ⟨1, (congrArg (fun z => mj_at z 465) f103).trans rfl, rfl⟩
set_option maxRecDepth 20000 in
theorem d103_466 : mj_At 103 466 (.iconst (4)) 467 [] (.int 4) := ⟨1, (congrArg (fun z => mj_at z 466) f103).trans rfl, rfl⟩
set_option maxRecDepth 20000 in
theorem d103_467 : mj_At 103 467 (.invokestatic 60) 470 [0, 93, 2, 364, 365, 17] (.null) := ⟨3, (congrArg (fun z => mj_at z 467) f103).trans rfl, rfl⟩
set_option maxRecDepth 20000 in
theorem d103_470 : mj_At 103 470 (.ifCond .ne (15)) 473 [485] (.null) := ⟨3, (congrArg (fun z => mj_at z 470) f103).trans rfl, rfl⟩
set_option maxRecDepth 20000 in
theorem d103_473 : mj_At 103 473 (.iload 9) 475 [9] (.null) := ⟨2, (congrArg (fun z => mj_at z 473) f103).trans rfl, rfl⟩
set_option maxRecDepth 20000 in
theorem d103_475 : mj_At 103 475 (.iconst (3)) 476 [] (.int 3) := ⟨1, (congrArg (fun z => mj_at z 475) f103).trans rfl, rfl⟩
set_option maxRecDepth 20000 in
theorem d103_476 : mj_At 103 476 (.ishr) 477 [] (.null) := ⟨1, (congrArg (fun z => mj_at z 476) f103).trans rfl, rfl⟩
set_option maxRecDepth 20000 in
theorem d103_477 : mj_At 103 477 (.ldc 87) 479 [440] (.int 65536) := ⟨2, (congrArg (fun z => mj_at z 477) f103).trans rfl, rfl⟩
set_option maxRecDepth 20000 in
theorem d103_479 : mj_At 103 479 (.invokestatic 60) 482 [0, 93, 2, 364, 365, 17] (.null) := ⟨3, (congrArg (fun z => mj_at z 479) f103).trans rfl, rfl⟩
set_option maxRecDepth 20000 in
theorem d103_482 : mj_At 103 482 (.goto (38)) 485 [520] (.null) := ⟨3, (congrArg (fun z => mj_at z 482) f103).trans rfl, rfl⟩
set_option maxRecDepth 20000 in
theorem d103_485 : mj_At 103 485 (.iload 8) 487 [8] (.null) := ⟨2, (congrArg (fun z => mj_at z 485) f103).trans rfl, rfl⟩
set_option maxRecDepth 20000 in
theorem d103_487 : mj_At 103 487 (.bipush (6)) 489 [] (.int 6) := ⟨2, (congrArg (fun z => mj_at z 487) f103).trans rfl, rfl⟩
set_option maxRecDepth 20000 in
theorem d103_489 : mj_At 103 489 (.ishr) 490 [] (.null) := ⟨1, (congrArg (fun z => mj_at z 489) f103).trans rfl, rfl⟩
set_option maxRecDepth 20000 in
theorem d103_490 : mj_At 103 490 (.iconst (4)) 491 [] (.int 4) := ⟨1, (congrArg (fun z => mj_at z 490) f103).trans rfl, rfl⟩
set_option maxRecDepth 20000 in
theorem d103_491 : mj_At 103 491 (.invokestatic 60) 494 [0, 93, 2, 364, 365, 17] (.null) := ⟨3, (congrArg (fun z => mj_at z 491) f103).trans rfl, rfl⟩
set_option maxRecDepth 20000 in
theorem d103_494 : mj_At 103 494 (.iconst (1)) 495 [] (.int 1) := ⟨1, (congrArg (fun z => mj_at z 494) f103).trans rfl, rfl⟩
set_option maxRecDepth 20000 in
theorem d103_495 : mj_At 103 495 (.if_icmp .ne (16)) 498 [511] (.null) := ⟨3, (congrArg (fun z => mj_at z 495) f103).trans rfl, rfl⟩
set_option maxRecDepth 20000 in
theorem d103_498 : mj_At 103 498 (.iload 9) 500 [9] (.null) := ⟨2, (congrArg (fun z => mj_at z 498) f103).trans rfl, rfl⟩
set_option maxRecDepth 20000 in
theorem d103_500 : mj_At 103 500 (.iconst (3)) 501 [] (.int 3) := ⟨1, (congrArg (fun z => mj_at z 500) f103).trans rfl, rfl⟩
set_option maxRecDepth 20000 in
theorem d103_501 : mj_At 103 501 (.ishr) 502 [] (.null) := ⟨1, (congrArg (fun z => mj_at z 501) f103).trans rfl, rfl⟩
set_option maxRecDepth 20000 in
theorem d103_502 : mj_At 103 502 (.sipush (300)) 505 [] (.int 300) := ⟨3, (congrArg (fun z => mj_at z 502) f103).trans rfl, rfl⟩
set_option maxRecDepth 20000 in
theorem d103_505 : mj_At 103 505 (.invokestatic 60) 508 [0, 93, 2, 364, 365, 17] (.null) := ⟨3, (congrArg (fun z => mj_at z 505) f103).trans rfl, rfl⟩
set_option maxRecDepth 20000 in
theorem d103_508 : mj_At 103 508 (.goto (12)) 511 [520] (.null) := ⟨3, (congrArg (fun z => mj_at z 508) f103).trans rfl, rfl⟩
set_option maxRecDepth 20000 in
theorem d103_511 : mj_At 103 511 (.iload 9) 513 [9] (.null) := ⟨2, (congrArg (fun z => mj_at z 511) f103).trans rfl, rfl⟩
set_option maxRecDepth 20000 in
theorem d103_513 : mj_At 103 513 (.iconst (3)) 514 [] (.int 3) := ⟨1, (congrArg (fun z => mj_at z 513) f103).trans rfl, rfl⟩
set_option maxRecDepth 20000 in
theorem d103_514 : mj_At 103 514 (.ishr) 515 [] (.null) := ⟨1, (congrArg (fun z => mj_at z 514) f103).trans rfl, rfl⟩
set_option maxRecDepth 20000 in
theorem d103_515 : mj_At 103 515 (.bipush (30)) 517 [] (.int 30) := ⟨2, (congrArg (fun z => mj_at z 515) f103).trans rfl, rfl⟩
set_option maxRecDepth 20000 in
theorem d103_517 : mj_At 103 517 (.invokestatic 60) 520 [0, 93, 2, 364, 365, 17] (.null) := ⟨3, (congrArg (fun z => mj_at z 517) f103).trans rfl, rfl⟩
set_option maxRecDepth 20000 in
theorem d103_520 : mj_At 103 520 (.istore 17) 522 [17] (.null) := ⟨2, (congrArg (fun z => mj_at z 520) f103).trans rfl, rfl⟩
set_option maxRecDepth 20000 in
theorem d103_522 : mj_At 103 522 (.iload 10) 524 [10] (.null) := ⟨2, (congrArg (fun z => mj_at z 522) f103).trans rfl, rfl⟩
set_option maxRecDepth 20000 in
theorem d103_524 : mj_At 103 524 (.iconst (2)) 525 [] (.int 2) := ⟨1, (congrArg (fun z => mj_at z 524) f103).trans rfl, rfl⟩
set_option maxRecDepth 20000 in
theorem d103_525 : mj_At 103 525 (.irem) 526 [] (.null) := ⟨1, (congrArg (fun z => mj_at z 525) f103).trans rfl, rfl⟩
set_option maxRecDepth 20000 in
theorem d103_526 : mj_At 103 526 (.ifCond .ne (8)) 529 [534] (.null) := ⟨3, (congrArg (fun z => mj_at z 526) f103).trans rfl, rfl⟩
set_option maxRecDepth 20000 in
theorem d103_529 : mj_At 103 529 (.iload 17) 531 [17] (.null) := ⟨2, (congrArg (fun z => mj_at z 529) f103).trans rfl, rfl⟩
set_option maxRecDepth 20000 in
theorem d103_531 : mj_At 103 531 (.goto (6)) 534 [537] (.null) := ⟨3, (congrArg (fun z => mj_at z 531) f103).trans rfl, rfl⟩
set_option maxRecDepth 20000 in
theorem d103_534 : mj_At 103 534 (.iload 17) 536 [17] (.null) := ⟨2, (congrArg (fun z => mj_at z 534) f103).trans rfl, rfl⟩
set_option maxRecDepth 20000 in
theorem d103_536 : mj_At 103 536 (.ineg) 537 [] (.null) := ⟨1, (congrArg (fun z => mj_at z 536) f103).trans rfl, rfl⟩
set_option maxRecDepth 20000 in
theorem d103_537 : mj_At 103 537 (.istore 18) 539 [18] (.null) := ⟨2, (congrArg (fun z => mj_at z 537) f103).trans rfl, rfl⟩
set_option maxRecDepth 20000 in
theorem d103_539 : mj_At 103 539 (.iload 9) 541 [9] (.null) := ⟨2, (congrArg (fun z => mj_at z 539) f103).trans rfl, rfl⟩
set_option maxRecDepth 20000 in
theorem d103_541 : mj_At 103 541 (.bipush (9)) 543 [] (.int 9) := ⟨2, (congrArg (fun z => mj_at z 541) f103).trans rfl, rfl⟩
set_option maxRecDepth 20000 in
theorem d103_543 : mj_At 103 543 (.ishr) 544 [] (.null) := ⟨1, (congrArg (fun z => mj_at z 543) f103).trans rfl, rfl⟩
set_option maxRecDepth 20000 in
theorem d103_544 : mj_At 103 544 (.bipush (8)) 546 [] (.int 8) := ⟨2, (congrArg (fun z => mj_at z 544) f103).trans rfl, rfl⟩
set_option maxRecDepth 20000 in
theorem d103_546 : mj_At 103 546 (.invokestatic 60) 549 [0, 93, 2, 364, 365, 17] (.null) := ⟨3, (congrArg (fun z => mj_at z 546) f103).trans rfl, rfl⟩
set_option maxRecDepth 20000 in
theorem d103_549 : mj_At 103 549 (.istore 19) 551 [19] (.null) := ⟨2, (congrArg (fun z => mj_at z 549) f103).trans rfl, rfl⟩
set_option maxRecDepth 20000 in
theorem d103_551 : mj_At 103 551 (.iload 10) 553 [10] (.null) := ⟨2, (congrArg (fun z => mj_at z 551) f103).trans rfl, rfl⟩
set_option maxRecDepth 20000 in
theorem d103_553 : mj_At 103 553 (.bipush (7)) 555 [] (.int 7) := ⟨2, (congrArg (fun z => mj_at z 553) f103).trans rfl, rfl⟩
set_option maxRecDepth 20000 in
theorem d103_555 : mj_At 103 555 (.if_icmp .ge (7)) 558 [562] (.null) := ⟨3, (congrArg (fun z => mj_at z 555) f103).trans rfl, rfl⟩
set_option maxRecDepth 20000 in
theorem d103_558 : mj_At 103 558 (.iconst (0)) 559 [] (.int 0) := ⟨1, (congrArg (fun z => mj_at z 558) f103).trans rfl, rfl⟩
set_option maxRecDepth 20000 in
theorem d103_559 : mj_At 103 559 (.goto (26)) 562 [585] (.null) := ⟨3, (congrArg (fun z => mj_at z 559) f103).trans rfl, rfl⟩
set_option maxRecDepth 20000 in
theorem d103_562 : mj_At 103 562 (.iload 10) 564 [10] (.null) := ⟨2, (congrArg (fun z => mj_at z 562) f103).trans rfl, rfl⟩
set_option maxRecDepth 20000 in
theorem d103_564 : mj_At 103 564 (.bipush (9)) 566 [] (.int 9) := ⟨2, (congrArg (fun z => mj_at z 564) f103).trans rfl, rfl⟩
set_option maxRecDepth 20000 in
theorem d103_566 : mj_At 103 566 (.if_icmp .ge (7)) 569 [573] (.null) := ⟨3, (congrArg (fun z => mj_at z 566) f103).trans rfl, rfl⟩
set_option maxRecDepth 20000 in
theorem d103_569 : mj_At 103 569 (.iconst (1)) 570 [] (.int 1) := ⟨1, (congrArg (fun z => mj_at z 569) f103).trans rfl, rfl⟩
set_option maxRecDepth 20000 in
theorem d103_570 : mj_At 103 570 (.goto (15)) 573 [585] (.null) := ⟨3, (congrArg (fun z => mj_at z 570) f103).trans rfl, rfl⟩
set_option maxRecDepth 20000 in
theorem d103_573 : mj_At 103 573 (.iload 10) 575 [10] (.null) := ⟨2, (congrArg (fun z => mj_at z 573) f103).trans rfl, rfl⟩
set_option maxRecDepth 20000 in
theorem d103_575 : mj_At 103 575 (.bipush (9)) 577 [] (.int 9) := ⟨2, (congrArg (fun z => mj_at z 575) f103).trans rfl, rfl⟩
set_option maxRecDepth 20000 in
theorem d103_577 : mj_At 103 577 (.if_icmp .ne (7)) 580 [584] (.null) := ⟨3, (congrArg (fun z => mj_at z 577) f103).trans rfl, rfl⟩
set_option maxRecDepth 20000 in
theorem d103_580 : mj_At 103 580 (.iconst (2)) 581 [] (.int 2) := ⟨1, (congrArg (fun z => mj_at z 580) f103).trans rfl, rfl⟩
set_option maxRecDepth 20000 in
theorem d103_581 : mj_At 103 581 (.goto (4)) 584 [585] (.null) := ⟨3, (congrArg (fun z => mj_at z 581) f103).trans rfl, rfl⟩
set_option maxRecDepth 20000 in
theorem d103_584 : mj_At 103 584 (.iconst (3)) 585 [] (.int 3) := ⟨1, (congrArg (fun z => mj_at z 584) f103).trans rfl, rfl⟩
set_option maxRecDepth 20000 in
theorem d103_585 : mj_At 103 585 (.istore 20) 587 [20] (.null) := ⟨2, (congrArg (fun z => mj_at z 585) f103).trans rfl, rfl⟩
set_option maxRecDepth 20000 in
theorem d103_587 : mj_At 103 587 (.aload_n 2) 588 [2] (.null) := ⟨1, (congrArg (fun z => mj_at z 587) f103).trans rfl, rfl⟩
set_option maxRecDepth 20000 in
theorem d103_588 : mj_At 103 588 (.bipush (6)) 590 [] (.int 6) := ⟨2, (congrArg (fun z => mj_at z 588) f103).trans rfl, rfl⟩
set_option maxRecDepth 20000 in
theorem d103_590 : mj_At 103 590 (.iload 11) 592 [11] (.null) := ⟨2, (congrArg (fun z => mj_at z 590) f103).trans rfl, rfl⟩
set_option maxRecDepth 20000 in
theorem d103_592 : mj_At 103 592 (.iadd) 593 [] (.null) := ⟨1, (congrArg (fun z => mj_at z 592) f103).trans rfl, rfl⟩
set_option maxRecDepth 20000 in
theorem d103_593 : mj_At 103 593 (.iaload) 594 [] (.null) := ⟨1, (congrArg (fun z => mj_at z 593) f103).trans rfl, rfl⟩
set_option maxRecDepth 20000 in
theorem d103_594 : mj_At 103 594 (.istore 21) 596 [21] (.null) := ⟨2, (congrArg (fun z => mj_at z 594) f103).trans rfl, rfl⟩
set_option maxRecDepth 20000 in
theorem d103_596 : mj_At 103 596 (.iconst (0)) 597 [] (.int 0) := ⟨1, (congrArg (fun z => mj_at z 596) f103).trans rfl, rfl⟩
set_option maxRecDepth 20000 in
theorem d103_597 : mj_At 103 597 (.istore 22) 599 [22] (.null) := ⟨2, (congrArg (fun z => mj_at z 597) f103).trans rfl, rfl⟩
set_option maxRecDepth 20000 in
theorem d103_599 : mj_At 103 599 (.iload 22) 601 [22] (.null) := ⟨2, (congrArg (fun z => mj_at z 599) f103).trans rfl, rfl⟩
set_option maxRecDepth 20000 in
theorem d103_601 : mj_At 103 601 (.bipush (8)) 603 [] (.int 8) := ⟨2, (congrArg (fun z => mj_at z 601) f103).trans rfl, rfl⟩
set_option maxRecDepth 20000 in
theorem d103_603 : mj_At 103 603 (.if_icmp .ge (25)) 606 [628] (.null) := ⟨3, (congrArg (fun z => mj_at z 603) f103).trans rfl, rfl⟩
set_option maxRecDepth 20000 in
theorem d103_606 : mj_At 103 606 (.aload 6) 608 [6] (.null) := ⟨2, (congrArg (fun z => mj_at z 606) f103).trans rfl, rfl⟩
set_option maxRecDepth 20000 in
theorem d103_608 : mj_At 103 608 (.iload 22) 610 [22] (.null) := ⟨2, (congrArg (fun z => mj_at z 608) f103).trans rfl, rfl⟩
set_option maxRecDepth 20000 in
theorem d103_610 : mj_At 103 610 (.aload 14) 612 [14] (.null) := ⟨2, (congrArg (fun z => mj_at z 610) f103).trans rfl, rfl⟩
set_option maxRecDepth 20000 in
theorem d103_612 : mj_At 103 612 (.bipush (8)) 614 [] (.int 8) := ⟨2, (congrArg (fun z => mj_at z 612) f103).trans rfl, rfl⟩
set_option maxRecDepth 20000 in
theorem d103_614 : mj_At 103 614 (.iload 12) 616 [12] (.null) := ⟨2, (congrArg (fun z => mj_at z 614) f103).trans rfl, rfl⟩
set_option maxRecDepth 20000 in
theorem d103_616 : mj_At 103 616 (.imul) 617 [] (.null) := ⟨1, (congrArg (fun z => mj_at z 616) f103).trans rfl, rfl⟩
set_option maxRecDepth 20000 in
theorem d103_617 : mj_At 103 617 (.iload 22) 619 [22] (.null) := ⟨2, (congrArg (fun z => mj_at z 617) f103).trans rfl, rfl⟩
set_option maxRecDepth 20000 in
theorem d103_619 : mj_At 103 619 (.iadd) 620 [] (.null) := ⟨1, (congrArg (fun z => mj_at z 619) f103).trans rfl, rfl⟩
set_option maxRecDepth 20000 in
theorem d103_620 : mj_At 103 620 (.iaload) 621 [] (.null) := ⟨1, (congrArg (fun z => mj_at z 620) f103).trans rfl, rfl⟩
set_option maxRecDepth 20000 in
theorem d103_621 : mj_At 103 621 (.iastore) 622 [] (.null) := ⟨1, (congrArg (fun z => mj_at z 621) f103).trans rfl, rfl⟩
set_option maxRecDepth 20000 in
theorem d103_622 : mj_At 103 622 (.iinc 22 (1)) 625 [22] (.int 1) := ⟨3, (congrArg (fun z => mj_at z 622) f103).trans rfl, rfl⟩
set_option maxRecDepth 20000 in
theorem d103_625 : mj_At 103 625 (.goto (-26)) 628 [599] (.null) := ⟨3, (congrArg (fun z => mj_at z 625) f103).trans rfl, rfl⟩
set_option maxRecDepth 20000 in
theorem d103_628 : mj_At 103 628 (.iconst (0)) 629 [] (.int 0) := ⟨1, (congrArg (fun z => mj_at z 628) f103).trans rfl, rfl⟩
set_option maxRecDepth 20000 in
theorem d103_629 : mj_At 103 629 (.istore 22) 631 [22] (.null) := ⟨2, (congrArg (fun z => mj_at z 629) f103).trans rfl, rfl⟩
set_option maxRecDepth 20000 in
theorem d103_631 : mj_At 103 631 (.iload 22) 633 [22] (.null) := ⟨2, (congrArg (fun z => mj_at z 631) f103).trans rfl, rfl⟩
set_option maxRecDepth 20000 in
theorem d103_633 : mj_At 103 633 (.bipush (8)) 635 [] (.int 8) := ⟨2, (congrArg (fun z => mj_at z 633) f103).trans rfl, rfl⟩
set_option maxRecDepth 20000 in
theorem d103_635 : mj_At 103 635 (.if_icmp .ge (99)) 638 [734] (.null) := ⟨3, (congrArg (fun z => mj_at z 635) f103).trans rfl, rfl⟩
set_option maxRecDepth 20000 in
theorem d103_638 : mj_At 103 638 (.iload 15) 640 [15] (.null) := ⟨2, (congrArg (fun z => mj_at z 638) f103).trans rfl, rfl⟩
set_option maxRecDepth 20000 in
theorem d103_640 : mj_At 103 640 (.ifCond .eq (94)) 643 [734] (.null) := ⟨3, (congrArg (fun z => mj_at z 640) f103).trans rfl, rfl⟩
set_option maxRecDepth 20000 in
theorem d103_643 : mj_At 103 643 (.aload 6) 645 [6] (.null) := ⟨2, (congrArg (fun z => mj_at z 643) f103).trans rfl, rfl⟩
set_option maxRecDepth 20000 in
theorem d103_645 : mj_At 103 645 (.iload 22) 647 [22] (.null) := ⟨2, (congrArg (fun z => mj_at z 645) f103).trans rfl, rfl⟩
set_option maxRecDepth 20000 in
theorem d103_647 : mj_At 103 647 (.iaload) 648 [] (.null) := ⟨1, (congrArg (fun z => mj_at z 647) f103).trans rfl, rfl⟩
set_option maxRecDepth 20000 in
theorem d103_648 : mj_At 103 648 (.istore 23) 650 [23] (.null) := ⟨2, (congrArg (fun z => mj_at z 648) f103).trans rfl, rfl⟩
set_option maxRecDepth 20000 in
theorem d103_650 : mj_At 103 650 (.aload 14) 652 [14] (.null) := ⟨2, (congrArg (fun z => mj_at z 650) f103).trans rfl, rfl⟩
set_option maxRecDepth 20000 in
theorem d103_652 : mj_At 103 652 (.bipush (8)) 654 [] (.int 8) := ⟨2, (congrArg (fun z => mj_at z 652) f103).trans rfl, rfl⟩
set_option maxRecDepth 20000 in
theorem d103_654 : mj_At 103 654 (.iload 12) 656 [12] (.null) := ⟨2, (congrArg (fun z => mj_at z 654) f103).trans rfl, rfl⟩
set_option maxRecDepth 20000 in
theorem d103_656 : mj_At 103 656 (.imul) 657 [] (.null) := ⟨1, (congrArg (fun z => mj_at z 656) f103).trans rfl, rfl⟩
set_option maxRecDepth 20000 in
theorem d103_657 : mj_At 103 657 (.iload 22) 659 [22] (.null) := ⟨2, (congrArg (fun z => mj_at z 657) f103).trans rfl, rfl⟩
set_option maxRecDepth 20000 in
theorem d103_659 : mj_At 103 659 (.iadd) 660 [] (.null) := ⟨1, (congrArg (fun z => mj_at z 659) f103).trans rfl, rfl⟩
set_option maxRecDepth 20000 in
theorem d103_660 : mj_At 103 660 (.iload 20) 662 [20] (.null) := ⟨2, (congrArg (fun z => mj_at z 660) f103).trans rfl, rfl⟩
set_option maxRecDepth 20000 in
theorem d103_662 : mj_At 103 662 (.ifCond .ne (20)) 665 [682] (.null) := ⟨3, (congrArg (fun z => mj_at z 662) f103).trans rfl, rfl⟩
set_option maxRecDepth 20000 in
theorem d103_665 : mj_At 103 665 (.iload 22) 667 [22] (.null) := ⟨2, (congrArg (fun z => mj_at z 665) f103).trans rfl, rfl⟩
set_option maxRecDepth 20000 in
theorem d103_667 : mj_At 103 667 (.iload 13) 669 [13] (.null) := ⟨2, (congrArg (fun z => mj_at z 667) f103).trans rfl, rfl⟩
set_option maxRecDepth 20000 in
theorem d103_669 : mj_At 103 669 (.if_icmp .ne (8)) 672 [677] (.null) := ⟨3, (congrArg (fun z => mj_at z 669) f103).trans rfl, rfl⟩
set_option maxRecDepth 20000 in
theorem d103_672 : mj_At 103 672 (.iload 17) 674 [17] (.null) := ⟨2, (congrArg (fun z => mj_at z 672) f103).trans rfl, rfl⟩
set_option maxRecDepth 20000 in
theorem d103_674 : mj_At 103 674 (.goto (53)) 677 [727] (.null) := ⟨3, (congrArg (fun z => mj_at z 674) f103).trans rfl, rfl⟩
set_option maxRecDepth 20000 in
theorem d103_677 : mj_At 103 677 (.iload 23) 679 [23] (.null) := ⟨2, (congrArg (fun z => mj_at z 677) f103).trans rfl, rfl⟩
set_option maxRecDepth 20000 in
theorem d103_679 : mj_At 103 679 (.goto (48)) 682 [727] (.null) := ⟨3, (congrArg (fun z => mj_at z 679) f103).trans rfl, rfl⟩
set_option maxRecDepth 20000 in
theorem d103_682 : mj_At 103 682 (.iload 20) 684 [20] (.null) := ⟨2, (congrArg (fun z => mj_at z 682) f103).trans rfl, rfl⟩
set_option maxRecDepth 20000 in
theorem d103_684 : mj_At 103 684 (.iconst (1)) 685 [] (.int 1) := ⟨1, (congrArg (fun z => mj_at z 684) f103).trans rfl, rfl⟩
set_option maxRecDepth 20000 in
theorem d103_685 : mj_At 103 685 (.if_icmp .ne (8)) 688 [693] (.null) := ⟨3, (congrArg (fun z => mj_at z 685) f103).trans rfl, rfl⟩
set_option maxRecDepth 20000 in
theorem d103_688 : mj_At 103 688 (.iload 17) 690 [17] (.null) := ⟨2, (congrArg (fun z => mj_at z 688) f103).trans rfl, rfl⟩
set_option maxRecDepth 20000 in
theorem d103_690 : mj_At 103 690 (.goto (37)) 693 [727] (.null) := ⟨3, (congrArg (fun z => mj_at z 690) f103).trans rfl, rfl⟩
set_option maxRecDepth 20000 in
theorem d103_693 : mj_At 103 693 (.iload 20) 695 [20] (.null) := ⟨2, (congrArg (fun z => mj_at z 693) f103).trans rfl, rfl⟩
set_option maxRecDepth 20000 in
theorem d103_695 : mj_At 103 695 (.iconst (2)) 696 [] (.int 2) := ⟨1, (congrArg (fun z => mj_at z 695) f103).trans rfl, rfl⟩
set_option maxRecDepth 20000 in
theorem d103_696 : mj_At 103 696 (.if_icmp .ne (20)) 699 [716] (.null) := ⟨3, (congrArg (fun z => mj_at z 696) f103).trans rfl, rfl⟩
set_option maxRecDepth 20000 in
theorem d103_699 : mj_At 103 699 (.iload 23) 701 [23] (.null) := ⟨2, (congrArg (fun z => mj_at z 699) f103).trans rfl, rfl⟩
set_option maxRecDepth 20000 in
theorem d103_701 : mj_At 103 701 (.iload 18) 703 [18] (.null) := ⟨2, (congrArg (fun z => mj_at z 701) f103).trans rfl, rfl⟩
set_option maxRecDepth 20000 in
theorem d103_703 : mj_At 103 703 (.iadd) 704 [] (.null) := ⟨1, (congrArg (fun z => mj_at z 703) f103).trans rfl, rfl⟩
set_option maxRecDepth 20000 in
theorem d103_704 : mj_At 103 704 (.ldc 87) 706 [440] (.int 65536) := ⟨2, (congrArg (fun z => mj_at z 704) f103).trans rfl, rfl⟩
set_option maxRecDepth 20000 in
theorem d103_706 : mj_At 103 706 (.irem) 707 [] (.null) := ⟨1, (congrArg (fun z => mj_at z 706) f103).trans rfl, rfl⟩
set_option maxRecDepth 20000 in
theorem d103_707 : mj_At 103 707 (.ldc 87) 709 [440] (.int 65536) := ⟨2, (congrArg (fun z => mj_at z 707) f103).trans rfl, rfl⟩
set_option maxRecDepth 20000 in
theorem d103_709 : mj_At 103 709 (.iadd) 710 [] (.null) := ⟨1, (congrArg (fun z => mj_at z 709) f103).trans rfl, rfl⟩
set_option maxRecDepth 20000 in
theorem d103_710 : mj_At 103 710 (.ldc 87) 712 [440] (.int 65536) := ⟨2, (congrArg (fun z => mj_at z 710) f103).trans rfl, rfl⟩
set_option maxRecDepth 20000 in
theorem d103_712 : mj_At 103 712 (.irem) 713 [] (.null) := ⟨1, (congrArg (fun z => mj_at z 712) f103).trans rfl, rfl⟩
set_option maxRecDepth 20000 in
theorem d103_713 : mj_At 103 713 (.goto (14)) 716 [727] (.null) := ⟨3, (congrArg (fun z => mj_at z 713) f103).trans rfl, rfl⟩
set_option maxRecDepth 20000 in
theorem d103_716 : mj_At 103 716 (.aload 14) 718 [14] (.null) := ⟨2, (congrArg (fun z => mj_at z 716) f103).trans rfl, rfl⟩
set_option maxRecDepth 20000 in
theorem d103_718 : mj_At 103 718 (.bipush (8)) 720 [] (.int 8) := ⟨2, (congrArg (fun z => mj_at z 718) f103).trans rfl, rfl⟩
set_option maxRecDepth 20000 in
theorem d103_720 : mj_At 103 720 (.iload 19) 722 [19] (.null) := ⟨2, (congrArg (fun z => mj_at z 720) f103).trans rfl, rfl⟩
set_option maxRecDepth 20000 in
theorem d103_722 : mj_At 103 722 (.imul) 723 [] (.null) := ⟨1, (congrArg (fun z => mj_at z 722) f103).trans rfl, rfl⟩
set_option maxRecDepth 20000 in
theorem d103_723 : mj_At 103 723 (.iload 22) 725 [22] (.null) := ⟨2, (congrArg (fun z => mj_at z 723) f103).trans rfl, rfl⟩
set_option maxRecDepth 20000 in
theorem d103_725 : mj_At 103 725 (.iadd) 726 [] (.null) := ⟨1, (congrArg (fun z => mj_at z 725) f103).trans rfl, rfl⟩
set_option maxRecDepth 20000 in
theorem d103_726 : mj_At 103 726 (.iaload) 727 [] (.null) := ⟨1, (congrArg (fun z => mj_at z 726) f103).trans rfl, rfl⟩
set_option maxRecDepth 20000 in
theorem d103_727 : mj_At 103 727 (.iastore) 728 [] (.null) := ⟨1, (congrArg (fun z => mj_at z 727) f103).trans rfl, rfl⟩
set_option maxRecDepth 20000 in
theorem d103_728 : mj_At 103 728 (.iinc 22 (1)) 731 [22] (.int 1) := ⟨3, (congrArg (fun z => mj_at z 728) f103).trans rfl, rfl⟩
set_option maxRecDepth 20000 in
theorem d103_731 : mj_At 103 731 (.goto (-100)) 734 [631] (.null) := ⟨3, (congrArg (fun z => mj_at z 731) f103).trans rfl, rfl⟩
set_option maxRecDepth 20000 in
theorem d103_734 : mj_At 103 734 (.iload 15) 736 [15] (.null) := ⟨2, (congrArg (fun z => mj_at z 734) f103).trans rfl, rfl⟩
set_option maxRecDepth 20000 in
theorem d103_736 : mj_At 103 736 (.ifCond .eq (23)) 739 [759] (.null) := ⟨3, (congrArg (fun z => mj_at z 736) f103).trans rfl, rfl⟩
set_option maxRecDepth 20000 in
theorem d103_739 : mj_At 103 739 (.iload 21) 741 [21] (.null) := ⟨2, (congrArg (fun z => mj_at z 739) f103).trans rfl, rfl⟩
set_option maxRecDepth 20000 in
theorem d103_741 : mj_At 103 741 (.aload 14) 743 [14] (.null) := ⟨2, (congrArg (fun z => mj_at z 741) f103).trans rfl, rfl⟩
set_option maxRecDepth 20000 in
theorem d103_743 : mj_At 103 743 (.invokestatic 20) 746 [0, 97, 2, 374, 375, 17] (.null) := ⟨3, (congrArg (fun z => mj_at z 743) f103).trans rfl, rfl⟩
set_option maxRecDepth 20000 in
theorem d103_746 : mj_At 103 746 (.invokestatic 23) 749 [0, 98, 1, 380, 381, 17] (.null) := ⟨3, (congrArg (fun z => mj_at z 746) f103).trans rfl, rfl⟩
set_option maxRecDepth 20000 in
theorem d103_749 : mj_At 103 749 (.aload_n 2) 750 [2] (.null) := ⟨1, (congrArg (fun z => mj_at z 749) f103).trans rfl, rfl⟩
set_option maxRecDepth 20000 in
theorem d103_750 : mj_At 103 750 (.iconst (0)) 751 [] (.int 0) := ⟨1, (congrArg (fun z => mj_at z 750) f103).trans rfl, rfl⟩
set_option maxRecDepth 20000 in
theorem d103_751 : mj_At 103 751 (.iaload) 752 [] (.null) := ⟨1, (congrArg (fun z => mj_at z 751) f103).trans rfl, rfl⟩
set_option maxRecDepth 20000 in
theorem d103_752 : mj_At 103 752 (.if_icmp .le (7)) 755 [759] (.null) := ⟨3, (congrArg (fun z => mj_at z 752) f103).trans rfl, rfl⟩
set_option maxRecDepth 20000 in
theorem d103_755 : mj_At 103 755 (.iconst (1)) 756 [] (.int 1) := ⟨1, (congrArg (fun z => mj_at z 755) f103).trans rfl, rfl⟩
set_option maxRecDepth 20000 in
theorem d103_756 : mj_At 103 756 (.goto (4)) 759 [760] (.null) := ⟨3, (congrArg (fun z => mj_at z 756) f103).trans rfl, rfl⟩
set_option maxRecDepth 20000 in
theorem d103_759 : mj_At 103 759 (.iconst (0)) 760 [] (.int 0) := ⟨1, (congrArg (fun z => mj_at z 759) f103).trans rfl, rfl⟩
set_option maxRecDepth 20000 in
theorem d103_760 : mj_At 103 760 (.istore 22) 762 [22] (.null) := ⟨2, (congrArg (fun z => mj_at z 760) f103).trans rfl, rfl⟩
set_option maxRecDepth 20000 in
theorem d103_762 : mj_At 103 762 (.aload_n 2) 763 [2] (.null) := ⟨1, (congrArg (fun z => mj_at z 762) f103).trans rfl, rfl⟩
set_option maxRecDepth 20000 in
theorem d103_763 : mj_At 103 763 (.bipush (6)) 765 [] (.int 6) := ⟨2, (congrArg (fun z => mj_at z 763) f103).trans rfl, rfl⟩
set_option maxRecDepth 20000 in
theorem d103_765 : mj_At 103 765 (.iload 11) 767 [11] (.null) := ⟨2, (congrArg (fun z => mj_at z 765) f103).trans rfl, rfl⟩
set_option maxRecDepth 20000 in
theorem d103_767 : mj_At 103 767 (.iadd) 768 [] (.null) := ⟨1, (congrArg (fun z => mj_at z 767) f103).trans rfl, rfl⟩
set_option maxRecDepth 20000 in
theorem d103_768 : mj_At 103 768 (.iload 22) 770 [22] (.null) := ⟨2, (congrArg (fun z => mj_at z 768) f103).trans rfl, rfl⟩
set_option maxRecDepth 20000 in
theorem d103_770 : mj_At 103 770 (.ifCond .eq (14)) 773 [784] (.null) := ⟨3, (congrArg (fun z => mj_at z 770) f103).trans rfl, rfl⟩
set_option maxRecDepth 20000 in
theorem d103_773 : mj_At 103 773 (.aload_n 2) 774 [2] (.null) := ⟨1, (congrArg (fun z => mj_at z 773) f103).trans rfl, rfl⟩
set_option maxRecDepth 20000 in
theorem d103_774 : mj_At 103 774 (.iconst (0)) 775 [] (.int 0) := ⟨1, (congrArg (fun z => mj_at z 774) f103).trans rfl, rfl⟩
set_option maxRecDepth 20000 in
theorem d103_775 : mj_At 103 775 (.iaload) 776 [] (.null) := ⟨1, (congrArg (fun z => mj_at z 775) f103).trans rfl, rfl⟩
set_option maxRecDepth 20000 in
theorem d103_776 : mj_At 103 776 (.aload 14) 778 [14] (.null) := ⟨2, (congrArg (fun z => mj_at z 776) f103).trans rfl, rfl⟩
set_option maxRecDepth 20000 in
theorem d103_778 : mj_At 103 778 (.invokestatic 39) 781 [0, 100, 2, 386, 387, 17] (.null) := ⟨3, (congrArg (fun z => mj_at z 778) f103).trans rfl, rfl⟩
set_option maxRecDepth 20000 in
theorem d103_781 : mj_At 103 781 (.goto (5)) 784 [786] (.null) := ⟨3, (congrArg (fun z => mj_at z 781) f103).trans rfl, rfl⟩
set_option maxRecDepth 20000 in
theorem d103_784 : mj_At 103 784 (.iload 21) 786 [21] (.null) := ⟨2, (congrArg (fun z => mj_at z 784) f103).trans rfl, rfl⟩
set_option maxRecDepth 20000 in
theorem d103_786 : mj_At 103 786 (.iastore) 787 [] (.null) := ⟨1, (congrArg (fun z => mj_at z 786) f103).trans rfl, rfl⟩
set_option maxRecDepth 20000 in
theorem d103_787 : mj_At 103 787 (.aload_n 2) 788 [2] (.null) := ⟨1, (congrArg (fun z => mj_at z 787) f103).trans rfl, rfl⟩
set_option maxRecDepth 20000 in
theorem d103_788 : mj_At 103 788 (.aload_n 3) 789 [3] (.null) := ⟨1, (congrArg (fun z => mj_at z 788) f103).trans rfl, rfl⟩
set_option maxRecDepth 20000 in
theorem d103_789 : mj_At 103 789 (.aload 4) 791 [4] (.null) := ⟨2, (congrArg (fun z => mj_at z 789) f103).trans rfl, rfl⟩
set_option maxRecDepth 20000 in
theorem d103_791 : mj_At 103 791 (.aload 5) 793 [5] (.null) := ⟨2, (congrArg (fun z => mj_at z 791) f103).trans rfl, rfl⟩
set_option maxRecDepth 20000 in
theorem d103_793 : mj_At 103 793 (.invokestatic 56) 796 [0, 101, 4, 389, 390, 17] (.null) := ⟨3, (congrArg (fun z => mj_at z 793) f103).trans rfl, rfl⟩
set_option maxRecDepth 20000 in
theorem d103_796 : mj_At 103 796 (.istore 23) 798 [23] (.null) := ⟨2, (congrArg (fun z => mj_at z 796) f103).trans rfl, rfl⟩
set_option maxRecDepth 20000 in
theorem d103_798 : mj_At 103 798 (.iload 15) 800 [15] (.null) := ⟨2, (congrArg (fun z => mj_at z 798) f103).trans rfl, rfl⟩
set_option maxRecDepth 20000 in
theorem d103_800 : mj_At 103 800 (.ifCond .eq (22)) 803 [822] (.null) := ⟨3, (congrArg (fun z => mj_at z 800) f103).trans rfl, rfl⟩
set_option maxRecDepth 20000 in
theorem d103_803 : mj_At 103 803 (.iload 23) 805 [23] (.null) := ⟨2, (congrArg (fun z => mj_at z 803) f103).trans rfl, rfl⟩
set_option maxRecDepth 20000 in
theorem d103_805 : mj_At 103 805 (.iload 16) 807 [16] (.null) := ⟨2, (congrArg (fun z => mj_at z 805) f103).trans rfl, rfl⟩
set_option maxRecDepth 20000 in
theorem d103_807 : mj_At 103 807 (.if_icmp .le (11)) 810 [818] (.null) := ⟨3, (congrArg (fun z => mj_at z 807) f103).trans rfl, rfl⟩
set_option maxRecDepth 20000 in
theorem d103_810 : mj_At 103 810 (.iload 23) 812 [23] (.null) := ⟨2, (congrArg (fun z => mj_at z 810) f103).trans rfl, rfl⟩
set_option maxRecDepth 20000 in
theorem d103_812 : mj_At 103 812 (.aload_n 2) 813 [2] (.null) := ⟨1, (congrArg (fun z => mj_at z 812) f103).trans rfl, rfl⟩
set_option maxRecDepth 20000 in
theorem d103_813 : mj_At 103 813 (.iconst (1)) 814 [] (.int 1) := ⟨1, (congrArg (fun z => mj_at z 813) f103).trans rfl, rfl⟩
set_option maxRecDepth 20000 in
theorem d103_814 : mj_At 103 814 (.iaload) 815 [] (.null) := ⟨1, (congrArg (fun z => mj_at z 814) f103).trans rfl, rfl⟩
set_option maxRecDepth 20000 in
theorem d103_815 : mj_At 103 815 (.if_icmp .gt (7)) 818 [822] (.null) := ⟨3, (congrArg (fun z => mj_at z 815) f103).trans rfl, rfl⟩
set_option maxRecDepth 20000 in
theorem d103_818 : mj_At 103 818 (.iconst (1)) 819 [] (.int 1) := ⟨1, (congrArg (fun z => mj_at z 818) f103).trans rfl, rfl⟩
set_option maxRecDepth 20000 in
theorem d103_819 : mj_At 103 819 (.goto (4)) 822 [823] (.null) := ⟨3, (congrArg (fun z => mj_at z 819) f103).trans rfl, rfl⟩
set_option maxRecDepth 20000 in
theorem d103_822 : mj_At 103 822 (.iconst (0)) 823 [] (.int 0) := ⟨1, (congrArg (fun z => mj_at z 822) f103).trans rfl, rfl⟩
set_option maxRecDepth 20000 in
theorem d103_823 : mj_At 103 823 (.istore 24) 825 [24] (.null) := ⟨2, (congrArg (fun z => mj_at z 823) f103).trans rfl, rfl⟩
set_option maxRecDepth 20000 in
theorem d103_825 : mj_At 103 825 (.iload 20) 827 [20] (.null) := ⟨2, (congrArg (fun z => mj_at z 825) f103).trans rfl, rfl⟩
set_option maxRecDepth 20000 in
theorem d103_827 : mj_At 103 827 (.ifCond .ne (31)) 830 [858] (.null) := ⟨3, (congrArg (fun z => mj_at z 827) f103).trans rfl, rfl⟩
set_option maxRecDepth 20000 in
theorem d103_830 : mj_At 103 830 (.iload 15) 832 [15] (.null) := ⟨2, (congrArg (fun z => mj_at z 830) f103).trans rfl, rfl⟩
set_option maxRecDepth 20000 in
theorem d103_832 : mj_At 103 832 (.ifCond .eq (26)) 835 [858] (.null) := ⟨3, (congrArg (fun z => mj_at z 832) f103).trans rfl, rfl⟩
set_option maxRecDepth 20000 in
theorem d103_835 : mj_At 103 835 (.aload_n 1) 836 [1] (.null) := ⟨1, (congrArg (fun z => mj_at z 835) f103).trans rfl, rfl⟩
set_option maxRecDepth 20000 in
theorem d103_836 : mj_At 103 836 (.iload 11) 838 [11] (.null) := ⟨2, (congrArg (fun z => mj_at z 836) f103).trans rfl, rfl⟩
set_option maxRecDepth 20000 in
theorem d103_838 : mj_At 103 838 (.iload 12) 840 [12] (.null) := ⟨2, (congrArg (fun z => mj_at z 838) f103).trans rfl, rfl⟩
set_option maxRecDepth 20000 in
theorem d103_840 : mj_At 103 840 (.iload 13) 842 [13] (.null) := ⟨2, (congrArg (fun z => mj_at z 840) f103).trans rfl, rfl⟩
set_option maxRecDepth 20000 in
theorem d103_842 : mj_At 103 842 (.iload 17) 844 [17] (.null) := ⟨2, (congrArg (fun z => mj_at z 842) f103).trans rfl, rfl⟩
set_option maxRecDepth 20000 in
theorem d103_844 : mj_At 103 844 (.invokevirtual 88) 847 [1, 68, 5, 3, 355, 356, 357, 18] (.null) := ⟨3, (congrArg (fun z => mj_at z 844) f103).trans rfl, rfl⟩
set_option maxRecDepth 20000 in
theorem d103_847 : mj_At 103 847 (.istore 25) 849 [25] (.null) := ⟨2, (congrArg (fun z => mj_at z 847) f103).trans rfl, rfl⟩
set_option maxRecDepth 20000 in
theorem d103_849 : mj_At 103 849 (.iload 25) 851 [25] (.null) := ⟨2, (congrArg (fun z => mj_at z 849) f103).trans rfl, rfl⟩
set_option maxRecDepth 20000 in
theorem d103_851 : mj_At 103 851 (.iload 23) 853 [23] (.null) := ⟨2, (congrArg (fun z => mj_at z 851) f103).trans rfl, rfl⟩
set_option maxRecDepth 20000 in
theorem d103_853 : mj_At 103 853 (.if_icmp .eq (5)) 856 [858] (.null) := ⟨3, (congrArg (fun z => mj_at z 853) f103).trans rfl, rfl⟩
set_option maxRecDepth 20000 in
theorem d103_856 : mj_At 103 856 (.iconst (0)) 857 [] (.int 0) := ⟨1, (congrArg (fun z => mj_at z 856) f103).trans rfl, rfl⟩
set_option maxRecDepth 20000 in
theorem d103_857 : mj_At 103 857 (.ireturn) 858 [1] (.null) := ⟨1, (congrArg (fun z => mj_at z 857) f103).trans rfl, rfl⟩
set_option maxRecDepth 20000 in
theorem d103_858 : mj_At 103 858 (.iload 15) 860 [15] (.null) := ⟨2, (congrArg (fun z => mj_at z 858) f103).trans rfl, rfl⟩
set_option maxRecDepth 20000 in
theorem d103_860 : mj_At 103 860 (.ifCond .ne (7)) 863 [867] (.null) := ⟨3, (congrArg (fun z => mj_at z 860) f103).trans rfl, rfl⟩
set_option maxRecDepth 20000 in
theorem d103_863 : mj_At 103 863 (.iconst (-1)) 864 [] (.int (-1)) := ⟨1, (congrArg (fun z => mj_at z 863) f103).trans rfl, rfl⟩
set_option maxRecDepth 20000 in
theorem d103_864 : mj_At 103 864 (.goto (20)) 867 [884] (.null) := ⟨3, (congrArg (fun z => mj_at z 864) f103).trans rfl, rfl⟩
set_option maxRecDepth 20000 in
theorem d103_867 : mj_At 103 867 (.iload 24) 869 [24] (.null) := ⟨2, (congrArg (fun z => mj_at z 867) f103).trans rfl, rfl⟩
set_option maxRecDepth 20000 in
theorem d103_869 : mj_At 103 869 (.ifCond .eq (13)) 872 [882] (.null) := ⟨3, (congrArg (fun z => mj_at z 869) f103).trans rfl, rfl⟩
set_option maxRecDepth 20000 in
theorem d103_872 : mj_At 103 872 (.iload 12) 874 [12] (.null) := ⟨2, (congrArg (fun z => mj_at z 872) f103).trans rfl, rfl⟩
set_option maxRecDepth 20000 in
theorem d103_874 : mj_At 103 874 (.aload 14) 876 [14] (.null) := ⟨2, (congrArg (fun z => mj_at z 874) f103).trans rfl, rfl⟩
set_option maxRecDepth 20000 in
theorem d103_876 : mj_At 103 876 (.invokestatic 10) 879 [0, 95, 2, 371, 372, 17] (.null) := ⟨3, (congrArg (fun z => mj_at z 876) f103).trans rfl, rfl⟩
set_option maxRecDepth 20000 in
theorem d103_879 : mj_At 103 879 (.goto (5)) 882 [884] (.null) := ⟨3, (congrArg (fun z => mj_at z 879) f103).trans rfl, rfl⟩
set_option maxRecDepth 20000 in
theorem d103_882 : mj_At 103 882 (.bipush (-4)) 884 [] (.int (-4)) := ⟨2, (congrArg (fun z => mj_at z 882) f103).trans rfl, rfl⟩
set_option maxRecDepth 20000 in
theorem d103_884 : mj_At 103 884 (.istore 25) 886 [25] (.null) := ⟨2, (congrArg (fun z => mj_at z 884) f103).trans rfl, rfl⟩
set_option maxRecDepth 20000 in
theorem d103_886 : mj_At 103 886 (.iload 20) 888 [20] (.null) := ⟨2, (congrArg (fun z => mj_at z 886) f103).trans rfl, rfl⟩
set_option maxRecDepth 20000 in
theorem d103_888 : mj_At 103 888 (.ifCond .ne (18)) 891 [906] (.null) := ⟨3, (congrArg (fun z => mj_at z 888) f103).trans rfl, rfl⟩
set_option maxRecDepth 20000 in
theorem d103_891 : mj_At 103 891 (.aload_n 1) 892 [1] (.null) := ⟨1, (congrArg (fun z => mj_at z 891) f103).trans rfl, rfl⟩
set_option maxRecDepth 20000 in
theorem d103_892 : mj_At 103 892 (.iload 11) 894 [11] (.null) := ⟨2, (congrArg (fun z => mj_at z 892) f103).trans rfl, rfl⟩
set_option maxRecDepth 20000 in
theorem d103_894 : mj_At 103 894 (.iload 12) 896 [12] (.null) := ⟨2, (congrArg (fun z => mj_at z 894) f103).trans rfl, rfl⟩
set_option maxRecDepth 20000 in
theorem d103_896 : mj_At 103 896 (.iload 13) 898 [13] (.null) := ⟨2, (congrArg (fun z => mj_at z 896) f103).trans rfl, rfl⟩
set_option maxRecDepth 20000 in
theorem d103_898 : mj_At 103 898 (.iload 17) 900 [17] (.null) := ⟨2, (congrArg (fun z => mj_at z 898) f103).trans rfl, rfl⟩
set_option maxRecDepth 20000 in
theorem d103_900 : mj_At 103 900 (.invokevirtual 92) 903 [1, 48, 5, 3, 259, 260, 261, 18] (.null) := ⟨3, (congrArg (fun z => mj_at z 900) f103).trans rfl, rfl⟩
set_option maxRecDepth 20000 in
theorem d103_903 : mj_At 103 903 (.goto (53)) 906 [956] (.null) := ⟨3, (congrArg (fun z => mj_at z 903) f103).trans rfl, rfl⟩
set_option maxRecDepth 20000 in
theorem d103_906 : mj_At 103 906 (.iload 20) 908 [20] (.null) := ⟨2, (congrArg (fun z => mj_at z 906) f103).trans rfl, rfl⟩
set_option maxRecDepth 20000 in
theorem d103_908 : mj_At 103 908 (.iconst (1)) 909 [] (.int 1) := ⟨1, (congrArg (fun z => mj_at z 908) f103).trans rfl, rfl⟩
set_option maxRecDepth 20000 in
theorem d103_909 : mj_At 103 909 (.if_icmp .ne (16)) 912 [925] (.null) := ⟨3, (congrArg (fun z => mj_at z 909) f103).trans rfl, rfl⟩
set_option maxRecDepth 20000 in
theorem d103_912 : mj_At 103 912 (.aload_n 1) 913 [1] (.null) := ⟨1, (congrArg (fun z => mj_at z 912) f103).trans rfl, rfl⟩
set_option maxRecDepth 20000 in
theorem d103_913 : mj_At 103 913 (.iload 11) 915 [11] (.null) := ⟨2, (congrArg (fun z => mj_at z 913) f103).trans rfl, rfl⟩
set_option maxRecDepth 20000 in
theorem d103_915 : mj_At 103 915 (.iload 12) 917 [12] (.null) := ⟨2, (congrArg (fun z => mj_at z 915) f103).trans rfl, rfl⟩
set_option maxRecDepth 20000 in
theorem d103_917 : mj_At 103 917 (.iload 17) 919 [17] (.null) := ⟨2, (congrArg (fun z => mj_at z 917) f103).trans rfl, rfl⟩
set_option maxRecDepth 20000 in
theorem d103_919 : mj_At 103 919 (.invokevirtual 95) 922 [1, 49, 4, 3, 317, 318, 319, 18] (.null) := ⟨3, (congrArg (fun z => mj_at z 919) f103).trans rfl, rfl⟩
set_option maxRecDepth 20000 in
theorem d103_922 : mj_At 103 922 (.goto (34)) 925 [956] (.null) := ⟨3, (congrArg (fun z => mj_at z 922) f103).trans rfl, rfl⟩
set_option maxRecDepth 20000 in
theorem d103_925 : mj_At 103 925 (.iload 20) 927 [20] (.null) := ⟨2, (congrArg (fun z => mj_at z 925) f103).trans rfl, rfl⟩
set_option maxRecDepth 20000 in
theorem d103_927 : mj_At 103 927 (.iconst (2)) 928 [] (.int 2) := ⟨1, (congrArg (fun z => mj_at z 927) f103).trans rfl, rfl⟩
set_option maxRecDepth 20000 in
theorem d103_928 : mj_At 103 928 (.if_icmp .ne (16)) 931 [944] (.null) := ⟨3, (congrArg (fun z => mj_at z 928) f103).trans rfl, rfl⟩
set_option maxRecDepth 20000 in
theorem d103_931 : mj_At 103 931 (.aload_n 1) 932 [1] (.null) := ⟨1, (congrArg (fun z => mj_at z 931) f103).trans rfl, rfl⟩
set_option maxRecDepth 20000 in
theorem d103_932 : mj_At 103 932 (.iload 11) 934 [11] (.null) := ⟨2, (congrArg (fun z => mj_at z 932) f103).trans rfl, rfl⟩
set_option maxRecDepth 20000 in
theorem d103_934 : mj_At 103 934 (.iload 12) 936 [12] (.null) := ⟨2, (congrArg (fun z => mj_at z 934) f103).trans rfl, rfl⟩
set_option maxRecDepth 20000 in
theorem d103_936 : mj_At 103 936 (.iload 18) 938 [18] (.null) := ⟨2, (congrArg (fun z => mj_at z 936) f103).trans rfl, rfl⟩
set_option maxRecDepth 20000 in
theorem d103_938 : mj_At 103 938 (.invokevirtual 98) 941 [1, 51, 4, 3, 322, 323, 324, 18] (.null) := ⟨3, (congrArg (fun z => mj_at z 938) f103).trans rfl, rfl⟩
set_option maxRecDepth 20000 in
theorem d103_941 : mj_At 103 941 (.goto (15)) 944 [956] (.null) := ⟨3, (congrArg (fun z => mj_at z 941) f103).trans rfl, rfl⟩
set_option maxRecDepth 20000 in
theorem d103_944 : mj_At 103 944 (.aload_n 1) 945 [1] (.null) := ⟨1, (congrArg (fun z => mj_at z 944) f103).trans rfl, rfl⟩
set_option maxRecDepth 20000 in
theorem d103_945 : mj_At 103 945 (.iload 11) 947 [11] (.null) := ⟨2, (congrArg (fun z => mj_at z 945) f103).trans rfl, rfl⟩
set_option maxRecDepth 20000 in
theorem d103_947 : mj_At 103 947 (.iload 19) 949 [19] (.null) := ⟨2, (congrArg (fun z => mj_at z 947) f103).trans rfl, rfl⟩
set_option maxRecDepth 20000 in
theorem d103_949 : mj_At 103 949 (.iload 11) 951 [11] (.null) := ⟨2, (congrArg (fun z => mj_at z 949) f103).trans rfl, rfl⟩
set_option maxRecDepth 20000 in
theorem d103_951 : mj_At 103 951 (.iload 12) 953 [12] (.null) := ⟨2, (congrArg (fun z => mj_at z 951) f103).trans rfl, rfl⟩
set_option maxRecDepth 20000 in
theorem d103_953 : mj_At 103 953 (.invokevirtual 101) 956 [1, 52, 5, 3, 331, 332, 333, 18] (.null) := ⟨3, (congrArg (fun z => mj_at z 953) f103).trans rfl, rfl⟩
set_option maxRecDepth 20000 in
theorem d103_956 : mj_At 103 956 (.istore 26) 958 [26] (.null) := ⟨2, (congrArg (fun z => mj_at z 956) f103).trans rfl, rfl⟩
set_option maxRecDepth 20000 in
theorem d103_958 : mj_At 103 958 (.iload 26) 960 [26] (.null) := ⟨2, (congrArg (fun z => mj_at z 958) f103).trans rfl, rfl⟩
set_option maxRecDepth 20000 in
theorem d103_960 : mj_At 103 960 (.iload 25) 962 [25] (.null) := ⟨2, (congrArg (fun z => mj_at z 960) f103).trans rfl, rfl⟩
set_option maxRecDepth 20000 in
theorem d103_962 : mj_At 103 962 (.if_icmp .eq (5)) 965 [967] (.null) := ⟨3, (congrArg (fun z => mj_at z 962) f103).trans rfl, rfl⟩
set_option maxRecDepth 20000 in
theorem d103_965 : mj_At 103 965 (.iconst (0)) 966 [] (.int 0) := ⟨1, (congrArg (fun z => mj_at z 965) f103).trans rfl, rfl⟩
set_option maxRecDepth 20000 in
theorem d103_966 : mj_At 103 966 (.ireturn) 967 [1] (.null) := ⟨1, (congrArg (fun z => mj_at z 966) f103).trans rfl, rfl⟩
set_option maxRecDepth 20000 in
theorem d103_967 : mj_At 103 967 (.iload 24) 969 [24] (.null) := ⟨2, (congrArg (fun z => mj_at z 967) f103).trans rfl, rfl⟩
set_option maxRecDepth 20000 in
theorem d103_969 : mj_At 103 969 (.ifCond .eq (22)) 972 [991] (.null) := ⟨3, (congrArg (fun z => mj_at z 969) f103).trans rfl, rfl⟩
set_option maxRecDepth 20000 in
theorem d103_972 : mj_At 103 972 (.aload_n 2) 973 [2] (.null) := ⟨1, (congrArg (fun z => mj_at z 972) f103).trans rfl, rfl⟩
set_option maxRecDepth 20000 in
theorem d103_973 : mj_At 103 973 (.iconst (5)) 974 [] (.int 5) := ⟨1, (congrArg (fun z => mj_at z 973) f103).trans rfl, rfl⟩
set_option maxRecDepth 20000 in
theorem d103_974 : mj_At 103 974 (.dup2) 975 [] (.null) := ⟨1, (congrArg (fun z => mj_at z 974) f103).trans rfl, rfl⟩
set_option maxRecDepth 20000 in
theorem d103_975 : mj_At 103 975 (.iaload) 976 [] (.null) := ⟨1, (congrArg (fun z => mj_at z 975) f103).trans rfl, rfl⟩
set_option maxRecDepth 20000 in
theorem d103_976 : mj_At 103 976 (.iload 22) 978 [22] (.null) := ⟨2, (congrArg (fun z => mj_at z 976) f103).trans rfl, rfl⟩
set_option maxRecDepth 20000 in
theorem d103_978 : mj_At 103 978 (.ifCond .eq (7)) 981 [985] (.null) := ⟨3, (congrArg (fun z => mj_at z 978) f103).trans rfl, rfl⟩
set_option maxRecDepth 20000 in
theorem d103_981 : mj_At 103 981 (.iconst (1)) 982 [] (.int 1) := ⟨1, (congrArg (fun z => mj_at z 981) f103).trans rfl, rfl⟩
set_option maxRecDepth 20000 in
theorem d103_982 : mj_At 103 982 (.goto (4)) 985 [986] (.null) := ⟨3, (congrArg (fun z => mj_at z 982) f103).trans rfl, rfl⟩
set_option maxRecDepth 20000 in
theorem d103_985 : mj_At 103 985 (.iconst (0)) 986 [] (.int 0) := ⟨1, (congrArg (fun z => mj_at z 985) f103).trans rfl, rfl⟩
set_option maxRecDepth 20000 in
theorem d103_986 : mj_At 103 986 (.iadd) 987 [] (.null) := ⟨1, (congrArg (fun z => mj_at z 986) f103).trans rfl, rfl⟩
set_option maxRecDepth 20000 in
theorem d103_987 : mj_At 103 987 (.iastore) 988 [] (.null) := ⟨1, (congrArg (fun z => mj_at z 987) f103).trans rfl, rfl⟩
set_option maxRecDepth 20000 in
theorem d103_988 : mj_At 103 988 (.goto (44)) 991 [1032] (.null) := ⟨3, (congrArg (fun z => mj_at z 988) f103).trans rfl, rfl⟩
set_option maxRecDepth 20000 in
theorem d103_991 : mj_At 103 991 (.aload_n 2) 992 [2] (.null) := ⟨1, (congrArg (fun z => mj_at z 991) f103).trans rfl, rfl⟩
set_option maxRecDepth 20000 in
theorem d103_992 : mj_At 103 992 (.bipush (6)) 994 [] (.int 6) := ⟨2, (congrArg (fun z => mj_at z 992) f103).trans rfl, rfl⟩
set_option maxRecDepth 20000 in
theorem d103_994 : mj_At 103 994 (.iload 11) 996 [11] (.null) := ⟨2, (congrArg (fun z => mj_at z 994) f103).trans rfl, rfl⟩
set_option maxRecDepth 20000 in
theorem d103_996 : mj_At 103 996 (.iadd) 997 [] (.null) := ⟨1, (congrArg (fun z => mj_at z 996) f103).trans rfl, rfl⟩
set_option maxRecDepth 20000 in
theorem d103_997 : mj_At 103 997 (.iload 21) 999 [21] (.null) := ⟨2, (congrArg (fun z => mj_at z 997) f103).trans rfl, rfl⟩
set_option maxRecDepth 20000 in
theorem d103_999 : mj_At 103 999 (.iastore) 1000 [] (.null) := ⟨1, (congrArg (fun z => mj_at z 999) f103).trans rfl, rfl⟩
set_option maxRecDepth 20000 in
theorem d103_1000 : mj_At 103 1000 (.iconst (0)) 1001 [] (.int 0) := ⟨1, (congrArg (fun z => mj_at z 1000) f103).trans rfl, rfl⟩
set_option maxRecDepth 20000 in
theorem d103_1001 : mj_At 103 1001 (.istore 27) 1003 [27] (.null) := ⟨2, (congrArg (fun z => mj_at z 1001) f103).trans rfl, rfl⟩
set_option maxRecDepth 20000 in
theorem d103_1003 : mj_At 103 1003 (.iload 27) 1005 [27] (.null) := ⟨2, (congrArg (fun z => mj_at z 1003) f103).trans rfl, rfl⟩
set_option maxRecDepth 20000 in
theorem d103_1005 : mj_At 103 1005 (.bipush (8)) 1007 [] (.int 8) := ⟨2, (congrArg (fun z => mj_at z 1005) f103).trans rfl, rfl⟩
set_option maxRecDepth 20000 in
theorem d103_1007 : mj_At 103 1007 (.if_icmp .ge (25)) 1010 [1032] (.null) := ⟨3, (congrArg (fun z => mj_at z 1007) f103).trans rfl, rfl⟩
set_option maxRecDepth 20000 in
theorem d103_1010 : mj_At 103 1010 (.aload 14) 1012 [14] (.null) := ⟨2, (congrArg (fun z => mj_at z 1010) f103).trans rfl, rfl⟩
set_option maxRecDepth 20000 in
theorem d103_1012 : mj_At 103 1012 (.bipush (8)) 1014 [] (.int 8) := ⟨2, (congrArg (fun z => mj_at z 1012) f103).trans rfl, rfl⟩
set_option maxRecDepth 20000 in
theorem d103_1014 : mj_At 103 1014 (.iload 12) 1016 [12] (.null) := ⟨2, (congrArg (fun z => mj_at z 1014) f103).trans rfl, rfl⟩
set_option maxRecDepth 20000 in
theorem d103_1016 : mj_At 103 1016 (.imul) 1017 [] (.null) := ⟨1, (congrArg (fun z => mj_at z 1016) f103).trans rfl, rfl⟩
set_option maxRecDepth 20000 in
theorem d103_1017 : mj_At 103 1017 (.iload 27) 1019 [27] (.null) := ⟨2, (congrArg (fun z => mj_at z 1017) f103).trans rfl, rfl⟩
set_option maxRecDepth 20000 in
theorem d103_1019 : mj_At 103 1019 (.iadd) 1020 [] (.null) := ⟨1, (congrArg (fun z => mj_at z 1019) f103).trans rfl, rfl⟩
set_option maxRecDepth 20000 in
theorem d103_1020 : mj_At 103 1020 (.aload 6) 1022 [6] (.null) := ⟨2, (congrArg (fun z => mj_at z 1020) f103).trans rfl, rfl⟩
set_option maxRecDepth 20000 in
theorem d103_1022 : mj_At 103 1022 (.iload 27) 1024 [27] (.null) := ⟨2, (congrArg (fun z => mj_at z 1022) f103).trans rfl, rfl⟩
set_option maxRecDepth 20000 in
theorem d103_1024 : mj_At 103 1024 (.iaload) 1025 [] (.null) := ⟨1, (congrArg (fun z => mj_at z 1024) f103).trans rfl, rfl⟩
set_option maxRecDepth 20000 in
theorem d103_1025 : mj_At 103 1025 (.iastore) 1026 [] (.null) := ⟨1, (congrArg (fun z => mj_at z 1025) f103).trans rfl, rfl⟩
set_option maxRecDepth 20000 in
theorem d103_1026 : mj_At 103 1026 (.iinc 27 (1)) 1029 [27] (.int 1) := ⟨3, (congrArg (fun z => mj_at z 1026) f103).trans rfl, rfl⟩
set_option maxRecDepth 20000 in
theorem d103_1029 : mj_At 103 1029 (.goto (-26)) 1032 [1003] (.null) := ⟨3, (congrArg (fun z => mj_at z 1029) f103).trans rfl, rfl⟩
set_option maxRecDepth 20000 in
theorem d103_1032 : mj_At 103 1032 (.goto (644)) 1035 [1676] (.null) := ⟨3, (congrArg (fun z => mj_at z 1032) f103).trans rfl, rfl⟩
set_option maxRecDepth 20000 in
theorem d103_1035 : mj_At 103 1035 (.iload 10) 1037 [10] (.null) := ⟨2, (congrArg (fun z => mj_at z 1035) f103).trans rfl, rfl⟩
set_option maxRecDepth 20000 in
theorem d103_1037 : mj_At 103 1037 (.bipush (16)) 1039 [] (.int 16) := ⟨2, (congrArg (fun z => mj_at z 1037) f103).trans rfl, rfl⟩
set_option maxRecDepth 20000 in
theorem d103_1039 : mj_At 103 1039 (.if_icmp .ge (185)) 1042 [1224] (.null) := ⟨3, (congrArg (fun z => mj_at z 1039) f103).trans rfl, rfl⟩
set_option maxRecDepth 20000 in
theorem d103_1042 : mj_At 103 1042 (.aload_n 1) 1043 [1] (.null) := ⟨1, (congrArg (fun z => mj_at z 1042) f103).trans rfl, rfl⟩
set_option maxRecDepth 20000 in
theorem d103_1043 : mj_At 103 1043 (.iload 11) 1045 [11] (.null) := ⟨2, (congrArg (fun z => mj_at z 1043) f103).trans rfl, rfl⟩
set_option maxRecDepth 20000 in
theorem d103_1045 : mj_At 103 1045 (.iload 12) 1047 [12] (.null) := ⟨2, (congrArg (fun z => mj_at z 1045) f103).trans rfl, rfl⟩
set_option maxRecDepth 20000 in
theorem d103_1047 : mj_At 103 1047 (.iload 13) 1049 [13] (.null) := ⟨2, (congrArg (fun z => mj_at z 1047) f103).trans rfl, rfl⟩
set_option maxRecDepth 20000 in
theorem d103_1049 : mj_At 103 1049 (.invokevirtual 104) 1052 [1, 57, 4, 3, 335, 336, 337, 18] (.null) := ⟨3, (congrArg (fun z => mj_at z 1049) f103).trans rfl, rfl⟩
set_option maxRecDepth 20000 in
theorem d103_1052 : mj_At 103 1052 (.iload 15) 1054 [15] (.null) := ⟨2, (congrArg (fun z => mj_at z 1052) f103).trans rfl, rfl⟩
set_option maxRecDepth 20000 in
theorem d103_1054 : mj_At 103 1054 (.ifCond .eq (17)) 1057 [1071] (.null) := ⟨3, (congrArg (fun z => mj_at z 1054) f103).trans rfl, rfl⟩
set_option maxRecDepth 20000 in
theorem d103_1057 : mj_At 103 1057 (.aload 14) 1059 [14] (.null) := ⟨2, (congrArg (fun z => mj_at z 1057) f103).trans rfl, rfl⟩
set_option maxRecDepth 20000 in
theorem d103_1059 : mj_At 103 1059 (.bipush (8)) 1061 [] (.int 8) := ⟨2, (congrArg (fun z => mj_at z 1059) f103).trans rfl, rfl⟩
set_option maxRecDepth 20000 in
theorem d103_1061 : mj_At 103 1061 (.iload 12) 1063 [12] (.null) := ⟨2, (congrArg (fun z => mj_at z 1061) f103).trans rfl, rfl⟩
set_option maxRecDepth 20000 in
theorem d103_1063 : mj_At 103 1063 (.imul) 1064 [] (.null) := ⟨1, (congrArg (fun z => mj_at z 1063) f103).trans rfl, rfl⟩
set_option maxRecDepth 20000 in
theorem d103_1064 : mj_At 103 1064 (.iload 13) 1066 [13] (.null) := ⟨2, (congrArg (fun z => mj_at z 1064) f103).trans rfl, rfl⟩
set_option maxRecDepth 20000 in
theorem d103_1066 : mj_At 103 1066 (.iadd) 1067 [] (.null) := ⟨1, (congrArg (fun z => mj_at z 1066) f103).trans rfl, rfl⟩
set_option maxRecDepth 20000 in
theorem d103_1067 : mj_At 103 1067 (.iaload) 1068 [] (.null) := ⟨1, (congrArg (fun z => mj_at z 1067) f103).trans rfl, rfl⟩
set_option maxRecDepth 20000 in
theorem d103_1068 : mj_At 103 1068 (.goto (4)) 1071 [1072] (.null) := ⟨3, (congrArg (fun z => mj_at z 1068) f103).trans rfl, rfl⟩
set_option maxRecDepth 20000 in
theorem d103_1071 : mj_At 103 1071 (.iconst (-1)) 1072 [] (.int (-1)) := ⟨1, (congrArg (fun z => mj_at z 1071) f103).trans rfl, rfl⟩
set_option maxRecDepth 20000 in
theorem d103_1072 : mj_At 103 1072 (.if_icmp .eq (5)) 1075 [1077] (.null) := ⟨3, (congrArg (fun z => mj_at z 1072) f103).trans rfl, rfl⟩
set_option maxRecDepth 20000 in
theorem d103_1075 : mj_At 103 1075 (.iconst (0)) 1076 [] (.int 0) := ⟨1, (congrArg (fun z => mj_at z 1075) f103).trans rfl, rfl⟩
set_option maxRecDepth 20000 in
theorem d103_1076 : mj_At 103 1076 (.ireturn) 1077 [1] (.null) := ⟨1, (congrArg (fun z => mj_at z 1076) f103).trans rfl, rfl⟩
set_option maxRecDepth 20000 in
theorem d103_1077 : mj_At 103 1077 (.iload 15) 1079 [15] (.null) := ⟨2, (congrArg (fun z => mj_at z 1077) f103).trans rfl, rfl⟩
set_option maxRecDepth 20000 in
theorem d103_1079 : mj_At 103 1079 (.ifCond .ne (6)) 1082 [1085] (.null) := ⟨3, (congrArg (fun z => mj_at z 1079) f103).trans rfl, rfl⟩
set_option maxRecDepth 20000 in
theorem d103_1082 : mj_At 103 1082 (.goto (613)) 1085 [1695] (.null) := ⟨3, (congrArg (fun z => mj_at z 1082) f103).trans rfl, rfl⟩
set_option maxRecDepth 20000 in
theorem d103_1085 : mj_At 103 1085 (.aload_n 2) 1086 [2] (.null) := ⟨1, (congrArg (fun z => mj_at z 1085) f103).trans rfl, rfl⟩
set_option maxRecDepth 20000 in
theorem d103_1086 : mj_At 103 1086 (.bipush (6)) 1088 [] (.int 6) := ⟨2, (congrArg (fun z => mj_at z 1086) f103).trans rfl, rfl⟩
set_option maxRecDepth 20000 in
theorem d103_1088 : mj_At 103 1088 (.iload 11) 1090 [11] (.null) := ⟨2, (congrArg (fun z => mj_at z 1088) f103).trans rfl, rfl⟩
set_option maxRecDepth 20000 in
theorem d103_1090 : mj_At 103 1090 (.iadd) 1091 [] (.null) := ⟨1, (congrArg (fun z => mj_at z 1090) f103).trans rfl, rfl⟩
set_option maxRecDepth 20000 in
theorem d103_1091 : mj_At 103 1091 (.iaload) 1092 [] (.null) := ⟨1, (congrArg (fun z => mj_at z 1091) f103).trans rfl, rfl⟩
set_option maxRecDepth 20000 in
theorem d103_1092 : mj_At 103 1092 (.aload 14) 1094 [14] (.null) := ⟨2, (congrArg (fun z => mj_at z 1092) f103).trans rfl, rfl⟩
set_option maxRecDepth 20000 in
theorem d103_1094 : mj_At 103 1094 (.invokestatic 20) 1097 [0, 97, 2, 374, 375, 17] (.null) := ⟨3, (congrArg (fun z => mj_at z 1094) f103).trans rfl, rfl⟩
set_option maxRecDepth 20000 in
theorem d103_1097 : mj_At 103 1097 (.istore 17) 1099 [17] (.null) := ⟨2, (congrArg (fun z => mj_at z 1097) f103).trans rfl, rfl⟩
set_option maxRecDepth 20000 in
theorem d103_1099 : mj_At 103 1099 (.aload_n 2) 1100 [2] (.null) := ⟨1, (congrArg (fun z => mj_at z 1099) f103).trans rfl, rfl⟩
set_option maxRecDepth 20000 in
theorem d103_1100 : mj_At 103 1100 (.bipush (9)) 1102 [] (.int 9) := ⟨2, (congrArg (fun z => mj_at z 1100) f103).trans rfl, rfl⟩
set_option maxRecDepth 20000 in
theorem d103_1102 : mj_At 103 1102 (.iload 11) 1104 [11] (.null) := ⟨2, (congrArg (fun z => mj_at z 1102) f103).trans rfl, rfl⟩
set_option maxRecDepth 20000 in
theorem d103_1104 : mj_At 103 1104 (.iadd) 1105 [] (.null) := ⟨1, (congrArg (fun z => mj_at z 1104) f103).trans rfl, rfl⟩
set_option maxRecDepth 20000 in
theorem d103_1105 : mj_At 103 1105 (.iaload) 1106 [] (.null) := ⟨1, (congrArg (fun z => mj_at z 1105) f103).trans rfl, rfl⟩
set_option maxRecDepth 20000 in
theorem d103_1106 : mj_At 103 1106 (.iload 11) 1108 [11] (.null) := ⟨2, (congrArg (fun z => mj_at z 1106) f103).trans rfl, rfl⟩
set_option maxRecDepth 20000 in
theorem d103_1108 : mj_At 103 1108 (.if_icmp .ne (29)) 1111 [1137] (.null) := ⟨3, (congrArg (fun z => mj_at z 1108) f103).trans rfl, rfl⟩
set_option maxRecDepth 20000 in
theorem d103_1111 : mj_At 103 1111 (.aload_n 2) 1112 [2] (.null) := ⟨1, (congrArg (fun z => mj_at z 1111) f103).trans rfl, rfl⟩
set_option maxRecDepth 20000 in
theorem d103_1112 : mj_At 103 1112 (.bipush (13)) 1114 [] (.int 13) := ⟨2, (congrArg (fun z => mj_at z 1112) f103).trans rfl, rfl⟩
set_option maxRecDepth 20000 in
theorem d103_1114 : mj_At 103 1114 (.iload 11) 1116 [11] (.null) := ⟨2, (congrArg (fun z => mj_at z 1114) f103).trans rfl, rfl⟩
set_option maxRecDepth 20000 in
theorem d103_1116 : mj_At 103 1116 (.iadd) 1117 [] (.null) := ⟨1, (congrArg (fun z => mj_at z 1116) f103).trans rfl, rfl⟩
set_option maxRecDepth 20000 in
theorem d103_1117 : mj_At 103 1117 (.iaload) 1118 [] (.null) := ⟨1, (congrArg (fun z => mj_at z 1117) f103).trans rfl, rfl⟩
set_option maxRecDepth 20000 in
theorem d103_1118 : mj_At 103 1118 (.iconst (1)) 1119 [] (.int 1) := ⟨1, (congrArg (fun z => mj_at z 1118) f103).trans rfl, rfl⟩
set_option maxRecDepth 20000 in
theorem d103_1119 : mj_At 103 1119 (.iload 12) 1121 [12] (.null) := ⟨2, (congrArg (fun z => mj_at z 1119) f103).trans rfl, rfl⟩
set_option maxRecDepth 20000 in
theorem d103_1121 : mj_At 103 1121 (.ishl) 1122 [] (.null) := ⟨1, (congrArg (fun z => mj_at z 1121) f103).trans rfl, rfl⟩
set_option maxRecDepth 20000 in
theorem d103_1122 : mj_At 103 1122 (.iand) 1123 [] (.null) := ⟨1, (congrArg (fun z => mj_at z 1122) f103).trans rfl, rfl⟩
set_option maxRecDepth 20000 in
theorem d103_1123 : mj_At 103 1123 (.iload 17) 1125 [17] (.null) := ⟨2, (congrArg (fun z => mj_at z 1123) f103).trans rfl, rfl⟩
set_option maxRecDepth 20000 in
theorem d103_1125 : mj_At 103 1125 (.iconst (1)) 1126 [] (.int 1) := ⟨1, (congrArg (fun z => mj_at z 1125) f103).trans rfl, rfl⟩
set_option maxRecDepth 20000 in
theorem d103_1126 : mj_At 103 1126 (.iload 12) 1128 [12] (.null) := ⟨2, (congrArg (fun z => mj_at z 1126) f103).trans rfl, rfl⟩
set_option maxRecDepth 20000 in
theorem d103_1128 : mj_At 103 1128 (.ishl) 1129 [] (.null) := ⟨1, (congrArg (fun z => mj_at z 1128) f103).trans rfl, rfl⟩
set_option maxRecDepth 20000 in
theorem d103_1129 : mj_At 103 1129 (.iand) 1130 [] (.null) := ⟨1, (congrArg (fun z => mj_at z 1129) f103).trans rfl, rfl⟩
set_option maxRecDepth 20000 in
theorem d103_1130 : mj_At 103 1130 (.if_icmp .ne (7)) 1133 [1137] (.null) := ⟨3, (congrArg (fun z => mj_at z 1130) f103).trans rfl, rfl⟩
set_option maxRecDepth 20000 in
theorem d103_1133 : mj_At 103 1133 (.iconst (1)) 1134 [] (.int 1) := ⟨1, (congrArg (fun z => mj_at z 1133) f103).trans rfl, rfl⟩
set_option maxRecDepth 20000 in
theorem d103_1134 : mj_At 103 1134 (.goto (4)) 1137 [1138] (.null) := ⟨3, (congrArg (fun z => mj_at z 1134) f103).trans rfl, rfl⟩
set_option maxRecDepth 20000 in
theorem d103_1137 : mj_At 103 1137 (.iconst (0)) 1138 [] (.int 0) := ⟨1, (congrArg (fun z => mj_at z 1137) f103).trans rfl, rfl⟩
set_option maxRecDepth 20000 in
theorem d103_1138 : mj_At 103 1138 (.istore 18) 1140 [18] (.null) := ⟨2, (congrArg (fun z => mj_at z 1138) f103).trans rfl, rfl⟩
set_option maxRecDepth 20000 in
theorem d103_1140 : mj_At 103 1140 (.aload_n 2) 1141 [2] (.null) := ⟨1, (congrArg (fun z => mj_at z 1140) f103).trans rfl, rfl⟩
set_option maxRecDepth 20000 in
theorem d103_1141 : mj_At 103 1141 (.iconst (2)) 1142 [] (.int 2) := ⟨1, (congrArg (fun z => mj_at z 1141) f103).trans rfl, rfl⟩
set_option maxRecDepth 20000 in
theorem d103_1142 : mj_At 103 1142 (.dup2) 1143 [] (.null) := ⟨1, (congrArg (fun z => mj_at z 1142) f103).trans rfl, rfl⟩
set_option maxRecDepth 20000 in
theorem d103_1143 : mj_At 103 1143 (.iaload) 1144 [] (.null) := ⟨1, (congrArg (fun z => mj_at z 1143) f103).trans rfl, rfl⟩
set_option maxRecDepth 20000 in
theorem d103_1144 : mj_At 103 1144 (.iload 18) 1146 [18] (.null) := ⟨2, (congrArg (fun z => mj_at z 1144) f103).trans rfl, rfl⟩
set_option maxRecDepth 20000 in
theorem d103_1146 : mj_At 103 1146 (.ifCond .eq (7)) 1149 [1153] (.null) := ⟨3, (congrArg (fun z => mj_at z 1146) f103).trans rfl, rfl⟩
set_option maxRecDepth 20000 in
theorem d103_1149 : mj_At 103 1149 (.iconst (1)) 1150 [] (.int 1) := ⟨1, (congrArg (fun z => mj_at z 1149) f103).trans rfl, rfl⟩
set_option maxRecDepth 20000 in
theorem d103_1150 : mj_At 103 1150 (.goto (4)) 1153 [1154] (.null) := ⟨3, (congrArg (fun z => mj_at z 1150) f103).trans rfl, rfl⟩
set_option maxRecDepth 20000 in
theorem d103_1153 : mj_At 103 1153 (.iconst (0)) 1154 [] (.int 0) := ⟨1, (congrArg (fun z => mj_at z 1153) f103).trans rfl, rfl⟩
set_option maxRecDepth 20000 in
theorem d103_1154 : mj_At 103 1154 (.iadd) 1155 [] (.null) := ⟨1, (congrArg (fun z => mj_at z 1154) f103).trans rfl, rfl⟩
set_option maxRecDepth 20000 in
theorem d103_1155 : mj_At 103 1155 (.iastore) 1156 [] (.null) := ⟨1, (congrArg (fun z => mj_at z 1155) f103).trans rfl, rfl⟩
set_option maxRecDepth 20000 in
theorem d103_1156 : mj_At 103 1156 (.aload_n 2) 1157 [2] (.null) := ⟨1, (congrArg (fun z => mj_at z 1156) f103).trans rfl, rfl⟩
set_option maxRecDepth 20000 in
theorem d103_1157 : mj_At 103 1157 (.iconst (3)) 1158 [] (.int 3) := ⟨1, (congrArg (fun z => mj_at z 1157) f103).trans rfl, rfl⟩
set_option maxRecDepth 20000 in
theorem d103_1158 : mj_At 103 1158 (.dup2) 1159 [] (.null) := ⟨1, (congrArg (fun z => mj_at z 1158) f103).trans rfl, rfl⟩
set_option maxRecDepth 20000 in
theorem d103_1159 : mj_At 103 1159 (.iaload) 1160 [] (.null) := ⟨1, (congrArg (fun z => mj_at z 1159) f103).trans rfl, rfl⟩
set_option maxRecDepth 20000 in
theorem d103_1160 : mj_At 103 1160 (.iload 18) 1162 [18] (.null) := ⟨2, (congrArg (fun z => mj_at z 1160) f103).trans rfl, rfl⟩
set_option maxRecDepth 20000 in
theorem d103_1162 : mj_At 103 1162 (.ifCond .eq (7)) 1165 [1169] (.null) := ⟨3, (congrArg (fun z => mj_at z 1162) f103).trans rfl, rfl⟩
set_option maxRecDepth 20000 in
theorem d103_1165 : mj_At 103 1165 (.iconst (0)) 1166 [] (.int 0) := ⟨1, (congrArg (fun z => mj_at z 1165) f103).trans rfl, rfl⟩
set_option maxRecDepth 20000 in
theorem d103_1166 : mj_At 103 1166 (.goto (4)) 1169 [1170] (.null) := ⟨3, (congrArg (fun z => mj_at z 1166) f103).trans rfl, rfl⟩
set_option maxRecDepth 20000 in
theorem d103_1169 : mj_At 103 1169 (.iconst (1)) 1170 [] (.int 1) := ⟨1, (congrArg (fun z => mj_at z 1169) f103).trans rfl, rfl⟩
set_option maxRecDepth 20000 in
theorem d103_1170 : mj_At 103 1170 (.iadd) 1171 [] (.null) := ⟨1, (congrArg (fun z => mj_at z 1170) f103).trans rfl, rfl⟩
set_option maxRecDepth 20000 in
theorem d103_1171 : mj_At 103 1171 (.iastore) 1172 [] (.null) := ⟨1, (congrArg (fun z => mj_at z 1171) f103).trans rfl, rfl⟩
set_option maxRecDepth 20000 in
theorem d103_1172 : mj_At 103 1172 (.aload_n 2) 1173 [2] (.null) := ⟨1, (congrArg (fun z => mj_at z 1172) f103).trans rfl, rfl⟩
set_option maxRecDepth 20000 in
theorem d103_1173 : mj_At 103 1173 (.iconst (4)) 1174 [] (.int 4) := ⟨1, (congrArg (fun z => mj_at z 1173) f103).trans rfl, rfl⟩
set_option maxRecDepth 20000 in
theorem d103_1174 : mj_At 103 1174 (.dup2) 1175 [] (.null) := ⟨1, (congrArg (fun z => mj_at z 1174) f103).trans rfl, rfl⟩
set_option maxRecDepth 20000 in
theorem d103_1175 : mj_At 103 1175 (.iaload) 1176 [] (.null) := ⟨1, (congrArg (fun z => mj_at z 1175) f103).trans rfl, rfl⟩
set_option maxRecDepth 20000 in
theorem d103_1176 : mj_At 103 1176 (.iload 18) 1178 [18] (.null) := ⟨2, (congrArg (fun z => mj_at z 1176) f103).trans rfl, rfl⟩
set_option maxRecDepth 20000 in
theorem d103_1178 : mj_At 103 1178 (.ifCond .eq (7)) 1181 [1185] (.null) := ⟨3, (congrArg (fun z => mj_at z 1178) f103).trans rfl, rfl⟩
set_option maxRecDepth 20000 in
theorem d103_1181 : mj_At 103 1181 (.iconst (1)) 1182 [] (.int 1) := ⟨1, (congrArg (fun z => mj_at z 1181) f103).trans rfl, rfl⟩
set_option maxRecDepth 20000 in
theorem d103_1182 : mj_At 103 1182 (.goto (4)) 1185 [1186] (.null) := ⟨3, (congrArg (fun z => mj_at z 1182) f103).trans rfl, rfl⟩
set_option maxRecDepth 20000 in
theorem d103_1185 : mj_At 103 1185 (.iconst (2)) 1186 [] (.int 2) := ⟨1, (congrArg (fun z => mj_at z 1185) f103).trans rfl, rfl⟩
set_option maxRecDepth 20000 in
theorem d103_1186 : mj_At 103 1186 (.iadd) 1187 [] (.null) := ⟨1, (congrArg (fun z => mj_at z 1186) f103).trans rfl, rfl⟩
set_option maxRecDepth 20000 in
theorem d103_1187 : mj_At 103 1187 (.iastore) 1188 [] (.null) := ⟨1, (congrArg (fun z => mj_at z 1187) f103).trans rfl, rfl⟩
set_option maxRecDepth 20000 in
theorem d103_1188 : mj_At 103 1188 (.aload_n 2) 1189 [2] (.null) := ⟨1, (congrArg (fun z => mj_at z 1188) f103).trans rfl, rfl⟩
set_option maxRecDepth 20000 in
theorem d103_1189 : mj_At 103 1189 (.bipush (9)) 1191 [] (.int 9) := ⟨2, (congrArg (fun z => mj_at z 1189) f103).trans rfl, rfl⟩
set_option maxRecDepth 20000 in
theorem d103_1191 : mj_At 103 1191 (.iload 11) 1193 [11] (.null) := ⟨2, (congrArg (fun z => mj_at z 1191) f103).trans rfl, rfl⟩
set_option maxRecDepth 20000 in
theorem d103_1193 : mj_At 103 1193 (.iadd) 1194 [] (.null) := ⟨1, (congrArg (fun z => mj_at z 1193) f103).trans rfl, rfl⟩
set_option maxRecDepth 20000 in
theorem d103_1194 : mj_At 103 1194 (.iload 11) 1196 [11] (.null) := ⟨2, (congrArg (fun z => mj_at z 1194) f103).trans rfl, rfl⟩
set_option maxRecDepth 20000 in
theorem d103_1196 : mj_At 103 1196 (.iastore) 1197 [] (.null) := ⟨1, (congrArg (fun z => mj_at z 1196) f103).trans rfl, rfl⟩
set_option maxRecDepth 20000 in
theorem d103_1197 : mj_At 103 1197 (.aload_n 2) 1198 [2] (.null) := ⟨1, (congrArg (fun z => mj_at z 1197) f103).trans rfl, rfl⟩
set_option maxRecDepth 20000 in
theorem d103_1198 : mj_At 103 1198 (.bipush (13)) 1200 [] (.int 13) := ⟨2, (congrArg (fun z => mj_at z 1198) f103).trans rfl, rfl⟩
set_option maxRecDepth 20000 in
theorem d103_1200 : mj_At 103 1200 (.iload 11) 1202 [11] (.null) := ⟨2, (congrArg (fun z => mj_at z 1200) f103).trans rfl, rfl⟩
set_option maxRecDepth 20000 in
theorem d103_1202 : mj_At 103 1202 (.iadd) 1203 [] (.null) := ⟨1, (congrArg (fun z => mj_at z 1202) f103).trans rfl, rfl⟩
set_option maxRecDepth 20000 in
theorem d103_1203 : mj_At 103 1203 (.iload 18) 1205 [18] (.null) := ⟨2, (congrArg (fun z => mj_at z 1203) f103).trans rfl, rfl⟩
set_option maxRecDepth 20000 in
theorem d103_1205 : mj_At 103 1205 (.ifCond .eq (13)) 1208 [1218] (.null) := ⟨3, (congrArg (fun z => mj_at z 1205) f103).trans rfl, rfl⟩
set_option maxRecDepth 20000 in
theorem d103_1208 : mj_At 103 1208 (.aload_n 2) 1209 [2] (.null) := ⟨1, (congrArg (fun z => mj_at z 1208) f103).trans rfl, rfl⟩
set_option maxRecDepth 20000 in
theorem d103_1209 : mj_At 103 1209 (.bipush (13)) 1211 [] (.int 13) := ⟨2, (congrArg (fun z => mj_at z 1209) f103).trans rfl, rfl⟩
set_option maxRecDepth 20000 in
theorem d103_1211 : mj_At 103 1211 (.iload 11) 1213 [11] (.null) := ⟨2, (congrArg (fun z => mj_at z 1211) f103).trans rfl, rfl⟩
set_option maxRecDepth 20000 in
theorem d103_1213 : mj_At 103 1213 (.iadd) 1214 [] (.null) := ⟨1, (congrArg (fun z => mj_at z 1213) f103).trans rfl, rfl⟩
set_option maxRecDepth 20000 in
theorem d103_1214 : mj_At 103 1214 (.iaload) 1215 [] (.null) := ⟨1, (congrArg (fun z => mj_at z 1214) f103).trans rfl, rfl⟩
set_option maxRecDepth 20000 in
theorem d103_1215 : mj_At 103 1215 (.goto (5)) 1218 [1220] (.null) := ⟨3, (congrArg (fun z => mj_at z 1215) f103).trans rfl, rfl⟩
set_option maxRecDepth 20000 in
theorem d103_1218 : mj_At 103 1218 (.iload 17) 1220 [17] (.null) := ⟨2, (congrArg (fun z => mj_at z 1218) f103).trans rfl, rfl⟩
set_option maxRecDepth 20000 in
theorem d103_1220 : mj_At 103 1220 (.iastore) 1221 [] (.null) := ⟨1, (congrArg (fun z => mj_at z 1220) f103).trans rfl, rfl⟩
set_option maxRecDepth 20000 in
theorem d103_1221 : mj_At 103 1221 (.goto (455)) 1224 [1676] (.null) := ⟨3, (congrArg (fun z => mj_at z 1221) f103).trans rfl, rfl⟩
set_option maxRecDepth 20000 in
theorem d103_1224 : mj_At 103 1224 (.iload 10) 1226 [10] (.null) := ⟨2, (congrArg (fun z => mj_at z 1224) f103).trans rfl, rfl⟩
set_option maxRecDepth 20000 in
theorem d103_1226 : mj_At 103 1226 (.bipush (16)) 1228 [] (.int 16) := ⟨2, (congrArg (fun z => mj_at z 1226) f103).trans rfl, rfl⟩
set_option maxRecDepth 20000 in
theorem d103_1228 : mj_At 103 1228 (.if_icmp .ne (53)) 1231 [1281] (.null) := ⟨3, (congrArg (fun z => mj_at z 1228) f103).trans rfl, rfl⟩
set_option maxRecDepth 20000 in
theorem d103_1231 : mj_At 103 1231 (.aload_n 1) 1232 [1] (.null) := ⟨1, (congrArg (fun z => mj_at z 1231) f103).trans rfl, rfl⟩
set_option maxRecDepth 20000 in
theorem d103_1232 : mj_At 103 1232 (.iload 11) 1234 [11] (.null) := ⟨2, (congrArg (fun z => mj_at z 1232) f103).trans rfl, rfl⟩
set_option maxRecDepth 20000 in
theorem d103_1234 : mj_At 103 1234 (.invokevirtual 107) 1237 [1, 32, 2, 3, 251, 252, 253, 18] (.null) := ⟨3, (congrArg (fun z => mj_at z 1234) f103).trans rfl, rfl⟩
set_option maxRecDepth 20000 in
theorem d103_1237 : mj_At 103 1237 (.iload 15) 1239 [15] (.null) := ⟨2, (congrArg (fun z => mj_at z 1237) f103).trans rfl, rfl⟩
set_option maxRecDepth 20000 in
theorem d103_1239 : mj_At 103 1239 (.ifCond .eq (13)) 1242 [1252] (.null) := ⟨3, (congrArg (fun z => mj_at z 1239) f103).trans rfl, rfl⟩
set_option maxRecDepth 20000 in
theorem d103_1242 : mj_At 103 1242 (.aload_n 2) 1243 [2] (.null) := ⟨1, (congrArg (fun z => mj_at z 1242) f103).trans rfl, rfl⟩
set_option maxRecDepth 20000 in
theorem d103_1243 : mj_At 103 1243 (.bipush (6)) 1245 [] (.int 6) := ⟨2, (congrArg (fun z => mj_at z 1243) f103).trans rfl, rfl⟩
set_option maxRecDepth 20000 in
theorem d103_1245 : mj_At 103 1245 (.iload 11) 1247 [11] (.null) := ⟨2, (congrArg (fun z => mj_at z 1245) f103).trans rfl, rfl⟩
set_option maxRecDepth 20000 in
theorem d103_1247 : mj_At 103 1247 (.iadd) 1248 [] (.null) := ⟨1, (congrArg (fun z => mj_at z 1247) f103).trans rfl, rfl⟩
set_option maxRecDepth 20000 in
theorem d103_1248 : mj_At 103 1248 (.iaload) 1249 [] (.null) := ⟨1, (congrArg (fun z => mj_at z 1248) f103).trans rfl, rfl⟩
set_option maxRecDepth 20000 in
theorem d103_1249 : mj_At 103 1249 (.goto (4)) 1252 [1253] (.null) := ⟨3, (congrArg (fun z => mj_at z 1249) f103).trans rfl, rfl⟩
set_option maxRecDepth 20000 in
theorem d103_1252 : mj_At 103 1252 (.iconst (-1)) 1253 [] (.int (-1)) := ⟨1, (congrArg (fun z => mj_at z 1252) f103).trans rfl, rfl⟩
set_option maxRecDepth 20000 in
theorem d103_1253 : mj_At 103 1253 (.if_icmp .eq (5)) 1256 [1258] (.null) := ⟨3, (congrArg (fun z => mj_at z 1253) f103).trans rfl, rfl⟩
set_option maxRecDepth 20000 in
theorem d103_1256 : mj_At 103 1256 (.iconst (0)) 1257 [] (.int 0) := ⟨1, (congrArg (fun z => mj_at z 1256) f103).trans rfl, rfl⟩
set_option maxRecDepth 20000 in
theorem d103_1257 : mj_At 103 1257 (.ireturn) 1258 [1] (.null) := ⟨1, (congrArg (fun z => mj_at z 1257) f103).trans rfl, rfl⟩
set_option maxRecDepth 20000 in
theorem d103_1258 : mj_At 103 1258 (.iload 15) 1260 [15] (.null) := ⟨2, (congrArg (fun z => mj_at z 1258) f103).trans rfl, rfl⟩
set_option maxRecDepth 20000 in
theorem d103_1260 : mj_At 103 1260 (.ifCond .eq (416)) 1263 [1676] (.null) := ⟨3, (congrArg (fun z => mj_at z 1260) f103).trans rfl, rfl⟩
set_option maxRecDepth 20000 in
theorem d103_1263 : mj_At 103 1263 (.aload_n 2) 1264 [2] (.null) := ⟨1, (congrArg (fun z => mj_at z 1263) f103).trans rfl, rfl⟩
set_option maxRecDepth 20000 in
theorem d103_1264 : mj_At 103 1264 (.bipush (6)) 1266 [] (.int 6) := ⟨2, (congrArg (fun z => mj_at z 1264) f103).trans rfl, rfl⟩
set_option maxRecDepth 20000 in
theorem d103_1266 : mj_At 103 1266 (.iload 11) 1268 [11] (.null) := ⟨2, (congrArg (fun z => mj_at z 1266) f103).trans rfl, rfl⟩
set_option maxRecDepth 20000 in
theorem d103_1268 : mj_At 103 1268 (.iadd) 1269 [] (.null) := ⟨1, (congrArg (fun z => mj_at z 1268) f103).trans rfl, rfl⟩
set_option maxRecDepth 20000 in
theorem d103_1269 : mj_At 103 1269 (.aload_n 2) 1270 [2] (.null) := ⟨1, (congrArg (fun z => mj_at z 1269) f103).trans rfl, rfl⟩
set_option maxRecDepth 20000 in
theorem d103_1270 : mj_At 103 1270 (.iconst (0)) 1271 [] (.int 0) := ⟨1, (congrArg (fun z => mj_at z 1270) f103).trans rfl, rfl⟩
set_option maxRecDepth 20000 in
theorem d103_1271 : mj_At 103 1271 (.iaload) 1272 [] (.null) := ⟨1, (congrArg (fun z => mj_at z 1271) f103).trans rfl, rfl⟩
set_option maxRecDepth 20000 in
theorem d103_1272 : mj_At 103 1272 (.aload 14) 1274 [14] (.null) := ⟨2, (congrArg (fun z => mj_at z 1272) f103).trans rfl, rfl⟩
set_option maxRecDepth 20000 in
theorem d103_1274 : mj_At 103 1274 (.invokestatic 39) 1277 [0, 100, 2, 386, 387, 17] (.null) := ⟨3, (congrArg (fun z => mj_at z 1274) f103).trans rfl, rfl⟩
set_option maxRecDepth 20000 in
theorem d103_1277 : mj_At 103 1277 (.iastore) 1278 [] (.null) := ⟨1, (congrArg (fun z => mj_at z 1277) f103).trans rfl, rfl⟩
set_option maxRecDepth 20000 in
theorem d103_1278 : mj_At 103 1278 (.goto (398)) 1281 [1676] (.null) := ⟨3, (congrArg (fun z => mj_at z 1278) f103).trans rfl, rfl⟩
set_option maxRecDepth 20000 in
theorem d103_1281 : mj_At 103 1281 (.iload 10) 1283 [10] (.null) := ⟨2, (congrArg (fun z => mj_at z 1281) f103).trans rfl, rfl⟩
set_option maxRecDepth 20000 in
theorem d103_1283 : mj_At 103 1283 (.bipush (17)) 1285 [] (.int 17) := ⟨2, (congrArg (fun z => mj_at z 1283) f103).trans rfl, rfl⟩
set_option maxRecDepth 20000 in
theorem d103_1285 : mj_At 103 1285 (.if_icmp .ne (72)) 1288 [1357] (.null) := ⟨3, (congrArg (fun z => mj_at z 1285) f103).trans rfl, rfl⟩
set_option maxRecDepth 20000 in
theorem d103_1288 : mj_At 103 1288 (.iconst (0)) 1289 [] (.int 0) := ⟨1, (congrArg (fun z => mj_at z 1288) f103).trans rfl, rfl⟩
set_option maxRecDepth 20000 in
theorem d103_1289 : mj_At 103 1289 (.istore 17) 1291 [17] (.null) := ⟨2, (congrArg (fun z => mj_at z 1289) f103).trans rfl, rfl⟩
set_option maxRecDepth 20000 in
theorem d103_1291 : mj_At 103 1291 (.iload 17) 1293 [17] (.null) := ⟨2, (congrArg (fun z => mj_at z 1291) f103).trans rfl, rfl⟩
set_option maxRecDepth 20000 in
theorem d103_1293 : mj_At 103 1293 (.iconst (3)) 1294 [] (.int 3) := ⟨1, (congrArg (fun z => mj_at z 1293) f103).trans rfl, rfl⟩
set_option maxRecDepth 20000 in
theorem d103_1294 : mj_At 103 1294 (.if_icmp .ge (42)) 1297 [1336] (.null) := ⟨3, (congrArg (fun z => mj_at z 1294) f103).trans rfl, rfl⟩
set_option maxRecDepth 20000 in
theorem d103_1297 : mj_At 103 1297 (.aload_n 2) 1298 [2] (.null) := ⟨1, (congrArg (fun z => mj_at z 1297) f103).trans rfl, rfl⟩
set_option maxRecDepth 20000 in
theorem d103_1298 : mj_At 103 1298 (.bipush (6)) 1300 [] (.int 6) := ⟨2, (congrArg (fun z => mj_at z 1298) f103).trans rfl, rfl⟩
set_option maxRecDepth 20000 in
theorem d103_1300 : mj_At 103 1300 (.iload 17) 1302 [17] (.null) := ⟨2, (congrArg (fun z => mj_at z 1300) f103).trans rfl, rfl⟩
set_option maxRecDepth 20000 in
theorem d103_1302 : mj_At 103 1302 (.iadd) 1303 [] (.null) := ⟨1, (congrArg (fun z => mj_at z 1302) f103).trans rfl, rfl⟩
set_option maxRecDepth 20000 in
theorem d103_1303 : mj_At 103 1303 (.iaload) 1304 [] (.null) := ⟨1, (congrArg (fun z => mj_at z 1303) f103).trans rfl, rfl⟩
set_option maxRecDepth 20000 in
theorem d103_1304 : mj_At 103 1304 (.ifCond .lt (26)) 1307 [1330] (.null) := ⟨3, (congrArg (fun z => mj_at z 1304) f103).trans rfl, rfl⟩
set_option maxRecDepth 20000 in
theorem d103_1307 : mj_At 103 1307 (.aload_n 2) 1308 [2] (.null) := ⟨1, (congrArg (fun z => mj_at z 1307) f103).trans rfl, rfl⟩
set_option maxRecDepth 20000 in
theorem d103_1308 : mj_At 103 1308 (.bipush (6)) 1310 [] (.int 6) := ⟨2, (congrArg (fun z => mj_at z 1308) f103).trans rfl, rfl⟩
set_option maxRecDepth 20000 in
theorem d103_1310 : mj_At 103 1310 (.iload 17) 1312 [17] (.null) := ⟨2, (congrArg (fun z => mj_at z 1310) f103).trans rfl, rfl⟩
set_option maxRecDepth 20000 in
theorem d103_1312 : mj_At 103 1312 (.iadd) 1313 [] (.null) := ⟨1, (congrArg (fun z => mj_at z 1312) f103).trans rfl, rfl⟩
set_option maxRecDepth 20000 in
theorem d103_1313 : mj_At 103 1313 (.aload_n 2) 1314 [2] (.null) := ⟨1, (congrArg (fun z => mj_at z 1313) f103).trans rfl, rfl⟩
set_option maxRecDepth 20000 in
theorem d103_1314 : mj_At 103 1314 (.iconst (0)) 1315 [] (.int 0) := ⟨1, (congrArg (fun z => mj_at z 1314) f103).trans rfl, rfl⟩
set_option maxRecDepth 20000 in
theorem d103_1315 : mj_At 103 1315 (.iaload) 1316 [] (.null) := ⟨1, (congrArg (fun z => mj_at z 1315) f103).trans rfl, rfl⟩
set_option maxRecDepth 20000 in
theorem d103_1316 : mj_At 103 1316 (.iload 17) 1318 [17] (.null) := ⟨2, (congrArg (fun z => mj_at z 1316) f103).trans rfl, rfl⟩
set_option maxRecDepth 20000 in
theorem d103_1318 : mj_At 103 1318 (.aload_n 3) 1319 [3] (.null) := ⟨1, (congrArg (fun z => mj_at z 1318) f103).trans rfl, rfl⟩
set_option maxRecDepth 20000 in
theorem d103_1319 : mj_At 103 1319 (.aload 4) 1321 [4] (.null) := ⟨2, (congrArg (fun z => mj_at z 1319) f103).trans rfl, rfl⟩
set_option maxRecDepth 20000 in
theorem d103_1321 : mj_At 103 1321 (.aload 5) 1323 [5] (.null) := ⟨2, (congrArg (fun z => mj_at z 1321) f103).trans rfl, rfl⟩
set_option maxRecDepth 20000 in
theorem d103_1323 : mj_At 103 1323 (.invokestatic 29) 1326 [0, 94, 4, 368, 369, 17] (.null) := ⟨3, (congrArg (fun z => mj_at z 1323) f103).trans rfl, rfl⟩
set_option maxRecDepth 20000 in
theorem d103_1326 : mj_At 103 1326 (.invokestatic 39) 1329 [0, 100, 2, 386, 387, 17] (.null) := ⟨3, (congrArg (fun z => mj_at z 1326) f103).trans rfl, rfl⟩
set_option maxRecDepth 20000 in
theorem d103_1329 : mj_At 103 1329 (.iastore) 1330 [] (.null) := ⟨1, (congrArg (fun z => mj_at z 1329) f103).trans rfl, rfl⟩
set_option maxRecDepth 20000 in
theorem d103_1330 : mj_At 103 1330 (.iinc 17 (1)) 1333 [17] (.int 1) := ⟨3, (congrArg (fun z => mj_at z 1330) f103).trans rfl, rfl⟩
set_option maxRecDepth 20000 in
theorem d103_1333 : mj_At 103 1333 (.goto (-42)) 1336 [1291] (.null) := ⟨3, (congrArg (fun z => mj_at z 1333) f103).trans rfl, rfl⟩
set_option maxRecDepth 20000 in
theorem d103_1336 : mj_At 103 1336 (.aload_n 1) 1337 [1] (.null) := ⟨1, (congrArg (fun z => mj_at z 1336) f103).trans rfl, rfl⟩
set_option maxRecDepth 20000 in
theorem d103_1337 : mj_At 103 1337 (.invokevirtual 110) 1340 [1, 33, 1, 3, 255, 256, 257, 18] (.null) := ⟨3, (congrArg (fun z => mj_at z 1337) f103).trans rfl, rfl⟩
set_option maxRecDepth 20000 in
theorem d103_1340 : mj_At 103 1340 (.iload 16) 1342 [16] (.null) := ⟨2, (congrArg (fun z => mj_at z 1340) f103).trans rfl, rfl⟩
set_option maxRecDepth 20000 in
theorem d103_1342 : mj_At 103 1342 (.aload_n 2) 1343 [2] (.null) := ⟨1, (congrArg (fun z => mj_at z 1342) f103).trans rfl, rfl⟩
set_option maxRecDepth 20000 in
theorem d103_1343 : mj_At 103 1343 (.aload_n 3) 1344 [3] (.null) := ⟨1, (congrArg (fun z => mj_at z 1343) f103).trans rfl, rfl⟩
set_option maxRecDepth 20000 in
theorem d103_1344 : mj_At 103 1344 (.aload 4) 1346 [4] (.null) := ⟨2, (congrArg (fun z => mj_at z 1344) f103).trans rfl, rfl⟩
set_option maxRecDepth 20000 in
theorem d103_1346 : mj_At 103 1346 (.aload 5) 1348 [5] (.null) := ⟨2, (congrArg (fun z => mj_at z 1346) f103).trans rfl, rfl⟩
set_option maxRecDepth 20000 in
theorem d103_1348 : mj_At 103 1348 (.invokestatic 56) 1351 [0, 101, 4, 389, 390, 17] (.null) := ⟨3, (congrArg (fun z => mj_at z 1348) f103).trans rfl, rfl⟩
set_option maxRecDepth 20000 in
theorem d103_1351 : mj_At 103 1351 (.isub) 1352 [] (.null) := ⟨1, (congrArg (fun z => mj_at z 1351) f103).trans rfl, rfl⟩
set_option maxRecDepth 20000 in
theorem d103_1352 : mj_At 103 1352 (.if_icmp .eq (324)) 1355 [1676] (.null) := ⟨3, (congrArg (fun z => mj_at z 1352) f103).trans rfl, rfl⟩
set_option maxRecDepth 20000 in
theorem d103_1355 : mj_At 103 1355 (.iconst (0)) 1356 [] (.int 0) := ⟨1, (congrArg (fun z => mj_at z 1355) f103).trans rfl, rfl⟩
set_option maxRecDepth 20000 in
theorem d103_1356 : mj_At 103 1356 (.ireturn) 1357 [1] (.null) := ⟨1, (congrArg (fun z => mj_at z 1356) f103).trans rfl, rfl⟩
set_option maxRecDepth 20000 in
theorem d103_1357 : mj_At 103 1357 (.iload 10) 1359 [10] (.null) := ⟨2, (congrArg (fun z => mj_at z 1357) f103).trans rfl, rfl⟩
set_option maxRecDepth 20000 in
theorem d103_1359 : mj_At 103 1359 (.bipush (18)) 1361 [] (.int 18) := ⟨2, (congrArg (fun z => mj_at z 1359) f103).trans rfl, rfl⟩
set_option maxRecDepth 20000 in
theorem d103_1361 : mj_At 103 1361 (.if_icmp .ne (266)) 1364 [1627] (.null) := ⟨3, (congrArg (fun z => mj_at z 1361) f103).trans rfl, rfl⟩
set_option maxRecDepth 20000 in
theorem d103_1364 : mj_At 103 1364 (.iload 9) 1366 [9] (.null) := ⟨2, (congrArg (fun z => mj_at z 1364) f103).trans rfl, rfl⟩
set_option maxRecDepth 20000 in
theorem d103_1366 : mj_At 103 1366 (.iconst (4)) 1367 [] (.int 4) := ⟨1, (congrArg (fun z => mj_at z 1366) f103).trans rfl, rfl⟩
set_option maxRecDepth 20000 in
theorem d103_1367 : mj_At 103 1367 (.ishr) 1368 [] (.null) := ⟨1, (congrArg (fun z => mj_at z 1367) f103).trans rfl, rfl⟩
set_option maxRecDepth 20000 in
theorem d103_1368 : mj_At 103 1368 (.bipush (9)) 1370 [] (.int 9) := ⟨2, (congrArg (fun z => mj_at z 1368) f103).trans rfl, rfl⟩
set_option maxRecDepth 20000 in
theorem d103_1370 : mj_At 103 1370 (.invokestatic 60) 1373 [0, 93, 2, 364, 365, 17] (.null) := ⟨3, (congrArg (fun z => mj_at z 1370) f103).trans rfl, rfl⟩
set_option maxRecDepth 20000 in
theorem d103_1373 : mj_At 103 1373 (.istore 17) 1375 [17] (.null) := ⟨2, (congrArg (fun z => mj_at z 1373) f103).trans rfl, rfl⟩
set_option maxRecDepth 20000 in
theorem d103_1375 : mj_At 103 1375 (.aload_n 2) 1376 [2] (.null) := ⟨1, (congrArg (fun z => mj_at z 1375) f103).trans rfl, rfl⟩
set_option maxRecDepth 20000 in
theorem d103_1376 : mj_At 103 1376 (.iconst (0)) 1377 [] (.int 0) := ⟨1, (congrArg (fun z => mj_at z 1376) f103).trans rfl, rfl⟩
set_option maxRecDepth 20000 in
theorem d103_1377 : mj_At 103 1377 (.iaload) 1378 [] (.null) := ⟨1, (congrArg (fun z => mj_at z 1377) f103).trans rfl, rfl⟩
set_option maxRecDepth 20000 in
theorem d103_1378 : mj_At 103 1378 (.istore 18) 1380 [18] (.null) := ⟨2, (congrArg (fun z => mj_at z 1378) f103).trans rfl, rfl⟩
set_option maxRecDepth 20000 in
theorem d103_1380 : mj_At 103 1380 (.iconst (0)) 1381 [] (.int 0) := ⟨1, (congrArg (fun z => mj_at z 1380) f103).trans rfl, rfl⟩
set_option maxRecDepth 20000 in
theorem d103_1381 : mj_At 103 1381 (.istore 19) 1383 [19] (.null) := ⟨2, (congrArg (fun z => mj_at z 1381) f103).trans rfl, rfl⟩
set_option maxRecDepth 20000 in
theorem d103_1383 : mj_At 103 1383 (.aload_n 2) 1384 [2] (.null) := ⟨1, (congrArg (fun z => mj_at z 1383) f103).trans rfl, rfl⟩
set_option maxRecDepth 20000 in
theorem d103_1384 : mj_At 103 1384 (.bipush (6)) 1386 [] (.int 6) := ⟨2, (congrArg (fun z => mj_at z 1384) f103).trans rfl, rfl⟩
set_option maxRecDepth 20000 in
theorem d103_1386 : mj_At 103 1386 (.iaload) 1387 [] (.null) := ⟨1, (congrArg (fun z => mj_at z 1386) f103).trans rfl, rfl⟩
set_option maxRecDepth 20000 in
theorem d103_1387 : mj_At 103 1387 (.istore 20) 1389 [20] (.null) := ⟨2, (congrArg (fun z => mj_at z 1387) f103).trans rfl, rfl⟩
set_option maxRecDepth 20000 in
theorem d103_1389 : mj_At 103 1389 (.aload_n 2) 1390 [2] (.null) := ⟨1, (congrArg (fun z => mj_at z 1389) f103).trans rfl, rfl⟩
set_option maxRecDepth 20000 in
theorem d103_1390 : mj_At 103 1390 (.bipush (7)) 1392 [] (.int 7) := ⟨2, (congrArg (fun z => mj_at z 1390) f103).trans rfl, rfl⟩
set_option maxRecDepth 20000 in
theorem d103_1392 : mj_At 103 1392 (.iaload) 1393 [] (.null) := ⟨1, (congrArg (fun z => mj_at z 1392) f103).trans rfl, rfl⟩
set_option maxRecDepth 20000 in
theorem d103_1393 : mj_At 103 1393 (.istore 21) 1395 [21] (.null) := ⟨2, (congrArg (fun z => mj_at z 1393) f103).trans rfl, rfl⟩
set_option maxRecDepth 20000 in
theorem d103_1395 : mj_At 103 1395 (.aload_n 2) 1396 [2] (.null) := ⟨1, (congrArg (fun z => mj_at z 1395) f103).trans rfl, rfl⟩
set_option maxRecDepth 20000 in
theorem d103_1396 : mj_At 103 1396 (.bipush (8)) 1398 [] (.int 8) := ⟨2, (congrArg (fun z => mj_at z 1396) f103).trans rfl, rfl⟩
set_option maxRecDepth 20000 in
theorem d103_1398 : mj_At 103 1398 (.iaload) 1399 [] (.null) := ⟨1, (congrArg (fun z => mj_at z 1398) f103).trans rfl, rfl⟩
set_option maxRecDepth 20000 in
theorem d103_1399 : mj_At 103 1399 (.istore 22) 1401 [22] (.null) := ⟨2, (congrArg (fun z => mj_at z 1399) f103).trans rfl, rfl⟩
set_option maxRecDepth 20000 in
theorem d103_1401 : mj_At 103 1401 (.iconst (0)) 1402 [] (.int 0) := ⟨1, (congrArg (fun z => mj_at z 1401) f103).trans rfl, rfl⟩
set_option maxRecDepth 20000 in
theorem d103_1402 : mj_At 103 1402 (.istore 23) 1404 [23] (.null) := ⟨2, (congrArg (fun z => mj_at z 1402) f103).trans rfl, rfl⟩
set_option maxRecDepth 20000 in
theorem d103_1404 : mj_At 103 1404 (.iload 23) 1406 [23] (.null) := ⟨2, (congrArg (fun z => mj_at z 1404) f103).trans rfl, rfl⟩
set_option maxRecDepth 20000 in
theorem d103_1406 : mj_At 103 1406 (.iconst (3)) 1407 [] (.int 3) := ⟨1, (congrArg (fun z => mj_at z 1406) f103).trans rfl, rfl⟩
set_option maxRecDepth 20000 in
theorem d103_1407 : mj_At 103 1407 (.if_icmp .ge (75)) 1410 [1482] (.null) := ⟨3, (congrArg (fun z => mj_at z 1407) f103).trans rfl, rfl⟩
set_option maxRecDepth 20000 in
theorem d103_1410 : mj_At 103 1410 (.aload_n 2) 1411 [2] (.null) := ⟨1, (congrArg (fun z => mj_at z 1410) f103).trans rfl, rfl⟩
set_option maxRecDepth 20000 in
theorem d103_1411 : mj_At 103 1411 (.bipush (6)) 1413 [] (.int 6) := ⟨2, (congrArg (fun z => mj_at z 1411) f103).trans rfl, rfl⟩
set_option maxRecDepth 20000 in
theorem d103_1413 : mj_At 103 1413 (.iload 23) 1415 [23] (.null) := ⟨2, (congrArg (fun z => mj_at z 1413) f103).trans rfl, rfl⟩
set_option maxRecDepth 20000 in
theorem d103_1415 : mj_At 103 1415 (.iadd) 1416 [] (.null) := ⟨1, (congrArg (fun z => mj_at z 1415) f103).trans rfl, rfl⟩
set_option maxRecDepth 20000 in
theorem d103_1416 : mj_At 103 1416 (.iaload) 1417 [] (.null) := ⟨1, (congrArg (fun z => mj_at z 1416) f103).trans rfl, rfl⟩
set_option maxRecDepth 20000 in
theorem d103_1417 : mj_At 103 1417 (.ifCond .lt (59)) 1420 [1476] (.null) := ⟨3, (congrArg (fun z => mj_at z 1417) f103).trans rfl, rfl⟩
set_option maxRecDepth 20000 in
theorem d103_1420 : mj_At 103 1420 (.aload_n 2) 1421 [2] (.null) := ⟨1, (congrArg (fun z => mj_at z 1420) f103).trans rfl, rfl⟩
set_option maxRecDepth 20000 in
theorem d103_1421 : mj_At 103 1421 (.bipush (6)) 1423 [] (.int 6) := ⟨2, (congrArg (fun z => mj_at z 1421) f103).trans rfl, rfl⟩
set_option maxRecDepth 20000 in
theorem d103_1423 : mj_At 103 1423 (.iload 23) 1425 [23] (.null) := ⟨2, (congrArg (fun z => mj_at z 1423) f103).trans rfl, rfl⟩
set_option maxRecDepth 20000 in
theorem d103_1425 : mj_At 103 1425 (.iadd) 1426 [] (.null) := ⟨1, (congrArg (fun z => mj_at z 1425) f103).trans rfl, rfl⟩
set_option maxRecDepth 20000 in
theorem d103_1426 : mj_At 103 1426 (.iaload) 1427 [] (.null) := ⟨1, (congrArg (fun z => mj_at z 1426) f103).trans rfl, rfl⟩
set_option maxRecDepth 20000 in
theorem d103_1427 : mj_At 103 1427 (.iload 23) 1429 [23] (.null) := ⟨2, (congrArg (fun z => mj_at z 1427) f103).trans rfl, rfl⟩
set_option maxRecDepth 20000 in
theorem d103_1429 : mj_At 103 1429 (.aload_n 3) 1430 [3] (.null) := ⟨1, (congrArg (fun z => mj_at z 1429) f103).trans rfl, rfl⟩
set_option maxRecDepth 20000 in
theorem d103_1430 : mj_At 103 1430 (.aload 4) 1432 [4] (.null) := ⟨2, (congrArg (fun z => mj_at z 1430) f103).trans rfl, rfl⟩
set_option maxRecDepth 20000 in
theorem d103_1432 : mj_At 103 1432 (.aload 5) 1434 [5] (.null) := ⟨2, (congrArg (fun z => mj_at z 1432) f103).trans rfl, rfl⟩
set_option maxRecDepth 20000 in
theorem d103_1434 : mj_At 103 1434 (.invokestatic 29) 1437 [0, 94, 4, 368, 369, 17] (.null) := ⟨3, (congrArg (fun z => mj_at z 1434) f103).trans rfl, rfl⟩
set_option maxRecDepth 20000 in
theorem d103_1437 : mj_At 103 1437 (.invokestatic 20) 1440 [0, 97, 2, 374, 375, 17] (.null) := ⟨3, (congrArg (fun z => mj_at z 1437) f103).trans rfl, rfl⟩
set_option maxRecDepth 20000 in
theorem d103_1440 : mj_At 103 1440 (.invokestatic 23) 1443 [0, 98, 1, 380, 381, 17] (.null) := ⟨3, (congrArg (fun z => mj_at z 1440) f103).trans rfl, rfl⟩
set_option maxRecDepth 20000 in
theorem d103_1443 : mj_At 103 1443 (.iload 17) 1445 [17] (.null) := ⟨2, (congrArg (fun z => mj_at z 1443) f103).trans rfl, rfl⟩
set_option maxRecDepth 20000 in
theorem d103_1445 : mj_At 103 1445 (.if_icmp .gt (6)) 1448 [1451] (.null) := ⟨3, (congrArg (fun z => mj_at z 1445) f103).trans rfl, rfl⟩
set_option maxRecDepth 20000 in
theorem d103_1448 : mj_At 103 1448 (.goto (28)) 1451 [1476] (.null) := ⟨3, (congrArg (fun z => mj_at z 1448) f103).trans rfl, rfl⟩
set_option maxRecDepth 20000 in
theorem d103_1451 : mj_At 103 1451 (.aload_n 2) 1452 [2] (.null) := ⟨1, (congrArg (fun z => mj_at z 1451) f103).trans rfl, rfl⟩
set_option maxRecDepth 20000 in
theorem d103_1452 : mj_At 103 1452 (.bipush (6)) 1454 [] (.int 6) := ⟨2, (congrArg (fun z => mj_at z 1452) f103).trans rfl, rfl⟩
set_option maxRecDepth 20000 in
theorem d103_1454 : mj_At 103 1454 (.iload 23) 1456 [23] (.null) := ⟨2, (congrArg (fun z => mj_at z 1454) f103).trans rfl, rfl⟩
set_option maxRecDepth 20000 in
theorem d103_1456 : mj_At 103 1456 (.iadd) 1457 [] (.null) := ⟨1, (congrArg (fun z => mj_at z 1456) f103).trans rfl, rfl⟩
set_option maxRecDepth 20000 in
theorem d103_1457 : mj_At 103 1457 (.iload 17) 1459 [17] (.null) := ⟨2, (congrArg (fun z => mj_at z 1457) f103).trans rfl, rfl⟩
set_option maxRecDepth 20000 in
theorem d103_1459 : mj_At 103 1459 (.iload 23) 1461 [23] (.null) := ⟨2, (congrArg (fun z => mj_at z 1459) f103).trans rfl, rfl⟩
set_option maxRecDepth 20000 in
theorem d103_1461 : mj_At 103 1461 (.aload_n 3) 1462 [3] (.null) := ⟨1, (congrArg (fun z => mj_at z 1461) f103).trans rfl, rfl⟩
set_option maxRecDepth 20000 in
theorem d103_1462 : mj_At 103 1462 (.aload 4) 1464 [4] (.null) := ⟨2, (congrArg (fun z => mj_at z 1462) f103).trans rfl, rfl⟩
set_option maxRecDepth 20000 in
theorem d103_1464 : mj_At 103 1464 (.aload 5) 1466 [5] (.null) := ⟨2, (congrArg (fun z => mj_at z 1464) f103).trans rfl, rfl⟩
set_option maxRecDepth 20000 in
theorem d103_1466 : mj_At 103 1466 (.invokestatic 29) 1469 [0, 94, 4, 368, 369, 17] (.null) := ⟨3, (congrArg (fun z => mj_at z 1466) f103).trans rfl, rfl⟩
set_option maxRecDepth 20000 in
theorem d103_1469 : mj_At 103 1469 (.invokestatic 39) 1472 [0, 100, 2, 386, 387, 17] (.null) := ⟨3, (congrArg (fun z => mj_at z 1469) f103).trans rfl, rfl⟩
set_option maxRecDepth 20000 in
theorem d103_1472 : mj_At 103 1472 (.iastore) 1473 [] (.null) := ⟨1, (congrArg (fun z => mj_at z 1472) f103).trans rfl, rfl⟩
set_option maxRecDepth 20000 in
theorem d103_1473 : mj_At 103 1473 (.iinc 19 (1)) 1476 [19] (.int 1) := ⟨3, (congrArg (fun z => mj_at z 1473) f103).trans rfl, rfl⟩
set_option maxRecDepth 20000 in
theorem d103_1476 : mj_At 103 1476 (.iinc 23 (1)) 1479 [23] (.int 1) := ⟨3, (congrArg (fun z => mj_at z 1476) f103).trans rfl, rfl⟩
set_option maxRecDepth 20000 in
theorem d103_1479 : mj_At 103 1479 (.goto (-75)) 1482 [1404] (.null) := ⟨3, (congrArg (fun z => mj_at z 1479) f103).trans rfl, rfl⟩
set_option maxRecDepth 20000 in
theorem d103_1482 : mj_At 103 1482 (.aload_n 2) 1483 [2] (.null) := ⟨1, (congrArg (fun z => mj_at z 1482) f103).trans rfl, rfl⟩
set_option maxRecDepth 20000 in
theorem d103_1483 : mj_At 103 1483 (.aload_n 3) 1484 [3] (.null) := ⟨1, (congrArg (fun z => mj_at z 1483) f103).trans rfl, rfl⟩
set_option maxRecDepth 20000 in
theorem d103_1484 : mj_At 103 1484 (.aload 4) 1486 [4] (.null) := ⟨2, (congrArg (fun z => mj_at z 1484) f103).trans rfl, rfl⟩
set_option maxRecDepth 20000 in
theorem d103_1486 : mj_At 103 1486 (.aload 5) 1488 [5] (.null) := ⟨2, (congrArg (fun z => mj_at z 1486) f103).trans rfl, rfl⟩
set_option maxRecDepth 20000 in
theorem d103_1488 : mj_At 103 1488 (.invokestatic 56) 1491 [0, 101, 4, 389, 390, 17] (.null) := ⟨3, (congrArg (fun z => mj_at z 1488) f103).trans rfl, rfl⟩
set_option maxRecDepth 20000 in
theorem d103_1491 : mj_At 103 1491 (.istore 23) 1493 [23] (.null) := ⟨2, (congrArg (fun z => mj_at z 1491) f103).trans rfl, rfl⟩
set_option maxRecDepth 20000 in
theorem d103_1493 : mj_At 103 1493 (.iload 23) 1495 [23] (.null) := ⟨2, (congrArg (fun z => mj_at z 1493) f103).trans rfl, rfl⟩
set_option maxRecDepth 20000 in
theorem d103_1495 : mj_At 103 1495 (.iload 16) 1497 [16] (.null) := ⟨2, (congrArg (fun z => mj_at z 1495) f103).trans rfl, rfl⟩
set_option maxRecDepth 20000 in
theorem d103_1497 : mj_At 103 1497 (.if_icmp .le (11)) 1500 [1508] (.null) := ⟨3, (congrArg (fun z => mj_at z 1497) f103).trans rfl, rfl⟩
set_option maxRecDepth 20000 in
theorem d103_1500 : mj_At 103 1500 (.iload 23) 1502 [23] (.null) := ⟨2, (congrArg (fun z => mj_at z 1500) f103).trans rfl, rfl⟩
set_option maxRecDepth 20000 in
theorem d103_1502 : mj_At 103 1502 (.aload_n 2) 1503 [2] (.null) := ⟨1, (congrArg (fun z => mj_at z 1502) f103).trans rfl, rfl⟩
set_option maxRecDepth 20000 in
theorem d103_1503 : mj_At 103 1503 (.iconst (1)) 1504 [] (.int 1) := ⟨1, (congrArg (fun z => mj_at z 1503) f103).trans rfl, rfl⟩
set_option maxRecDepth 20000 in
theorem d103_1504 : mj_At 103 1504 (.iaload) 1505 [] (.null) := ⟨1, (congrArg (fun z => mj_at z 1504) f103).trans rfl, rfl⟩
set_option maxRecDepth 20000 in
theorem d103_1505 : mj_At 103 1505 (.if_icmp .gt (7)) 1508 [1512] (.null) := ⟨3, (congrArg (fun z => mj_at z 1505) f103).trans rfl, rfl⟩
set_option maxRecDepth 20000 in
theorem d103_1508 : mj_At 103 1508 (.iconst (1)) 1509 [] (.int 1) := ⟨1, (congrArg (fun z => mj_at z 1508) f103).trans rfl, rfl⟩
set_option maxRecDepth 20000 in
theorem d103_1509 : mj_At 103 1509 (.goto (4)) 1512 [1513] (.null) := ⟨3, (congrArg (fun z => mj_at z 1509) f103).trans rfl, rfl⟩
set_option maxRecDepth 20000 in
theorem d103_1512 : mj_At 103 1512 (.iconst (0)) 1513 [] (.int 0) := ⟨1, (congrArg (fun z => mj_at z 1512) f103).trans rfl, rfl⟩
set_option maxRecDepth 20000 in
theorem d103_1513 : mj_At 103 1513 (.istore 24) 1515 [24] (.null) := ⟨2, (congrArg (fun z => mj_at z 1513) f103).trans rfl, rfl⟩
set_option maxRecDepth 20000 in
theorem d103_1515 : mj_At 103 1515 (.aload_n 1) 1516 [1] (.null) := ⟨1, (congrArg (fun z => mj_at z 1515) f103).trans rfl, rfl⟩
set_option maxRecDepth 20000 in
theorem d103_1516 : mj_At 103 1516 (.iload 17) 1518 [17] (.null) := ⟨2, (congrArg (fun z => mj_at z 1516) f103).trans rfl, rfl⟩
set_option maxRecDepth 20000 in
theorem d103_1518 : mj_At 103 1518 (.invokevirtual 113) 1521 [1, 22, 2, 3, 145, 146, 147, 18] (.null) := ⟨3, (congrArg (fun z => mj_at z 1518) f103).trans rfl, rfl⟩
set_option maxRecDepth 20000 in
theorem d103_1521 : mj_At 103 1521 (.iload 24) 1523 [24] (.null) := ⟨2, (congrArg (fun z => mj_at z 1521) f103).trans rfl, rfl⟩
set_option maxRecDepth 20000 in
theorem d103_1523 : mj_At 103 1523 (.ifCond .eq (8)) 1526 [1531] (.null) := ⟨3, (congrArg (fun z => mj_at z 1523) f103).trans rfl, rfl⟩
set_option maxRecDepth 20000 in
theorem d103_1526 : mj_At 103 1526 (.iload 18) 1528 [18] (.null) := ⟨2, (congrArg (fun z => mj_at z 1526) f103).trans rfl, rfl⟩
set_option maxRecDepth 20000 in
theorem d103_1528 : mj_At 103 1528 (.goto (5)) 1531 [1533] (.null) := ⟨3, (congrArg (fun z => mj_at z 1528) f103).trans rfl, rfl⟩
set_option maxRecDepth 20000 in
theorem d103_1531 : mj_At 103 1531 (.bipush (-4)) 1533 [] (.int (-4)) := ⟨2, (congrArg (fun z => mj_at z 1531) f103).trans rfl, rfl⟩
set_option maxRecDepth 20000 in
theorem d103_1533 : mj_At 103 1533 (.if_icmp .eq (5)) 1536 [1538] (.null) := ⟨3, (congrArg (fun z => mj_at z 1533) f103).trans rfl, rfl⟩
set_option maxRecDepth 20000 in
theorem d103_1536 : mj_At 103 1536 (.iconst (0)) 1537 [] (.int 0) := ⟨1, (congrArg (fun z => mj_at z 1536) f103).trans rfl, rfl⟩
set_option maxRecDepth 20000 in
theorem d103_1537 : mj_At 103 1537 (.ireturn) 1538 [1] (.null) := ⟨1, (congrArg (fun z => mj_at z 1537) f103).trans rfl, rfl⟩
set_option maxRecDepth 20000 in
theorem d103_1538 : mj_At 103 1538 (.aload_n 2) 1539 [2] (.null) := ⟨1, (congrArg (fun z => mj_at z 1538) f103).trans rfl, rfl⟩
set_option maxRecDepth 20000 in
theorem d103_1539 : mj_At 103 1539 (.iconst (0)) 1540 [] (.int 0) := ⟨1, (congrArg (fun z => mj_at z 1539) f103).trans rfl, rfl⟩
set_option maxRecDepth 20000 in
theorem d103_1540 : mj_At 103 1540 (.iload 24) 1542 [24] (.null) := ⟨2, (congrArg (fun z => mj_at z 1540) f103).trans rfl, rfl⟩
set_option maxRecDepth 20000 in
theorem d103_1542 : mj_At 103 1542 (.ifCond .eq (8)) 1545 [1550] (.null) := ⟨3, (congrArg (fun z => mj_at z 1542) f103).trans rfl, rfl⟩
set_option maxRecDepth 20000 in
theorem d103_1545 : mj_At 103 1545 (.iload 17) 1547 [17] (.null) := ⟨2, (congrArg (fun z => mj_at z 1545) f103).trans rfl, rfl⟩
set_option maxRecDepth 20000 in
theorem d103_1547 : mj_At 103 1547 (.goto (5)) 1550 [1552] (.null) := ⟨3, (congrArg (fun z => mj_at z 1547) f103).trans rfl, rfl⟩
set_option maxRecDepth 20000 in
theorem d103_1550 : mj_At 103 1550 (.iload 18) 1552 [18] (.null) := ⟨2, (congrArg (fun z => mj_at z 1550) f103).trans rfl, rfl⟩
set_option maxRecDepth 20000 in
theorem d103_1552 : mj_At 103 1552 (.iastore) 1553 [] (.null) := ⟨1, (congrArg (fun z => mj_at z 1552) f103).trans rfl, rfl⟩
set_option maxRecDepth 20000 in
theorem d103_1553 : mj_At 103 1553 (.aload_n 2) 1554 [2] (.null) := ⟨1, (congrArg (fun z => mj_at z 1553) f103).trans rfl, rfl⟩
set_option maxRecDepth 20000 in
theorem d103_1554 : mj_At 103 1554 (.iconst (5)) 1555 [] (.int 5) := ⟨1, (congrArg (fun z => mj_at z 1554) f103).trans rfl, rfl⟩
set_option maxRecDepth 20000 in
theorem d103_1555 : mj_At 103 1555 (.dup2) 1556 [] (.null) := ⟨1, (congrArg (fun z => mj_at z 1555) f103).trans rfl, rfl⟩
set_option maxRecDepth 20000 in
theorem d103_1556 : mj_At 103 1556 (.iaload) 1557 [] (.null) := ⟨1, (congrArg (fun z => mj_at z 1556) f103).trans rfl, rfl⟩
set_option maxRecDepth 20000 in
theorem d103_1557 : mj_At 103 1557 (.iload 24) 1559 [24] (.null) := ⟨2, (congrArg (fun z => mj_at z 1557) f103).trans rfl, rfl⟩
set_option maxRecDepth 20000 in
theorem d103_1559 : mj_At 103 1559 (.ifCond .eq (8)) 1562 [1567] (.null) := ⟨3, (congrArg (fun z => mj_at z 1559) f103).trans rfl, rfl⟩
set_option maxRecDepth 20000 in
theorem d103_1562 : mj_At 103 1562 (.iload 19) 1564 [19] (.null) := ⟨2, (congrArg (fun z => mj_at z 1562) f103).trans rfl, rfl⟩
set_option maxRecDepth 20000 in
theorem d103_1564 : mj_At 103 1564 (.goto (4)) 1567 [1568] (.null) := ⟨3, (congrArg (fun z => mj_at z 1564) f103).trans rfl, rfl⟩
set_option maxRecDepth 20000 in
theorem d103_1567 : mj_At 103 1567 (.iconst (0)) 1568 [] (.int 0) := ⟨1, (congrArg (fun z => mj_at z 1567) f103).trans rfl, rfl⟩
set_option maxRecDepth 20000 in
theorem d103_1568 : mj_At 103 1568 (.iadd) 1569 [] (.null) := ⟨1, (congrArg (fun z => mj_at z 1568) f103).trans rfl, rfl⟩
set_option maxRecDepth 20000 in
theorem d103_1569 : mj_At 103 1569 (.iastore) 1570 [] (.null) := ⟨1, (congrArg (fun z => mj_at z 1569) f103).trans rfl, rfl⟩
set_option maxRecDepth 20000 in
theorem d103_1570 : mj_At 103 1570 (.aload_n 2) 1571 [2] (.null) := ⟨1, (congrArg (fun z => mj_at z 1570) f103).trans rfl, rfl⟩
set_option maxRecDepth 20000 in
theorem d103_1571 : mj_At 103 1571 (.bipush (6)) 1573 [] (.int 6) := ⟨2, (congrArg (fun z => mj_at z 1571) f103).trans rfl, rfl⟩
set_option maxRecDepth 20000 in
theorem d103_1573 : mj_At 103 1573 (.iload 24) 1575 [24] (.null) := ⟨2, (congrArg (fun z => mj_at z 1573) f103).trans rfl, rfl⟩
set_option maxRecDepth 20000 in
theorem d103_1575 : mj_At 103 1575 (.ifCond .eq (10)) 1578 [1585] (.null) := ⟨3, (congrArg (fun z => mj_at z 1575) f103).trans rfl, rfl⟩
set_option maxRecDepth 20000 in
theorem d103_1578 : mj_At 103 1578 (.aload_n 2) 1579 [2] (.null) := ⟨1, (congrArg (fun z => mj_at z 1578) f103).trans rfl, rfl⟩
set_option maxRecDepth 20000 in
theorem d103_1579 : mj_At 103 1579 (.bipush (6)) 1581 [] (.int 6) := ⟨2, (congrArg (fun z => mj_at z 1579) f103).trans rfl, rfl⟩
set_option maxRecDepth 20000 in
theorem d103_1581 : mj_At 103 1581 (.iaload) 1582 [] (.null) := ⟨1, (congrArg (fun z => mj_at z 1581) f103).trans rfl, rfl⟩
set_option maxRecDepth 20000 in
theorem d103_1582 : mj_At 103 1582 (.goto (5)) 1585 [1587] (.null) := ⟨3, (congrArg (fun z => mj_at z 1582) f103).trans rfl, rfl⟩
set_option maxRecDepth 20000 in
theorem d103_1585 : mj_At 103 1585 (.iload 20) 1587 [20] (.null) := ⟨2, (congrArg (fun z => mj_at z 1585) f103).trans rfl, rfl⟩
set_option maxRecDepth 20000 in
theorem d103_1587 : mj_At 103 1587 (.iastore) 1588 [] (.null) := ⟨1, (congrArg (fun z => mj_at z 1587) f103).trans rfl, rfl⟩
set_option maxRecDepth 20000 in
theorem d103_1588 : mj_At 103 1588 (.aload_n 2) 1589 [2] (.null) := ⟨1, (congrArg (fun z => mj_at z 1588) f103).trans rfl, rfl⟩
set_option maxRecDepth 20000 in
theorem d103_1589 : mj_At 103 1589 (.bipush (7)) 1591 [] (.int 7) := ⟨2, (congrArg (fun z => mj_at z 1589) f103).trans rfl, rfl⟩
set_option maxRecDepth 20000 in
theorem d103_1591 : mj_At 103 1591 (.iload 24) 1593 [24] (.null) := ⟨2, (congrArg (fun z => mj_at z 1591) f103).trans rfl, rfl⟩
set_option maxRecDepth 20000 in
theorem d103_1593 : mj_At 103 1593 (.ifCond .eq (10)) 1596 [1603] (.null) := ⟨3, (congrArg (fun z => mj_at z 1593) f103).trans rfl, rfl⟩
set_option maxRecDepth 20000 in
theorem d103_1596 : mj_At 103 1596 (.aload_n 2) 1597 [2] (.null) := ⟨1, (congrArg (fun z => mj_at z 1596) f103).trans rfl, rfl⟩
set_option maxRecDepth 20000 in
theorem d103_1597 : mj_At 103 1597 (.bipush (7)) 1599 [] (.int 7) := ⟨2, (congrArg (fun z => mj_at z 1597) f103).trans rfl, rfl⟩
set_option maxRecDepth 20000 in
theorem d103_1599 : mj_At 103 1599 (.iaload) 1600 [] (.null) := ⟨1, (congrArg (fun z => mj_at z 1599) f103).trans rfl, rfl⟩
set_option maxRecDepth 20000 in
theorem d103_1600 : mj_At 103 1600 (.goto (5)) 1603 [1605] (.null) := ⟨3, (congrArg (fun z => mj_at z 1600) f103).trans rfl, rfl⟩
set_option maxRecDepth 20000 in
theorem d103_1603 : mj_At 103 1603 (.iload 21) 1605 [21] (.null) := ⟨2, (congrArg (fun z => mj_at z 1603) f103).trans rfl, rfl⟩
set_option maxRecDepth 20000 in
theorem d103_1605 : mj_At 103 1605 (.iastore) 1606 [] (.null) := ⟨1, (congrArg (fun z => mj_at z 1605) f103).trans rfl, rfl⟩
set_option maxRecDepth 20000 in
theorem d103_1606 : mj_At 103 1606 (.aload_n 2) 1607 [2] (.null) := ⟨1, (congrArg (fun z => mj_at z 1606) f103).trans rfl, rfl⟩
set_option maxRecDepth 20000 in
theorem d103_1607 : mj_At 103 1607 (.bipush (8)) 1609 [] (.int 8) := ⟨2, (congrArg (fun z => mj_at z 1607) f103).trans rfl, rfl⟩
set_option maxRecDepth 20000 in
theorem d103_1609 : mj_At 103 1609 (.iload 24) 1611 [24] (.null) := ⟨2, (congrArg (fun z => mj_at z 1609) f103).trans rfl, rfl⟩
set_option maxRecDepth 20000 in
theorem d103_1611 : mj_At 103 1611 (.ifCond .eq (10)) 1614 [1621] (.null) := ⟨3, (congrArg (fun z => mj_at z 1611) f103).trans rfl, rfl⟩
set_option maxRecDepth 20000 in
theorem d103_1614 : mj_At 103 1614 (.aload_n 2) 1615 [2] (.null) := ⟨1, (congrArg (fun z => mj_at z 1614) f103).trans rfl, rfl⟩
set_option maxRecDepth 20000 in
theorem d103_1615 : mj_At 103 1615 (.bipush (8)) 1617 [] (.int 8) := ⟨2, (congrArg (fun z => mj_at z 1615) f103).trans rfl, rfl⟩
set_option maxRecDepth 20000 in
theorem d103_1617 : mj_At 103 1617 (.iaload) 1618 [] (.null) := ⟨1, (congrArg (fun z => mj_at z 1617) f103).trans rfl, rfl⟩
set_option maxRecDepth 20000 in
theorem d103_1618 : mj_At 103 1618 (.goto (5)) 1621 [1623] (.null) := ⟨3, (congrArg (fun z => mj_at z 1618) f103).trans rfl, rfl⟩
set_option maxRecDepth 20000 in
theorem d103_1621 : mj_At 103 1621 (.iload 22) 1623 [22] (.null) := ⟨2, (congrArg (fun z => mj_at z 1621) f103).trans rfl, rfl⟩
set_option maxRecDepth 20000 in
theorem d103_1623 : mj_At 103 1623 (.iastore) 1624 [] (.null) := ⟨1, (congrArg (fun z => mj_at z 1623) f103).trans rfl, rfl⟩
set_option maxRecDepth 20000 in
theorem d103_1624 : mj_At 103 1624 (.goto (52)) 1627 [1676] (.null) := ⟨3, (congrArg (fun z => mj_at z 1624) f103).trans rfl, rfl⟩
set_option maxRecDepth 20000 in
theorem d103_1627 : mj_At 103 1627 (.bipush (20)) 1629 [] (.int 20) := ⟨2, (congrArg (fun z => mj_at z 1627) f103).trans rfl, rfl⟩
set_option maxRecDepth 20000 in
theorem d103_1629 : mj_At 103 1629 (.iload 9) 1631 [9] (.null) := ⟨2, (congrArg (fun z => mj_at z 1629) f103).trans rfl, rfl⟩
set_option maxRecDepth 20000 in
theorem d103_1631 : mj_At 103 1631 (.iload 8) 1633 [8] (.null) := ⟨2, (congrArg (fun z => mj_at z 1631) f103).trans rfl, rfl⟩
set_option maxRecDepth 20000 in
theorem d103_1633 : mj_At 103 1633 (.bipush (6)) 1635 [] (.int 6) := ⟨2, (congrArg (fun z => mj_at z 1633) f103).trans rfl, rfl⟩
set_option maxRecDepth 20000 in
theorem d103_1635 : mj_At 103 1635 (.ishr) 1636 [] (.null) := ⟨1, (congrArg (fun z => mj_at z 1635) f103).trans rfl, rfl⟩
set_option maxRecDepth 20000 in
theorem d103_1636 : mj_At 103 1636 (.iconst (2)) 1637 [] (.int 2) := ⟨1, (congrArg (fun z => mj_at z 1636) f103).trans rfl, rfl⟩
set_option maxRecDepth 20000 in
theorem d103_1637 : mj_At 103 1637 (.invokestatic 60) 1640 [0, 93, 2, 364, 365, 17] (.null) := ⟨3, (congrArg (fun z => mj_at z 1637) f103).trans rfl, rfl⟩
set_option maxRecDepth 20000 in
theorem d103_1640 : mj_At 103 1640 (.ifCond .ne (8)) 1643 [1648] (.null) := ⟨3, (congrArg (fun z => mj_at z 1640) f103).trans rfl, rfl⟩
set_option maxRecDepth 20000 in
theorem d103_1643 : mj_At 103 1643 (.bipush (80)) 1645 [] (.int 80) := ⟨2, (congrArg (fun z => mj_at z 1643) f103).trans rfl, rfl⟩
set_option maxRecDepth 20000 in
theorem d103_1645 : mj_At 103 1645 (.goto (6)) 1648 [1651] (.null) := ⟨3, (congrArg (fun z => mj_at z 1645) f103).trans rfl, rfl⟩
set_option maxRecDepth 20000 in
theorem d103_1648 : mj_At 103 1648 (.sipush (250)) 1651 [] (.int 250) := ⟨3, (congrArg (fun z => mj_at z 1648) f103).trans rfl, rfl⟩
set_option maxRecDepth 20000 in
theorem d103_1651 : mj_At 103 1651 (.invokestatic 60) 1654 [0, 93, 2, 364, 365, 17] (.null) := ⟨3, (congrArg (fun z => mj_at z 1651) f103).trans rfl, rfl⟩
set_option maxRecDepth 20000 in
theorem d103_1654 : mj_At 103 1654 (.iadd) 1655 [] (.null) := ⟨1, (congrArg (fun z => mj_at z 1654) f103).trans rfl, rfl⟩
set_option maxRecDepth 20000 in
theorem d103_1655 : mj_At 103 1655 (.istore 17) 1657 [17] (.null) := ⟨2, (congrArg (fun z => mj_at z 1655) f103).trans rfl, rfl⟩
set_option maxRecDepth 20000 in
theorem d103_1657 : mj_At 103 1657 (.aload_n 1) 1658 [1] (.null) := ⟨1, (congrArg (fun z => mj_at z 1657) f103).trans rfl, rfl⟩
set_option maxRecDepth 20000 in
theorem d103_1658 : mj_At 103 1658 (.iload 17) 1660 [17] (.null) := ⟨2, (congrArg (fun z => mj_at z 1658) f103).trans rfl, rfl⟩
set_option maxRecDepth 20000 in
theorem d103_1660 : mj_At 103 1660 (.invokevirtual 116) 1663 [1, 23, 2, 3, 217, 218, 219, 18] (.null) := ⟨3, (congrArg (fun z => mj_at z 1660) f103).trans rfl, rfl⟩
set_option maxRecDepth 20000 in
theorem d103_1663 : mj_At 103 1663 (.aload_n 2) 1664 [2] (.null) := ⟨1, (congrArg (fun z => mj_at z 1663) f103).trans rfl, rfl⟩
set_option maxRecDepth 20000 in
theorem d103_1664 : mj_At 103 1664 (.iconst (1)) 1665 [] (.int 1) := ⟨1, (congrArg (fun z => mj_at z 1664) f103).trans rfl, rfl⟩
set_option maxRecDepth 20000 in
theorem d103_1665 : mj_At 103 1665 (.iaload) 1666 [] (.null) := ⟨1, (congrArg (fun z => mj_at z 1665) f103).trans rfl, rfl⟩
set_option maxRecDepth 20000 in
theorem d103_1666 : mj_At 103 1666 (.if_icmp .eq (5)) 1669 [1671] (.null) := ⟨3, (congrArg (fun z => mj_at z 1666) f103).trans rfl, rfl⟩
set_option maxRecDepth 20000 in
theorem d103_1669 : mj_At 103 1669 (.iconst (0)) 1670 [] (.int 0) := ⟨1, (congrArg (fun z => mj_at z 1669) f103).trans rfl, rfl⟩
set_option maxRecDepth 20000 in
theorem d103_1670 : mj_At 103 1670 (.ireturn) 1671 [1] (.null) := ⟨1, (congrArg (fun z => mj_at z 1670) f103).trans rfl, rfl⟩
set_option maxRecDepth 20000 in
theorem d103_1671 : mj_At 103 1671 (.aload_n 2) 1672 [2] (.null) := ⟨1, (congrArg (fun z => mj_at z 1671) f103).trans rfl, rfl⟩
set_option maxRecDepth 20000 in
theorem d103_1672 : mj_At 103 1672 (.iconst (1)) 1673 [] (.int 1) := ⟨1, (congrArg (fun z => mj_at z 1672) f103).trans rfl, rfl⟩
set_option maxRecDepth 20000 in
theorem d103_1673 : mj_At 103 1673 (.iload 17) 1675 [17] (.null) := ⟨2, (congrArg (fun z => mj_at z 1673) f103).trans rfl, rfl⟩
set_option maxRecDepth 20000 in
theorem d103_1675 : mj_At 103 1675 (.iastore) 1676 [] (.null) := ⟨1, (congrArg (fun z => mj_at z 1675) f103).trans rfl, rfl⟩
set_option maxRecDepth 20000 in
theorem d103_1676 : mj_At 103 1676 (.aload_n 1) 1677 [1] (.null) := ⟨1, (congrArg (fun z => mj_at z 1676) f103).trans rfl, rfl⟩
set_option maxRecDepth 20000 in
theorem d103_1677 : mj_At 103 1677 (.iload 9) 1679 [9] (.null) := ⟨2, (congrArg (fun z => mj_at z 1677) f103).trans rfl, rfl⟩
set_option maxRecDepth 20000 in
theorem d103_1679 : mj_At 103 1679 (.iconst (3)) 1680 [] (.int 3) := ⟨1, (congrArg (fun z => mj_at z 1679) f103).trans rfl, rfl⟩
set_option maxRecDepth 20000 in
theorem d103_1680 : mj_At 103 1680 (.ishr) 1681 [] (.null) := ⟨1, (congrArg (fun z => mj_at z 1680) f103).trans rfl, rfl⟩
set_option maxRecDepth 20000 in
theorem d103_1681 : mj_At 103 1681 (.aload_n 2) 1682 [2] (.null) := ⟨1, (congrArg (fun z => mj_at z 1681) f103).trans rfl, rfl⟩
set_option maxRecDepth 20000 in
theorem d103_1682 : mj_At 103 1682 (.aload_n 3) 1683 [3] (.null) := ⟨1, (congrArg (fun z => mj_at z 1682) f103).trans rfl, rfl⟩
set_option maxRecDepth 20000 in
theorem d103_1683 : mj_At 103 1683 (.aload 4) 1685 [4] (.null) := ⟨2, (congrArg (fun z => mj_at z 1683) f103).trans rfl, rfl⟩
set_option maxRecDepth 20000 in
theorem d103_1685 : mj_At 103 1685 (.aload 5) 1687 [5] (.null) := ⟨2, (congrArg (fun z => mj_at z 1685) f103).trans rfl, rfl⟩
set_option maxRecDepth 20000 in
theorem d103_1687 : mj_At 103 1687 (.invokestatic 119) 1690 [0, 102, 6, 392, 393, 17] (.null) := ⟨3, (congrArg (fun z => mj_at z 1687) f103).trans rfl, rfl⟩
set_option maxRecDepth 20000 in
theorem d103_1690 : mj_At 103 1690 (.ifCond .ne (5)) 1693 [1695] (.null) := ⟨3, (congrArg (fun z => mj_at z 1690) f103).trans rfl, rfl⟩
set_option maxRecDepth 20000 in
theorem d103_1693 : mj_At 103 1693 (.iconst (0)) 1694 [] (.int 0) := ⟨1, (congrArg (fun z => mj_at z 1693) f103).trans rfl, rfl⟩
set_option maxRecDepth 20000 in
theorem d103_1694 : mj_At 103 1694 (.ireturn) 1695 [1] (.null) := ⟨1, (congrArg (fun z => mj_at z 1694) f103).trans rfl, rfl⟩
set_option maxRecDepth 20000 in
theorem d103_1695 : mj_At 103 1695 (.iinc 7 (1)) 1698 [7] (.int 1) := ⟨3, (congrArg (fun z => mj_at z 1695) f103).trans rfl, rfl⟩
set_option maxRecDepth 20000 in
theorem d103_1698 : mj_At 103 1698 (.goto (-1602)) 1701 [96] (.null) := ⟨3, (congrArg (fun z => mj_at z 1698) f103).trans rfl, rfl⟩
set_option maxRecDepth 20000 in
theorem d103_1701 : mj_At 103 1701 (.iconst (1)) 1702 [] (.int 1) := ⟨1, (congrArg (fun z => mj_at z 1701) f103).trans rfl, rfl⟩
set_option maxRecDepth 20000 in
theorem d103_1702 : mj_At 103 1702 (.ireturn) 1703 [1] (.null) := ⟨1, (congrArg (fun z => mj_at z 1702) f103).trans rfl, rfl⟩
