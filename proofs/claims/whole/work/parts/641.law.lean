/-! THE LAW, from block to block -/
set_option maxRecDepth 20000 in
theorem d167_15 : mj_At 167 15 (.astore_n 2) 16 [2] (.null) := ⟨1, (congrArg (fun z => mj_at z 15) f167).trans rfl, rfl⟩
set_option maxRecDepth 20000 in
theorem d167_16 : mj_At 167 16 (.iconst (0)) 17 [] (.int 0) := ⟨1, (congrArg (fun z => mj_at z 16) f167).trans rfl, rfl⟩
set_option maxRecDepth 20000 in
theorem d167_17 : mj_At 167 17 (.istore_n 3) 18 [3] (.null) := ⟨1, (congrArg (fun z => mj_at z 17) f167).trans rfl, rfl⟩
set_option maxRecDepth 20000 in
theorem d167_18 : mj_At 167 18 (.iload_n 3) 19 [3] (.null) := ⟨1, (congrArg (fun z => mj_at z 18) f167).trans rfl, rfl⟩
set_option maxRecDepth 20000 in
theorem d167_19 : mj_At 167 19 (.aload_n 0) 20 [0] (.null) := ⟨1, (congrArg (fun z => mj_at z 19) f167).trans rfl, rfl⟩
set_option maxRecDepth 20000 in
theorem d167_20 : mj_At 167 20 (.arraylength) 21 [] (.null) := ⟨1, (congrArg (fun z => mj_at z 20) f167).trans rfl, rfl⟩
set_option maxRecDepth 20000 in
theorem d167_21 : mj_At 167 21 (.iconst (5)) 22 [] (.int 5) := ⟨1, (congrArg (fun z => mj_at z 21) f167).trans rfl, rfl⟩
set_option maxRecDepth 20000 in
theorem d167_22 : mj_At 167 22 (.isub) 23 [] (.null) := ⟨1, (congrArg (fun z => mj_at z 22) f167).trans rfl, rfl⟩
set_option maxRecDepth 20000 in
theorem d167_23 : mj_At 167 23 (.if_icmp .gt (918)) 26 [941] (.null) := ⟨3, (congrArg (fun z => mj_at z 23) f167).trans rfl, rfl⟩
set_option maxRecDepth 20000 in
theorem d167_26 : mj_At 167 26 (.aload_n 0) 27 [0] (.null) := ⟨1, (congrArg (fun z => mj_at z 26) f167).trans rfl, rfl⟩
set_option maxRecDepth 20000 in
theorem d167_27 : mj_At 167 27 (.iload_n 3) 28 [3] (.null) := ⟨1, (congrArg (fun z => mj_at z 27) f167).trans rfl, rfl⟩
set_option maxRecDepth 20000 in
theorem d167_28 : mj_At 167 28 (.iaload) 29 [] (.null) := ⟨1, (congrArg (fun z => mj_at z 28) f167).trans rfl, rfl⟩
set_option maxRecDepth 20000 in
theorem d167_29 : mj_At 167 29 (.bipush (31)) 31 [] (.int 31) := ⟨2, (congrArg (fun z => mj_at z 29) f167).trans rfl, rfl⟩
set_option maxRecDepth 20000 in
theorem d167_31 : mj_At 167 31 (.iand) 32 [] (.null) := ⟨1, (congrArg (fun z => mj_at z 31) f167).trans rfl, rfl⟩
set_option maxRecDepth 20000 in
theorem d167_32 : mj_At 167 32 (.tableswitch (903) (0) (27) #[128, 151, 174, 187, 210, 233, 246, 299, 342, 385, 438, 481, 504, 547, 580, 623, 646, 679, 712, 765, 788, 801, 814, 837, 850, 863, 876, 889]) 160 [935, 160, 183, 206, 219, 242, 265, 278, 331, 374, 417, 470, 513, 536, 579, 612, 655, 678, 711, 744, 797, 820, 833, 846, 869, 882, 895, 908, 921] (.int 0) := ⟨128, (congrArg (fun z => mj_at z 32) f167).trans rfl, rfl⟩
set_option maxRecDepth 20000 in
theorem d167_160 : mj_At 167 160 (.aload_n 1) 161 [1] (.null) := ⟨1, (congrArg (fun z => mj_at z 160) f167).trans rfl, rfl⟩
set_option maxRecDepth 20000 in
theorem d167_161 : mj_At 167 161 (.aload_n 0) 162 [0] (.null) := ⟨1, (congrArg (fun z => mj_at z 161) f167).trans rfl, rfl⟩
set_option maxRecDepth 20000 in
theorem d167_162 : mj_At 167 162 (.iload_n 3) 163 [3] (.null) := ⟨1, (congrArg (fun z => mj_at z 162) f167).trans rfl, rfl⟩
set_option maxRecDepth 20000 in
theorem d167_163 : mj_At 167 163 (.iconst (1)) 164 [] (.int 1) := ⟨1, (congrArg (fun z => mj_at z 163) f167).trans rfl, rfl⟩
set_option maxRecDepth 20000 in
theorem d167_164 : mj_At 167 164 (.iadd) 165 [] (.null) := ⟨1, (congrArg (fun z => mj_at z 164) f167).trans rfl, rfl⟩
set_option maxRecDepth 20000 in
theorem d167_165 : mj_At 167 165 (.iaload) 166 [] (.null) := ⟨1, (congrArg (fun z => mj_at z 165) f167).trans rfl, rfl⟩
set_option maxRecDepth 20000 in
theorem d167_166 : mj_At 167 166 (.invokevirtual 13) 169 [1, 22, 2, 3, 195, 196, 197, 64] (.null) := ⟨3, (congrArg (fun z => mj_at z 166) f167).trans rfl, rfl⟩
set_option maxRecDepth 20000 in
theorem d167_169 : mj_At 167 169 (.aload_n 2) 170 [2] (.null) := ⟨1, (congrArg (fun z => mj_at z 169) f167).trans rfl, rfl⟩
set_option maxRecDepth 20000 in
theorem d167_170 : mj_At 167 170 (.aload_n 0) 171 [0] (.null) := ⟨1, (congrArg (fun z => mj_at z 170) f167).trans rfl, rfl⟩
set_option maxRecDepth 20000 in
theorem d167_171 : mj_At 167 171 (.iload_n 3) 172 [3] (.null) := ⟨1, (congrArg (fun z => mj_at z 171) f167).trans rfl, rfl⟩
set_option maxRecDepth 20000 in
theorem d167_172 : mj_At 167 172 (.iconst (1)) 173 [] (.int 1) := ⟨1, (congrArg (fun z => mj_at z 172) f167).trans rfl, rfl⟩
set_option maxRecDepth 20000 in
theorem d167_173 : mj_At 167 173 (.iadd) 174 [] (.null) := ⟨1, (congrArg (fun z => mj_at z 173) f167).trans rfl, rfl⟩
set_option maxRecDepth 20000 in
theorem d167_174 : mj_At 167 174 (.iaload) 175 [] (.null) := ⟨1, (congrArg (fun z => mj_at z 174) f167).trans rfl, rfl⟩
set_option maxRecDepth 20000 in
theorem d167_175 : mj_At 167 175 (.invokevirtual 17) 178 [1, 123, 2, 4, 591, 592, 593, 69] (.null) := ⟨3, (congrArg (fun z => mj_at z 175) f167).trans rfl, rfl⟩
set_option maxRecDepth 20000 in
theorem d167_178 : mj_At 167 178 (.if_icmp .eq (757)) 181 [935] (.null) := ⟨3, (congrArg (fun z => mj_at z 178) f167).trans rfl, rfl⟩
set_option maxRecDepth 20000 in
theorem d167_181 : mj_At 167 181 (.iconst (0)) 182 [] (.int 0) := ⟨1, (congrArg (fun z => mj_at z 181) f167).trans rfl, rfl⟩
set_option maxRecDepth 20000 in
theorem d167_182 : mj_At 167 182 (.ireturn) 183 [1] (.null) := ⟨1, (congrArg (fun z => mj_at z 182) f167).trans rfl, rfl⟩
set_option maxRecDepth 20000 in
theorem d167_183 : mj_At 167 183 (.aload_n 1) 184 [1] (.null) := ⟨1, (congrArg (fun z => mj_at z 183) f167).trans rfl, rfl⟩
set_option maxRecDepth 20000 in
theorem d167_184 : mj_At 167 184 (.aload_n 0) 185 [0] (.null) := ⟨1, (congrArg (fun z => mj_at z 184) f167).trans rfl, rfl⟩
set_option maxRecDepth 20000 in
theorem d167_185 : mj_At 167 185 (.iload_n 3) 186 [3] (.null) := ⟨1, (congrArg (fun z => mj_at z 185) f167).trans rfl, rfl⟩
set_option maxRecDepth 20000 in
theorem d167_186 : mj_At 167 186 (.iconst (1)) 187 [] (.int 1) := ⟨1, (congrArg (fun z => mj_at z 186) f167).trans rfl, rfl⟩
set_option maxRecDepth 20000 in
theorem d167_187 : mj_At 167 187 (.iadd) 188 [] (.null) := ⟨1, (congrArg (fun z => mj_at z 187) f167).trans rfl, rfl⟩
set_option maxRecDepth 20000 in
theorem d167_188 : mj_At 167 188 (.iaload) 189 [] (.null) := ⟨1, (congrArg (fun z => mj_at z 188) f167).trans rfl, rfl⟩
set_option maxRecDepth 20000 in
theorem d167_189 : mj_At 167 189 (.invokevirtual 18) 192 [1, 23, 2, 3, 267, 268, 269, 64] (.null) := ⟨3, (congrArg (fun z => mj_at z 189) f167).trans rfl, rfl⟩
set_option maxRecDepth 20000 in
theorem d167_192 : mj_At 167 192 (.aload_n 2) 193 [2] (.null) := ⟨1, (congrArg (fun z => mj_at z 192) f167).trans rfl, rfl⟩
set_option maxRecDepth 20000 in
theorem d167_193 : mj_At 167 193 (.aload_n 0) 194 [0] (.null) := ⟨1, (congrArg (fun z => mj_at z 193) f167).trans rfl, rfl⟩
set_option maxRecDepth 20000 in
theorem d167_194 : mj_At 167 194 (.iload_n 3) 195 [3] (.null) := ⟨1, (congrArg (fun z => mj_at z 194) f167).trans rfl, rfl⟩
set_option maxRecDepth 20000 in
theorem d167_195 : mj_At 167 195 (.iconst (1)) 196 [] (.int 1) := ⟨1, (congrArg (fun z => mj_at z 195) f167).trans rfl, rfl⟩
set_option maxRecDepth 20000 in
theorem d167_196 : mj_At 167 196 (.iadd) 197 [] (.null) := ⟨1, (congrArg (fun z => mj_at z 196) f167).trans rfl, rfl⟩
set_option maxRecDepth 20000 in
theorem d167_197 : mj_At 167 197 (.iaload) 198 [] (.null) := ⟨1, (congrArg (fun z => mj_at z 197) f167).trans rfl, rfl⟩
set_option maxRecDepth 20000 in
theorem d167_198 : mj_At 167 198 (.invokevirtual 21) 201 [1, 124, 2, 4, 683, 684, 685, 69] (.null) := ⟨3, (congrArg (fun z => mj_at z 198) f167).trans rfl, rfl⟩
set_option maxRecDepth 20000 in
theorem d167_201 : mj_At 167 201 (.if_icmp .eq (734)) 204 [935] (.null) := ⟨3, (congrArg (fun z => mj_at z 201) f167).trans rfl, rfl⟩
set_option maxRecDepth 20000 in
theorem d167_204 : mj_At 167 204 (.iconst (0)) 205 [] (.int 0) := ⟨1, (congrArg (fun z => mj_at z 204) f167).trans rfl, rfl⟩
set_option maxRecDepth 20000 in
theorem d167_205 : mj_At 167 205 (.ireturn) 206 [1] (.null) := ⟨1, (congrArg (fun z => mj_at z 205) f167).trans rfl, rfl⟩
set_option maxRecDepth 20000 in
theorem d167_206 : mj_At 167 206 (.aload_n 1) 207 [1] (.null) := ⟨1, (congrArg (fun z => mj_at z 206) f167).trans rfl, rfl⟩
set_option maxRecDepth 20000 in
theorem d167_207 : mj_At 167 207 (.invokevirtual 22) 210 [1, 29, 1, 3, 271, 272, 273, 64] (.null) := ⟨3, (congrArg (fun z => mj_at z 207) f167).trans rfl, rfl⟩
set_option maxRecDepth 20000 in
theorem d167_210 : mj_At 167 210 (.aload_n 2) 211 [2] (.null) := ⟨1, (congrArg (fun z => mj_at z 210) f167).trans rfl, rfl⟩
set_option maxRecDepth 20000 in
theorem d167_211 : mj_At 167 211 (.invokevirtual 26) 214 [1, 125, 1, 4, 687, 688, 689, 69] (.null) := ⟨3, (congrArg (fun z => mj_at z 211) f167).trans rfl, rfl⟩
set_option maxRecDepth 20000 in
theorem d167_214 : mj_At 167 214 (.if_icmp .eq (721)) 217 [935] (.null) := ⟨3, (congrArg (fun z => mj_at z 214) f167).trans rfl, rfl⟩
set_option maxRecDepth 20000 in
theorem d167_217 : mj_At 167 217 (.iconst (0)) 218 [] (.int 0) := ⟨1, (congrArg (fun z => mj_at z 217) f167).trans rfl, rfl⟩
set_option maxRecDepth 20000 in
theorem d167_218 : mj_At 167 218 (.ireturn) 219 [1] (.null) := ⟨1, (congrArg (fun z => mj_at z 218) f167).trans rfl, rfl⟩
set_option maxRecDepth 20000 in
theorem d167_219 : mj_At 167 219 (.aload_n 1) 220 [1] (.null) := ⟨1, (congrArg (fun z => mj_at z 219) f167).trans rfl, rfl⟩
set_option maxRecDepth 20000 in
theorem d167_220 : mj_At 167 220 (.aload_n 0) 221 [0] (.null) := ⟨1, (congrArg (fun z => mj_at z 220) f167).trans rfl, rfl⟩
set_option maxRecDepth 20000 in
theorem d167_221 : mj_At 167 221 (.iload_n 3) 222 [3] (.null) := ⟨1, (congrArg (fun z => mj_at z 221) f167).trans rfl, rfl⟩
set_option maxRecDepth 20000 in
theorem d167_222 : mj_At 167 222 (.iconst (1)) 223 [] (.int 1) := ⟨1, (congrArg (fun z => mj_at z 222) f167).trans rfl, rfl⟩
set_option maxRecDepth 20000 in
theorem d167_223 : mj_At 167 223 (.iadd) 224 [] (.null) := ⟨1, (congrArg (fun z => mj_at z 223) f167).trans rfl, rfl⟩
set_option maxRecDepth 20000 in
theorem d167_224 : mj_At 167 224 (.iaload) 225 [] (.null) := ⟨1, (congrArg (fun z => mj_at z 224) f167).trans rfl, rfl⟩
set_option maxRecDepth 20000 in
theorem d167_225 : mj_At 167 225 (.invokevirtual 27) 228 [1, 31, 2, 3, 293, 294, 295, 64] (.null) := ⟨3, (congrArg (fun z => mj_at z 225) f167).trans rfl, rfl⟩
set_option maxRecDepth 20000 in
theorem d167_228 : mj_At 167 228 (.aload_n 2) 229 [2] (.null) := ⟨1, (congrArg (fun z => mj_at z 228) f167).trans rfl, rfl⟩
set_option maxRecDepth 20000 in
theorem d167_229 : mj_At 167 229 (.aload_n 0) 230 [0] (.null) := ⟨1, (congrArg (fun z => mj_at z 229) f167).trans rfl, rfl⟩
set_option maxRecDepth 20000 in
theorem d167_230 : mj_At 167 230 (.iload_n 3) 231 [3] (.null) := ⟨1, (congrArg (fun z => mj_at z 230) f167).trans rfl, rfl⟩
set_option maxRecDepth 20000 in
theorem d167_231 : mj_At 167 231 (.iconst (1)) 232 [] (.int 1) := ⟨1, (congrArg (fun z => mj_at z 231) f167).trans rfl, rfl⟩
set_option maxRecDepth 20000 in
theorem d167_232 : mj_At 167 232 (.iadd) 233 [] (.null) := ⟨1, (congrArg (fun z => mj_at z 232) f167).trans rfl, rfl⟩
set_option maxRecDepth 20000 in
theorem d167_233 : mj_At 167 233 (.iaload) 234 [] (.null) := ⟨1, (congrArg (fun z => mj_at z 233) f167).trans rfl, rfl⟩
set_option maxRecDepth 20000 in
theorem d167_234 : mj_At 167 234 (.invokevirtual 30) 237 [1, 126, 2, 4, 691, 692, 693, 69] (.null) := ⟨3, (congrArg (fun z => mj_at z 234) f167).trans rfl, rfl⟩
set_option maxRecDepth 20000 in
theorem d167_237 : mj_At 167 237 (.if_icmp .eq (698)) 240 [935] (.null) := ⟨3, (congrArg (fun z => mj_at z 237) f167).trans rfl, rfl⟩
set_option maxRecDepth 20000 in
theorem d167_240 : mj_At 167 240 (.iconst (0)) 241 [] (.int 0) := ⟨1, (congrArg (fun z => mj_at z 240) f167).trans rfl, rfl⟩
set_option maxRecDepth 20000 in
theorem d167_241 : mj_At 167 241 (.ireturn) 242 [1] (.null) := ⟨1, (congrArg (fun z => mj_at z 241) f167).trans rfl, rfl⟩
set_option maxRecDepth 20000 in
theorem d167_242 : mj_At 167 242 (.aload_n 1) 243 [1] (.null) := ⟨1, (congrArg (fun z => mj_at z 242) f167).trans rfl, rfl⟩
set_option maxRecDepth 20000 in
theorem d167_243 : mj_At 167 243 (.aload_n 0) 244 [0] (.null) := ⟨1, (congrArg (fun z => mj_at z 243) f167).trans rfl, rfl⟩
set_option maxRecDepth 20000 in
theorem d167_244 : mj_At 167 244 (.iload_n 3) 245 [3] (.null) := ⟨1, (congrArg (fun z => mj_at z 244) f167).trans rfl, rfl⟩
set_option maxRecDepth 20000 in
theorem d167_245 : mj_At 167 245 (.iconst (1)) 246 [] (.int 1) := ⟨1, (congrArg (fun z => mj_at z 245) f167).trans rfl, rfl⟩
set_option maxRecDepth 20000 in
theorem d167_246 : mj_At 167 246 (.iadd) 247 [] (.null) := ⟨1, (congrArg (fun z => mj_at z 246) f167).trans rfl, rfl⟩
set_option maxRecDepth 20000 in
theorem d167_247 : mj_At 167 247 (.iaload) 248 [] (.null) := ⟨1, (congrArg (fun z => mj_at z 247) f167).trans rfl, rfl⟩
set_option maxRecDepth 20000 in
theorem d167_248 : mj_At 167 248 (.invokevirtual 31) 251 [1, 32, 2, 3, 301, 302, 303, 64] (.null) := ⟨3, (congrArg (fun z => mj_at z 248) f167).trans rfl, rfl⟩
set_option maxRecDepth 20000 in
theorem d167_251 : mj_At 167 251 (.aload_n 2) 252 [2] (.null) := ⟨1, (congrArg (fun z => mj_at z 251) f167).trans rfl, rfl⟩
set_option maxRecDepth 20000 in
theorem d167_252 : mj_At 167 252 (.aload_n 0) 253 [0] (.null) := ⟨1, (congrArg (fun z => mj_at z 252) f167).trans rfl, rfl⟩
set_option maxRecDepth 20000 in
theorem d167_253 : mj_At 167 253 (.iload_n 3) 254 [3] (.null) := ⟨1, (congrArg (fun z => mj_at z 253) f167).trans rfl, rfl⟩
set_option maxRecDepth 20000 in
theorem d167_254 : mj_At 167 254 (.iconst (1)) 255 [] (.int 1) := ⟨1, (congrArg (fun z => mj_at z 254) f167).trans rfl, rfl⟩
set_option maxRecDepth 20000 in
theorem d167_255 : mj_At 167 255 (.iadd) 256 [] (.null) := ⟨1, (congrArg (fun z => mj_at z 255) f167).trans rfl, rfl⟩
set_option maxRecDepth 20000 in
theorem d167_256 : mj_At 167 256 (.iaload) 257 [] (.null) := ⟨1, (congrArg (fun z => mj_at z 256) f167).trans rfl, rfl⟩
set_option maxRecDepth 20000 in
theorem d167_257 : mj_At 167 257 (.invokevirtual 34) 260 [1, 127, 2, 4, 695, 696, 697, 69] (.null) := ⟨3, (congrArg (fun z => mj_at z 257) f167).trans rfl, rfl⟩
set_option maxRecDepth 20000 in
theorem d167_260 : mj_At 167 260 (.if_icmp .eq (675)) 263 [935] (.null) := ⟨3, (congrArg (fun z => mj_at z 260) f167).trans rfl, rfl⟩
set_option maxRecDepth 20000 in
theorem d167_263 : mj_At 167 263 (.iconst (0)) 264 [] (.int 0) := ⟨1, (congrArg (fun z => mj_at z 263) f167).trans rfl, rfl⟩
set_option maxRecDepth 20000 in
theorem d167_264 : mj_At 167 264 (.ireturn) 265 [1] (.null) := ⟨1, (congrArg (fun z => mj_at z 264) f167).trans rfl, rfl⟩
set_option maxRecDepth 20000 in
theorem d167_265 : mj_At 167 265 (.aload_n 1) 266 [1] (.null) := ⟨1, (congrArg (fun z => mj_at z 265) f167).trans rfl, rfl⟩
set_option maxRecDepth 20000 in
theorem d167_266 : mj_At 167 266 (.invokevirtual 35) 269 [1, 33, 1, 3, 305, 306, 307, 64] (.null) := ⟨3, (congrArg (fun z => mj_at z 266) f167).trans rfl, rfl⟩
set_option maxRecDepth 20000 in
theorem d167_269 : mj_At 167 269 (.aload_n 2) 270 [2] (.null) := ⟨1, (congrArg (fun z => mj_at z 269) f167).trans rfl, rfl⟩
set_option maxRecDepth 20000 in
theorem d167_270 : mj_At 167 270 (.invokevirtual 38) 273 [1, 129, 1, 4, 699, 700, 701, 69] (.null) := ⟨3, (congrArg (fun z => mj_at z 270) f167).trans rfl, rfl⟩
set_option maxRecDepth 20000 in
theorem d167_273 : mj_At 167 273 (.if_icmp .eq (662)) 276 [935] (.null) := ⟨3, (congrArg (fun z => mj_at z 273) f167).trans rfl, rfl⟩
set_option maxRecDepth 20000 in
theorem d167_276 : mj_At 167 276 (.iconst (0)) 277 [] (.int 0) := ⟨1, (congrArg (fun z => mj_at z 276) f167).trans rfl, rfl⟩
set_option maxRecDepth 20000 in
theorem d167_277 : mj_At 167 277 (.ireturn) 278 [1] (.null) := ⟨1, (congrArg (fun z => mj_at z 277) f167).trans rfl, rfl⟩
set_option maxRecDepth 20000 in
theorem d167_278 : mj_At 167 278 (.aload_n 1) 279 [1] (.null) := ⟨1, (congrArg (fun z => mj_at z 278) f167).trans rfl, rfl⟩
set_option maxRecDepth 20000 in
theorem d167_279 : mj_At 167 279 (.aload_n 0) 280 [0] (.null) := ⟨1, (congrArg (fun z => mj_at z 279) f167).trans rfl, rfl⟩
set_option maxRecDepth 20000 in
theorem d167_280 : mj_At 167 280 (.iload_n 3) 281 [3] (.null) := ⟨1, (congrArg (fun z => mj_at z 280) f167).trans rfl, rfl⟩
set_option maxRecDepth 20000 in
theorem d167_281 : mj_At 167 281 (.iconst (1)) 282 [] (.int 1) := ⟨1, (congrArg (fun z => mj_at z 281) f167).trans rfl, rfl⟩
set_option maxRecDepth 20000 in
theorem d167_282 : mj_At 167 282 (.iadd) 283 [] (.null) := ⟨1, (congrArg (fun z => mj_at z 282) f167).trans rfl, rfl⟩
set_option maxRecDepth 20000 in
theorem d167_283 : mj_At 167 283 (.iaload) 284 [] (.null) := ⟨1, (congrArg (fun z => mj_at z 283) f167).trans rfl, rfl⟩
set_option maxRecDepth 20000 in
theorem d167_284 : mj_At 167 284 (.aload_n 0) 285 [0] (.null) := ⟨1, (congrArg (fun z => mj_at z 284) f167).trans rfl, rfl⟩
set_option maxRecDepth 20000 in
theorem d167_285 : mj_At 167 285 (.iload_n 3) 286 [3] (.null) := ⟨1, (congrArg (fun z => mj_at z 285) f167).trans rfl, rfl⟩
set_option maxRecDepth 20000 in
theorem d167_286 : mj_At 167 286 (.iconst (2)) 287 [] (.int 2) := ⟨1, (congrArg (fun z => mj_at z 286) f167).trans rfl, rfl⟩
set_option maxRecDepth 20000 in
theorem d167_287 : mj_At 167 287 (.iadd) 288 [] (.null) := ⟨1, (congrArg (fun z => mj_at z 287) f167).trans rfl, rfl⟩
set_option maxRecDepth 20000 in
theorem d167_288 : mj_At 167 288 (.iaload) 289 [] (.null) := ⟨1, (congrArg (fun z => mj_at z 288) f167).trans rfl, rfl⟩
set_option maxRecDepth 20000 in
theorem d167_289 : mj_At 167 289 (.aload_n 0) 290 [0] (.null) := ⟨1, (congrArg (fun z => mj_at z 289) f167).trans rfl, rfl⟩
set_option maxRecDepth 20000 in
theorem d167_290 : mj_At 167 290 (.iload_n 3) 291 [3] (.null) := ⟨1, (congrArg (fun z => mj_at z 290) f167).trans rfl, rfl⟩
set_option maxRecDepth 20000 in
theorem d167_291 : mj_At 167 291 (.iconst (3)) 292 [] (.int 3) := ⟨1, (congrArg (fun z => mj_at z 291) f167).trans rfl, rfl⟩
set_option maxRecDepth 20000 in
theorem d167_292 : mj_At 167 292 (.iadd) 293 [] (.null) := ⟨1, (congrArg (fun z => mj_at z 292) f167).trans rfl, rfl⟩
set_option maxRecDepth 20000 in
theorem d167_293 : mj_At 167 293 (.iaload) 294 [] (.null) := ⟨1, (congrArg (fun z => mj_at z 293) f167).trans rfl, rfl⟩
set_option maxRecDepth 20000 in
theorem d167_294 : mj_At 167 294 (.aload_n 0) 295 [0] (.null) := ⟨1, (congrArg (fun z => mj_at z 294) f167).trans rfl, rfl⟩
set_option maxRecDepth 20000 in
theorem d167_295 : mj_At 167 295 (.iload_n 3) 296 [3] (.null) := ⟨1, (congrArg (fun z => mj_at z 295) f167).trans rfl, rfl⟩
set_option maxRecDepth 20000 in
theorem d167_296 : mj_At 167 296 (.iconst (4)) 297 [] (.int 4) := ⟨1, (congrArg (fun z => mj_at z 296) f167).trans rfl, rfl⟩
set_option maxRecDepth 20000 in
theorem d167_297 : mj_At 167 297 (.iadd) 298 [] (.null) := ⟨1, (congrArg (fun z => mj_at z 297) f167).trans rfl, rfl⟩
set_option maxRecDepth 20000 in
theorem d167_298 : mj_At 167 298 (.iaload) 299 [] (.null) := ⟨1, (congrArg (fun z => mj_at z 298) f167).trans rfl, rfl⟩
set_option maxRecDepth 20000 in
theorem d167_299 : mj_At 167 299 (.invokevirtual 39) 302 [1, 48, 5, 3, 309, 310, 311, 64] (.null) := ⟨3, (congrArg (fun z => mj_at z 299) f167).trans rfl, rfl⟩
set_option maxRecDepth 20000 in
theorem d167_302 : mj_At 167 302 (.aload_n 2) 303 [2] (.null) := ⟨1, (congrArg (fun z => mj_at z 302) f167).trans rfl, rfl⟩
set_option maxRecDepth 20000 in
theorem d167_303 : mj_At 167 303 (.aload_n 0) 304 [0] (.null) := ⟨1, (congrArg (fun z => mj_at z 303) f167).trans rfl, rfl⟩
set_option maxRecDepth 20000 in
theorem d167_304 : mj_At 167 304 (.iload_n 3) 305 [3] (.null) := ⟨1, (congrArg (fun z => mj_at z 304) f167).trans rfl, rfl⟩
set_option maxRecDepth 20000 in
theorem d167_305 : mj_At 167 305 (.iconst (1)) 306 [] (.int 1) := ⟨1, (congrArg (fun z => mj_at z 305) f167).trans rfl, rfl⟩
set_option maxRecDepth 20000 in
theorem d167_306 : mj_At 167 306 (.iadd) 307 [] (.null) := ⟨1, (congrArg (fun z => mj_at z 306) f167).trans rfl, rfl⟩
set_option maxRecDepth 20000 in
theorem d167_307 : mj_At 167 307 (.iaload) 308 [] (.null) := ⟨1, (congrArg (fun z => mj_at z 307) f167).trans rfl, rfl⟩
set_option maxRecDepth 20000 in
theorem d167_308 : mj_At 167 308 (.aload_n 0) 309 [0] (.null) := ⟨1, (congrArg (fun z => mj_at z 308) f167).trans rfl, rfl⟩
set_option maxRecDepth 20000 in
theorem d167_309 : mj_At 167 309 (.iload_n 3) 310 [3] (.null) := ⟨1, (congrArg (fun z => mj_at z 309) f167).trans rfl, rfl⟩
set_option maxRecDepth 20000 in
theorem d167_310 : mj_At 167 310 (.iconst (2)) 311 [] (.int 2) := ⟨1, (congrArg (fun z => mj_at z 310) f167).trans rfl, rfl⟩
set_option maxRecDepth 20000 in
theorem d167_311 : mj_At 167 311 (.iadd) 312 [] (.null) := ⟨1, (congrArg (fun z => mj_at z 311) f167).trans rfl, rfl⟩
set_option maxRecDepth 20000 in
theorem d167_312 : mj_At 167 312 (.iaload) 313 [] (.null) := ⟨1, (congrArg (fun z => mj_at z 312) f167).trans rfl, rfl⟩
set_option maxRecDepth 20000 in
theorem d167_313 : mj_At 167 313 (.aload_n 0) 314 [0] (.null) := ⟨1, (congrArg (fun z => mj_at z 313) f167).trans rfl, rfl⟩
set_option maxRecDepth 20000 in
theorem d167_314 : mj_At 167 314 (.iload_n 3) 315 [3] (.null) := ⟨1, (congrArg (fun z => mj_at z 314) f167).trans rfl, rfl⟩
set_option maxRecDepth 20000 in
theorem d167_315 : mj_At 167 315 (.iconst (3)) 316 [] (.int 3) := ⟨1, (congrArg (fun z => mj_at z 315) f167).trans rfl, rfl⟩
set_option maxRecDepth 20000 in
theorem d167_316 : mj_At 167 316 (.iadd) 317 [] (.null) := ⟨1, (congrArg (fun z => mj_at z 316) f167).trans rfl, rfl⟩
set_option maxRecDepth 20000 in
theorem d167_317 : mj_At 167 317 (.iaload) 318 [] (.null) := ⟨1, (congrArg (fun z => mj_at z 317) f167).trans rfl, rfl⟩
set_option maxRecDepth 20000 in
theorem d167_318 : mj_At 167 318 (.aload_n 0) 319 [0] (.null) := ⟨1, (congrArg (fun z => mj_at z 318) f167).trans rfl, rfl⟩
set_option maxRecDepth 20000 in
theorem d167_319 : mj_At 167 319 (.iload_n 3) 320 [3] (.null) := ⟨1, (congrArg (fun z => mj_at z 319) f167).trans rfl, rfl⟩
set_option maxRecDepth 20000 in
theorem d167_320 : mj_At 167 320 (.iconst (4)) 321 [] (.int 4) := ⟨1, (congrArg (fun z => mj_at z 320) f167).trans rfl, rfl⟩
set_option maxRecDepth 20000 in
theorem d167_321 : mj_At 167 321 (.iadd) 322 [] (.null) := ⟨1, (congrArg (fun z => mj_at z 321) f167).trans rfl, rfl⟩
set_option maxRecDepth 20000 in
theorem d167_322 : mj_At 167 322 (.iaload) 323 [] (.null) := ⟨1, (congrArg (fun z => mj_at z 322) f167).trans rfl, rfl⟩
set_option maxRecDepth 20000 in
theorem d167_323 : mj_At 167 323 (.invokevirtual 43) 326 [1, 131, 5, 4, 707, 708, 709, 69] (.null) := ⟨3, (congrArg (fun z => mj_at z 323) f167).trans rfl, rfl⟩
set_option maxRecDepth 20000 in
theorem d167_326 : mj_At 167 326 (.if_icmp .eq (609)) 329 [935] (.null) := ⟨3, (congrArg (fun z => mj_at z 326) f167).trans rfl, rfl⟩
set_option maxRecDepth 20000 in
theorem d167_329 : mj_At 167 329 (.iconst (0)) 330 [] (.int 0) := ⟨1, (congrArg (fun z => mj_at z 329) f167).trans rfl, rfl⟩
set_option maxRecDepth 20000 in
theorem d167_330 : mj_At 167 330 (.ireturn) 331 [1] (.null) := ⟨1, (congrArg (fun z => mj_at z 330) f167).trans rfl, rfl⟩
set_option maxRecDepth 20000 in
theorem d167_331 : mj_At 167 331 (.aload_n 1) 332 [1] (.null) := ⟨1, (congrArg (fun z => mj_at z 331) f167).trans rfl, rfl⟩
set_option maxRecDepth 20000 in
theorem d167_332 : mj_At 167 332 (.aload_n 0) 333 [0] (.null) := ⟨1, (congrArg (fun z => mj_at z 332) f167).trans rfl, rfl⟩
set_option maxRecDepth 20000 in
theorem d167_333 : mj_At 167 333 (.iload_n 3) 334 [3] (.null) := ⟨1, (congrArg (fun z => mj_at z 333) f167).trans rfl, rfl⟩
set_option maxRecDepth 20000 in
theorem d167_334 : mj_At 167 334 (.iconst (1)) 335 [] (.int 1) := ⟨1, (congrArg (fun z => mj_at z 334) f167).trans rfl, rfl⟩
set_option maxRecDepth 20000 in
theorem d167_335 : mj_At 167 335 (.iadd) 336 [] (.null) := ⟨1, (congrArg (fun z => mj_at z 335) f167).trans rfl, rfl⟩
set_option maxRecDepth 20000 in
theorem d167_336 : mj_At 167 336 (.iaload) 337 [] (.null) := ⟨1, (congrArg (fun z => mj_at z 336) f167).trans rfl, rfl⟩
set_option maxRecDepth 20000 in
theorem d167_337 : mj_At 167 337 (.aload_n 0) 338 [0] (.null) := ⟨1, (congrArg (fun z => mj_at z 337) f167).trans rfl, rfl⟩
set_option maxRecDepth 20000 in
theorem d167_338 : mj_At 167 338 (.iload_n 3) 339 [3] (.null) := ⟨1, (congrArg (fun z => mj_at z 338) f167).trans rfl, rfl⟩
set_option maxRecDepth 20000 in
theorem d167_339 : mj_At 167 339 (.iconst (2)) 340 [] (.int 2) := ⟨1, (congrArg (fun z => mj_at z 339) f167).trans rfl, rfl⟩
set_option maxRecDepth 20000 in
theorem d167_340 : mj_At 167 340 (.iadd) 341 [] (.null) := ⟨1, (congrArg (fun z => mj_at z 340) f167).trans rfl, rfl⟩
set_option maxRecDepth 20000 in
theorem d167_341 : mj_At 167 341 (.iaload) 342 [] (.null) := ⟨1, (congrArg (fun z => mj_at z 341) f167).trans rfl, rfl⟩
set_option maxRecDepth 20000 in
theorem d167_342 : mj_At 167 342 (.aload_n 0) 343 [0] (.null) := ⟨1, (congrArg (fun z => mj_at z 342) f167).trans rfl, rfl⟩
set_option maxRecDepth 20000 in
theorem d167_343 : mj_At 167 343 (.iload_n 3) 344 [3] (.null) := ⟨1, (congrArg (fun z => mj_at z 343) f167).trans rfl, rfl⟩
set_option maxRecDepth 20000 in
theorem d167_344 : mj_At 167 344 (.iconst (3)) 345 [] (.int 3) := ⟨1, (congrArg (fun z => mj_at z 344) f167).trans rfl, rfl⟩
set_option maxRecDepth 20000 in
theorem d167_345 : mj_At 167 345 (.iadd) 346 [] (.null) := ⟨1, (congrArg (fun z => mj_at z 345) f167).trans rfl, rfl⟩
set_option maxRecDepth 20000 in
theorem d167_346 : mj_At 167 346 (.iaload) 347 [] (.null) := ⟨1, (congrArg (fun z => mj_at z 346) f167).trans rfl, rfl⟩
set_option maxRecDepth 20000 in
theorem d167_347 : mj_At 167 347 (.invokevirtual 44) 350 [1, 49, 4, 3, 367, 368, 369, 64] (.null) := ⟨3, (congrArg (fun z => mj_at z 347) f167).trans rfl, rfl⟩
set_option maxRecDepth 20000 in
theorem d167_350 : mj_At 167 350 (.aload_n 2) 351 [2] (.null) := ⟨1, (congrArg (fun z => mj_at z 350) f167).trans rfl, rfl⟩
set_option maxRecDepth 20000 in
theorem d167_351 : mj_At 167 351 (.aload_n 0) 352 [0] (.null) := ⟨1, (congrArg (fun z => mj_at z 351) f167).trans rfl, rfl⟩
set_option maxRecDepth 20000 in
theorem d167_352 : mj_At 167 352 (.iload_n 3) 353 [3] (.null) := ⟨1, (congrArg (fun z => mj_at z 352) f167).trans rfl, rfl⟩
set_option maxRecDepth 20000 in
theorem d167_353 : mj_At 167 353 (.iconst (1)) 354 [] (.int 1) := ⟨1, (congrArg (fun z => mj_at z 353) f167).trans rfl, rfl⟩
set_option maxRecDepth 20000 in
theorem d167_354 : mj_At 167 354 (.iadd) 355 [] (.null) := ⟨1, (congrArg (fun z => mj_at z 354) f167).trans rfl, rfl⟩
set_option maxRecDepth 20000 in
theorem d167_355 : mj_At 167 355 (.iaload) 356 [] (.null) := ⟨1, (congrArg (fun z => mj_at z 355) f167).trans rfl, rfl⟩
set_option maxRecDepth 20000 in
theorem d167_356 : mj_At 167 356 (.aload_n 0) 357 [0] (.null) := ⟨1, (congrArg (fun z => mj_at z 356) f167).trans rfl, rfl⟩
set_option maxRecDepth 20000 in
theorem d167_357 : mj_At 167 357 (.iload_n 3) 358 [3] (.null) := ⟨1, (congrArg (fun z => mj_at z 357) f167).trans rfl, rfl⟩
set_option maxRecDepth 20000 in
theorem d167_358 : mj_At 167 358 (.iconst (2)) 359 [] (.int 2) := ⟨1, (congrArg (fun z => mj_at z 358) f167).trans rfl, rfl⟩
set_option maxRecDepth 20000 in
theorem d167_359 : mj_At 167 359 (.iadd) 360 [] (.null) := ⟨1, (congrArg (fun z => mj_at z 359) f167).trans rfl, rfl⟩
set_option maxRecDepth 20000 in
theorem d167_360 : mj_At 167 360 (.iaload) 361 [] (.null) := ⟨1, (congrArg (fun z => mj_at z 360) f167).trans rfl, rfl⟩
set_option maxRecDepth 20000 in
theorem d167_361 : mj_At 167 361 (.aload_n 0) 362 [0] (.null) := ⟨1, (congrArg (fun z => mj_at z 361) f167).trans rfl, rfl⟩
set_option maxRecDepth 20000 in
theorem d167_362 : mj_At 167 362 (.iload_n 3) 363 [3] (.null) := ⟨1, (congrArg (fun z => mj_at z 362) f167).trans rfl, rfl⟩
set_option maxRecDepth 20000 in
theorem d167_363 : mj_At 167 363 (.iconst (3)) 364 [] (.int 3) := ⟨1, (congrArg (fun z => mj_at z 363) f167).trans rfl, rfl⟩
set_option maxRecDepth 20000 in
theorem d167_364 : mj_At 167 364 (.iadd) 365 [] (.null) := ⟨1, (congrArg (fun z => mj_at z 364) f167).trans rfl, rfl⟩
set_option maxRecDepth 20000 in
theorem d167_365 : mj_At 167 365 (.iaload) 366 [] (.null) := ⟨1, (congrArg (fun z => mj_at z 365) f167).trans rfl, rfl⟩
set_option maxRecDepth 20000 in
theorem d167_366 : mj_At 167 366 (.invokevirtual 48) 369 [1, 132, 4, 4, 738, 739, 740, 69] (.null) := ⟨3, (congrArg (fun z => mj_at z 366) f167).trans rfl, rfl⟩
set_option maxRecDepth 20000 in
theorem d167_369 : mj_At 167 369 (.if_icmp .eq (566)) 372 [935] (.null) := ⟨3, (congrArg (fun z => mj_at z 369) f167).trans rfl, rfl⟩
set_option maxRecDepth 20000 in
theorem d167_372 : mj_At 167 372 (.iconst (0)) 373 [] (.int 0) := ⟨1, (congrArg (fun z => mj_at z 372) f167).trans rfl, rfl⟩
set_option maxRecDepth 20000 in
theorem d167_373 : mj_At 167 373 (.ireturn) 374 [1] (.null) := ⟨1, (congrArg (fun z => mj_at z 373) f167).trans rfl, rfl⟩
set_option maxRecDepth 20000 in
theorem d167_374 : mj_At 167 374 (.aload_n 1) 375 [1] (.null) := ⟨1, (congrArg (fun z => mj_at z 374) f167).trans rfl, rfl⟩
set_option maxRecDepth 20000 in
theorem d167_375 : mj_At 167 375 (.aload_n 0) 376 [0] (.null) := ⟨1, (congrArg (fun z => mj_at z 375) f167).trans rfl, rfl⟩
set_option maxRecDepth 20000 in
theorem d167_376 : mj_At 167 376 (.iload_n 3) 377 [3] (.null) := ⟨1, (congrArg (fun z => mj_at z 376) f167).trans rfl, rfl⟩
set_option maxRecDepth 20000 in
theorem d167_377 : mj_At 167 377 (.iconst (1)) 378 [] (.int 1) := ⟨1, (congrArg (fun z => mj_at z 377) f167).trans rfl, rfl⟩
set_option maxRecDepth 20000 in
theorem d167_378 : mj_At 167 378 (.iadd) 379 [] (.null) := ⟨1, (congrArg (fun z => mj_at z 378) f167).trans rfl, rfl⟩
set_option maxRecDepth 20000 in
theorem d167_379 : mj_At 167 379 (.iaload) 380 [] (.null) := ⟨1, (congrArg (fun z => mj_at z 379) f167).trans rfl, rfl⟩
set_option maxRecDepth 20000 in
theorem d167_380 : mj_At 167 380 (.aload_n 0) 381 [0] (.null) := ⟨1, (congrArg (fun z => mj_at z 380) f167).trans rfl, rfl⟩
set_option maxRecDepth 20000 in
theorem d167_381 : mj_At 167 381 (.iload_n 3) 382 [3] (.null) := ⟨1, (congrArg (fun z => mj_at z 381) f167).trans rfl, rfl⟩
set_option maxRecDepth 20000 in
theorem d167_382 : mj_At 167 382 (.iconst (2)) 383 [] (.int 2) := ⟨1, (congrArg (fun z => mj_at z 382) f167).trans rfl, rfl⟩
set_option maxRecDepth 20000 in
theorem d167_383 : mj_At 167 383 (.iadd) 384 [] (.null) := ⟨1, (congrArg (fun z => mj_at z 383) f167).trans rfl, rfl⟩
set_option maxRecDepth 20000 in
theorem d167_384 : mj_At 167 384 (.iaload) 385 [] (.null) := ⟨1, (congrArg (fun z => mj_at z 384) f167).trans rfl, rfl⟩
set_option maxRecDepth 20000 in
theorem d167_385 : mj_At 167 385 (.aload_n 0) 386 [0] (.null) := ⟨1, (congrArg (fun z => mj_at z 385) f167).trans rfl, rfl⟩
set_option maxRecDepth 20000 in
theorem d167_386 : mj_At 167 386 (.iload_n 3) 387 [3] (.null) := ⟨1, (congrArg (fun z => mj_at z 386) f167).trans rfl, rfl⟩
set_option maxRecDepth 20000 in
theorem d167_387 : mj_At 167 387 (.iconst (3)) 388 [] (.int 3) := ⟨1, (congrArg (fun z => mj_at z 387) f167).trans rfl, rfl⟩
set_option maxRecDepth 20000 in
theorem d167_388 : mj_At 167 388 (.iadd) 389 [] (.null) := ⟨1, (congrArg (fun z => mj_at z 388) f167).trans rfl, rfl⟩
set_option maxRecDepth 20000 in
theorem d167_389 : mj_At 167 389 (.iaload) 390 [] (.null) := ⟨1, (congrArg (fun z => mj_at z 389) f167).trans rfl, rfl⟩
set_option maxRecDepth 20000 in
theorem d167_390 : mj_At 167 390 (.invokevirtual 49) 393 [1, 51, 4, 3, 372, 373, 374, 64] (.null) := ⟨3, (congrArg (fun z => mj_at z 390) f167).trans rfl, rfl⟩
set_option maxRecDepth 20000 in
theorem d167_393 : mj_At 167 393 (.aload_n 2) 394 [2] (.null) := ⟨1, (congrArg (fun z => mj_at z 393) f167).trans rfl, rfl⟩
set_option maxRecDepth 20000 in
theorem d167_394 : mj_At 167 394 (.aload_n 0) 395 [0] (.null) := ⟨1, (congrArg (fun z => mj_at z 394) f167).trans rfl, rfl⟩
set_option maxRecDepth 20000 in
theorem d167_395 : mj_At 167 395 (.iload_n 3) 396 [3] (.null) := ⟨1, (congrArg (fun z => mj_at z 395) f167).trans rfl, rfl⟩
set_option maxRecDepth 20000 in
theorem d167_396 : mj_At 167 396 (.iconst (1)) 397 [] (.int 1) := ⟨1, (congrArg (fun z => mj_at z 396) f167).trans rfl, rfl⟩
set_option maxRecDepth 20000 in
theorem d167_397 : mj_At 167 397 (.iadd) 398 [] (.null) := ⟨1, (congrArg (fun z => mj_at z 397) f167).trans rfl, rfl⟩
set_option maxRecDepth 20000 in
theorem d167_398 : mj_At 167 398 (.iaload) 399 [] (.null) := ⟨1, (congrArg (fun z => mj_at z 398) f167).trans rfl, rfl⟩
set_option maxRecDepth 20000 in
theorem d167_399 : mj_At 167 399 (.aload_n 0) 400 [0] (.null) := ⟨1, (congrArg (fun z => mj_at z 399) f167).trans rfl, rfl⟩
set_option maxRecDepth 20000 in
theorem d167_400 : mj_At 167 400 (.iload_n 3) 401 [3] (.null) := ⟨1, (congrArg (fun z => mj_at z 400) f167).trans rfl, rfl⟩
set_option maxRecDepth 20000 in
theorem d167_401 : mj_At 167 401 (.iconst (2)) 402 [] (.int 2) := ⟨1, (congrArg (fun z => mj_at z 401) f167).trans rfl, rfl⟩
set_option maxRecDepth 20000 in
theorem d167_402 : mj_At 167 402 (.iadd) 403 [] (.null) := ⟨1, (congrArg (fun z => mj_at z 402) f167).trans rfl, rfl⟩
set_option maxRecDepth 20000 in
theorem d167_403 : mj_At 167 403 (.iaload) 404 [] (.null) := ⟨1, (congrArg (fun z => mj_at z 403) f167).trans rfl, rfl⟩
set_option maxRecDepth 20000 in
theorem d167_404 : mj_At 167 404 (.aload_n 0) 405 [0] (.null) := ⟨1, (congrArg (fun z => mj_at z 404) f167).trans rfl, rfl⟩
set_option maxRecDepth 20000 in
theorem d167_405 : mj_At 167 405 (.iload_n 3) 406 [3] (.null) := ⟨1, (congrArg (fun z => mj_at z 405) f167).trans rfl, rfl⟩
set_option maxRecDepth 20000 in
theorem d167_406 : mj_At 167 406 (.iconst (3)) 407 [] (.int 3) := ⟨1, (congrArg (fun z => mj_at z 406) f167).trans rfl, rfl⟩
set_option maxRecDepth 20000 in
theorem d167_407 : mj_At 167 407 (.iadd) 408 [] (.null) := ⟨1, (congrArg (fun z => mj_at z 407) f167).trans rfl, rfl⟩
set_option maxRecDepth 20000 in
theorem d167_408 : mj_At 167 408 (.iaload) 409 [] (.null) := ⟨1, (congrArg (fun z => mj_at z 408) f167).trans rfl, rfl⟩
set_option maxRecDepth 20000 in
theorem d167_409 : mj_At 167 409 (.invokevirtual 52) 412 [1, 133, 4, 4, 742, 743, 744, 69] (.null) := ⟨3, (congrArg (fun z => mj_at z 409) f167).trans rfl, rfl⟩
set_option maxRecDepth 20000 in
theorem d167_412 : mj_At 167 412 (.if_icmp .eq (523)) 415 [935] (.null) := ⟨3, (congrArg (fun z => mj_at z 412) f167).trans rfl, rfl⟩
set_option maxRecDepth 20000 in
theorem d167_415 : mj_At 167 415 (.iconst (0)) 416 [] (.int 0) := ⟨1, (congrArg (fun z => mj_at z 415) f167).trans rfl, rfl⟩
set_option maxRecDepth 20000 in
theorem d167_416 : mj_At 167 416 (.ireturn) 417 [1] (.null) := ⟨1, (congrArg (fun z => mj_at z 416) f167).trans rfl, rfl⟩
set_option maxRecDepth 20000 in
theorem d167_417 : mj_At 167 417 (.aload_n 1) 418 [1] (.null) := ⟨1, (congrArg (fun z => mj_at z 417) f167).trans rfl, rfl⟩
set_option maxRecDepth 20000 in
theorem d167_418 : mj_At 167 418 (.aload_n 0) 419 [0] (.null) := ⟨1, (congrArg (fun z => mj_at z 418) f167).trans rfl, rfl⟩
set_option maxRecDepth 20000 in
theorem d167_419 : mj_At 167 419 (.iload_n 3) 420 [3] (.null) := ⟨1, (congrArg (fun z => mj_at z 419) f167).trans rfl, rfl⟩
set_option maxRecDepth 20000 in
theorem d167_420 : mj_At 167 420 (.iconst (1)) 421 [] (.int 1) := ⟨1, (congrArg (fun z => mj_at z 420) f167).trans rfl, rfl⟩
set_option maxRecDepth 20000 in
theorem d167_421 : mj_At 167 421 (.iadd) 422 [] (.null) := ⟨1, (congrArg (fun z => mj_at z 421) f167).trans rfl, rfl⟩
set_option maxRecDepth 20000 in
theorem d167_422 : mj_At 167 422 (.iaload) 423 [] (.null) := ⟨1, (congrArg (fun z => mj_at z 422) f167).trans rfl, rfl⟩
set_option maxRecDepth 20000 in
theorem d167_423 : mj_At 167 423 (.aload_n 0) 424 [0] (.null) := ⟨1, (congrArg (fun z => mj_at z 423) f167).trans rfl, rfl⟩
set_option maxRecDepth 20000 in
theorem d167_424 : mj_At 167 424 (.iload_n 3) 425 [3] (.null) := ⟨1, (congrArg (fun z => mj_at z 424) f167).trans rfl, rfl⟩
set_option maxRecDepth 20000 in
theorem d167_425 : mj_At 167 425 (.iconst (2)) 426 [] (.int 2) := ⟨1, (congrArg (fun z => mj_at z 425) f167).trans rfl, rfl⟩
set_option maxRecDepth 20000 in
theorem d167_426 : mj_At 167 426 (.iadd) 427 [] (.null) := ⟨1, (congrArg (fun z => mj_at z 426) f167).trans rfl, rfl⟩
set_option maxRecDepth 20000 in
theorem d167_427 : mj_At 167 427 (.iaload) 428 [] (.null) := ⟨1, (congrArg (fun z => mj_at z 427) f167).trans rfl, rfl⟩
set_option maxRecDepth 20000 in
theorem d167_428 : mj_At 167 428 (.aload_n 0) 429 [0] (.null) := ⟨1, (congrArg (fun z => mj_at z 428) f167).trans rfl, rfl⟩
set_option maxRecDepth 20000 in
theorem d167_429 : mj_At 167 429 (.iload_n 3) 430 [3] (.null) := ⟨1, (congrArg (fun z => mj_at z 429) f167).trans rfl, rfl⟩
set_option maxRecDepth 20000 in
theorem d167_430 : mj_At 167 430 (.iconst (3)) 431 [] (.int 3) := ⟨1, (congrArg (fun z => mj_at z 430) f167).trans rfl, rfl⟩
set_option maxRecDepth 20000 in
theorem d167_431 : mj_At 167 431 (.iadd) 432 [] (.null) := ⟨1, (congrArg (fun z => mj_at z 431) f167).trans rfl, rfl⟩
set_option maxRecDepth 20000 in
theorem d167_432 : mj_At 167 432 (.iaload) 433 [] (.null) := ⟨1, (congrArg (fun z => mj_at z 432) f167).trans rfl, rfl⟩
set_option maxRecDepth 20000 in
theorem d167_433 : mj_At 167 433 (.aload_n 0) 434 [0] (.null) := ⟨1, (congrArg (fun z => mj_at z 433) f167).trans rfl, rfl⟩
set_option maxRecDepth 20000 in
theorem d167_434 : mj_At 167 434 (.iload_n 3) 435 [3] (.null) := ⟨1, (congrArg (fun z => mj_at z 434) f167).trans rfl, rfl⟩
set_option maxRecDepth 20000 in
theorem d167_435 : mj_At 167 435 (.iconst (4)) 436 [] (.int 4) := ⟨1, (congrArg (fun z => mj_at z 435) f167).trans rfl, rfl⟩
set_option maxRecDepth 20000 in
theorem d167_436 : mj_At 167 436 (.iadd) 437 [] (.null) := ⟨1, (congrArg (fun z => mj_at z 436) f167).trans rfl, rfl⟩
set_option maxRecDepth 20000 in
theorem d167_437 : mj_At 167 437 (.iaload) 438 [] (.null) := ⟨1, (congrArg (fun z => mj_at z 437) f167).trans rfl, rfl⟩
set_option maxRecDepth 20000 in
theorem d167_438 : mj_At 167 438 (.invokevirtual 53) 441 [1, 52, 5, 3, 381, 382, 383, 64] (.null) := ⟨3, (congrArg (fun z => mj_at z 438) f167).trans rfl, rfl⟩
set_option maxRecDepth 20000 in
theorem d167_441 : mj_At 167 441 (.aload_n 2) 442 [2] (.null) := ⟨1, (congrArg (fun z => mj_at z 441) f167).trans rfl, rfl⟩
set_option maxRecDepth 20000 in
theorem d167_442 : mj_At 167 442 (.aload_n 0) 443 [0] (.null) := ⟨1, (congrArg (fun z => mj_at z 442) f167).trans rfl, rfl⟩
set_option maxRecDepth 20000 in
theorem d167_443 : mj_At 167 443 (.iload_n 3) 444 [3] (.null) := ⟨1, (congrArg (fun z => mj_at z 443) f167).trans rfl, rfl⟩
set_option maxRecDepth 20000 in
theorem d167_444 : mj_At 167 444 (.iconst (1)) 445 [] (.int 1) := ⟨1, (congrArg (fun z => mj_at z 444) f167).trans rfl, rfl⟩
set_option maxRecDepth 20000 in
theorem d167_445 : mj_At 167 445 (.iadd) 446 [] (.null) := ⟨1, (congrArg (fun z => mj_at z 445) f167).trans rfl, rfl⟩
set_option maxRecDepth 20000 in
theorem d167_446 : mj_At 167 446 (.iaload) 447 [] (.null) := ⟨1, (congrArg (fun z => mj_at z 446) f167).trans rfl, rfl⟩
set_option maxRecDepth 20000 in
theorem d167_447 : mj_At 167 447 (.aload_n 0) 448 [0] (.null) := ⟨1, (congrArg (fun z => mj_at z 447) f167).trans rfl, rfl⟩
set_option maxRecDepth 20000 in
theorem d167_448 : mj_At 167 448 (.iload_n 3) 449 [3] (.null) := ⟨1, (congrArg (fun z => mj_at z 448) f167).trans rfl, rfl⟩
set_option maxRecDepth 20000 in
theorem d167_449 : mj_At 167 449 (.iconst (2)) 450 [] (.int 2) := ⟨1, (congrArg (fun z => mj_at z 449) f167).trans rfl, rfl⟩
set_option maxRecDepth 20000 in
theorem d167_450 : mj_At 167 450 (.iadd) 451 [] (.null) := ⟨1, (congrArg (fun z => mj_at z 450) f167).trans rfl, rfl⟩
set_option maxRecDepth 20000 in
theorem d167_451 : mj_At 167 451 (.iaload) 452 [] (.null) := ⟨1, (congrArg (fun z => mj_at z 451) f167).trans rfl, rfl⟩
set_option maxRecDepth 20000 in
theorem d167_452 : mj_At 167 452 (.aload_n 0) 453 [0] (.null) := ⟨1, (congrArg (fun z => mj_at z 452) f167).trans rfl, rfl⟩
set_option maxRecDepth 20000 in
theorem d167_453 : mj_At 167 453 (.iload_n 3) 454 [3] (.null) := ⟨1, (congrArg (fun z => mj_at z 453) f167).trans rfl, rfl⟩
set_option maxRecDepth 20000 in
theorem d167_454 : mj_At 167 454 (.iconst (3)) 455 [] (.int 3) := ⟨1, (congrArg (fun z => mj_at z 454) f167).trans rfl, rfl⟩
set_option maxRecDepth 20000 in
theorem d167_455 : mj_At 167 455 (.iadd) 456 [] (.null) := ⟨1, (congrArg (fun z => mj_at z 455) f167).trans rfl, rfl⟩
set_option maxRecDepth 20000 in
theorem d167_456 : mj_At 167 456 (.iaload) 457 [] (.null) := ⟨1, (congrArg (fun z => mj_at z 456) f167).trans rfl, rfl⟩
set_option maxRecDepth 20000 in
theorem d167_457 : mj_At 167 457 (.aload_n 0) 458 [0] (.null) := ⟨1, (congrArg (fun z => mj_at z 457) f167).trans rfl, rfl⟩
set_option maxRecDepth 20000 in
theorem d167_458 : mj_At 167 458 (.iload_n 3) 459 [3] (.null) := ⟨1, (congrArg (fun z => mj_at z 458) f167).trans rfl, rfl⟩
set_option maxRecDepth 20000 in
theorem d167_459 : mj_At 167 459 (.iconst (4)) 460 [] (.int 4) := ⟨1, (congrArg (fun z => mj_at z 459) f167).trans rfl, rfl⟩
set_option maxRecDepth 20000 in
theorem d167_460 : mj_At 167 460 (.iadd) 461 [] (.null) := ⟨1, (congrArg (fun z => mj_at z 460) f167).trans rfl, rfl⟩
set_option maxRecDepth 20000 in
theorem d167_461 : mj_At 167 461 (.iaload) 462 [] (.null) := ⟨1, (congrArg (fun z => mj_at z 461) f167).trans rfl, rfl⟩
set_option maxRecDepth 20000 in
theorem d167_462 : mj_At 167 462 (.invokevirtual 56) 465 [1, 134, 5, 4, 747, 748, 749, 69] (.null) := ⟨3, (congrArg (fun z => mj_at z 462) f167).trans rfl, rfl⟩
set_option maxRecDepth 20000 in
theorem d167_465 : mj_At 167 465 (.if_icmp .eq (470)) 468 [935] (.null) := ⟨3, (congrArg (fun z => mj_at z 465) f167).trans rfl, rfl⟩
set_option maxRecDepth 20000 in
theorem d167_468 : mj_At 167 468 (.iconst (0)) 469 [] (.int 0) := ⟨1, (congrArg (fun z => mj_at z 468) f167).trans rfl, rfl⟩
set_option maxRecDepth 20000 in
theorem d167_469 : mj_At 167 469 (.ireturn) 470 [1] (.null) := ⟨1, (congrArg (fun z => mj_at z 469) f167).trans rfl, rfl⟩
set_option maxRecDepth 20000 in
theorem d167_470 : mj_At 167 470 (.aload_n 1) 471 [1] (.null) := ⟨1, (congrArg (fun z => mj_at z 470) f167).trans rfl, rfl⟩
set_option maxRecDepth 20000 in
theorem d167_471 : mj_At 167 471 (.aload_n 0) 472 [0] (.null) := ⟨1, (congrArg (fun z => mj_at z 471) f167).trans rfl, rfl⟩
set_option maxRecDepth 20000 in
theorem d167_472 : mj_At 167 472 (.iload_n 3) 473 [3] (.null) := ⟨1, (congrArg (fun z => mj_at z 472) f167).trans rfl, rfl⟩
set_option maxRecDepth 20000 in
theorem d167_473 : mj_At 167 473 (.iconst (1)) 474 [] (.int 1) := ⟨1, (congrArg (fun z => mj_at z 473) f167).trans rfl, rfl⟩
set_option maxRecDepth 20000 in
theorem d167_474 : mj_At 167 474 (.iadd) 475 [] (.null) := ⟨1, (congrArg (fun z => mj_at z 474) f167).trans rfl, rfl⟩
set_option maxRecDepth 20000 in
theorem d167_475 : mj_At 167 475 (.iaload) 476 [] (.null) := ⟨1, (congrArg (fun z => mj_at z 475) f167).trans rfl, rfl⟩
set_option maxRecDepth 20000 in
theorem d167_476 : mj_At 167 476 (.aload_n 0) 477 [0] (.null) := ⟨1, (congrArg (fun z => mj_at z 476) f167).trans rfl, rfl⟩
set_option maxRecDepth 20000 in
theorem d167_477 : mj_At 167 477 (.iload_n 3) 478 [3] (.null) := ⟨1, (congrArg (fun z => mj_at z 477) f167).trans rfl, rfl⟩
set_option maxRecDepth 20000 in
theorem d167_478 : mj_At 167 478 (.iconst (2)) 479 [] (.int 2) := ⟨1, (congrArg (fun z => mj_at z 478) f167).trans rfl, rfl⟩
set_option maxRecDepth 20000 in
theorem d167_479 : mj_At 167 479 (.iadd) 480 [] (.null) := ⟨1, (congrArg (fun z => mj_at z 479) f167).trans rfl, rfl⟩
set_option maxRecDepth 20000 in
theorem d167_480 : mj_At 167 480 (.iaload) 481 [] (.null) := ⟨1, (congrArg (fun z => mj_at z 480) f167).trans rfl, rfl⟩
set_option maxRecDepth 20000 in
theorem d167_481 : mj_At 167 481 (.aload_n 0) 482 [0] (.null) := ⟨1, (congrArg (fun z => mj_at z 481) f167).trans rfl, rfl⟩
set_option maxRecDepth 20000 in
theorem d167_482 : mj_At 167 482 (.iload_n 3) 483 [3] (.null) := ⟨1, (congrArg (fun z => mj_at z 482) f167).trans rfl, rfl⟩
set_option maxRecDepth 20000 in
theorem d167_483 : mj_At 167 483 (.iconst (3)) 484 [] (.int 3) := ⟨1, (congrArg (fun z => mj_at z 483) f167).trans rfl, rfl⟩
set_option maxRecDepth 20000 in
theorem d167_484 : mj_At 167 484 (.iadd) 485 [] (.null) := ⟨1, (congrArg (fun z => mj_at z 484) f167).trans rfl, rfl⟩
set_option maxRecDepth 20000 in
theorem d167_485 : mj_At 167 485 (.iaload) 486 [] (.null) := ⟨1, (congrArg (fun z => mj_at z 485) f167).trans rfl, rfl⟩
set_option maxRecDepth 20000 in
theorem d167_486 : mj_At 167 486 (.invokevirtual 57) 489 [1, 57, 4, 3, 385, 386, 387, 64] (.null) := ⟨3, (congrArg (fun z => mj_at z 486) f167).trans rfl, rfl⟩
set_option maxRecDepth 20000 in
theorem d167_489 : mj_At 167 489 (.aload_n 2) 490 [2] (.null) := ⟨1, (congrArg (fun z => mj_at z 489) f167).trans rfl, rfl⟩
set_option maxRecDepth 20000 in
theorem d167_490 : mj_At 167 490 (.aload_n 0) 491 [0] (.null) := ⟨1, (congrArg (fun z => mj_at z 490) f167).trans rfl, rfl⟩
set_option maxRecDepth 20000 in
theorem d167_491 : mj_At 167 491 (.iload_n 3) 492 [3] (.null) := ⟨1, (congrArg (fun z => mj_at z 491) f167).trans rfl, rfl⟩
set_option maxRecDepth 20000 in
theorem d167_492 : mj_At 167 492 (.iconst (1)) 493 [] (.int 1) := ⟨1, (congrArg (fun z => mj_at z 492) f167).trans rfl, rfl⟩
set_option maxRecDepth 20000 in
theorem d167_493 : mj_At 167 493 (.iadd) 494 [] (.null) := ⟨1, (congrArg (fun z => mj_at z 493) f167).trans rfl, rfl⟩
set_option maxRecDepth 20000 in
theorem d167_494 : mj_At 167 494 (.iaload) 495 [] (.null) := ⟨1, (congrArg (fun z => mj_at z 494) f167).trans rfl, rfl⟩
set_option maxRecDepth 20000 in
theorem d167_495 : mj_At 167 495 (.aload_n 0) 496 [0] (.null) := ⟨1, (congrArg (fun z => mj_at z 495) f167).trans rfl, rfl⟩
set_option maxRecDepth 20000 in
theorem d167_496 : mj_At 167 496 (.iload_n 3) 497 [3] (.null) := ⟨1, (congrArg (fun z => mj_at z 496) f167).trans rfl, rfl⟩
set_option maxRecDepth 20000 in
theorem d167_497 : mj_At 167 497 (.iconst (2)) 498 [] (.int 2) := ⟨1, (congrArg (fun z => mj_at z 497) f167).trans rfl, rfl⟩
set_option maxRecDepth 20000 in
theorem d167_498 : mj_At 167 498 (.iadd) 499 [] (.null) := ⟨1, (congrArg (fun z => mj_at z 498) f167).trans rfl, rfl⟩
set_option maxRecDepth 20000 in
theorem d167_499 : mj_At 167 499 (.iaload) 500 [] (.null) := ⟨1, (congrArg (fun z => mj_at z 499) f167).trans rfl, rfl⟩
set_option maxRecDepth 20000 in
theorem d167_500 : mj_At 167 500 (.aload_n 0) 501 [0] (.null) := ⟨1, (congrArg (fun z => mj_at z 500) f167).trans rfl, rfl⟩
set_option maxRecDepth 20000 in
theorem d167_501 : mj_At 167 501 (.iload_n 3) 502 [3] (.null) := ⟨1, (congrArg (fun z => mj_at z 501) f167).trans rfl, rfl⟩
set_option maxRecDepth 20000 in
theorem d167_502 : mj_At 167 502 (.iconst (3)) 503 [] (.int 3) := ⟨1, (congrArg (fun z => mj_at z 502) f167).trans rfl, rfl⟩
set_option maxRecDepth 20000 in
theorem d167_503 : mj_At 167 503 (.iadd) 504 [] (.null) := ⟨1, (congrArg (fun z => mj_at z 503) f167).trans rfl, rfl⟩
set_option maxRecDepth 20000 in
theorem d167_504 : mj_At 167 504 (.iaload) 505 [] (.null) := ⟨1, (congrArg (fun z => mj_at z 504) f167).trans rfl, rfl⟩
set_option maxRecDepth 20000 in
theorem d167_505 : mj_At 167 505 (.invokevirtual 60) 508 [1, 135, 4, 4, 751, 752, 753, 69] (.null) := ⟨3, (congrArg (fun z => mj_at z 505) f167).trans rfl, rfl⟩
set_option maxRecDepth 20000 in
theorem d167_508 : mj_At 167 508 (.if_icmp .eq (427)) 511 [935] (.null) := ⟨3, (congrArg (fun z => mj_at z 508) f167).trans rfl, rfl⟩
set_option maxRecDepth 20000 in
theorem d167_511 : mj_At 167 511 (.iconst (0)) 512 [] (.int 0) := ⟨1, (congrArg (fun z => mj_at z 511) f167).trans rfl, rfl⟩
set_option maxRecDepth 20000 in
theorem d167_512 : mj_At 167 512 (.ireturn) 513 [1] (.null) := ⟨1, (congrArg (fun z => mj_at z 512) f167).trans rfl, rfl⟩
set_option maxRecDepth 20000 in
theorem d167_513 : mj_At 167 513 (.aload_n 1) 514 [1] (.null) := ⟨1, (congrArg (fun z => mj_at z 513) f167).trans rfl, rfl⟩
set_option maxRecDepth 20000 in
theorem d167_514 : mj_At 167 514 (.aload_n 0) 515 [0] (.null) := ⟨1, (congrArg (fun z => mj_at z 514) f167).trans rfl, rfl⟩
set_option maxRecDepth 20000 in
theorem d167_515 : mj_At 167 515 (.iload_n 3) 516 [3] (.null) := ⟨1, (congrArg (fun z => mj_at z 515) f167).trans rfl, rfl⟩
set_option maxRecDepth 20000 in
theorem d167_516 : mj_At 167 516 (.iconst (1)) 517 [] (.int 1) := ⟨1, (congrArg (fun z => mj_at z 516) f167).trans rfl, rfl⟩
set_option maxRecDepth 20000 in
theorem d167_517 : mj_At 167 517 (.iadd) 518 [] (.null) := ⟨1, (congrArg (fun z => mj_at z 517) f167).trans rfl, rfl⟩
set_option maxRecDepth 20000 in
theorem d167_518 : mj_At 167 518 (.iaload) 519 [] (.null) := ⟨1, (congrArg (fun z => mj_at z 518) f167).trans rfl, rfl⟩
set_option maxRecDepth 20000 in
theorem d167_519 : mj_At 167 519 (.invokevirtual 61) 522 [1, 60, 2, 3, 405, 406, 407, 64] (.null) := ⟨3, (congrArg (fun z => mj_at z 519) f167).trans rfl, rfl⟩
set_option maxRecDepth 20000 in
theorem d167_522 : mj_At 167 522 (.aload_n 2) 523 [2] (.null) := ⟨1, (congrArg (fun z => mj_at z 522) f167).trans rfl, rfl⟩
set_option maxRecDepth 20000 in
theorem d167_523 : mj_At 167 523 (.aload_n 0) 524 [0] (.null) := ⟨1, (congrArg (fun z => mj_at z 523) f167).trans rfl, rfl⟩
set_option maxRecDepth 20000 in
theorem d167_524 : mj_At 167 524 (.iload_n 3) 525 [3] (.null) := ⟨1, (congrArg (fun z => mj_at z 524) f167).trans rfl, rfl⟩
set_option maxRecDepth 20000 in
theorem d167_525 : mj_At 167 525 (.iconst (1)) 526 [] (.int 1) := ⟨1, (congrArg (fun z => mj_at z 525) f167).trans rfl, rfl⟩
set_option maxRecDepth 20000 in
theorem d167_526 : mj_At 167 526 (.iadd) 527 [] (.null) := ⟨1, (congrArg (fun z => mj_at z 526) f167).trans rfl, rfl⟩
set_option maxRecDepth 20000 in
theorem d167_527 : mj_At 167 527 (.iaload) 528 [] (.null) := ⟨1, (congrArg (fun z => mj_at z 527) f167).trans rfl, rfl⟩
set_option maxRecDepth 20000 in
theorem d167_528 : mj_At 167 528 (.invokevirtual 64) 531 [1, 138, 2, 4, 755, 756, 757, 69] (.null) := ⟨3, (congrArg (fun z => mj_at z 528) f167).trans rfl, rfl⟩
set_option maxRecDepth 20000 in
theorem d167_531 : mj_At 167 531 (.if_icmp .eq (404)) 534 [935] (.null) := ⟨3, (congrArg (fun z => mj_at z 531) f167).trans rfl, rfl⟩
set_option maxRecDepth 20000 in
theorem d167_534 : mj_At 167 534 (.iconst (0)) 535 [] (.int 0) := ⟨1, (congrArg (fun z => mj_at z 534) f167).trans rfl, rfl⟩
set_option maxRecDepth 20000 in
theorem d167_535 : mj_At 167 535 (.ireturn) 536 [1] (.null) := ⟨1, (congrArg (fun z => mj_at z 535) f167).trans rfl, rfl⟩
set_option maxRecDepth 20000 in
theorem d167_536 : mj_At 167 536 (.aload_n 1) 537 [1] (.null) := ⟨1, (congrArg (fun z => mj_at z 536) f167).trans rfl, rfl⟩
set_option maxRecDepth 20000 in
theorem d167_537 : mj_At 167 537 (.aload_n 0) 538 [0] (.null) := ⟨1, (congrArg (fun z => mj_at z 537) f167).trans rfl, rfl⟩
set_option maxRecDepth 20000 in
theorem d167_538 : mj_At 167 538 (.iload_n 3) 539 [3] (.null) := ⟨1, (congrArg (fun z => mj_at z 538) f167).trans rfl, rfl⟩
set_option maxRecDepth 20000 in
theorem d167_539 : mj_At 167 539 (.iconst (1)) 540 [] (.int 1) := ⟨1, (congrArg (fun z => mj_at z 539) f167).trans rfl, rfl⟩
set_option maxRecDepth 20000 in
theorem d167_540 : mj_At 167 540 (.iadd) 541 [] (.null) := ⟨1, (congrArg (fun z => mj_at z 540) f167).trans rfl, rfl⟩
set_option maxRecDepth 20000 in
theorem d167_541 : mj_At 167 541 (.iaload) 542 [] (.null) := ⟨1, (congrArg (fun z => mj_at z 541) f167).trans rfl, rfl⟩
set_option maxRecDepth 20000 in
theorem d167_542 : mj_At 167 542 (.aload_n 0) 543 [0] (.null) := ⟨1, (congrArg (fun z => mj_at z 542) f167).trans rfl, rfl⟩
set_option maxRecDepth 20000 in
theorem d167_543 : mj_At 167 543 (.iload_n 3) 544 [3] (.null) := ⟨1, (congrArg (fun z => mj_at z 543) f167).trans rfl, rfl⟩
set_option maxRecDepth 20000 in
theorem d167_544 : mj_At 167 544 (.iconst (2)) 545 [] (.int 2) := ⟨1, (congrArg (fun z => mj_at z 544) f167).trans rfl, rfl⟩
set_option maxRecDepth 20000 in
theorem d167_545 : mj_At 167 545 (.iadd) 546 [] (.null) := ⟨1, (congrArg (fun z => mj_at z 545) f167).trans rfl, rfl⟩
set_option maxRecDepth 20000 in
theorem d167_546 : mj_At 167 546 (.iaload) 547 [] (.null) := ⟨1, (congrArg (fun z => mj_at z 546) f167).trans rfl, rfl⟩
set_option maxRecDepth 20000 in
theorem d167_547 : mj_At 167 547 (.aload_n 0) 548 [0] (.null) := ⟨1, (congrArg (fun z => mj_at z 547) f167).trans rfl, rfl⟩
set_option maxRecDepth 20000 in
theorem d167_548 : mj_At 167 548 (.iload_n 3) 549 [3] (.null) := ⟨1, (congrArg (fun z => mj_at z 548) f167).trans rfl, rfl⟩
set_option maxRecDepth 20000 in
theorem d167_549 : mj_At 167 549 (.iconst (3)) 550 [] (.int 3) := ⟨1, (congrArg (fun z => mj_at z 549) f167).trans rfl, rfl⟩
set_option maxRecDepth 20000 in
theorem d167_550 : mj_At 167 550 (.iadd) 551 [] (.null) := ⟨1, (congrArg (fun z => mj_at z 550) f167).trans rfl, rfl⟩
set_option maxRecDepth 20000 in
theorem d167_551 : mj_At 167 551 (.iaload) 552 [] (.null) := ⟨1, (congrArg (fun z => mj_at z 551) f167).trans rfl, rfl⟩
set_option maxRecDepth 20000 in
theorem d167_552 : mj_At 167 552 (.invokevirtual 65) 555 [1, 61, 4, 3, 417, 418, 419, 64] (.null) := ⟨3, (congrArg (fun z => mj_at z 552) f167).trans rfl, rfl⟩
set_option maxRecDepth 20000 in
theorem d167_555 : mj_At 167 555 (.aload_n 2) 556 [2] (.null) := ⟨1, (congrArg (fun z => mj_at z 555) f167).trans rfl, rfl⟩
set_option maxRecDepth 20000 in
theorem d167_556 : mj_At 167 556 (.aload_n 0) 557 [0] (.null) := ⟨1, (congrArg (fun z => mj_at z 556) f167).trans rfl, rfl⟩
set_option maxRecDepth 20000 in
theorem d167_557 : mj_At 167 557 (.iload_n 3) 558 [3] (.null) := ⟨1, (congrArg (fun z => mj_at z 557) f167).trans rfl, rfl⟩
set_option maxRecDepth 20000 in
theorem d167_558 : mj_At 167 558 (.iconst (1)) 559 [] (.int 1) := ⟨1, (congrArg (fun z => mj_at z 558) f167).trans rfl, rfl⟩
set_option maxRecDepth 20000 in
theorem d167_559 : mj_At 167 559 (.iadd) 560 [] (.null) := ⟨1, (congrArg (fun z => mj_at z 559) f167).trans rfl, rfl⟩
set_option maxRecDepth 20000 in
theorem d167_560 : mj_At 167 560 (.iaload) 561 [] (.null) := ⟨1, (congrArg (fun z => mj_at z 560) f167).trans rfl, rfl⟩
set_option maxRecDepth 20000 in
theorem d167_561 : mj_At 167 561 (.aload_n 0) 562 [0] (.null) := ⟨1, (congrArg (fun z => mj_at z 561) f167).trans rfl, rfl⟩
set_option maxRecDepth 20000 in
theorem d167_562 : mj_At 167 562 (.iload_n 3) 563 [3] (.null) := ⟨1, (congrArg (fun z => mj_at z 562) f167).trans rfl, rfl⟩
set_option maxRecDepth 20000 in
theorem d167_563 : mj_At 167 563 (.iconst (2)) 564 [] (.int 2) := ⟨1, (congrArg (fun z => mj_at z 563) f167).trans rfl, rfl⟩
set_option maxRecDepth 20000 in
theorem d167_564 : mj_At 167 564 (.iadd) 565 [] (.null) := ⟨1, (congrArg (fun z => mj_at z 564) f167).trans rfl, rfl⟩
set_option maxRecDepth 20000 in
theorem d167_565 : mj_At 167 565 (.iaload) 566 [] (.null) := ⟨1, (congrArg (fun z => mj_at z 565) f167).trans rfl, rfl⟩
set_option maxRecDepth 20000 in
theorem d167_566 : mj_At 167 566 (.aload_n 0) 567 [0] (.null) := ⟨1, (congrArg (fun z => mj_at z 566) f167).trans rfl, rfl⟩
set_option maxRecDepth 20000 in
theorem d167_567 : mj_At 167 567 (.iload_n 3) 568 [3] (.null) := ⟨1, (congrArg (fun z => mj_at z 567) f167).trans rfl, rfl⟩
set_option maxRecDepth 20000 in
theorem d167_568 : mj_At 167 568 (.iconst (3)) 569 [] (.int 3) := ⟨1, (congrArg (fun z => mj_at z 568) f167).trans rfl, rfl⟩
set_option maxRecDepth 20000 in
theorem d167_569 : mj_At 167 569 (.iadd) 570 [] (.null) := ⟨1, (congrArg (fun z => mj_at z 569) f167).trans rfl, rfl⟩
set_option maxRecDepth 20000 in
theorem d167_570 : mj_At 167 570 (.iaload) 571 [] (.null) := ⟨1, (congrArg (fun z => mj_at z 570) f167).trans rfl, rfl⟩
set_option maxRecDepth 20000 in
theorem d167_571 : mj_At 167 571 (.invokevirtual 68) 574 [1, 139, 4, 4, 771, 772, 773, 69] (.null) := ⟨3, (congrArg (fun z => mj_at z 571) f167).trans rfl, rfl⟩
set_option maxRecDepth 20000 in
theorem d167_574 : mj_At 167 574 (.if_icmp .eq (361)) 577 [935] (.null) := ⟨3, (congrArg (fun z => mj_at z 574) f167).trans rfl, rfl⟩
set_option maxRecDepth 20000 in
theorem d167_577 : mj_At 167 577 (.iconst (0)) 578 [] (.int 0) := ⟨1, (congrArg (fun z => mj_at z 577) f167).trans rfl, rfl⟩
set_option maxRecDepth 20000 in
theorem d167_578 : mj_At 167 578 (.ireturn) 579 [1] (.null) := ⟨1, (congrArg (fun z => mj_at z 578) f167).trans rfl, rfl⟩
set_option maxRecDepth 20000 in
theorem d167_579 : mj_At 167 579 (.aload_n 1) 580 [1] (.null) := ⟨1, (congrArg (fun z => mj_at z 579) f167).trans rfl, rfl⟩
set_option maxRecDepth 20000 in
theorem d167_580 : mj_At 167 580 (.aload_n 0) 581 [0] (.null) := ⟨1, (congrArg (fun z => mj_at z 580) f167).trans rfl, rfl⟩
set_option maxRecDepth 20000 in
theorem d167_581 : mj_At 167 581 (.iload_n 3) 582 [3] (.null) := ⟨1, (congrArg (fun z => mj_at z 581) f167).trans rfl, rfl⟩
set_option maxRecDepth 20000 in
theorem d167_582 : mj_At 167 582 (.iconst (1)) 583 [] (.int 1) := ⟨1, (congrArg (fun z => mj_at z 582) f167).trans rfl, rfl⟩
set_option maxRecDepth 20000 in
theorem d167_583 : mj_At 167 583 (.iadd) 584 [] (.null) := ⟨1, (congrArg (fun z => mj_at z 583) f167).trans rfl, rfl⟩
set_option maxRecDepth 20000 in
theorem d167_584 : mj_At 167 584 (.iaload) 585 [] (.null) := ⟨1, (congrArg (fun z => mj_at z 584) f167).trans rfl, rfl⟩
set_option maxRecDepth 20000 in
theorem d167_585 : mj_At 167 585 (.aload_n 0) 586 [0] (.null) := ⟨1, (congrArg (fun z => mj_at z 585) f167).trans rfl, rfl⟩
set_option maxRecDepth 20000 in
theorem d167_586 : mj_At 167 586 (.iload_n 3) 587 [3] (.null) := ⟨1, (congrArg (fun z => mj_at z 586) f167).trans rfl, rfl⟩
set_option maxRecDepth 20000 in
theorem d167_587 : mj_At 167 587 (.iconst (2)) 588 [] (.int 2) := ⟨1, (congrArg (fun z => mj_at z 587) f167).trans rfl, rfl⟩
set_option maxRecDepth 20000 in
theorem d167_588 : mj_At 167 588 (.iadd) 589 [] (.null) := ⟨1, (congrArg (fun z => mj_at z 588) f167).trans rfl, rfl⟩
set_option maxRecDepth 20000 in
theorem d167_589 : mj_At 167 589 (.iaload) 590 [] (.null) := ⟨1, (congrArg (fun z => mj_at z 589) f167).trans rfl, rfl⟩
set_option maxRecDepth 20000 in
theorem d167_590 : mj_At 167 590 (.invokevirtual 69) 593 [1, 62, 3, 3, 421, 422, 423, 64] (.null) := ⟨3, (congrArg (fun z => mj_at z 590) f167).trans rfl, rfl⟩
set_option maxRecDepth 20000 in
theorem d167_593 : mj_At 167 593 (.aload_n 2) 594 [2] (.null) := ⟨1, (congrArg (fun z => mj_at z 593) f167).trans rfl, rfl⟩
set_option maxRecDepth 20000 in
theorem d167_594 : mj_At 167 594 (.aload_n 0) 595 [0] (.null) := ⟨1, (congrArg (fun z => mj_at z 594) f167).trans rfl, rfl⟩
set_option maxRecDepth 20000 in
theorem d167_595 : mj_At 167 595 (.iload_n 3) 596 [3] (.null) := ⟨1, (congrArg (fun z => mj_at z 595) f167).trans rfl, rfl⟩
set_option maxRecDepth 20000 in
theorem d167_596 : mj_At 167 596 (.iconst (1)) 597 [] (.int 1) := ⟨1, (congrArg (fun z => mj_at z 596) f167).trans rfl, rfl⟩
set_option maxRecDepth 20000 in
theorem d167_597 : mj_At 167 597 (.iadd) 598 [] (.null) := ⟨1, (congrArg (fun z => mj_at z 597) f167).trans rfl, rfl⟩
set_option maxRecDepth 20000 in
theorem d167_598 : mj_At 167 598 (.iaload) 599 [] (.null) := ⟨1, (congrArg (fun z => mj_at z 598) f167).trans rfl, rfl⟩
set_option maxRecDepth 20000 in
theorem d167_599 : mj_At 167 599 (.aload_n 0) 600 [0] (.null) := ⟨1, (congrArg (fun z => mj_at z 599) f167).trans rfl, rfl⟩
set_option maxRecDepth 20000 in
theorem d167_600 : mj_At 167 600 (.iload_n 3) 601 [3] (.null) := ⟨1, (congrArg (fun z => mj_at z 600) f167).trans rfl, rfl⟩
set_option maxRecDepth 20000 in
theorem d167_601 : mj_At 167 601 (.iconst (2)) 602 [] (.int 2) := ⟨1, (congrArg (fun z => mj_at z 601) f167).trans rfl, rfl⟩
set_option maxRecDepth 20000 in
theorem d167_602 : mj_At 167 602 (.iadd) 603 [] (.null) := ⟨1, (congrArg (fun z => mj_at z 602) f167).trans rfl, rfl⟩
set_option maxRecDepth 20000 in
theorem d167_603 : mj_At 167 603 (.iaload) 604 [] (.null) := ⟨1, (congrArg (fun z => mj_at z 603) f167).trans rfl, rfl⟩
set_option maxRecDepth 20000 in
theorem d167_604 : mj_At 167 604 (.invokevirtual 73) 607 [1, 141, 3, 4, 775, 776, 777, 69] (.null) := ⟨3, (congrArg (fun z => mj_at z 604) f167).trans rfl, rfl⟩
set_option maxRecDepth 20000 in
theorem d167_607 : mj_At 167 607 (.if_icmp .eq (328)) 610 [935] (.null) := ⟨3, (congrArg (fun z => mj_at z 607) f167).trans rfl, rfl⟩
set_option maxRecDepth 20000 in
theorem d167_610 : mj_At 167 610 (.iconst (0)) 611 [] (.int 0) := ⟨1, (congrArg (fun z => mj_at z 610) f167).trans rfl, rfl⟩
set_option maxRecDepth 20000 in
theorem d167_611 : mj_At 167 611 (.ireturn) 612 [1] (.null) := ⟨1, (congrArg (fun z => mj_at z 611) f167).trans rfl, rfl⟩
set_option maxRecDepth 20000 in
theorem d167_612 : mj_At 167 612 (.aload_n 1) 613 [1] (.null) := ⟨1, (congrArg (fun z => mj_at z 612) f167).trans rfl, rfl⟩
set_option maxRecDepth 20000 in
theorem d167_613 : mj_At 167 613 (.aload_n 0) 614 [0] (.null) := ⟨1, (congrArg (fun z => mj_at z 613) f167).trans rfl, rfl⟩
set_option maxRecDepth 20000 in
theorem d167_614 : mj_At 167 614 (.iload_n 3) 615 [3] (.null) := ⟨1, (congrArg (fun z => mj_at z 614) f167).trans rfl, rfl⟩
set_option maxRecDepth 20000 in
theorem d167_615 : mj_At 167 615 (.iconst (1)) 616 [] (.int 1) := ⟨1, (congrArg (fun z => mj_at z 615) f167).trans rfl, rfl⟩
set_option maxRecDepth 20000 in
theorem d167_616 : mj_At 167 616 (.iadd) 617 [] (.null) := ⟨1, (congrArg (fun z => mj_at z 616) f167).trans rfl, rfl⟩
set_option maxRecDepth 20000 in
theorem d167_617 : mj_At 167 617 (.iaload) 618 [] (.null) := ⟨1, (congrArg (fun z => mj_at z 617) f167).trans rfl, rfl⟩
set_option maxRecDepth 20000 in
theorem d167_618 : mj_At 167 618 (.aload_n 0) 619 [0] (.null) := ⟨1, (congrArg (fun z => mj_at z 618) f167).trans rfl, rfl⟩
set_option maxRecDepth 20000 in
theorem d167_619 : mj_At 167 619 (.iload_n 3) 620 [3] (.null) := ⟨1, (congrArg (fun z => mj_at z 619) f167).trans rfl, rfl⟩
set_option maxRecDepth 20000 in
theorem d167_620 : mj_At 167 620 (.iconst (2)) 621 [] (.int 2) := ⟨1, (congrArg (fun z => mj_at z 620) f167).trans rfl, rfl⟩
set_option maxRecDepth 20000 in
theorem d167_621 : mj_At 167 621 (.iadd) 622 [] (.null) := ⟨1, (congrArg (fun z => mj_at z 621) f167).trans rfl, rfl⟩
set_option maxRecDepth 20000 in
theorem d167_622 : mj_At 167 622 (.iaload) 623 [] (.null) := ⟨1, (congrArg (fun z => mj_at z 622) f167).trans rfl, rfl⟩
set_option maxRecDepth 20000 in
theorem d167_623 : mj_At 167 623 (.aload_n 0) 624 [0] (.null) := ⟨1, (congrArg (fun z => mj_at z 623) f167).trans rfl, rfl⟩
set_option maxRecDepth 20000 in
theorem d167_624 : mj_At 167 624 (.iload_n 3) 625 [3] (.null) := ⟨1, (congrArg (fun z => mj_at z 624) f167).trans rfl, rfl⟩
set_option maxRecDepth 20000 in
theorem d167_625 : mj_At 167 625 (.iconst (3)) 626 [] (.int 3) := ⟨1, (congrArg (fun z => mj_at z 625) f167).trans rfl, rfl⟩
set_option maxRecDepth 20000 in
theorem d167_626 : mj_At 167 626 (.iadd) 627 [] (.null) := ⟨1, (congrArg (fun z => mj_at z 626) f167).trans rfl, rfl⟩
set_option maxRecDepth 20000 in
theorem d167_627 : mj_At 167 627 (.iaload) 628 [] (.null) := ⟨1, (congrArg (fun z => mj_at z 627) f167).trans rfl, rfl⟩
set_option maxRecDepth 20000 in
theorem d167_628 : mj_At 167 628 (.invokevirtual 74) 631 [1, 63, 4, 3, 425, 426, 427, 64] (.null) := ⟨3, (congrArg (fun z => mj_at z 628) f167).trans rfl, rfl⟩
set_option maxRecDepth 20000 in
theorem d167_631 : mj_At 167 631 (.aload_n 2) 632 [2] (.null) := ⟨1, (congrArg (fun z => mj_at z 631) f167).trans rfl, rfl⟩
set_option maxRecDepth 20000 in
theorem d167_632 : mj_At 167 632 (.aload_n 0) 633 [0] (.null) := ⟨1, (congrArg (fun z => mj_at z 632) f167).trans rfl, rfl⟩
set_option maxRecDepth 20000 in
theorem d167_633 : mj_At 167 633 (.iload_n 3) 634 [3] (.null) := ⟨1, (congrArg (fun z => mj_at z 633) f167).trans rfl, rfl⟩
set_option maxRecDepth 20000 in
theorem d167_634 : mj_At 167 634 (.iconst (1)) 635 [] (.int 1) := ⟨1, (congrArg (fun z => mj_at z 634) f167).trans rfl, rfl⟩
set_option maxRecDepth 20000 in
theorem d167_635 : mj_At 167 635 (.iadd) 636 [] (.null) := ⟨1, (congrArg (fun z => mj_at z 635) f167).trans rfl, rfl⟩
set_option maxRecDepth 20000 in
theorem d167_636 : mj_At 167 636 (.iaload) 637 [] (.null) := ⟨1, (congrArg (fun z => mj_at z 636) f167).trans rfl, rfl⟩
set_option maxRecDepth 20000 in
theorem d167_637 : mj_At 167 637 (.aload_n 0) 638 [0] (.null) := ⟨1, (congrArg (fun z => mj_at z 637) f167).trans rfl, rfl⟩
set_option maxRecDepth 20000 in
theorem d167_638 : mj_At 167 638 (.iload_n 3) 639 [3] (.null) := ⟨1, (congrArg (fun z => mj_at z 638) f167).trans rfl, rfl⟩
set_option maxRecDepth 20000 in
theorem d167_639 : mj_At 167 639 (.iconst (2)) 640 [] (.int 2) := ⟨1, (congrArg (fun z => mj_at z 639) f167).trans rfl, rfl⟩
set_option maxRecDepth 20000 in
theorem d167_640 : mj_At 167 640 (.iadd) 641 [] (.null) := ⟨1, (congrArg (fun z => mj_at z 640) f167).trans rfl, rfl⟩
set_option maxRecDepth 20000 in
theorem d167_641 : mj_At 167 641 (.iaload) 642 [] (.null) := ⟨1, (congrArg (fun z => mj_at z 641) f167).trans rfl, rfl⟩
set_option maxRecDepth 20000 in
theorem d167_642 : mj_At 167 642 (.aload_n 0) 643 [0] (.null) := ⟨1, (congrArg (fun z => mj_at z 642) f167).trans rfl, rfl⟩
set_option maxRecDepth 20000 in
theorem d167_643 : mj_At 167 643 (.iload_n 3) 644 [3] (.null) := ⟨1, (congrArg (fun z => mj_at z 643) f167).trans rfl, rfl⟩
set_option maxRecDepth 20000 in
theorem d167_644 : mj_At 167 644 (.iconst (3)) 645 [] (.int 3) := ⟨1, (congrArg (fun z => mj_at z 644) f167).trans rfl, rfl⟩
set_option maxRecDepth 20000 in
theorem d167_645 : mj_At 167 645 (.iadd) 646 [] (.null) := ⟨1, (congrArg (fun z => mj_at z 645) f167).trans rfl, rfl⟩
set_option maxRecDepth 20000 in
theorem d167_646 : mj_At 167 646 (.iaload) 647 [] (.null) := ⟨1, (congrArg (fun z => mj_at z 646) f167).trans rfl, rfl⟩
set_option maxRecDepth 20000 in
theorem d167_647 : mj_At 167 647 (.invokevirtual 77) 650 [1, 143, 4, 4, 783, 784, 785, 69] (.null) := ⟨3, (congrArg (fun z => mj_at z 647) f167).trans rfl, rfl⟩
set_option maxRecDepth 20000 in
theorem d167_650 : mj_At 167 650 (.if_icmp .eq (285)) 653 [935] (.null) := ⟨3, (congrArg (fun z => mj_at z 650) f167).trans rfl, rfl⟩
set_option maxRecDepth 20000 in
theorem d167_653 : mj_At 167 653 (.iconst (0)) 654 [] (.int 0) := ⟨1, (congrArg (fun z => mj_at z 653) f167).trans rfl, rfl⟩
set_option maxRecDepth 20000 in
theorem d167_654 : mj_At 167 654 (.ireturn) 655 [1] (.null) := ⟨1, (congrArg (fun z => mj_at z 654) f167).trans rfl, rfl⟩
set_option maxRecDepth 20000 in
theorem d167_655 : mj_At 167 655 (.aload_n 1) 656 [1] (.null) := ⟨1, (congrArg (fun z => mj_at z 655) f167).trans rfl, rfl⟩
set_option maxRecDepth 20000 in
theorem d167_656 : mj_At 167 656 (.aload_n 0) 657 [0] (.null) := ⟨1, (congrArg (fun z => mj_at z 656) f167).trans rfl, rfl⟩
set_option maxRecDepth 20000 in
theorem d167_657 : mj_At 167 657 (.iload_n 3) 658 [3] (.null) := ⟨1, (congrArg (fun z => mj_at z 657) f167).trans rfl, rfl⟩
set_option maxRecDepth 20000 in
theorem d167_658 : mj_At 167 658 (.iconst (1)) 659 [] (.int 1) := ⟨1, (congrArg (fun z => mj_at z 658) f167).trans rfl, rfl⟩
set_option maxRecDepth 20000 in
theorem d167_659 : mj_At 167 659 (.iadd) 660 [] (.null) := ⟨1, (congrArg (fun z => mj_at z 659) f167).trans rfl, rfl⟩
set_option maxRecDepth 20000 in
theorem d167_660 : mj_At 167 660 (.iaload) 661 [] (.null) := ⟨1, (congrArg (fun z => mj_at z 660) f167).trans rfl, rfl⟩
set_option maxRecDepth 20000 in
theorem d167_661 : mj_At 167 661 (.invokevirtual 78) 664 [1, 64, 2, 3, 429, 430, 431, 64] (.null) := ⟨3, (congrArg (fun z => mj_at z 661) f167).trans rfl, rfl⟩
set_option maxRecDepth 20000 in
theorem d167_664 : mj_At 167 664 (.aload_n 2) 665 [2] (.null) := ⟨1, (congrArg (fun z => mj_at z 664) f167).trans rfl, rfl⟩
set_option maxRecDepth 20000 in
theorem d167_665 : mj_At 167 665 (.aload_n 0) 666 [0] (.null) := ⟨1, (congrArg (fun z => mj_at z 665) f167).trans rfl, rfl⟩
set_option maxRecDepth 20000 in
theorem d167_666 : mj_At 167 666 (.iload_n 3) 667 [3] (.null) := ⟨1, (congrArg (fun z => mj_at z 666) f167).trans rfl, rfl⟩
set_option maxRecDepth 20000 in
theorem d167_667 : mj_At 167 667 (.iconst (1)) 668 [] (.int 1) := ⟨1, (congrArg (fun z => mj_at z 667) f167).trans rfl, rfl⟩
set_option maxRecDepth 20000 in
theorem d167_668 : mj_At 167 668 (.iadd) 669 [] (.null) := ⟨1, (congrArg (fun z => mj_at z 668) f167).trans rfl, rfl⟩
set_option maxRecDepth 20000 in
theorem d167_669 : mj_At 167 669 (.iaload) 670 [] (.null) := ⟨1, (congrArg (fun z => mj_at z 669) f167).trans rfl, rfl⟩
set_option maxRecDepth 20000 in
theorem d167_670 : mj_At 167 670 (.invokevirtual 81) 673 [1, 145, 2, 4, 791, 792, 793, 69] (.null) := ⟨3, (congrArg (fun z => mj_at z 670) f167).trans rfl, rfl⟩
set_option maxRecDepth 20000 in
theorem d167_673 : mj_At 167 673 (.if_icmp .eq (262)) 676 [935] (.null) := ⟨3, (congrArg (fun z => mj_at z 673) f167).trans rfl, rfl⟩
set_option maxRecDepth 20000 in
theorem d167_676 : mj_At 167 676 (.iconst (0)) 677 [] (.int 0) := ⟨1, (congrArg (fun z => mj_at z 676) f167).trans rfl, rfl⟩
set_option maxRecDepth 20000 in
theorem d167_677 : mj_At 167 677 (.ireturn) 678 [1] (.null) := ⟨1, (congrArg (fun z => mj_at z 677) f167).trans rfl, rfl⟩
set_option maxRecDepth 20000 in
theorem d167_678 : mj_At 167 678 (.aload_n 1) 679 [1] (.null) := ⟨1, (congrArg (fun z => mj_at z 678) f167).trans rfl, rfl⟩
set_option maxRecDepth 20000 in
theorem d167_679 : mj_At 167 679 (.aload_n 0) 680 [0] (.null) := ⟨1, (congrArg (fun z => mj_at z 679) f167).trans rfl, rfl⟩
set_option maxRecDepth 20000 in
theorem d167_680 : mj_At 167 680 (.iload_n 3) 681 [3] (.null) := ⟨1, (congrArg (fun z => mj_at z 680) f167).trans rfl, rfl⟩
set_option maxRecDepth 20000 in
theorem d167_681 : mj_At 167 681 (.iconst (1)) 682 [] (.int 1) := ⟨1, (congrArg (fun z => mj_at z 681) f167).trans rfl, rfl⟩
set_option maxRecDepth 20000 in
theorem d167_682 : mj_At 167 682 (.iadd) 683 [] (.null) := ⟨1, (congrArg (fun z => mj_at z 682) f167).trans rfl, rfl⟩
set_option maxRecDepth 20000 in
theorem d167_683 : mj_At 167 683 (.iaload) 684 [] (.null) := ⟨1, (congrArg (fun z => mj_at z 683) f167).trans rfl, rfl⟩
set_option maxRecDepth 20000 in
theorem d167_684 : mj_At 167 684 (.aload_n 0) 685 [0] (.null) := ⟨1, (congrArg (fun z => mj_at z 684) f167).trans rfl, rfl⟩
set_option maxRecDepth 20000 in
theorem d167_685 : mj_At 167 685 (.iload_n 3) 686 [3] (.null) := ⟨1, (congrArg (fun z => mj_at z 685) f167).trans rfl, rfl⟩
set_option maxRecDepth 20000 in
theorem d167_686 : mj_At 167 686 (.iconst (2)) 687 [] (.int 2) := ⟨1, (congrArg (fun z => mj_at z 686) f167).trans rfl, rfl⟩
set_option maxRecDepth 20000 in
theorem d167_687 : mj_At 167 687 (.iadd) 688 [] (.null) := ⟨1, (congrArg (fun z => mj_at z 687) f167).trans rfl, rfl⟩
set_option maxRecDepth 20000 in
theorem d167_688 : mj_At 167 688 (.iaload) 689 [] (.null) := ⟨1, (congrArg (fun z => mj_at z 688) f167).trans rfl, rfl⟩
set_option maxRecDepth 20000 in
theorem d167_689 : mj_At 167 689 (.invokevirtual 82) 692 [1, 65, 3, 3, 433, 434, 435, 64] (.null) := ⟨3, (congrArg (fun z => mj_at z 689) f167).trans rfl, rfl⟩
set_option maxRecDepth 20000 in
theorem d167_692 : mj_At 167 692 (.aload_n 2) 693 [2] (.null) := ⟨1, (congrArg (fun z => mj_at z 692) f167).trans rfl, rfl⟩
set_option maxRecDepth 20000 in
theorem d167_693 : mj_At 167 693 (.aload_n 0) 694 [0] (.null) := ⟨1, (congrArg (fun z => mj_at z 693) f167).trans rfl, rfl⟩
set_option maxRecDepth 20000 in
theorem d167_694 : mj_At 167 694 (.iload_n 3) 695 [3] (.null) := ⟨1, (congrArg (fun z => mj_at z 694) f167).trans rfl, rfl⟩
set_option maxRecDepth 20000 in
theorem d167_695 : mj_At 167 695 (.iconst (1)) 696 [] (.int 1) := ⟨1, (congrArg (fun z => mj_at z 695) f167).trans rfl, rfl⟩
set_option maxRecDepth 20000 in
theorem d167_696 : mj_At 167 696 (.iadd) 697 [] (.null) := ⟨1, (congrArg (fun z => mj_at z 696) f167).trans rfl, rfl⟩
set_option maxRecDepth 20000 in
theorem d167_697 : mj_At 167 697 (.iaload) 698 [] (.null) := ⟨1, (congrArg (fun z => mj_at z 697) f167).trans rfl, rfl⟩
set_option maxRecDepth 20000 in
theorem d167_698 : mj_At 167 698 (.aload_n 0) 699 [0] (.null) := ⟨1, (congrArg (fun z => mj_at z 698) f167).trans rfl, rfl⟩
set_option maxRecDepth 20000 in
theorem d167_699 : mj_At 167 699 (.iload_n 3) 700 [3] (.null) := ⟨1, (congrArg (fun z => mj_at z 699) f167).trans rfl, rfl⟩
set_option maxRecDepth 20000 in
theorem d167_700 : mj_At 167 700 (.iconst (2)) 701 [] (.int 2) := ⟨1, (congrArg (fun z => mj_at z 700) f167).trans rfl, rfl⟩
set_option maxRecDepth 20000 in
theorem d167_701 : mj_At 167 701 (.iadd) 702 [] (.null) := ⟨1, (congrArg (fun z => mj_at z 701) f167).trans rfl, rfl⟩
set_option maxRecDepth 20000 in
theorem d167_702 : mj_At 167 702 (.iaload) 703 [] (.null) := ⟨1, (congrArg (fun z => mj_at z 702) f167).trans rfl, rfl⟩
set_option maxRecDepth 20000 in
theorem d167_703 : mj_At 167 703 (.invokevirtual 85) 706 [1, 147, 3, 4, 799, 800, 801, 69] (.null) := ⟨3, (congrArg (fun z => mj_at z 703) f167).trans rfl, rfl⟩
set_option maxRecDepth 20000 in
theorem d167_706 : mj_At 167 706 (.if_icmp .eq (229)) 709 [935] (.null) := ⟨3, (congrArg (fun z => mj_at z 706) f167).trans rfl, rfl⟩
set_option maxRecDepth 20000 in
theorem d167_709 : mj_At 167 709 (.iconst (0)) 710 [] (.int 0) := ⟨1, (congrArg (fun z => mj_at z 709) f167).trans rfl, rfl⟩
set_option maxRecDepth 20000 in
theorem d167_710 : mj_At 167 710 (.ireturn) 711 [1] (.null) := ⟨1, (congrArg (fun z => mj_at z 710) f167).trans rfl, rfl⟩
set_option maxRecDepth 20000 in
theorem d167_711 : mj_At 167 711 (.aload_n 1) 712 [1] (.null) := ⟨1, (congrArg (fun z => mj_at z 711) f167).trans rfl, rfl⟩
set_option maxRecDepth 20000 in
theorem d167_712 : mj_At 167 712 (.aload_n 0) 713 [0] (.null) := ⟨1, (congrArg (fun z => mj_at z 712) f167).trans rfl, rfl⟩
set_option maxRecDepth 20000 in
theorem d167_713 : mj_At 167 713 (.iload_n 3) 714 [3] (.null) := ⟨1, (congrArg (fun z => mj_at z 713) f167).trans rfl, rfl⟩
set_option maxRecDepth 20000 in
theorem d167_714 : mj_At 167 714 (.iconst (1)) 715 [] (.int 1) := ⟨1, (congrArg (fun z => mj_at z 714) f167).trans rfl, rfl⟩
set_option maxRecDepth 20000 in
theorem d167_715 : mj_At 167 715 (.iadd) 716 [] (.null) := ⟨1, (congrArg (fun z => mj_at z 715) f167).trans rfl, rfl⟩
set_option maxRecDepth 20000 in
theorem d167_716 : mj_At 167 716 (.iaload) 717 [] (.null) := ⟨1, (congrArg (fun z => mj_at z 716) f167).trans rfl, rfl⟩
set_option maxRecDepth 20000 in
theorem d167_717 : mj_At 167 717 (.aload_n 0) 718 [0] (.null) := ⟨1, (congrArg (fun z => mj_at z 717) f167).trans rfl, rfl⟩
set_option maxRecDepth 20000 in
theorem d167_718 : mj_At 167 718 (.iload_n 3) 719 [3] (.null) := ⟨1, (congrArg (fun z => mj_at z 718) f167).trans rfl, rfl⟩
set_option maxRecDepth 20000 in
theorem d167_719 : mj_At 167 719 (.iconst (2)) 720 [] (.int 2) := ⟨1, (congrArg (fun z => mj_at z 719) f167).trans rfl, rfl⟩
set_option maxRecDepth 20000 in
theorem d167_720 : mj_At 167 720 (.iadd) 721 [] (.null) := ⟨1, (congrArg (fun z => mj_at z 720) f167).trans rfl, rfl⟩
set_option maxRecDepth 20000 in
theorem d167_721 : mj_At 167 721 (.iaload) 722 [] (.null) := ⟨1, (congrArg (fun z => mj_at z 721) f167).trans rfl, rfl⟩
set_option maxRecDepth 20000 in
theorem d167_722 : mj_At 167 722 (.invokevirtual 86) 725 [1, 67, 3, 3, 437, 438, 439, 64] (.null) := ⟨3, (congrArg (fun z => mj_at z 722) f167).trans rfl, rfl⟩
set_option maxRecDepth 20000 in
theorem d167_725 : mj_At 167 725 (.aload_n 2) 726 [2] (.null) := ⟨1, (congrArg (fun z => mj_at z 725) f167).trans rfl, rfl⟩
set_option maxRecDepth 20000 in
theorem d167_726 : mj_At 167 726 (.aload_n 0) 727 [0] (.null) := ⟨1, (congrArg (fun z => mj_at z 726) f167).trans rfl, rfl⟩
set_option maxRecDepth 20000 in
theorem d167_727 : mj_At 167 727 (.iload_n 3) 728 [3] (.null) := ⟨1, (congrArg (fun z => mj_at z 727) f167).trans rfl, rfl⟩
set_option maxRecDepth 20000 in
theorem d167_728 : mj_At 167 728 (.iconst (1)) 729 [] (.int 1) := ⟨1, (congrArg (fun z => mj_at z 728) f167).trans rfl, rfl⟩
set_option maxRecDepth 20000 in
theorem d167_729 : mj_At 167 729 (.iadd) 730 [] (.null) := ⟨1, (congrArg (fun z => mj_at z 729) f167).trans rfl, rfl⟩
set_option maxRecDepth 20000 in
theorem d167_730 : mj_At 167 730 (.iaload) 731 [] (.null) := ⟨1, (congrArg (fun z => mj_at z 730) f167).trans rfl, rfl⟩
set_option maxRecDepth 20000 in
theorem d167_731 : mj_At 167 731 (.aload_n 0) 732 [0] (.null) := ⟨1, (congrArg (fun z => mj_at z 731) f167).trans rfl, rfl⟩
set_option maxRecDepth 20000 in
theorem d167_732 : mj_At 167 732 (.iload_n 3) 733 [3] (.null) := ⟨1, (congrArg (fun z => mj_at z 732) f167).trans rfl, rfl⟩
set_option maxRecDepth 20000 in
theorem d167_733 : mj_At 167 733 (.iconst (2)) 734 [] (.int 2) := ⟨1, (congrArg (fun z => mj_at z 733) f167).trans rfl, rfl⟩
set_option maxRecDepth 20000 in
theorem d167_734 : mj_At 167 734 (.iadd) 735 [] (.null) := ⟨1, (congrArg (fun z => mj_at z 734) f167).trans rfl, rfl⟩
set_option maxRecDepth 20000 in
theorem d167_735 : mj_At 167 735 (.iaload) 736 [] (.null) := ⟨1, (congrArg (fun z => mj_at z 735) f167).trans rfl, rfl⟩
set_option maxRecDepth 20000 in
theorem d167_736 : mj_At 167 736 (.invokevirtual 89) 739 [1, 148, 3, 4, 807, 808, 809, 69] (.null) := ⟨3, (congrArg (fun z => mj_at z 736) f167).trans rfl, rfl⟩
set_option maxRecDepth 20000 in
theorem d167_739 : mj_At 167 739 (.if_icmp .eq (196)) 742 [935] (.null) := ⟨3, (congrArg (fun z => mj_at z 739) f167).trans rfl, rfl⟩
set_option maxRecDepth 20000 in
theorem d167_742 : mj_At 167 742 (.iconst (0)) 743 [] (.int 0) := ⟨1, (congrArg (fun z => mj_at z 742) f167).trans rfl, rfl⟩
set_option maxRecDepth 20000 in
theorem d167_743 : mj_At 167 743 (.ireturn) 744 [1] (.null) := ⟨1, (congrArg (fun z => mj_at z 743) f167).trans rfl, rfl⟩
set_option maxRecDepth 20000 in
theorem d167_744 : mj_At 167 744 (.aload_n 1) 745 [1] (.null) := ⟨1, (congrArg (fun z => mj_at z 744) f167).trans rfl, rfl⟩
set_option maxRecDepth 20000 in
theorem d167_745 : mj_At 167 745 (.aload_n 0) 746 [0] (.null) := ⟨1, (congrArg (fun z => mj_at z 745) f167).trans rfl, rfl⟩
set_option maxRecDepth 20000 in
theorem d167_746 : mj_At 167 746 (.iload_n 3) 747 [3] (.null) := ⟨1, (congrArg (fun z => mj_at z 746) f167).trans rfl, rfl⟩
set_option maxRecDepth 20000 in
theorem d167_747 : mj_At 167 747 (.iconst (1)) 748 [] (.int 1) := ⟨1, (congrArg (fun z => mj_at z 747) f167).trans rfl, rfl⟩
set_option maxRecDepth 20000 in
theorem d167_748 : mj_At 167 748 (.iadd) 749 [] (.null) := ⟨1, (congrArg (fun z => mj_at z 748) f167).trans rfl, rfl⟩
set_option maxRecDepth 20000 in
theorem d167_749 : mj_At 167 749 (.iaload) 750 [] (.null) := ⟨1, (congrArg (fun z => mj_at z 749) f167).trans rfl, rfl⟩
set_option maxRecDepth 20000 in
theorem d167_750 : mj_At 167 750 (.aload_n 0) 751 [0] (.null) := ⟨1, (congrArg (fun z => mj_at z 750) f167).trans rfl, rfl⟩
set_option maxRecDepth 20000 in
theorem d167_751 : mj_At 167 751 (.iload_n 3) 752 [3] (.null) := ⟨1, (congrArg (fun z => mj_at z 751) f167).trans rfl, rfl⟩
set_option maxRecDepth 20000 in
theorem d167_752 : mj_At 167 752 (.iconst (2)) 753 [] (.int 2) := ⟨1, (congrArg (fun z => mj_at z 752) f167).trans rfl, rfl⟩
set_option maxRecDepth 20000 in
theorem d167_753 : mj_At 167 753 (.iadd) 754 [] (.null) := ⟨1, (congrArg (fun z => mj_at z 753) f167).trans rfl, rfl⟩
set_option maxRecDepth 20000 in
theorem d167_754 : mj_At 167 754 (.iaload) 755 [] (.null) := ⟨1, (congrArg (fun z => mj_at z 754) f167).trans rfl, rfl⟩
set_option maxRecDepth 20000 in
theorem d167_755 : mj_At 167 755 (.aload_n 0) 756 [0] (.null) := ⟨1, (congrArg (fun z => mj_at z 755) f167).trans rfl, rfl⟩
set_option maxRecDepth 20000 in
theorem d167_756 : mj_At 167 756 (.iload_n 3) 757 [3] (.null) := ⟨1, (congrArg (fun z => mj_at z 756) f167).trans rfl, rfl⟩
set_option maxRecDepth 20000 in
theorem d167_757 : mj_At 167 757 (.iconst (3)) 758 [] (.int 3) := ⟨1, (congrArg (fun z => mj_at z 757) f167).trans rfl, rfl⟩
set_option maxRecDepth 20000 in
theorem d167_758 : mj_At 167 758 (.iadd) 759 [] (.null) := ⟨1, (congrArg (fun z => mj_at z 758) f167).trans rfl, rfl⟩
set_option maxRecDepth 20000 in
theorem d167_759 : mj_At 167 759 (.iaload) 760 [] (.null) := ⟨1, (congrArg (fun z => mj_at z 759) f167).trans rfl, rfl⟩
set_option maxRecDepth 20000 in
theorem d167_760 : mj_At 167 760 (.aload_n 0) 761 [0] (.null) := ⟨1, (congrArg (fun z => mj_at z 760) f167).trans rfl, rfl⟩
set_option maxRecDepth 20000 in
theorem d167_761 : mj_At 167 761 (.iload_n 3) 762 [3] (.null) := ⟨1, (congrArg (fun z => mj_at z 761) f167).trans rfl, rfl⟩
set_option maxRecDepth 20000 in
theorem d167_762 : mj_At 167 762 (.iconst (4)) 763 [] (.int 4) := ⟨1, (congrArg (fun z => mj_at z 762) f167).trans rfl, rfl⟩
set_option maxRecDepth 20000 in
theorem d167_763 : mj_At 167 763 (.iadd) 764 [] (.null) := ⟨1, (congrArg (fun z => mj_at z 763) f167).trans rfl, rfl⟩
set_option maxRecDepth 20000 in
theorem d167_764 : mj_At 167 764 (.iaload) 765 [] (.null) := ⟨1, (congrArg (fun z => mj_at z 764) f167).trans rfl, rfl⟩
set_option maxRecDepth 20000 in
theorem d167_765 : mj_At 167 765 (.invokevirtual 90) 768 [1, 68, 5, 3, 446, 447, 448, 64] (.null) := ⟨3, (congrArg (fun z => mj_at z 765) f167).trans rfl, rfl⟩
set_option maxRecDepth 20000 in
theorem d167_768 : mj_At 167 768 (.aload_n 2) 769 [2] (.null) := ⟨1, (congrArg (fun z => mj_at z 768) f167).trans rfl, rfl⟩
set_option maxRecDepth 20000 in
theorem d167_769 : mj_At 167 769 (.aload_n 0) 770 [0] (.null) := ⟨1, (congrArg (fun z => mj_at z 769) f167).trans rfl, rfl⟩
set_option maxRecDepth 20000 in
theorem d167_770 : mj_At 167 770 (.iload_n 3) 771 [3] (.null) := ⟨1, (congrArg (fun z => mj_at z 770) f167).trans rfl, rfl⟩
set_option maxRecDepth 20000 in
theorem d167_771 : mj_At 167 771 (.iconst (1)) 772 [] (.int 1) := ⟨1, (congrArg (fun z => mj_at z 771) f167).trans rfl, rfl⟩
set_option maxRecDepth 20000 in
theorem d167_772 : mj_At 167 772 (.iadd) 773 [] (.null) := ⟨1, (congrArg (fun z => mj_at z 772) f167).trans rfl, rfl⟩
set_option maxRecDepth 20000 in
theorem d167_773 : mj_At 167 773 (.iaload) 774 [] (.null) := ⟨1, (congrArg (fun z => mj_at z 773) f167).trans rfl, rfl⟩
set_option maxRecDepth 20000 in
theorem d167_774 : mj_At 167 774 (.aload_n 0) 775 [0] (.null) := ⟨1, (congrArg (fun z => mj_at z 774) f167).trans rfl, rfl⟩
set_option maxRecDepth 20000 in
theorem d167_775 : mj_At 167 775 (.iload_n 3) 776 [3] (.null) := ⟨1, (congrArg (fun z => mj_at z 775) f167).trans rfl, rfl⟩
set_option maxRecDepth 20000 in
theorem d167_776 : mj_At 167 776 (.iconst (2)) 777 [] (.int 2) := ⟨1, (congrArg (fun z => mj_at z 776) f167).trans rfl, rfl⟩
set_option maxRecDepth 20000 in
theorem d167_777 : mj_At 167 777 (.iadd) 778 [] (.null) := ⟨1, (congrArg (fun z => mj_at z 777) f167).trans rfl, rfl⟩
set_option maxRecDepth 20000 in
theorem d167_778 : mj_At 167 778 (.iaload) 779 [] (.null) := ⟨1, (congrArg (fun z => mj_at z 778) f167).trans rfl, rfl⟩
set_option maxRecDepth 20000 in
theorem d167_779 : mj_At 167 779 (.aload_n 0) 780 [0] (.null) := ⟨1, (congrArg (fun z => mj_at z 779) f167).trans rfl, rfl⟩
set_option maxRecDepth 20000 in
theorem d167_780 : mj_At 167 780 (.iload_n 3) 781 [3] (.null) := ⟨1, (congrArg (fun z => mj_at z 780) f167).trans rfl, rfl⟩
set_option maxRecDepth 20000 in
theorem d167_781 : mj_At 167 781 (.iconst (3)) 782 [] (.int 3) := ⟨1, (congrArg (fun z => mj_at z 781) f167).trans rfl, rfl⟩
set_option maxRecDepth 20000 in
theorem d167_782 : mj_At 167 782 (.iadd) 783 [] (.null) := ⟨1, (congrArg (fun z => mj_at z 782) f167).trans rfl, rfl⟩
set_option maxRecDepth 20000 in
theorem d167_783 : mj_At 167 783 (.iaload) 784 [] (.null) := ⟨1, (congrArg (fun z => mj_at z 783) f167).trans rfl, rfl⟩
set_option maxRecDepth 20000 in
theorem d167_784 : mj_At 167 784 (.aload_n 0) 785 [0] (.null) := ⟨1, (congrArg (fun z => mj_at z 784) f167).trans rfl, rfl⟩
set_option maxRecDepth 20000 in
theorem d167_785 : mj_At 167 785 (.iload_n 3) 786 [3] (.null) := ⟨1, (congrArg (fun z => mj_at z 785) f167).trans rfl, rfl⟩
set_option maxRecDepth 20000 in
theorem d167_786 : mj_At 167 786 (.iconst (4)) 787 [] (.int 4) := ⟨1, (congrArg (fun z => mj_at z 786) f167).trans rfl, rfl⟩
set_option maxRecDepth 20000 in
theorem d167_787 : mj_At 167 787 (.iadd) 788 [] (.null) := ⟨1, (congrArg (fun z => mj_at z 787) f167).trans rfl, rfl⟩
set_option maxRecDepth 20000 in
theorem d167_788 : mj_At 167 788 (.iaload) 789 [] (.null) := ⟨1, (congrArg (fun z => mj_at z 788) f167).trans rfl, rfl⟩
set_option maxRecDepth 20000 in
theorem d167_789 : mj_At 167 789 (.invokevirtual 93) 792 [1, 149, 5, 4, 811, 812, 813, 69] (.null) := ⟨3, (congrArg (fun z => mj_at z 789) f167).trans rfl, rfl⟩
set_option maxRecDepth 20000 in
theorem d167_792 : mj_At 167 792 (.if_icmp .eq (143)) 795 [935] (.null) := ⟨3, (congrArg (fun z => mj_at z 792) f167).trans rfl, rfl⟩
set_option maxRecDepth 20000 in
theorem d167_795 : mj_At 167 795 (.iconst (0)) 796 [] (.int 0) := ⟨1, (congrArg (fun z => mj_at z 795) f167).trans rfl, rfl⟩
set_option maxRecDepth 20000 in
theorem d167_796 : mj_At 167 796 (.ireturn) 797 [1] (.null) := ⟨1, (congrArg (fun z => mj_at z 796) f167).trans rfl, rfl⟩
set_option maxRecDepth 20000 in
theorem d167_797 : mj_At 167 797 (.aload_n 1) 798 [1] (.null) := ⟨1, (congrArg (fun z => mj_at z 797) f167).trans rfl, rfl⟩
set_option maxRecDepth 20000 in
theorem d167_798 : mj_At 167 798 (.aload_n 0) 799 [0] (.null) := ⟨1, (congrArg (fun z => mj_at z 798) f167).trans rfl, rfl⟩
set_option maxRecDepth 20000 in
theorem d167_799 : mj_At 167 799 (.iload_n 3) 800 [3] (.null) := ⟨1, (congrArg (fun z => mj_at z 799) f167).trans rfl, rfl⟩
set_option maxRecDepth 20000 in
theorem d167_800 : mj_At 167 800 (.iconst (1)) 801 [] (.int 1) := ⟨1, (congrArg (fun z => mj_at z 800) f167).trans rfl, rfl⟩
set_option maxRecDepth 20000 in
theorem d167_801 : mj_At 167 801 (.iadd) 802 [] (.null) := ⟨1, (congrArg (fun z => mj_at z 801) f167).trans rfl, rfl⟩
set_option maxRecDepth 20000 in
theorem d167_802 : mj_At 167 802 (.iaload) 803 [] (.null) := ⟨1, (congrArg (fun z => mj_at z 802) f167).trans rfl, rfl⟩
set_option maxRecDepth 20000 in
theorem d167_803 : mj_At 167 803 (.invokevirtual 94) 806 [1, 69, 2, 3, 450, 451, 452, 64] (.null) := ⟨3, (congrArg (fun z => mj_at z 803) f167).trans rfl, rfl⟩
set_option maxRecDepth 20000 in
theorem d167_806 : mj_At 167 806 (.aload_n 2) 807 [2] (.null) := ⟨1, (congrArg (fun z => mj_at z 806) f167).trans rfl, rfl⟩
set_option maxRecDepth 20000 in
theorem d167_807 : mj_At 167 807 (.aload_n 0) 808 [0] (.null) := ⟨1, (congrArg (fun z => mj_at z 807) f167).trans rfl, rfl⟩
set_option maxRecDepth 20000 in
theorem d167_808 : mj_At 167 808 (.iload_n 3) 809 [3] (.null) := ⟨1, (congrArg (fun z => mj_at z 808) f167).trans rfl, rfl⟩
set_option maxRecDepth 20000 in
theorem d167_809 : mj_At 167 809 (.iconst (1)) 810 [] (.int 1) := ⟨1, (congrArg (fun z => mj_at z 809) f167).trans rfl, rfl⟩
set_option maxRecDepth 20000 in
theorem d167_810 : mj_At 167 810 (.iadd) 811 [] (.null) := ⟨1, (congrArg (fun z => mj_at z 810) f167).trans rfl, rfl⟩
set_option maxRecDepth 20000 in
theorem d167_811 : mj_At 167 811 (.iaload) 812 [] (.null) := ⟨1, (congrArg (fun z => mj_at z 811) f167).trans rfl, rfl⟩
set_option maxRecDepth 20000 in
theorem d167_812 : mj_At 167 812 (.invokevirtual 97) 815 [1, 150, 2, 4, 815, 816, 817, 69] (.null) := ⟨3, (congrArg (fun z => mj_at z 812) f167).trans rfl, rfl⟩
set_option maxRecDepth 20000 in
theorem d167_815 : mj_At 167 815 (.if_icmp .eq (120)) 818 [935] (.null) := ⟨3, (congrArg (fun z => mj_at z 815) f167).trans rfl, rfl⟩
set_option maxRecDepth 20000 in
theorem d167_818 : mj_At 167 818 (.iconst (0)) 819 [] (.int 0) := ⟨1, (congrArg (fun z => mj_at z 818) f167).trans rfl, rfl⟩
set_option maxRecDepth 20000 in
theorem d167_819 : mj_At 167 819 (.ireturn) 820 [1] (.null) := ⟨1, (congrArg (fun z => mj_at z 819) f167).trans rfl, rfl⟩
set_option maxRecDepth 20000 in
theorem d167_820 : mj_At 167 820 (.aload_n 1) 821 [1] (.null) := ⟨1, (congrArg (fun z => mj_at z 820) f167).trans rfl, rfl⟩
set_option maxRecDepth 20000 in
theorem d167_821 : mj_At 167 821 (.invokevirtual 98) 824 [1, 70, 1, 3, 454, 455, 456, 64] (.null) := ⟨3, (congrArg (fun z => mj_at z 821) f167).trans rfl, rfl⟩
set_option maxRecDepth 20000 in
theorem d167_824 : mj_At 167 824 (.aload_n 2) 825 [2] (.null) := ⟨1, (congrArg (fun z => mj_at z 824) f167).trans rfl, rfl⟩
set_option maxRecDepth 20000 in
theorem d167_825 : mj_At 167 825 (.invokevirtual 101) 828 [1, 152, 1, 4, 819, 820, 821, 69] (.null) := ⟨3, (congrArg (fun z => mj_at z 825) f167).trans rfl, rfl⟩
set_option maxRecDepth 20000 in
theorem d167_828 : mj_At 167 828 (.if_icmp .eq (107)) 831 [935] (.null) := ⟨3, (congrArg (fun z => mj_at z 828) f167).trans rfl, rfl⟩
set_option maxRecDepth 20000 in
theorem d167_831 : mj_At 167 831 (.iconst (0)) 832 [] (.int 0) := ⟨1, (congrArg (fun z => mj_at z 831) f167).trans rfl, rfl⟩
set_option maxRecDepth 20000 in
theorem d167_832 : mj_At 167 832 (.ireturn) 833 [1] (.null) := ⟨1, (congrArg (fun z => mj_at z 832) f167).trans rfl, rfl⟩
set_option maxRecDepth 20000 in
theorem d167_833 : mj_At 167 833 (.aload_n 1) 834 [1] (.null) := ⟨1, (congrArg (fun z => mj_at z 833) f167).trans rfl, rfl⟩
set_option maxRecDepth 20000 in
theorem d167_834 : mj_At 167 834 (.invokevirtual 102) 837 [1, 71, 1, 3, 458, 459, 460, 64] (.null) := ⟨3, (congrArg (fun z => mj_at z 834) f167).trans rfl, rfl⟩
set_option maxRecDepth 20000 in
theorem d167_837 : mj_At 167 837 (.aload_n 2) 838 [2] (.null) := ⟨1, (congrArg (fun z => mj_at z 837) f167).trans rfl, rfl⟩
set_option maxRecDepth 20000 in
theorem d167_838 : mj_At 167 838 (.invokevirtual 105) 841 [1, 154, 1, 4, 827, 828, 829, 69] (.null) := ⟨3, (congrArg (fun z => mj_at z 838) f167).trans rfl, rfl⟩
set_option maxRecDepth 20000 in
theorem d167_841 : mj_At 167 841 (.if_icmp .eq (94)) 844 [935] (.null) := ⟨3, (congrArg (fun z => mj_at z 841) f167).trans rfl, rfl⟩
set_option maxRecDepth 20000 in
theorem d167_844 : mj_At 167 844 (.iconst (0)) 845 [] (.int 0) := ⟨1, (congrArg (fun z => mj_at z 844) f167).trans rfl, rfl⟩
set_option maxRecDepth 20000 in
theorem d167_845 : mj_At 167 845 (.ireturn) 846 [1] (.null) := ⟨1, (congrArg (fun z => mj_at z 845) f167).trans rfl, rfl⟩
set_option maxRecDepth 20000 in
theorem d167_846 : mj_At 167 846 (.aload_n 1) 847 [1] (.null) := ⟨1, (congrArg (fun z => mj_at z 846) f167).trans rfl, rfl⟩
set_option maxRecDepth 20000 in
theorem d167_847 : mj_At 167 847 (.aload_n 0) 848 [0] (.null) := ⟨1, (congrArg (fun z => mj_at z 847) f167).trans rfl, rfl⟩
set_option maxRecDepth 20000 in
theorem d167_848 : mj_At 167 848 (.iload_n 3) 849 [3] (.null) := ⟨1, (congrArg (fun z => mj_at z 848) f167).trans rfl, rfl⟩
set_option maxRecDepth 20000 in
theorem d167_849 : mj_At 167 849 (.iconst (1)) 850 [] (.int 1) := ⟨1, (congrArg (fun z => mj_at z 849) f167).trans rfl, rfl⟩
set_option maxRecDepth 20000 in
theorem d167_850 : mj_At 167 850 (.iadd) 851 [] (.null) := ⟨1, (congrArg (fun z => mj_at z 850) f167).trans rfl, rfl⟩
set_option maxRecDepth 20000 in
theorem d167_851 : mj_At 167 851 (.iaload) 852 [] (.null) := ⟨1, (congrArg (fun z => mj_at z 851) f167).trans rfl, rfl⟩
set_option maxRecDepth 20000 in
theorem d167_852 : mj_At 167 852 (.invokevirtual 106) 855 [1, 72, 2, 3, 462, 463, 464, 64] (.null) := ⟨3, (congrArg (fun z => mj_at z 852) f167).trans rfl, rfl⟩
set_option maxRecDepth 20000 in
theorem d167_855 : mj_At 167 855 (.aload_n 2) 856 [2] (.null) := ⟨1, (congrArg (fun z => mj_at z 855) f167).trans rfl, rfl⟩
set_option maxRecDepth 20000 in
theorem d167_856 : mj_At 167 856 (.aload_n 0) 857 [0] (.null) := ⟨1, (congrArg (fun z => mj_at z 856) f167).trans rfl, rfl⟩
set_option maxRecDepth 20000 in
theorem d167_857 : mj_At 167 857 (.iload_n 3) 858 [3] (.null) := ⟨1, (congrArg (fun z => mj_at z 857) f167).trans rfl, rfl⟩
set_option maxRecDepth 20000 in
theorem d167_858 : mj_At 167 858 (.iconst (1)) 859 [] (.int 1) := ⟨1, (congrArg (fun z => mj_at z 858) f167).trans rfl, rfl⟩
set_option maxRecDepth 20000 in
theorem d167_859 : mj_At 167 859 (.iadd) 860 [] (.null) := ⟨1, (congrArg (fun z => mj_at z 859) f167).trans rfl, rfl⟩
set_option maxRecDepth 20000 in
theorem d167_860 : mj_At 167 860 (.iaload) 861 [] (.null) := ⟨1, (congrArg (fun z => mj_at z 860) f167).trans rfl, rfl⟩
set_option maxRecDepth 20000 in
theorem d167_861 : mj_At 167 861 (.invokevirtual 109) 864 [1, 155, 2, 4, 835, 836, 837, 69] (.null) := ⟨3, (congrArg (fun z => mj_at z 861) f167).trans rfl, rfl⟩
set_option maxRecDepth 20000 in
theorem d167_864 : mj_At 167 864 (.if_icmp .eq (71)) 867 [935] (.null) := ⟨3, (congrArg (fun z => mj_at z 864) f167).trans rfl, rfl⟩
set_option maxRecDepth 20000 in
theorem d167_867 : mj_At 167 867 (.iconst (0)) 868 [] (.int 0) := ⟨1, (congrArg (fun z => mj_at z 867) f167).trans rfl, rfl⟩
set_option maxRecDepth 20000 in
theorem d167_868 : mj_At 167 868 (.ireturn) 869 [1] (.null) := ⟨1, (congrArg (fun z => mj_at z 868) f167).trans rfl, rfl⟩
set_option maxRecDepth 20000 in
theorem d167_869 : mj_At 167 869 (.aload_n 1) 870 [1] (.null) := ⟨1, (congrArg (fun z => mj_at z 869) f167).trans rfl, rfl⟩
set_option maxRecDepth 20000 in
theorem d167_870 : mj_At 167 870 (.invokevirtual 110) 873 [1, 73, 1, 3, 466, 467, 468, 64] (.null) := ⟨3, (congrArg (fun z => mj_at z 870) f167).trans rfl, rfl⟩
set_option maxRecDepth 20000 in
theorem d167_873 : mj_At 167 873 (.aload_n 2) 874 [2] (.null) := ⟨1, (congrArg (fun z => mj_at z 873) f167).trans rfl, rfl⟩
set_option maxRecDepth 20000 in
theorem d167_874 : mj_At 167 874 (.invokevirtual 113) 877 [1, 156, 1, 4, 839, 840, 841, 69] (.null) := ⟨3, (congrArg (fun z => mj_at z 874) f167).trans rfl, rfl⟩
set_option maxRecDepth 20000 in
theorem d167_877 : mj_At 167 877 (.if_icmp .eq (58)) 880 [935] (.null) := ⟨3, (congrArg (fun z => mj_at z 877) f167).trans rfl, rfl⟩
set_option maxRecDepth 20000 in
theorem d167_880 : mj_At 167 880 (.iconst (0)) 881 [] (.int 0) := ⟨1, (congrArg (fun z => mj_at z 880) f167).trans rfl, rfl⟩
set_option maxRecDepth 20000 in
theorem d167_881 : mj_At 167 881 (.ireturn) 882 [1] (.null) := ⟨1, (congrArg (fun z => mj_at z 881) f167).trans rfl, rfl⟩
set_option maxRecDepth 20000 in
theorem d167_882 : mj_At 167 882 (.aload_n 1) 883 [1] (.null) := ⟨1, (congrArg (fun z => mj_at z 882) f167).trans rfl, rfl⟩
set_option maxRecDepth 20000 in
theorem d167_883 : mj_At 167 883 (.invokevirtual 114) 886 [1, 81, 1, 3, 470, 471, 472, 64] (.null) := ⟨3, (congrArg (fun z => mj_at z 883) f167).trans rfl, rfl⟩
set_option maxRecDepth 20000 in
theorem d167_886 : mj_At 167 886 (.aload_n 2) 887 [2] (.null) := ⟨1, (congrArg (fun z => mj_at z 886) f167).trans rfl, rfl⟩
set_option maxRecDepth 20000 in
theorem d167_887 : mj_At 167 887 (.invokevirtual 117) 890 [1, 163, 1, 4, 843, 844, 845, 69] (.null) := ⟨3, (congrArg (fun z => mj_at z 887) f167).trans rfl, rfl⟩
set_option maxRecDepth 20000 in
theorem d167_890 : mj_At 167 890 (.if_icmp .eq (45)) 893 [935] (.null) := ⟨3, (congrArg (fun z => mj_at z 890) f167).trans rfl, rfl⟩
set_option maxRecDepth 20000 in
theorem d167_893 : mj_At 167 893 (.iconst (0)) 894 [] (.int 0) := ⟨1, (congrArg (fun z => mj_at z 893) f167).trans rfl, rfl⟩
set_option maxRecDepth 20000 in
theorem d167_894 : mj_At 167 894 (.ireturn) 895 [1] (.null) := ⟨1, (congrArg (fun z => mj_at z 894) f167).trans rfl, rfl⟩
set_option maxRecDepth 20000 in
theorem d167_895 : mj_At 167 895 (.aload_n 1) 896 [1] (.null) := ⟨1, (congrArg (fun z => mj_at z 895) f167).trans rfl, rfl⟩
set_option maxRecDepth 20000 in
theorem d167_896 : mj_At 167 896 (.invokevirtual 118) 899 [1, 84, 1, 3, 503, 504, 505, 64] (.null) := ⟨3, (congrArg (fun z => mj_at z 896) f167).trans rfl, rfl⟩
set_option maxRecDepth 20000 in
theorem d167_899 : mj_At 167 899 (.aload_n 2) 900 [2] (.null) := ⟨1, (congrArg (fun z => mj_at z 899) f167).trans rfl, rfl⟩
set_option maxRecDepth 20000 in
theorem d167_900 : mj_At 167 900 (.invokevirtual 121) 903 [1, 164, 1, 4, 871, 872, 873, 69] (.null) := ⟨3, (congrArg (fun z => mj_at z 900) f167).trans rfl, rfl⟩
set_option maxRecDepth 20000 in
theorem d167_903 : mj_At 167 903 (.if_icmp .eq (32)) 906 [935] (.null) := ⟨3, (congrArg (fun z => mj_at z 903) f167).trans rfl, rfl⟩
set_option maxRecDepth 20000 in
theorem d167_906 : mj_At 167 906 (.iconst (0)) 907 [] (.int 0) := ⟨1, (congrArg (fun z => mj_at z 906) f167).trans rfl, rfl⟩
set_option maxRecDepth 20000 in
theorem d167_907 : mj_At 167 907 (.ireturn) 908 [1] (.null) := ⟨1, (congrArg (fun z => mj_at z 907) f167).trans rfl, rfl⟩
set_option maxRecDepth 20000 in
theorem d167_908 : mj_At 167 908 (.aload_n 1) 909 [1] (.null) := ⟨1, (congrArg (fun z => mj_at z 908) f167).trans rfl, rfl⟩
set_option maxRecDepth 20000 in
theorem d167_909 : mj_At 167 909 (.invokevirtual 122) 912 [1, 88, 1, 3, 516, 517, 518, 64] (.null) := ⟨3, (congrArg (fun z => mj_at z 909) f167).trans rfl, rfl⟩
set_option maxRecDepth 20000 in
theorem d167_912 : mj_At 167 912 (.aload_n 2) 913 [2] (.null) := ⟨1, (congrArg (fun z => mj_at z 912) f167).trans rfl, rfl⟩
set_option maxRecDepth 20000 in
theorem d167_913 : mj_At 167 913 (.invokevirtual 125) 916 [1, 165, 1, 4, 875, 876, 877, 69] (.null) := ⟨3, (congrArg (fun z => mj_at z 913) f167).trans rfl, rfl⟩
set_option maxRecDepth 20000 in
theorem d167_916 : mj_At 167 916 (.if_icmp .eq (19)) 919 [935] (.null) := ⟨3, (congrArg (fun z => mj_at z 916) f167).trans rfl, rfl⟩
set_option maxRecDepth 20000 in
theorem d167_919 : mj_At 167 919 (.iconst (0)) 920 [] (.int 0) := ⟨1, (congrArg (fun z => mj_at z 919) f167).trans rfl, rfl⟩
set_option maxRecDepth 20000 in
theorem d167_920 : mj_At 167 920 (.ireturn) 921 [1] (.null) := ⟨1, (congrArg (fun z => mj_at z 920) f167).trans rfl, rfl⟩
set_option maxRecDepth 20000 in
theorem d167_921 : mj_At 167 921 (.aload_n 1) 922 [1] (.null) := ⟨1, (congrArg (fun z => mj_at z 921) f167).trans rfl, rfl⟩
set_option maxRecDepth 20000 in
theorem d167_922 : mj_At 167 922 (.invokevirtual 126) 925 [1, 91, 1, 3, 532, 533, 534, 64] (.null) := ⟨3, (congrArg (fun z => mj_at z 922) f167).trans rfl, rfl⟩
set_option maxRecDepth 20000 in
theorem d167_925 : mj_At 167 925 (.aload_n 2) 926 [2] (.null) := ⟨1, (congrArg (fun z => mj_at z 925) f167).trans rfl, rfl⟩
set_option maxRecDepth 20000 in
theorem d167_926 : mj_At 167 926 (.invokevirtual 130) 929 [1, 166, 1, 4, 879, 880, 881, 69] (.null) := ⟨3, (congrArg (fun z => mj_at z 926) f167).trans rfl, rfl⟩
set_option maxRecDepth 20000 in
theorem d167_929 : mj_At 167 929 (.lcmp) 930 [] (.null) := ⟨1, (congrArg (fun z => mj_at z 929) f167).trans rfl, rfl⟩
set_option maxRecDepth 20000 in
theorem d167_930 : mj_At 167 930 (.ifCond .eq (5)) 933 [935] (.null) := ⟨3, (congrArg (fun z => mj_at z 930) f167).trans rfl, rfl⟩
set_option maxRecDepth 20000 in
theorem d167_933 : mj_At 167 933 (.iconst (0)) 934 [] (.int 0) := ⟨1, (congrArg (fun z => mj_at z 933) f167).trans rfl, rfl⟩
set_option maxRecDepth 20000 in
theorem d167_934 : mj_At 167 934 (.ireturn) 935 [1] (.null) := ⟨1, (congrArg (fun z => mj_at z 934) f167).trans rfl, rfl⟩
set_option maxRecDepth 20000 in
theorem d167_935 : mj_At 167 935 (.iinc 3 (5)) 938 [3] (.int 5) := ⟨3, (congrArg (fun z => mj_at z 935) f167).trans rfl, rfl⟩
set_option maxRecDepth 20000 in
theorem d167_938 : mj_At 167 938 (.goto (-920)) 941 [18] (.null) := ⟨3, (congrArg (fun z => mj_at z 938) f167).trans rfl, rfl⟩
set_option maxRecDepth 20000 in
theorem d167_941 : mj_At 167 941 (.iconst (1)) 942 [] (.int 1) := ⟨1, (congrArg (fun z => mj_at z 941) f167).trans rfl, rfl⟩
set_option maxRecDepth 20000 in
theorem d167_942 : mj_At 167 942 (.ireturn) 943 [1] (.null) := ⟨1, (congrArg (fun z => mj_at z 942) f167).trans rfl, rfl⟩
theorem e167_15 {c : mj_C}  {L : Nat} {ps : List (Option (Option Nat))}   : mj_EV 167 15 [some (.ref 0), some (.ref 2), none, none] [.ref 52] (w_al L ps) c = mj_EV 167 18 [some (.ref 0), some (.ref 2), some (.ref 52), some (.int (nI 0))] [] (w_al L ps) c := (mj_astore_n [some (.ref 0), some (.ref 2), some (.ref 52), none] d167_15 rfl rfl (mj_iconst d167_16 (mj_istore_n [some (.ref 0), some (.ref 2), some (.ref 52), some (.int (nI 0))] d167_17 rfl rfl rfl)))
theorem e167_18 {c : mj_C} {x3 : Int32} {L : Nat} {ps : List (Option (Option Nat))}   : mj_EV 167 18 [some (.ref 0), some (.ref 2), some (.ref 52), some (.int x3)] [] (w_al L ps) c = (if ((Int32.ofNat L) - (nI 5)) < x3 then mj_EV 167 941 [some (.ref 0), some (.ref 2), some (.ref 52), some (.int x3)] [] (w_al L ps) c else (if mj_in x3 L = true then (if ((c 0 x3.toNatClampNeg) &&& (nI 31)) = nI 0 then mj_EV 167 160 [some (.ref 0), some (.ref 2), some (.ref 52), some (.int x3)] [] (w_al L ps) c else (if ((c 0 x3.toNatClampNeg) &&& (nI 31)) = nI 1 then mj_EV 167 183 [some (.ref 0), some (.ref 2), some (.ref 52), some (.int x3)] [] (w_al L ps) c else (if ((c 0 x3.toNatClampNeg) &&& (nI 31)) = nI 2 then mj_EV 167 206 [some (.ref 0), some (.ref 2), some (.ref 52), some (.int x3)] [] (w_al L ps) c else (if ((c 0 x3.toNatClampNeg) &&& (nI 31)) = nI 3 then mj_EV 167 219 [some (.ref 0), some (.ref 2), some (.ref 52), some (.int x3)] [] (w_al L ps) c else (if ((c 0 x3.toNatClampNeg) &&& (nI 31)) = nI 4 then mj_EV 167 242 [some (.ref 0), some (.ref 2), some (.ref 52), some (.int x3)] [] (w_al L ps) c else (if ((c 0 x3.toNatClampNeg) &&& (nI 31)) = nI 5 then mj_EV 167 265 [some (.ref 0), some (.ref 2), some (.ref 52), some (.int x3)] [] (w_al L ps) c else (if ((c 0 x3.toNatClampNeg) &&& (nI 31)) = nI 6 then mj_EV 167 278 [some (.ref 0), some (.ref 2), some (.ref 52), some (.int x3)] [] (w_al L ps) c else (if ((c 0 x3.toNatClampNeg) &&& (nI 31)) = nI 7 then mj_EV 167 331 [some (.ref 0), some (.ref 2), some (.ref 52), some (.int x3)] [] (w_al L ps) c else (if ((c 0 x3.toNatClampNeg) &&& (nI 31)) = nI 8 then mj_EV 167 374 [some (.ref 0), some (.ref 2), some (.ref 52), some (.int x3)] [] (w_al L ps) c else (if ((c 0 x3.toNatClampNeg) &&& (nI 31)) = nI 9 then mj_EV 167 417 [some (.ref 0), some (.ref 2), some (.ref 52), some (.int x3)] [] (w_al L ps) c else (if ((c 0 x3.toNatClampNeg) &&& (nI 31)) = nI 10 then mj_EV 167 470 [some (.ref 0), some (.ref 2), some (.ref 52), some (.int x3)] [] (w_al L ps) c else (if ((c 0 x3.toNatClampNeg) &&& (nI 31)) = nI 11 then mj_EV 167 513 [some (.ref 0), some (.ref 2), some (.ref 52), some (.int x3)] [] (w_al L ps) c else (if ((c 0 x3.toNatClampNeg) &&& (nI 31)) = nI 12 then mj_EV 167 536 [some (.ref 0), some (.ref 2), some (.ref 52), some (.int x3)] [] (w_al L ps) c else (if ((c 0 x3.toNatClampNeg) &&& (nI 31)) = nI 13 then mj_EV 167 579 [some (.ref 0), some (.ref 2), some (.ref 52), some (.int x3)] [] (w_al L ps) c else (if ((c 0 x3.toNatClampNeg) &&& (nI 31)) = nI 14 then mj_EV 167 612 [some (.ref 0), some (.ref 2), some (.ref 52), some (.int x3)] [] (w_al L ps) c else (if ((c 0 x3.toNatClampNeg) &&& (nI 31)) = nI 15 then mj_EV 167 655 [some (.ref 0), some (.ref 2), some (.ref 52), some (.int x3)] [] (w_al L ps) c else (if ((c 0 x3.toNatClampNeg) &&& (nI 31)) = nI 16 then mj_EV 167 678 [some (.ref 0), some (.ref 2), some (.ref 52), some (.int x3)] [] (w_al L ps) c else (if ((c 0 x3.toNatClampNeg) &&& (nI 31)) = nI 17 then mj_EV 167 711 [some (.ref 0), some (.ref 2), some (.ref 52), some (.int x3)] [] (w_al L ps) c else (if ((c 0 x3.toNatClampNeg) &&& (nI 31)) = nI 18 then mj_EV 167 744 [some (.ref 0), some (.ref 2), some (.ref 52), some (.int x3)] [] (w_al L ps) c else (if ((c 0 x3.toNatClampNeg) &&& (nI 31)) = nI 19 then mj_EV 167 797 [some (.ref 0), some (.ref 2), some (.ref 52), some (.int x3)] [] (w_al L ps) c else (if ((c 0 x3.toNatClampNeg) &&& (nI 31)) = nI 20 then mj_EV 167 820 [some (.ref 0), some (.ref 2), some (.ref 52), some (.int x3)] [] (w_al L ps) c else (if ((c 0 x3.toNatClampNeg) &&& (nI 31)) = nI 21 then mj_EV 167 833 [some (.ref 0), some (.ref 2), some (.ref 52), some (.int x3)] [] (w_al L ps) c else (if ((c 0 x3.toNatClampNeg) &&& (nI 31)) = nI 22 then mj_EV 167 846 [some (.ref 0), some (.ref 2), some (.ref 52), some (.int x3)] [] (w_al L ps) c else (if ((c 0 x3.toNatClampNeg) &&& (nI 31)) = nI 23 then mj_EV 167 869 [some (.ref 0), some (.ref 2), some (.ref 52), some (.int x3)] [] (w_al L ps) c else (if ((c 0 x3.toNatClampNeg) &&& (nI 31)) = nI 24 then mj_EV 167 882 [some (.ref 0), some (.ref 2), some (.ref 52), some (.int x3)] [] (w_al L ps) c else (if ((c 0 x3.toNatClampNeg) &&& (nI 31)) = nI 25 then mj_EV 167 895 [some (.ref 0), some (.ref 2), some (.ref 52), some (.int x3)] [] (w_al L ps) c else (if ((c 0 x3.toNatClampNeg) &&& (nI 31)) = nI 26 then mj_EV 167 908 [some (.ref 0), some (.ref 2), some (.ref 52), some (.int x3)] [] (w_al L ps) c else (if ((c 0 x3.toNatClampNeg) &&& (nI 31)) = nI 27 then mj_EV 167 921 [some (.ref 0), some (.ref 2), some (.ref 52), some (.int x3)] [] (w_al L ps) c else mj_EV 167 935 [some (.ref 0), some (.ref 2), some (.ref 52), some (.int x3)] [] (w_al L ps) c)))))))))))))))))))))))))))) else none)) := (mj_iload_n d167_18 rfl (mj_aload_n d167_19 rfl (mj_alen d167_20 w_0 rfl (mj_iconst d167_21 (mj_isub d167_22 (mj_icgt d167_23 rfl (mj_aload_n d167_26 rfl (mj_iload_n d167_27 rfl (mj_roald d167_28 w_0 rfl (mj_bipush d167_29 (mj_iand d167_31 ((mj_tsw d167_32).trans (mj_ite rfl rfl (mj_ite rfl rfl (mj_ite rfl rfl (mj_ite rfl rfl (mj_ite rfl rfl (mj_ite rfl rfl (mj_ite rfl rfl (mj_ite rfl rfl (mj_ite rfl rfl (mj_ite rfl rfl (mj_ite rfl rfl (mj_ite rfl rfl (mj_ite rfl rfl (mj_ite rfl rfl (mj_ite rfl rfl (mj_ite rfl rfl (mj_ite rfl rfl (mj_ite rfl rfl (mj_ite rfl rfl (mj_ite rfl rfl (mj_ite rfl rfl (mj_ite rfl rfl (mj_ite rfl rfl (mj_ite rfl rfl (mj_ite rfl rfl (mj_ite rfl rfl (mj_ite rfl rfl (mj_ite rfl rfl rfl))))))))))))))))))))))))))))))))))))))))
theorem e167_160 {c : mj_C} {x3 : Int32} {L : Nat} {ps : List (Option (Option Nat))}   : mj_EV 167 160 [some (.ref 0), some (.ref 2), some (.ref 52), some (.int x3)] [] (w_al L ps) c = (if mj_in (x3 + (nI 1)) L = true then (mj_then 167 169 [some (.ref 0), some (.ref 2), some (.ref 52), some (.int x3)] [] (mj_EV 22 0 [some (.ref 2), some (.int (c 0 (x3 + (nI 1)).toNatClampNeg)), none, none] [] (w_al L ps) c)) else none) := (mj_aload_n d167_160 rfl (mj_aload_n d167_161 rfl (mj_iload_n d167_162 rfl (mj_iconst d167_163 (mj_iadd d167_164 (mj_roald d167_165 w_0 rfl (mj_invV [some (.ref 2), some (.int (c 0 (x3 + (nI 1)).toNatClampNeg)), none, none] [] d167_166 rfl rfl rfl w_2 rfl rfl)))))))
theorem e167_169 {c : mj_C} {x3 : Int32} {z0 : Int32} {L : Nat} {ps : List (Option (Option Nat))}   : mj_EV 167 169 [some (.ref 0), some (.ref 2), some (.ref 52), some (.int x3)] [.int z0] (w_al L ps) c = (if mj_in (x3 + (nI 1)) L = true then (mj_then 167 178 [some (.ref 0), some (.ref 2), some (.ref 52), some (.int x3)] [.int z0] (mj_EV 123 0 [some (.ref 52), some (.int (c 0 (x3 + (nI 1)).toNatClampNeg)), none, none, none] [] (w_al L ps) c)) else none) := (mj_aload_n d167_169 rfl (mj_aload_n d167_170 rfl (mj_iload_n d167_171 rfl (mj_iconst d167_172 (mj_iadd d167_173 (mj_roald d167_174 w_0 rfl (mj_invV [some (.ref 52), some (.int (c 0 (x3 + (nI 1)).toNatClampNeg)), none, none, none] [.int z0] d167_175 rfl rfl rfl w_52 rfl rfl)))))))
theorem e167_178 {c : mj_C} {x3 : Int32} {z0 : Int32} {z1 : Int32} {L : Nat} {ps : List (Option (Option Nat))}   : mj_EV 167 178 [some (.ref 0), some (.ref 2), some (.ref 52), some (.int x3)] [.int z1, .int z0] (w_al L ps) c = (if z0 = z1 then mj_EV 167 935 [some (.ref 0), some (.ref 2), some (.ref 52), some (.int x3)] [] (w_al L ps) c else (some (some (.int (nI 0)), (w_al L ps), c))) := (mj_iceq d167_178 rfl (mj_iconst d167_181 (mj_zret0 d167_182)))
theorem e167_183 {c : mj_C} {x3 : Int32} {L : Nat} {ps : List (Option (Option Nat))}   : mj_EV 167 183 [some (.ref 0), some (.ref 2), some (.ref 52), some (.int x3)] [] (w_al L ps) c = (if mj_in (x3 + (nI 1)) L = true then (mj_then 167 192 [some (.ref 0), some (.ref 2), some (.ref 52), some (.int x3)] [] (mj_EV 23 0 [some (.ref 2), some (.int (c 0 (x3 + (nI 1)).toNatClampNeg)), none] [] (w_al L ps) c)) else none) := (mj_aload_n d167_183 rfl (mj_aload_n d167_184 rfl (mj_iload_n d167_185 rfl (mj_iconst d167_186 (mj_iadd d167_187 (mj_roald d167_188 w_0 rfl (mj_invV [some (.ref 2), some (.int (c 0 (x3 + (nI 1)).toNatClampNeg)), none] [] d167_189 rfl rfl rfl w_2 rfl rfl)))))))
theorem e167_192 {c : mj_C} {x3 : Int32} {z0 : Int32} {L : Nat} {ps : List (Option (Option Nat))}   : mj_EV 167 192 [some (.ref 0), some (.ref 2), some (.ref 52), some (.int x3)] [.int z0] (w_al L ps) c = (if mj_in (x3 + (nI 1)) L = true then (mj_then 167 201 [some (.ref 0), some (.ref 2), some (.ref 52), some (.int x3)] [.int z0] (mj_EV 124 0 [some (.ref 52), some (.int (c 0 (x3 + (nI 1)).toNatClampNeg)), none] [] (w_al L ps) c)) else none) := (mj_aload_n d167_192 rfl (mj_aload_n d167_193 rfl (mj_iload_n d167_194 rfl (mj_iconst d167_195 (mj_iadd d167_196 (mj_roald d167_197 w_0 rfl (mj_invV [some (.ref 52), some (.int (c 0 (x3 + (nI 1)).toNatClampNeg)), none] [.int z0] d167_198 rfl rfl rfl w_52 rfl rfl)))))))
theorem e167_201 {c : mj_C} {x3 : Int32} {z0 : Int32} {z1 : Int32} {L : Nat} {ps : List (Option (Option Nat))}   : mj_EV 167 201 [some (.ref 0), some (.ref 2), some (.ref 52), some (.int x3)] [.int z1, .int z0] (w_al L ps) c = (if z0 = z1 then mj_EV 167 935 [some (.ref 0), some (.ref 2), some (.ref 52), some (.int x3)] [] (w_al L ps) c else (some (some (.int (nI 0)), (w_al L ps), c))) := (mj_iceq d167_201 rfl (mj_iconst d167_204 (mj_zret0 d167_205)))
theorem e167_206 {c : mj_C} {x3 : Int32} {L : Nat} {ps : List (Option (Option Nat))}   : mj_EV 167 206 [some (.ref 0), some (.ref 2), some (.ref 52), some (.int x3)] [] (w_al L ps) c = (mj_then 167 210 [some (.ref 0), some (.ref 2), some (.ref 52), some (.int x3)] [] (mj_EV 29 0 [some (.ref 2), none] [] (w_al L ps) c)) := (mj_aload_n d167_206 rfl (mj_invV [some (.ref 2), none] [] d167_207 rfl rfl rfl w_2 rfl rfl))
theorem e167_210 {c : mj_C} {x3 : Int32} {z0 : Int32} {L : Nat} {ps : List (Option (Option Nat))}   : mj_EV 167 210 [some (.ref 0), some (.ref 2), some (.ref 52), some (.int x3)] [.int z0] (w_al L ps) c = (mj_then 167 214 [some (.ref 0), some (.ref 2), some (.ref 52), some (.int x3)] [.int z0] (mj_EV 125 0 [some (.ref 52), none] [] (w_al L ps) c)) := (mj_aload_n d167_210 rfl (mj_invV [some (.ref 52), none] [.int z0] d167_211 rfl rfl rfl w_52 rfl rfl))
theorem e167_214 {c : mj_C} {x3 : Int32} {z0 : Int32} {z1 : Int32} {L : Nat} {ps : List (Option (Option Nat))}   : mj_EV 167 214 [some (.ref 0), some (.ref 2), some (.ref 52), some (.int x3)] [.int z1, .int z0] (w_al L ps) c = (if z0 = z1 then mj_EV 167 935 [some (.ref 0), some (.ref 2), some (.ref 52), some (.int x3)] [] (w_al L ps) c else (some (some (.int (nI 0)), (w_al L ps), c))) := (mj_iceq d167_214 rfl (mj_iconst d167_217 (mj_zret0 d167_218)))
theorem e167_219 {c : mj_C} {x3 : Int32} {L : Nat} {ps : List (Option (Option Nat))}   : mj_EV 167 219 [some (.ref 0), some (.ref 2), some (.ref 52), some (.int x3)] [] (w_al L ps) c = (if mj_in (x3 + (nI 1)) L = true then (mj_then 167 228 [some (.ref 0), some (.ref 2), some (.ref 52), some (.int x3)] [] (mj_EV 31 0 [some (.ref 2), some (.int (c 0 (x3 + (nI 1)).toNatClampNeg)), none] [] (w_al L ps) c)) else none) := (mj_aload_n d167_219 rfl (mj_aload_n d167_220 rfl (mj_iload_n d167_221 rfl (mj_iconst d167_222 (mj_iadd d167_223 (mj_roald d167_224 w_0 rfl (mj_invV [some (.ref 2), some (.int (c 0 (x3 + (nI 1)).toNatClampNeg)), none] [] d167_225 rfl rfl rfl w_2 rfl rfl)))))))
theorem e167_228 {c : mj_C} {x3 : Int32} {z0 : Int32} {L : Nat} {ps : List (Option (Option Nat))}   : mj_EV 167 228 [some (.ref 0), some (.ref 2), some (.ref 52), some (.int x3)] [.int z0] (w_al L ps) c = (if mj_in (x3 + (nI 1)) L = true then (mj_then 167 237 [some (.ref 0), some (.ref 2), some (.ref 52), some (.int x3)] [.int z0] (mj_EV 126 0 [some (.ref 52), some (.int (c 0 (x3 + (nI 1)).toNatClampNeg)), none, none] [] (w_al L ps) c)) else none) := (mj_aload_n d167_228 rfl (mj_aload_n d167_229 rfl (mj_iload_n d167_230 rfl (mj_iconst d167_231 (mj_iadd d167_232 (mj_roald d167_233 w_0 rfl (mj_invV [some (.ref 52), some (.int (c 0 (x3 + (nI 1)).toNatClampNeg)), none, none] [.int z0] d167_234 rfl rfl rfl w_52 rfl rfl)))))))
theorem e167_237 {c : mj_C} {x3 : Int32} {z0 : Int32} {z1 : Int32} {L : Nat} {ps : List (Option (Option Nat))}   : mj_EV 167 237 [some (.ref 0), some (.ref 2), some (.ref 52), some (.int x3)] [.int z1, .int z0] (w_al L ps) c = (if z0 = z1 then mj_EV 167 935 [some (.ref 0), some (.ref 2), some (.ref 52), some (.int x3)] [] (w_al L ps) c else (some (some (.int (nI 0)), (w_al L ps), c))) := (mj_iceq d167_237 rfl (mj_iconst d167_240 (mj_zret0 d167_241)))
theorem e167_242 {c : mj_C} {x3 : Int32} {L : Nat} {ps : List (Option (Option Nat))}   : mj_EV 167 242 [some (.ref 0), some (.ref 2), some (.ref 52), some (.int x3)] [] (w_al L ps) c = (if mj_in (x3 + (nI 1)) L = true then (mj_then 167 251 [some (.ref 0), some (.ref 2), some (.ref 52), some (.int x3)] [] (mj_EV 32 0 [some (.ref 2), some (.int (c 0 (x3 + (nI 1)).toNatClampNeg)), none] [] (w_al L ps) c)) else none) := (mj_aload_n d167_242 rfl (mj_aload_n d167_243 rfl (mj_iload_n d167_244 rfl (mj_iconst d167_245 (mj_iadd d167_246 (mj_roald d167_247 w_0 rfl (mj_invV [some (.ref 2), some (.int (c 0 (x3 + (nI 1)).toNatClampNeg)), none] [] d167_248 rfl rfl rfl w_2 rfl rfl)))))))
theorem e167_251 {c : mj_C} {x3 : Int32} {z0 : Int32} {L : Nat} {ps : List (Option (Option Nat))}   : mj_EV 167 251 [some (.ref 0), some (.ref 2), some (.ref 52), some (.int x3)] [.int z0] (w_al L ps) c = (if mj_in (x3 + (nI 1)) L = true then (mj_then 167 260 [some (.ref 0), some (.ref 2), some (.ref 52), some (.int x3)] [.int z0] (mj_EV 127 0 [some (.ref 52), some (.int (c 0 (x3 + (nI 1)).toNatClampNeg)), none] [] (w_al L ps) c)) else none) := (mj_aload_n d167_251 rfl (mj_aload_n d167_252 rfl (mj_iload_n d167_253 rfl (mj_iconst d167_254 (mj_iadd d167_255 (mj_roald d167_256 w_0 rfl (mj_invV [some (.ref 52), some (.int (c 0 (x3 + (nI 1)).toNatClampNeg)), none] [.int z0] d167_257 rfl rfl rfl w_52 rfl rfl)))))))
theorem e167_260 {c : mj_C} {x3 : Int32} {z0 : Int32} {z1 : Int32} {L : Nat} {ps : List (Option (Option Nat))}   : mj_EV 167 260 [some (.ref 0), some (.ref 2), some (.ref 52), some (.int x3)] [.int z1, .int z0] (w_al L ps) c = (if z0 = z1 then mj_EV 167 935 [some (.ref 0), some (.ref 2), some (.ref 52), some (.int x3)] [] (w_al L ps) c else (some (some (.int (nI 0)), (w_al L ps), c))) := (mj_iceq d167_260 rfl (mj_iconst d167_263 (mj_zret0 d167_264)))
theorem e167_265 {c : mj_C} {x3 : Int32} {L : Nat} {ps : List (Option (Option Nat))}   : mj_EV 167 265 [some (.ref 0), some (.ref 2), some (.ref 52), some (.int x3)] [] (w_al L ps) c = (mj_then 167 269 [some (.ref 0), some (.ref 2), some (.ref 52), some (.int x3)] [] (mj_EV 33 0 [some (.ref 2), none, none] [] (w_al L ps) c)) := (mj_aload_n d167_265 rfl (mj_invV [some (.ref 2), none, none] [] d167_266 rfl rfl rfl w_2 rfl rfl))
theorem e167_269 {c : mj_C} {x3 : Int32} {z0 : Int32} {L : Nat} {ps : List (Option (Option Nat))}   : mj_EV 167 269 [some (.ref 0), some (.ref 2), some (.ref 52), some (.int x3)] [.int z0] (w_al L ps) c = (mj_then 167 273 [some (.ref 0), some (.ref 2), some (.ref 52), some (.int x3)] [.int z0] (mj_EV 129 0 [some (.ref 52), none] [] (w_al L ps) c)) := (mj_aload_n d167_269 rfl (mj_invV [some (.ref 52), none] [.int z0] d167_270 rfl rfl rfl w_52 rfl rfl))
theorem e167_273 {c : mj_C} {x3 : Int32} {z0 : Int32} {z1 : Int32} {L : Nat} {ps : List (Option (Option Nat))}   : mj_EV 167 273 [some (.ref 0), some (.ref 2), some (.ref 52), some (.int x3)] [.int z1, .int z0] (w_al L ps) c = (if z0 = z1 then mj_EV 167 935 [some (.ref 0), some (.ref 2), some (.ref 52), some (.int x3)] [] (w_al L ps) c else (some (some (.int (nI 0)), (w_al L ps), c))) := (mj_iceq d167_273 rfl (mj_iconst d167_276 (mj_zret0 d167_277)))
theorem e167_278 {c : mj_C} {x3 : Int32} {L : Nat} {ps : List (Option (Option Nat))}   : mj_EV 167 278 [some (.ref 0), some (.ref 2), some (.ref 52), some (.int x3)] [] (w_al L ps) c = (if mj_in (x3 + (nI 1)) L = true then (if mj_in (x3 + (nI 2)) L = true then (if mj_in (x3 + (nI 3)) L = true then (if mj_in (x3 + (nI 4)) L = true then (mj_then 167 302 [some (.ref 0), some (.ref 2), some (.ref 52), some (.int x3)] [] (mj_EV 48 0 [some (.ref 2), some (.int (c 0 (x3 + (nI 1)).toNatClampNeg)), some (.int (c 0 (x3 + (nI 2)).toNatClampNeg)), some (.int (c 0 (x3 + (nI 3)).toNatClampNeg)), some (.int (c 0 (x3 + (nI 4)).toNatClampNeg))] [] (w_al L ps) c)) else none) else none) else none) else none) := (mj_aload_n d167_278 rfl (mj_aload_n d167_279 rfl (mj_iload_n d167_280 rfl (mj_iconst d167_281 (mj_iadd d167_282 (mj_roald d167_283 w_0 rfl (mj_aload_n d167_284 rfl (mj_iload_n d167_285 rfl (mj_iconst d167_286 (mj_iadd d167_287 (mj_roald d167_288 w_0 rfl (mj_aload_n d167_289 rfl (mj_iload_n d167_290 rfl (mj_iconst d167_291 (mj_iadd d167_292 (mj_roald d167_293 w_0 rfl (mj_aload_n d167_294 rfl (mj_iload_n d167_295 rfl (mj_iconst d167_296 (mj_iadd d167_297 (mj_roald d167_298 w_0 rfl (mj_invV [some (.ref 2), some (.int (c 0 (x3 + (nI 1)).toNatClampNeg)), some (.int (c 0 (x3 + (nI 2)).toNatClampNeg)), some (.int (c 0 (x3 + (nI 3)).toNatClampNeg)), some (.int (c 0 (x3 + (nI 4)).toNatClampNeg))] [] d167_299 rfl rfl rfl w_2 rfl rfl))))))))))))))))))))))
theorem e167_302 {c : mj_C} {x3 : Int32} {z0 : Int32} {L : Nat} {ps : List (Option (Option Nat))}   : mj_EV 167 302 [some (.ref 0), some (.ref 2), some (.ref 52), some (.int x3)] [.int z0] (w_al L ps) c = (if mj_in (x3 + (nI 1)) L = true then (if mj_in (x3 + (nI 2)) L = true then (if mj_in (x3 + (nI 3)) L = true then (if mj_in (x3 + (nI 4)) L = true then (mj_then 167 326 [some (.ref 0), some (.ref 2), some (.ref 52), some (.int x3)] [.int z0] (mj_EV 131 0 [some (.ref 52), some (.int (c 0 (x3 + (nI 1)).toNatClampNeg)), some (.int (c 0 (x3 + (nI 2)).toNatClampNeg)), some (.int (c 0 (x3 + (nI 3)).toNatClampNeg)), some (.int (c 0 (x3 + (nI 4)).toNatClampNeg))] [] (w_al L ps) c)) else none) else none) else none) else none) := (mj_aload_n d167_302 rfl (mj_aload_n d167_303 rfl (mj_iload_n d167_304 rfl (mj_iconst d167_305 (mj_iadd d167_306 (mj_roald d167_307 w_0 rfl (mj_aload_n d167_308 rfl (mj_iload_n d167_309 rfl (mj_iconst d167_310 (mj_iadd d167_311 (mj_roald d167_312 w_0 rfl (mj_aload_n d167_313 rfl (mj_iload_n d167_314 rfl (mj_iconst d167_315 (mj_iadd d167_316 (mj_roald d167_317 w_0 rfl (mj_aload_n d167_318 rfl (mj_iload_n d167_319 rfl (mj_iconst d167_320 (mj_iadd d167_321 (mj_roald d167_322 w_0 rfl (mj_invV [some (.ref 52), some (.int (c 0 (x3 + (nI 1)).toNatClampNeg)), some (.int (c 0 (x3 + (nI 2)).toNatClampNeg)), some (.int (c 0 (x3 + (nI 3)).toNatClampNeg)), some (.int (c 0 (x3 + (nI 4)).toNatClampNeg))] [.int z0] d167_323 rfl rfl rfl w_52 rfl rfl))))))))))))))))))))))
theorem e167_326 {c : mj_C} {x3 : Int32} {z0 : Int32} {z1 : Int32} {L : Nat} {ps : List (Option (Option Nat))}   : mj_EV 167 326 [some (.ref 0), some (.ref 2), some (.ref 52), some (.int x3)] [.int z1, .int z0] (w_al L ps) c = (if z0 = z1 then mj_EV 167 935 [some (.ref 0), some (.ref 2), some (.ref 52), some (.int x3)] [] (w_al L ps) c else (some (some (.int (nI 0)), (w_al L ps), c))) := (mj_iceq d167_326 rfl (mj_iconst d167_329 (mj_zret0 d167_330)))
theorem e167_331 {c : mj_C} {x3 : Int32} {L : Nat} {ps : List (Option (Option Nat))}   : mj_EV 167 331 [some (.ref 0), some (.ref 2), some (.ref 52), some (.int x3)] [] (w_al L ps) c = (if mj_in (x3 + (nI 1)) L = true then (if mj_in (x3 + (nI 2)) L = true then (if mj_in (x3 + (nI 3)) L = true then (mj_then 167 350 [some (.ref 0), some (.ref 2), some (.ref 52), some (.int x3)] [] (mj_EV 49 0 [some (.ref 2), some (.int (c 0 (x3 + (nI 1)).toNatClampNeg)), some (.int (c 0 (x3 + (nI 2)).toNatClampNeg)), some (.int (c 0 (x3 + (nI 3)).toNatClampNeg))] [] (w_al L ps) c)) else none) else none) else none) := (mj_aload_n d167_331 rfl (mj_aload_n d167_332 rfl (mj_iload_n d167_333 rfl (mj_iconst d167_334 (mj_iadd d167_335 (mj_roald d167_336 w_0 rfl (mj_aload_n d167_337 rfl (mj_iload_n d167_338 rfl (mj_iconst d167_339 (mj_iadd d167_340 (mj_roald d167_341 w_0 rfl (mj_aload_n d167_342 rfl (mj_iload_n d167_343 rfl (mj_iconst d167_344 (mj_iadd d167_345 (mj_roald d167_346 w_0 rfl (mj_invV [some (.ref 2), some (.int (c 0 (x3 + (nI 1)).toNatClampNeg)), some (.int (c 0 (x3 + (nI 2)).toNatClampNeg)), some (.int (c 0 (x3 + (nI 3)).toNatClampNeg))] [] d167_347 rfl rfl rfl w_2 rfl rfl)))))))))))))))))
theorem e167_350 {c : mj_C} {x3 : Int32} {z0 : Int32} {L : Nat} {ps : List (Option (Option Nat))}   : mj_EV 167 350 [some (.ref 0), some (.ref 2), some (.ref 52), some (.int x3)] [.int z0] (w_al L ps) c = (if mj_in (x3 + (nI 1)) L = true then (if mj_in (x3 + (nI 2)) L = true then (if mj_in (x3 + (nI 3)) L = true then (mj_then 167 369 [some (.ref 0), some (.ref 2), some (.ref 52), some (.int x3)] [.int z0] (mj_EV 132 0 [some (.ref 52), some (.int (c 0 (x3 + (nI 1)).toNatClampNeg)), some (.int (c 0 (x3 + (nI 2)).toNatClampNeg)), some (.int (c 0 (x3 + (nI 3)).toNatClampNeg)), none] [] (w_al L ps) c)) else none) else none) else none) := (mj_aload_n d167_350 rfl (mj_aload_n d167_351 rfl (mj_iload_n d167_352 rfl (mj_iconst d167_353 (mj_iadd d167_354 (mj_roald d167_355 w_0 rfl (mj_aload_n d167_356 rfl (mj_iload_n d167_357 rfl (mj_iconst d167_358 (mj_iadd d167_359 (mj_roald d167_360 w_0 rfl (mj_aload_n d167_361 rfl (mj_iload_n d167_362 rfl (mj_iconst d167_363 (mj_iadd d167_364 (mj_roald d167_365 w_0 rfl (mj_invV [some (.ref 52), some (.int (c 0 (x3 + (nI 1)).toNatClampNeg)), some (.int (c 0 (x3 + (nI 2)).toNatClampNeg)), some (.int (c 0 (x3 + (nI 3)).toNatClampNeg)), none] [.int z0] d167_366 rfl rfl rfl w_52 rfl rfl)))))))))))))))))
theorem e167_369 {c : mj_C} {x3 : Int32} {z0 : Int32} {z1 : Int32} {L : Nat} {ps : List (Option (Option Nat))}   : mj_EV 167 369 [some (.ref 0), some (.ref 2), some (.ref 52), some (.int x3)] [.int z1, .int z0] (w_al L ps) c = (if z0 = z1 then mj_EV 167 935 [some (.ref 0), some (.ref 2), some (.ref 52), some (.int x3)] [] (w_al L ps) c else (some (some (.int (nI 0)), (w_al L ps), c))) := (mj_iceq d167_369 rfl (mj_iconst d167_372 (mj_zret0 d167_373)))
theorem e167_374 {c : mj_C} {x3 : Int32} {L : Nat} {ps : List (Option (Option Nat))}   : mj_EV 167 374 [some (.ref 0), some (.ref 2), some (.ref 52), some (.int x3)] [] (w_al L ps) c = (if mj_in (x3 + (nI 1)) L = true then (if mj_in (x3 + (nI 2)) L = true then (if mj_in (x3 + (nI 3)) L = true then (mj_then 167 393 [some (.ref 0), some (.ref 2), some (.ref 52), some (.int x3)] [] (mj_EV 51 0 [some (.ref 2), some (.int (c 0 (x3 + (nI 1)).toNatClampNeg)), some (.int (c 0 (x3 + (nI 2)).toNatClampNeg)), some (.int (c 0 (x3 + (nI 3)).toNatClampNeg)), none] [] (w_al L ps) c)) else none) else none) else none) := (mj_aload_n d167_374 rfl (mj_aload_n d167_375 rfl (mj_iload_n d167_376 rfl (mj_iconst d167_377 (mj_iadd d167_378 (mj_roald d167_379 w_0 rfl (mj_aload_n d167_380 rfl (mj_iload_n d167_381 rfl (mj_iconst d167_382 (mj_iadd d167_383 (mj_roald d167_384 w_0 rfl (mj_aload_n d167_385 rfl (mj_iload_n d167_386 rfl (mj_iconst d167_387 (mj_iadd d167_388 (mj_roald d167_389 w_0 rfl (mj_invV [some (.ref 2), some (.int (c 0 (x3 + (nI 1)).toNatClampNeg)), some (.int (c 0 (x3 + (nI 2)).toNatClampNeg)), some (.int (c 0 (x3 + (nI 3)).toNatClampNeg)), none] [] d167_390 rfl rfl rfl w_2 rfl rfl)))))))))))))))))
theorem e167_393 {c : mj_C} {x3 : Int32} {z0 : Int32} {L : Nat} {ps : List (Option (Option Nat))}   : mj_EV 167 393 [some (.ref 0), some (.ref 2), some (.ref 52), some (.int x3)] [.int z0] (w_al L ps) c = (if mj_in (x3 + (nI 1)) L = true then (if mj_in (x3 + (nI 2)) L = true then (if mj_in (x3 + (nI 3)) L = true then (mj_then 167 412 [some (.ref 0), some (.ref 2), some (.ref 52), some (.int x3)] [.int z0] (mj_EV 133 0 [some (.ref 52), some (.int (c 0 (x3 + (nI 1)).toNatClampNeg)), some (.int (c 0 (x3 + (nI 2)).toNatClampNeg)), some (.int (c 0 (x3 + (nI 3)).toNatClampNeg)), none] [] (w_al L ps) c)) else none) else none) else none) := (mj_aload_n d167_393 rfl (mj_aload_n d167_394 rfl (mj_iload_n d167_395 rfl (mj_iconst d167_396 (mj_iadd d167_397 (mj_roald d167_398 w_0 rfl (mj_aload_n d167_399 rfl (mj_iload_n d167_400 rfl (mj_iconst d167_401 (mj_iadd d167_402 (mj_roald d167_403 w_0 rfl (mj_aload_n d167_404 rfl (mj_iload_n d167_405 rfl (mj_iconst d167_406 (mj_iadd d167_407 (mj_roald d167_408 w_0 rfl (mj_invV [some (.ref 52), some (.int (c 0 (x3 + (nI 1)).toNatClampNeg)), some (.int (c 0 (x3 + (nI 2)).toNatClampNeg)), some (.int (c 0 (x3 + (nI 3)).toNatClampNeg)), none] [.int z0] d167_409 rfl rfl rfl w_52 rfl rfl)))))))))))))))))
theorem e167_412 {c : mj_C} {x3 : Int32} {z0 : Int32} {z1 : Int32} {L : Nat} {ps : List (Option (Option Nat))}   : mj_EV 167 412 [some (.ref 0), some (.ref 2), some (.ref 52), some (.int x3)] [.int z1, .int z0] (w_al L ps) c = (if z0 = z1 then mj_EV 167 935 [some (.ref 0), some (.ref 2), some (.ref 52), some (.int x3)] [] (w_al L ps) c else (some (some (.int (nI 0)), (w_al L ps), c))) := (mj_iceq d167_412 rfl (mj_iconst d167_415 (mj_zret0 d167_416)))
theorem e167_417 {c : mj_C} {x3 : Int32} {L : Nat} {ps : List (Option (Option Nat))}   : mj_EV 167 417 [some (.ref 0), some (.ref 2), some (.ref 52), some (.int x3)] [] (w_al L ps) c = (if mj_in (x3 + (nI 1)) L = true then (if mj_in (x3 + (nI 2)) L = true then (if mj_in (x3 + (nI 3)) L = true then (if mj_in (x3 + (nI 4)) L = true then (mj_then 167 441 [some (.ref 0), some (.ref 2), some (.ref 52), some (.int x3)] [] (mj_EV 52 0 [some (.ref 2), some (.int (c 0 (x3 + (nI 1)).toNatClampNeg)), some (.int (c 0 (x3 + (nI 2)).toNatClampNeg)), some (.int (c 0 (x3 + (nI 3)).toNatClampNeg)), some (.int (c 0 (x3 + (nI 4)).toNatClampNeg))] [] (w_al L ps) c)) else none) else none) else none) else none) := (mj_aload_n d167_417 rfl (mj_aload_n d167_418 rfl (mj_iload_n d167_419 rfl (mj_iconst d167_420 (mj_iadd d167_421 (mj_roald d167_422 w_0 rfl (mj_aload_n d167_423 rfl (mj_iload_n d167_424 rfl (mj_iconst d167_425 (mj_iadd d167_426 (mj_roald d167_427 w_0 rfl (mj_aload_n d167_428 rfl (mj_iload_n d167_429 rfl (mj_iconst d167_430 (mj_iadd d167_431 (mj_roald d167_432 w_0 rfl (mj_aload_n d167_433 rfl (mj_iload_n d167_434 rfl (mj_iconst d167_435 (mj_iadd d167_436 (mj_roald d167_437 w_0 rfl (mj_invV [some (.ref 2), some (.int (c 0 (x3 + (nI 1)).toNatClampNeg)), some (.int (c 0 (x3 + (nI 2)).toNatClampNeg)), some (.int (c 0 (x3 + (nI 3)).toNatClampNeg)), some (.int (c 0 (x3 + (nI 4)).toNatClampNeg))] [] d167_438 rfl rfl rfl w_2 rfl rfl))))))))))))))))))))))
theorem e167_441 {c : mj_C} {x3 : Int32} {z0 : Int32} {L : Nat} {ps : List (Option (Option Nat))}   : mj_EV 167 441 [some (.ref 0), some (.ref 2), some (.ref 52), some (.int x3)] [.int z0] (w_al L ps) c = (if mj_in (x3 + (nI 1)) L = true then (if mj_in (x3 + (nI 2)) L = true then (if mj_in (x3 + (nI 3)) L = true then (if mj_in (x3 + (nI 4)) L = true then (mj_then 167 465 [some (.ref 0), some (.ref 2), some (.ref 52), some (.int x3)] [.int z0] (mj_EV 134 0 [some (.ref 52), some (.int (c 0 (x3 + (nI 1)).toNatClampNeg)), some (.int (c 0 (x3 + (nI 2)).toNatClampNeg)), some (.int (c 0 (x3 + (nI 3)).toNatClampNeg)), some (.int (c 0 (x3 + (nI 4)).toNatClampNeg))] [] (w_al L ps) c)) else none) else none) else none) else none) := (mj_aload_n d167_441 rfl (mj_aload_n d167_442 rfl (mj_iload_n d167_443 rfl (mj_iconst d167_444 (mj_iadd d167_445 (mj_roald d167_446 w_0 rfl (mj_aload_n d167_447 rfl (mj_iload_n d167_448 rfl (mj_iconst d167_449 (mj_iadd d167_450 (mj_roald d167_451 w_0 rfl (mj_aload_n d167_452 rfl (mj_iload_n d167_453 rfl (mj_iconst d167_454 (mj_iadd d167_455 (mj_roald d167_456 w_0 rfl (mj_aload_n d167_457 rfl (mj_iload_n d167_458 rfl (mj_iconst d167_459 (mj_iadd d167_460 (mj_roald d167_461 w_0 rfl (mj_invV [some (.ref 52), some (.int (c 0 (x3 + (nI 1)).toNatClampNeg)), some (.int (c 0 (x3 + (nI 2)).toNatClampNeg)), some (.int (c 0 (x3 + (nI 3)).toNatClampNeg)), some (.int (c 0 (x3 + (nI 4)).toNatClampNeg))] [.int z0] d167_462 rfl rfl rfl w_52 rfl rfl))))))))))))))))))))))
theorem e167_465 {c : mj_C} {x3 : Int32} {z0 : Int32} {z1 : Int32} {L : Nat} {ps : List (Option (Option Nat))}   : mj_EV 167 465 [some (.ref 0), some (.ref 2), some (.ref 52), some (.int x3)] [.int z1, .int z0] (w_al L ps) c = (if z0 = z1 then mj_EV 167 935 [some (.ref 0), some (.ref 2), some (.ref 52), some (.int x3)] [] (w_al L ps) c else (some (some (.int (nI 0)), (w_al L ps), c))) := (mj_iceq d167_465 rfl (mj_iconst d167_468 (mj_zret0 d167_469)))
theorem e167_470 {c : mj_C} {x3 : Int32} {L : Nat} {ps : List (Option (Option Nat))}   : mj_EV 167 470 [some (.ref 0), some (.ref 2), some (.ref 52), some (.int x3)] [] (w_al L ps) c = (if mj_in (x3 + (nI 1)) L = true then (if mj_in (x3 + (nI 2)) L = true then (if mj_in (x3 + (nI 3)) L = true then (mj_then 167 489 [some (.ref 0), some (.ref 2), some (.ref 52), some (.int x3)] [] (mj_EV 57 0 [some (.ref 2), some (.int (c 0 (x3 + (nI 1)).toNatClampNeg)), some (.int (c 0 (x3 + (nI 2)).toNatClampNeg)), some (.int (c 0 (x3 + (nI 3)).toNatClampNeg))] [] (w_al L ps) c)) else none) else none) else none) := (mj_aload_n d167_470 rfl (mj_aload_n d167_471 rfl (mj_iload_n d167_472 rfl (mj_iconst d167_473 (mj_iadd d167_474 (mj_roald d167_475 w_0 rfl (mj_aload_n d167_476 rfl (mj_iload_n d167_477 rfl (mj_iconst d167_478 (mj_iadd d167_479 (mj_roald d167_480 w_0 rfl (mj_aload_n d167_481 rfl (mj_iload_n d167_482 rfl (mj_iconst d167_483 (mj_iadd d167_484 (mj_roald d167_485 w_0 rfl (mj_invV [some (.ref 2), some (.int (c 0 (x3 + (nI 1)).toNatClampNeg)), some (.int (c 0 (x3 + (nI 2)).toNatClampNeg)), some (.int (c 0 (x3 + (nI 3)).toNatClampNeg))] [] d167_486 rfl rfl rfl w_2 rfl rfl)))))))))))))))))
theorem e167_489 {c : mj_C} {x3 : Int32} {z0 : Int32} {L : Nat} {ps : List (Option (Option Nat))}   : mj_EV 167 489 [some (.ref 0), some (.ref 2), some (.ref 52), some (.int x3)] [.int z0] (w_al L ps) c = (if mj_in (x3 + (nI 1)) L = true then (if mj_in (x3 + (nI 2)) L = true then (if mj_in (x3 + (nI 3)) L = true then (mj_then 167 508 [some (.ref 0), some (.ref 2), some (.ref 52), some (.int x3)] [.int z0] (mj_EV 135 0 [some (.ref 52), some (.int (c 0 (x3 + (nI 1)).toNatClampNeg)), some (.int (c 0 (x3 + (nI 2)).toNatClampNeg)), some (.int (c 0 (x3 + (nI 3)).toNatClampNeg)), none, none, none] [] (w_al L ps) c)) else none) else none) else none) := (mj_aload_n d167_489 rfl (mj_aload_n d167_490 rfl (mj_iload_n d167_491 rfl (mj_iconst d167_492 (mj_iadd d167_493 (mj_roald d167_494 w_0 rfl (mj_aload_n d167_495 rfl (mj_iload_n d167_496 rfl (mj_iconst d167_497 (mj_iadd d167_498 (mj_roald d167_499 w_0 rfl (mj_aload_n d167_500 rfl (mj_iload_n d167_501 rfl (mj_iconst d167_502 (mj_iadd d167_503 (mj_roald d167_504 w_0 rfl (mj_invV [some (.ref 52), some (.int (c 0 (x3 + (nI 1)).toNatClampNeg)), some (.int (c 0 (x3 + (nI 2)).toNatClampNeg)), some (.int (c 0 (x3 + (nI 3)).toNatClampNeg)), none, none, none] [.int z0] d167_505 rfl rfl rfl w_52 rfl rfl)))))))))))))))))
theorem e167_508 {c : mj_C} {x3 : Int32} {z0 : Int32} {z1 : Int32} {L : Nat} {ps : List (Option (Option Nat))}   : mj_EV 167 508 [some (.ref 0), some (.ref 2), some (.ref 52), some (.int x3)] [.int z1, .int z0] (w_al L ps) c = (if z0 = z1 then mj_EV 167 935 [some (.ref 0), some (.ref 2), some (.ref 52), some (.int x3)] [] (w_al L ps) c else (some (some (.int (nI 0)), (w_al L ps), c))) := (mj_iceq d167_508 rfl (mj_iconst d167_511 (mj_zret0 d167_512)))
theorem e167_513 {c : mj_C} {x3 : Int32} {L : Nat} {ps : List (Option (Option Nat))}   : mj_EV 167 513 [some (.ref 0), some (.ref 2), some (.ref 52), some (.int x3)] [] (w_al L ps) c = (if mj_in (x3 + (nI 1)) L = true then (mj_then 167 522 [some (.ref 0), some (.ref 2), some (.ref 52), some (.int x3)] [] (mj_EV 60 0 [some (.ref 2), some (.int (c 0 (x3 + (nI 1)).toNatClampNeg))] [] (w_al L ps) c)) else none) := (mj_aload_n d167_513 rfl (mj_aload_n d167_514 rfl (mj_iload_n d167_515 rfl (mj_iconst d167_516 (mj_iadd d167_517 (mj_roald d167_518 w_0 rfl (mj_invV [some (.ref 2), some (.int (c 0 (x3 + (nI 1)).toNatClampNeg))] [] d167_519 rfl rfl rfl w_2 rfl rfl)))))))
theorem e167_522 {c : mj_C} {x3 : Int32} {z0 : Int32} {L : Nat} {ps : List (Option (Option Nat))}   : mj_EV 167 522 [some (.ref 0), some (.ref 2), some (.ref 52), some (.int x3)] [.int z0] (w_al L ps) c = (if mj_in (x3 + (nI 1)) L = true then (mj_then 167 531 [some (.ref 0), some (.ref 2), some (.ref 52), some (.int x3)] [.int z0] (mj_EV 138 0 [some (.ref 52), some (.int (c 0 (x3 + (nI 1)).toNatClampNeg))] [] (w_al L ps) c)) else none) := (mj_aload_n d167_522 rfl (mj_aload_n d167_523 rfl (mj_iload_n d167_524 rfl (mj_iconst d167_525 (mj_iadd d167_526 (mj_roald d167_527 w_0 rfl (mj_invV [some (.ref 52), some (.int (c 0 (x3 + (nI 1)).toNatClampNeg))] [.int z0] d167_528 rfl rfl rfl w_52 rfl rfl)))))))
theorem e167_531 {c : mj_C} {x3 : Int32} {z0 : Int32} {z1 : Int32} {L : Nat} {ps : List (Option (Option Nat))}   : mj_EV 167 531 [some (.ref 0), some (.ref 2), some (.ref 52), some (.int x3)] [.int z1, .int z0] (w_al L ps) c = (if z0 = z1 then mj_EV 167 935 [some (.ref 0), some (.ref 2), some (.ref 52), some (.int x3)] [] (w_al L ps) c else (some (some (.int (nI 0)), (w_al L ps), c))) := (mj_iceq d167_531 rfl (mj_iconst d167_534 (mj_zret0 d167_535)))
theorem e167_536 {c : mj_C} {x3 : Int32} {L : Nat} {ps : List (Option (Option Nat))}   : mj_EV 167 536 [some (.ref 0), some (.ref 2), some (.ref 52), some (.int x3)] [] (w_al L ps) c = (if mj_in (x3 + (nI 1)) L = true then (if mj_in (x3 + (nI 2)) L = true then (if mj_in (x3 + (nI 3)) L = true then (mj_then 167 555 [some (.ref 0), some (.ref 2), some (.ref 52), some (.int x3)] [] (mj_EV 61 0 [some (.ref 2), some (.int (c 0 (x3 + (nI 1)).toNatClampNeg)), some (.int (c 0 (x3 + (nI 2)).toNatClampNeg)), some (.int (c 0 (x3 + (nI 3)).toNatClampNeg))] [] (w_al L ps) c)) else none) else none) else none) := (mj_aload_n d167_536 rfl (mj_aload_n d167_537 rfl (mj_iload_n d167_538 rfl (mj_iconst d167_539 (mj_iadd d167_540 (mj_roald d167_541 w_0 rfl (mj_aload_n d167_542 rfl (mj_iload_n d167_543 rfl (mj_iconst d167_544 (mj_iadd d167_545 (mj_roald d167_546 w_0 rfl (mj_aload_n d167_547 rfl (mj_iload_n d167_548 rfl (mj_iconst d167_549 (mj_iadd d167_550 (mj_roald d167_551 w_0 rfl (mj_invV [some (.ref 2), some (.int (c 0 (x3 + (nI 1)).toNatClampNeg)), some (.int (c 0 (x3 + (nI 2)).toNatClampNeg)), some (.int (c 0 (x3 + (nI 3)).toNatClampNeg))] [] d167_552 rfl rfl rfl w_2 rfl rfl)))))))))))))))))
theorem e167_555 {c : mj_C} {x3 : Int32} {z0 : Int32} {L : Nat} {ps : List (Option (Option Nat))}   : mj_EV 167 555 [some (.ref 0), some (.ref 2), some (.ref 52), some (.int x3)] [.int z0] (w_al L ps) c = (if mj_in (x3 + (nI 1)) L = true then (if mj_in (x3 + (nI 2)) L = true then (if mj_in (x3 + (nI 3)) L = true then (mj_then 167 574 [some (.ref 0), some (.ref 2), some (.ref 52), some (.int x3)] [.int z0] (mj_EV 139 0 [some (.ref 52), some (.int (c 0 (x3 + (nI 1)).toNatClampNeg)), some (.int (c 0 (x3 + (nI 2)).toNatClampNeg)), some (.int (c 0 (x3 + (nI 3)).toNatClampNeg))] [] (w_al L ps) c)) else none) else none) else none) := (mj_aload_n d167_555 rfl (mj_aload_n d167_556 rfl (mj_iload_n d167_557 rfl (mj_iconst d167_558 (mj_iadd d167_559 (mj_roald d167_560 w_0 rfl (mj_aload_n d167_561 rfl (mj_iload_n d167_562 rfl (mj_iconst d167_563 (mj_iadd d167_564 (mj_roald d167_565 w_0 rfl (mj_aload_n d167_566 rfl (mj_iload_n d167_567 rfl (mj_iconst d167_568 (mj_iadd d167_569 (mj_roald d167_570 w_0 rfl (mj_invV [some (.ref 52), some (.int (c 0 (x3 + (nI 1)).toNatClampNeg)), some (.int (c 0 (x3 + (nI 2)).toNatClampNeg)), some (.int (c 0 (x3 + (nI 3)).toNatClampNeg))] [.int z0] d167_571 rfl rfl rfl w_52 rfl rfl)))))))))))))))))
theorem e167_574 {c : mj_C} {x3 : Int32} {z0 : Int32} {z1 : Int32} {L : Nat} {ps : List (Option (Option Nat))}   : mj_EV 167 574 [some (.ref 0), some (.ref 2), some (.ref 52), some (.int x3)] [.int z1, .int z0] (w_al L ps) c = (if z0 = z1 then mj_EV 167 935 [some (.ref 0), some (.ref 2), some (.ref 52), some (.int x3)] [] (w_al L ps) c else (some (some (.int (nI 0)), (w_al L ps), c))) := (mj_iceq d167_574 rfl (mj_iconst d167_577 (mj_zret0 d167_578)))
theorem e167_579 {c : mj_C} {x3 : Int32} {L : Nat} {ps : List (Option (Option Nat))}   : mj_EV 167 579 [some (.ref 0), some (.ref 2), some (.ref 52), some (.int x3)] [] (w_al L ps) c = (if mj_in (x3 + (nI 1)) L = true then (if mj_in (x3 + (nI 2)) L = true then (mj_then 167 593 [some (.ref 0), some (.ref 2), some (.ref 52), some (.int x3)] [] (mj_EV 62 0 [some (.ref 2), some (.int (c 0 (x3 + (nI 1)).toNatClampNeg)), some (.int (c 0 (x3 + (nI 2)).toNatClampNeg))] [] (w_al L ps) c)) else none) else none) := (mj_aload_n d167_579 rfl (mj_aload_n d167_580 rfl (mj_iload_n d167_581 rfl (mj_iconst d167_582 (mj_iadd d167_583 (mj_roald d167_584 w_0 rfl (mj_aload_n d167_585 rfl (mj_iload_n d167_586 rfl (mj_iconst d167_587 (mj_iadd d167_588 (mj_roald d167_589 w_0 rfl (mj_invV [some (.ref 2), some (.int (c 0 (x3 + (nI 1)).toNatClampNeg)), some (.int (c 0 (x3 + (nI 2)).toNatClampNeg))] [] d167_590 rfl rfl rfl w_2 rfl rfl))))))))))))
theorem e167_593 {c : mj_C} {x3 : Int32} {z0 : Int32} {L : Nat} {ps : List (Option (Option Nat))}   : mj_EV 167 593 [some (.ref 0), some (.ref 2), some (.ref 52), some (.int x3)] [.int z0] (w_al L ps) c = (if mj_in (x3 + (nI 1)) L = true then (if mj_in (x3 + (nI 2)) L = true then (mj_then 167 607 [some (.ref 0), some (.ref 2), some (.ref 52), some (.int x3)] [.int z0] (mj_EV 141 0 [some (.ref 52), some (.int (c 0 (x3 + (nI 1)).toNatClampNeg)), some (.int (c 0 (x3 + (nI 2)).toNatClampNeg))] [] (w_al L ps) c)) else none) else none) := (mj_aload_n d167_593 rfl (mj_aload_n d167_594 rfl (mj_iload_n d167_595 rfl (mj_iconst d167_596 (mj_iadd d167_597 (mj_roald d167_598 w_0 rfl (mj_aload_n d167_599 rfl (mj_iload_n d167_600 rfl (mj_iconst d167_601 (mj_iadd d167_602 (mj_roald d167_603 w_0 rfl (mj_invV [some (.ref 52), some (.int (c 0 (x3 + (nI 1)).toNatClampNeg)), some (.int (c 0 (x3 + (nI 2)).toNatClampNeg))] [.int z0] d167_604 rfl rfl rfl w_52 rfl rfl))))))))))))
theorem e167_607 {c : mj_C} {x3 : Int32} {z0 : Int32} {z1 : Int32} {L : Nat} {ps : List (Option (Option Nat))}   : mj_EV 167 607 [some (.ref 0), some (.ref 2), some (.ref 52), some (.int x3)] [.int z1, .int z0] (w_al L ps) c = (if z0 = z1 then mj_EV 167 935 [some (.ref 0), some (.ref 2), some (.ref 52), some (.int x3)] [] (w_al L ps) c else (some (some (.int (nI 0)), (w_al L ps), c))) := (mj_iceq d167_607 rfl (mj_iconst d167_610 (mj_zret0 d167_611)))
theorem e167_612 {c : mj_C} {x3 : Int32} {L : Nat} {ps : List (Option (Option Nat))}   : mj_EV 167 612 [some (.ref 0), some (.ref 2), some (.ref 52), some (.int x3)] [] (w_al L ps) c = (if mj_in (x3 + (nI 1)) L = true then (if mj_in (x3 + (nI 2)) L = true then (if mj_in (x3 + (nI 3)) L = true then (mj_then 167 631 [some (.ref 0), some (.ref 2), some (.ref 52), some (.int x3)] [] (mj_EV 63 0 [some (.ref 2), some (.int (c 0 (x3 + (nI 1)).toNatClampNeg)), some (.int (c 0 (x3 + (nI 2)).toNatClampNeg)), some (.int (c 0 (x3 + (nI 3)).toNatClampNeg))] [] (w_al L ps) c)) else none) else none) else none) := (mj_aload_n d167_612 rfl (mj_aload_n d167_613 rfl (mj_iload_n d167_614 rfl (mj_iconst d167_615 (mj_iadd d167_616 (mj_roald d167_617 w_0 rfl (mj_aload_n d167_618 rfl (mj_iload_n d167_619 rfl (mj_iconst d167_620 (mj_iadd d167_621 (mj_roald d167_622 w_0 rfl (mj_aload_n d167_623 rfl (mj_iload_n d167_624 rfl (mj_iconst d167_625 (mj_iadd d167_626 (mj_roald d167_627 w_0 rfl (mj_invV [some (.ref 2), some (.int (c 0 (x3 + (nI 1)).toNatClampNeg)), some (.int (c 0 (x3 + (nI 2)).toNatClampNeg)), some (.int (c 0 (x3 + (nI 3)).toNatClampNeg))] [] d167_628 rfl rfl rfl w_2 rfl rfl)))))))))))))))))
theorem e167_631 {c : mj_C} {x3 : Int32} {z0 : Int32} {L : Nat} {ps : List (Option (Option Nat))}   : mj_EV 167 631 [some (.ref 0), some (.ref 2), some (.ref 52), some (.int x3)] [.int z0] (w_al L ps) c = (if mj_in (x3 + (nI 1)) L = true then (if mj_in (x3 + (nI 2)) L = true then (if mj_in (x3 + (nI 3)) L = true then (mj_then 167 650 [some (.ref 0), some (.ref 2), some (.ref 52), some (.int x3)] [.int z0] (mj_EV 143 0 [some (.ref 52), some (.int (c 0 (x3 + (nI 1)).toNatClampNeg)), some (.int (c 0 (x3 + (nI 2)).toNatClampNeg)), some (.int (c 0 (x3 + (nI 3)).toNatClampNeg))] [] (w_al L ps) c)) else none) else none) else none) := (mj_aload_n d167_631 rfl (mj_aload_n d167_632 rfl (mj_iload_n d167_633 rfl (mj_iconst d167_634 (mj_iadd d167_635 (mj_roald d167_636 w_0 rfl (mj_aload_n d167_637 rfl (mj_iload_n d167_638 rfl (mj_iconst d167_639 (mj_iadd d167_640 (mj_roald d167_641 w_0 rfl (mj_aload_n d167_642 rfl (mj_iload_n d167_643 rfl (mj_iconst d167_644 (mj_iadd d167_645 (mj_roald d167_646 w_0 rfl (mj_invV [some (.ref 52), some (.int (c 0 (x3 + (nI 1)).toNatClampNeg)), some (.int (c 0 (x3 + (nI 2)).toNatClampNeg)), some (.int (c 0 (x3 + (nI 3)).toNatClampNeg))] [.int z0] d167_647 rfl rfl rfl w_52 rfl rfl)))))))))))))))))
theorem e167_650 {c : mj_C} {x3 : Int32} {z0 : Int32} {z1 : Int32} {L : Nat} {ps : List (Option (Option Nat))}   : mj_EV 167 650 [some (.ref 0), some (.ref 2), some (.ref 52), some (.int x3)] [.int z1, .int z0] (w_al L ps) c = (if z0 = z1 then mj_EV 167 935 [some (.ref 0), some (.ref 2), some (.ref 52), some (.int x3)] [] (w_al L ps) c else (some (some (.int (nI 0)), (w_al L ps), c))) := (mj_iceq d167_650 rfl (mj_iconst d167_653 (mj_zret0 d167_654)))
theorem e167_655 {c : mj_C} {x3 : Int32} {L : Nat} {ps : List (Option (Option Nat))}   : mj_EV 167 655 [some (.ref 0), some (.ref 2), some (.ref 52), some (.int x3)] [] (w_al L ps) c = (if mj_in (x3 + (nI 1)) L = true then (mj_then 167 664 [some (.ref 0), some (.ref 2), some (.ref 52), some (.int x3)] [] (mj_EV 64 0 [some (.ref 2), some (.int (c 0 (x3 + (nI 1)).toNatClampNeg)), none, none, none] [] (w_al L ps) c)) else none) := (mj_aload_n d167_655 rfl (mj_aload_n d167_656 rfl (mj_iload_n d167_657 rfl (mj_iconst d167_658 (mj_iadd d167_659 (mj_roald d167_660 w_0 rfl (mj_invV [some (.ref 2), some (.int (c 0 (x3 + (nI 1)).toNatClampNeg)), none, none, none] [] d167_661 rfl rfl rfl w_2 rfl rfl)))))))
theorem e167_664 {c : mj_C} {x3 : Int32} {z0 : Int32} {L : Nat} {ps : List (Option (Option Nat))}   : mj_EV 167 664 [some (.ref 0), some (.ref 2), some (.ref 52), some (.int x3)] [.int z0] (w_al L ps) c = (if mj_in (x3 + (nI 1)) L = true then (mj_then 167 673 [some (.ref 0), some (.ref 2), some (.ref 52), some (.int x3)] [.int z0] (mj_EV 145 0 [some (.ref 52), some (.int (c 0 (x3 + (nI 1)).toNatClampNeg))] [] (w_al L ps) c)) else none) := (mj_aload_n d167_664 rfl (mj_aload_n d167_665 rfl (mj_iload_n d167_666 rfl (mj_iconst d167_667 (mj_iadd d167_668 (mj_roald d167_669 w_0 rfl (mj_invV [some (.ref 52), some (.int (c 0 (x3 + (nI 1)).toNatClampNeg))] [.int z0] d167_670 rfl rfl rfl w_52 rfl rfl)))))))
theorem e167_673 {c : mj_C} {x3 : Int32} {z0 : Int32} {z1 : Int32} {L : Nat} {ps : List (Option (Option Nat))}   : mj_EV 167 673 [some (.ref 0), some (.ref 2), some (.ref 52), some (.int x3)] [.int z1, .int z0] (w_al L ps) c = (if z0 = z1 then mj_EV 167 935 [some (.ref 0), some (.ref 2), some (.ref 52), some (.int x3)] [] (w_al L ps) c else (some (some (.int (nI 0)), (w_al L ps), c))) := (mj_iceq d167_673 rfl (mj_iconst d167_676 (mj_zret0 d167_677)))
theorem e167_678 {c : mj_C} {x3 : Int32} {L : Nat} {ps : List (Option (Option Nat))}   : mj_EV 167 678 [some (.ref 0), some (.ref 2), some (.ref 52), some (.int x3)] [] (w_al L ps) c = (if mj_in (x3 + (nI 1)) L = true then (if mj_in (x3 + (nI 2)) L = true then (mj_then 167 692 [some (.ref 0), some (.ref 2), some (.ref 52), some (.int x3)] [] (mj_EV 65 0 [some (.ref 2), some (.int (c 0 (x3 + (nI 1)).toNatClampNeg)), some (.int (c 0 (x3 + (nI 2)).toNatClampNeg))] [] (w_al L ps) c)) else none) else none) := (mj_aload_n d167_678 rfl (mj_aload_n d167_679 rfl (mj_iload_n d167_680 rfl (mj_iconst d167_681 (mj_iadd d167_682 (mj_roald d167_683 w_0 rfl (mj_aload_n d167_684 rfl (mj_iload_n d167_685 rfl (mj_iconst d167_686 (mj_iadd d167_687 (mj_roald d167_688 w_0 rfl (mj_invV [some (.ref 2), some (.int (c 0 (x3 + (nI 1)).toNatClampNeg)), some (.int (c 0 (x3 + (nI 2)).toNatClampNeg))] [] d167_689 rfl rfl rfl w_2 rfl rfl))))))))))))
theorem e167_692 {c : mj_C} {x3 : Int32} {z0 : Int32} {L : Nat} {ps : List (Option (Option Nat))}   : mj_EV 167 692 [some (.ref 0), some (.ref 2), some (.ref 52), some (.int x3)] [.int z0] (w_al L ps) c = (if mj_in (x3 + (nI 1)) L = true then (if mj_in (x3 + (nI 2)) L = true then (mj_then 167 706 [some (.ref 0), some (.ref 2), some (.ref 52), some (.int x3)] [.int z0] (mj_EV 147 0 [some (.ref 52), some (.int (c 0 (x3 + (nI 1)).toNatClampNeg)), some (.int (c 0 (x3 + (nI 2)).toNatClampNeg))] [] (w_al L ps) c)) else none) else none) := (mj_aload_n d167_692 rfl (mj_aload_n d167_693 rfl (mj_iload_n d167_694 rfl (mj_iconst d167_695 (mj_iadd d167_696 (mj_roald d167_697 w_0 rfl (mj_aload_n d167_698 rfl (mj_iload_n d167_699 rfl (mj_iconst d167_700 (mj_iadd d167_701 (mj_roald d167_702 w_0 rfl (mj_invV [some (.ref 52), some (.int (c 0 (x3 + (nI 1)).toNatClampNeg)), some (.int (c 0 (x3 + (nI 2)).toNatClampNeg))] [.int z0] d167_703 rfl rfl rfl w_52 rfl rfl))))))))))))
theorem e167_706 {c : mj_C} {x3 : Int32} {z0 : Int32} {z1 : Int32} {L : Nat} {ps : List (Option (Option Nat))}   : mj_EV 167 706 [some (.ref 0), some (.ref 2), some (.ref 52), some (.int x3)] [.int z1, .int z0] (w_al L ps) c = (if z0 = z1 then mj_EV 167 935 [some (.ref 0), some (.ref 2), some (.ref 52), some (.int x3)] [] (w_al L ps) c else (some (some (.int (nI 0)), (w_al L ps), c))) := (mj_iceq d167_706 rfl (mj_iconst d167_709 (mj_zret0 d167_710)))
theorem e167_711 {c : mj_C} {x3 : Int32} {L : Nat} {ps : List (Option (Option Nat))}   : mj_EV 167 711 [some (.ref 0), some (.ref 2), some (.ref 52), some (.int x3)] [] (w_al L ps) c = (if mj_in (x3 + (nI 1)) L = true then (if mj_in (x3 + (nI 2)) L = true then (mj_then 167 725 [some (.ref 0), some (.ref 2), some (.ref 52), some (.int x3)] [] (mj_EV 67 0 [some (.ref 2), some (.int (c 0 (x3 + (nI 1)).toNatClampNeg)), some (.int (c 0 (x3 + (nI 2)).toNatClampNeg)), none, none, none] [] (w_al L ps) c)) else none) else none) := (mj_aload_n d167_711 rfl (mj_aload_n d167_712 rfl (mj_iload_n d167_713 rfl (mj_iconst d167_714 (mj_iadd d167_715 (mj_roald d167_716 w_0 rfl (mj_aload_n d167_717 rfl (mj_iload_n d167_718 rfl (mj_iconst d167_719 (mj_iadd d167_720 (mj_roald d167_721 w_0 rfl (mj_invV [some (.ref 2), some (.int (c 0 (x3 + (nI 1)).toNatClampNeg)), some (.int (c 0 (x3 + (nI 2)).toNatClampNeg)), none, none, none] [] d167_722 rfl rfl rfl w_2 rfl rfl))))))))))))
theorem e167_725 {c : mj_C} {x3 : Int32} {z0 : Int32} {L : Nat} {ps : List (Option (Option Nat))}   : mj_EV 167 725 [some (.ref 0), some (.ref 2), some (.ref 52), some (.int x3)] [.int z0] (w_al L ps) c = (if mj_in (x3 + (nI 1)) L = true then (if mj_in (x3 + (nI 2)) L = true then (mj_then 167 739 [some (.ref 0), some (.ref 2), some (.ref 52), some (.int x3)] [.int z0] (mj_EV 148 0 [some (.ref 52), some (.int (c 0 (x3 + (nI 1)).toNatClampNeg)), some (.int (c 0 (x3 + (nI 2)).toNatClampNeg)), none, none, none, none, none] [] (w_al L ps) c)) else none) else none) := (mj_aload_n d167_725 rfl (mj_aload_n d167_726 rfl (mj_iload_n d167_727 rfl (mj_iconst d167_728 (mj_iadd d167_729 (mj_roald d167_730 w_0 rfl (mj_aload_n d167_731 rfl (mj_iload_n d167_732 rfl (mj_iconst d167_733 (mj_iadd d167_734 (mj_roald d167_735 w_0 rfl (mj_invV [some (.ref 52), some (.int (c 0 (x3 + (nI 1)).toNatClampNeg)), some (.int (c 0 (x3 + (nI 2)).toNatClampNeg)), none, none, none, none, none] [.int z0] d167_736 rfl rfl rfl w_52 rfl rfl))))))))))))
theorem e167_739 {c : mj_C} {x3 : Int32} {z0 : Int32} {z1 : Int32} {L : Nat} {ps : List (Option (Option Nat))}   : mj_EV 167 739 [some (.ref 0), some (.ref 2), some (.ref 52), some (.int x3)] [.int z1, .int z0] (w_al L ps) c = (if z0 = z1 then mj_EV 167 935 [some (.ref 0), some (.ref 2), some (.ref 52), some (.int x3)] [] (w_al L ps) c else (some (some (.int (nI 0)), (w_al L ps), c))) := (mj_iceq d167_739 rfl (mj_iconst d167_742 (mj_zret0 d167_743)))
theorem e167_744 {c : mj_C} {x3 : Int32} {L : Nat} {ps : List (Option (Option Nat))}   : mj_EV 167 744 [some (.ref 0), some (.ref 2), some (.ref 52), some (.int x3)] [] (w_al L ps) c = (if mj_in (x3 + (nI 1)) L = true then (if mj_in (x3 + (nI 2)) L = true then (if mj_in (x3 + (nI 3)) L = true then (if mj_in (x3 + (nI 4)) L = true then (mj_then 167 768 [some (.ref 0), some (.ref 2), some (.ref 52), some (.int x3)] [] (mj_EV 68 0 [some (.ref 2), some (.int (c 0 (x3 + (nI 1)).toNatClampNeg)), some (.int (c 0 (x3 + (nI 2)).toNatClampNeg)), some (.int (c 0 (x3 + (nI 3)).toNatClampNeg)), some (.int (c 0 (x3 + (nI 4)).toNatClampNeg))] [] (w_al L ps) c)) else none) else none) else none) else none) := (mj_aload_n d167_744 rfl (mj_aload_n d167_745 rfl (mj_iload_n d167_746 rfl (mj_iconst d167_747 (mj_iadd d167_748 (mj_roald d167_749 w_0 rfl (mj_aload_n d167_750 rfl (mj_iload_n d167_751 rfl (mj_iconst d167_752 (mj_iadd d167_753 (mj_roald d167_754 w_0 rfl (mj_aload_n d167_755 rfl (mj_iload_n d167_756 rfl (mj_iconst d167_757 (mj_iadd d167_758 (mj_roald d167_759 w_0 rfl (mj_aload_n d167_760 rfl (mj_iload_n d167_761 rfl (mj_iconst d167_762 (mj_iadd d167_763 (mj_roald d167_764 w_0 rfl (mj_invV [some (.ref 2), some (.int (c 0 (x3 + (nI 1)).toNatClampNeg)), some (.int (c 0 (x3 + (nI 2)).toNatClampNeg)), some (.int (c 0 (x3 + (nI 3)).toNatClampNeg)), some (.int (c 0 (x3 + (nI 4)).toNatClampNeg))] [] d167_765 rfl rfl rfl w_2 rfl rfl))))))))))))))))))))))
theorem e167_768 {c : mj_C} {x3 : Int32} {z0 : Int32} {L : Nat} {ps : List (Option (Option Nat))}   : mj_EV 167 768 [some (.ref 0), some (.ref 2), some (.ref 52), some (.int x3)] [.int z0] (w_al L ps) c = (if mj_in (x3 + (nI 1)) L = true then (if mj_in (x3 + (nI 2)) L = true then (if mj_in (x3 + (nI 3)) L = true then (if mj_in (x3 + (nI 4)) L = true then (mj_then 167 792 [some (.ref 0), some (.ref 2), some (.ref 52), some (.int x3)] [.int z0] (mj_EV 149 0 [some (.ref 52), some (.int (c 0 (x3 + (nI 1)).toNatClampNeg)), some (.int (c 0 (x3 + (nI 2)).toNatClampNeg)), some (.int (c 0 (x3 + (nI 3)).toNatClampNeg)), some (.int (c 0 (x3 + (nI 4)).toNatClampNeg))] [] (w_al L ps) c)) else none) else none) else none) else none) := (mj_aload_n d167_768 rfl (mj_aload_n d167_769 rfl (mj_iload_n d167_770 rfl (mj_iconst d167_771 (mj_iadd d167_772 (mj_roald d167_773 w_0 rfl (mj_aload_n d167_774 rfl (mj_iload_n d167_775 rfl (mj_iconst d167_776 (mj_iadd d167_777 (mj_roald d167_778 w_0 rfl (mj_aload_n d167_779 rfl (mj_iload_n d167_780 rfl (mj_iconst d167_781 (mj_iadd d167_782 (mj_roald d167_783 w_0 rfl (mj_aload_n d167_784 rfl (mj_iload_n d167_785 rfl (mj_iconst d167_786 (mj_iadd d167_787 (mj_roald d167_788 w_0 rfl (mj_invV [some (.ref 52), some (.int (c 0 (x3 + (nI 1)).toNatClampNeg)), some (.int (c 0 (x3 + (nI 2)).toNatClampNeg)), some (.int (c 0 (x3 + (nI 3)).toNatClampNeg)), some (.int (c 0 (x3 + (nI 4)).toNatClampNeg))] [.int z0] d167_789 rfl rfl rfl w_52 rfl rfl))))))))))))))))))))))
theorem e167_792 {c : mj_C} {x3 : Int32} {z0 : Int32} {z1 : Int32} {L : Nat} {ps : List (Option (Option Nat))}   : mj_EV 167 792 [some (.ref 0), some (.ref 2), some (.ref 52), some (.int x3)] [.int z1, .int z0] (w_al L ps) c = (if z0 = z1 then mj_EV 167 935 [some (.ref 0), some (.ref 2), some (.ref 52), some (.int x3)] [] (w_al L ps) c else (some (some (.int (nI 0)), (w_al L ps), c))) := (mj_iceq d167_792 rfl (mj_iconst d167_795 (mj_zret0 d167_796)))
theorem e167_797 {c : mj_C} {x3 : Int32} {L : Nat} {ps : List (Option (Option Nat))}   : mj_EV 167 797 [some (.ref 0), some (.ref 2), some (.ref 52), some (.int x3)] [] (w_al L ps) c = (if mj_in (x3 + (nI 1)) L = true then (mj_then 167 806 [some (.ref 0), some (.ref 2), some (.ref 52), some (.int x3)] [] (mj_EV 69 0 [some (.ref 2), some (.int (c 0 (x3 + (nI 1)).toNatClampNeg)), none, none] [] (w_al L ps) c)) else none) := (mj_aload_n d167_797 rfl (mj_aload_n d167_798 rfl (mj_iload_n d167_799 rfl (mj_iconst d167_800 (mj_iadd d167_801 (mj_roald d167_802 w_0 rfl (mj_invV [some (.ref 2), some (.int (c 0 (x3 + (nI 1)).toNatClampNeg)), none, none] [] d167_803 rfl rfl rfl w_2 rfl rfl)))))))
theorem e167_806 {c : mj_C} {x3 : Int32} {z0 : Int32} {L : Nat} {ps : List (Option (Option Nat))}   : mj_EV 167 806 [some (.ref 0), some (.ref 2), some (.ref 52), some (.int x3)] [.int z0] (w_al L ps) c = (if mj_in (x3 + (nI 1)) L = true then (mj_then 167 815 [some (.ref 0), some (.ref 2), some (.ref 52), some (.int x3)] [.int z0] (mj_EV 150 0 [some (.ref 52), some (.int (c 0 (x3 + (nI 1)).toNatClampNeg)), none] [] (w_al L ps) c)) else none) := (mj_aload_n d167_806 rfl (mj_aload_n d167_807 rfl (mj_iload_n d167_808 rfl (mj_iconst d167_809 (mj_iadd d167_810 (mj_roald d167_811 w_0 rfl (mj_invV [some (.ref 52), some (.int (c 0 (x3 + (nI 1)).toNatClampNeg)), none] [.int z0] d167_812 rfl rfl rfl w_52 rfl rfl)))))))
theorem e167_815 {c : mj_C} {x3 : Int32} {z0 : Int32} {z1 : Int32} {L : Nat} {ps : List (Option (Option Nat))}   : mj_EV 167 815 [some (.ref 0), some (.ref 2), some (.ref 52), some (.int x3)] [.int z1, .int z0] (w_al L ps) c = (if z0 = z1 then mj_EV 167 935 [some (.ref 0), some (.ref 2), some (.ref 52), some (.int x3)] [] (w_al L ps) c else (some (some (.int (nI 0)), (w_al L ps), c))) := (mj_iceq d167_815 rfl (mj_iconst d167_818 (mj_zret0 d167_819)))
theorem e167_820 {c : mj_C} {x3 : Int32} {L : Nat} {ps : List (Option (Option Nat))}   : mj_EV 167 820 [some (.ref 0), some (.ref 2), some (.ref 52), some (.int x3)] [] (w_al L ps) c = (mj_then 167 824 [some (.ref 0), some (.ref 2), some (.ref 52), some (.int x3)] [] (mj_EV 70 0 [some (.ref 2), none, none, none, none] [] (w_al L ps) c)) := (mj_aload_n d167_820 rfl (mj_invV [some (.ref 2), none, none, none, none] [] d167_821 rfl rfl rfl w_2 rfl rfl))
theorem e167_824 {c : mj_C} {x3 : Int32} {z0 : Int32} {L : Nat} {ps : List (Option (Option Nat))}   : mj_EV 167 824 [some (.ref 0), some (.ref 2), some (.ref 52), some (.int x3)] [.int z0] (w_al L ps) c = (mj_then 167 828 [some (.ref 0), some (.ref 2), some (.ref 52), some (.int x3)] [.int z0] (mj_EV 152 0 [some (.ref 52)] [] (w_al L ps) c)) := (mj_aload_n d167_824 rfl (mj_invV [some (.ref 52)] [.int z0] d167_825 rfl rfl rfl w_52 rfl rfl))
theorem e167_828 {c : mj_C} {x3 : Int32} {z0 : Int32} {z1 : Int32} {L : Nat} {ps : List (Option (Option Nat))}   : mj_EV 167 828 [some (.ref 0), some (.ref 2), some (.ref 52), some (.int x3)] [.int z1, .int z0] (w_al L ps) c = (if z0 = z1 then mj_EV 167 935 [some (.ref 0), some (.ref 2), some (.ref 52), some (.int x3)] [] (w_al L ps) c else (some (some (.int (nI 0)), (w_al L ps), c))) := (mj_iceq d167_828 rfl (mj_iconst d167_831 (mj_zret0 d167_832)))
theorem e167_833 {c : mj_C} {x3 : Int32} {L : Nat} {ps : List (Option (Option Nat))}   : mj_EV 167 833 [some (.ref 0), some (.ref 2), some (.ref 52), some (.int x3)] [] (w_al L ps) c = (mj_then 167 837 [some (.ref 0), some (.ref 2), some (.ref 52), some (.int x3)] [] (mj_EV 71 0 [some (.ref 2)] [] (w_al L ps) c)) := (mj_aload_n d167_833 rfl (mj_invV [some (.ref 2)] [] d167_834 rfl rfl rfl w_2 rfl rfl))
theorem e167_837 {c : mj_C} {x3 : Int32} {z0 : Int32} {L : Nat} {ps : List (Option (Option Nat))}   : mj_EV 167 837 [some (.ref 0), some (.ref 2), some (.ref 52), some (.int x3)] [.int z0] (w_al L ps) c = (mj_then 167 841 [some (.ref 0), some (.ref 2), some (.ref 52), some (.int x3)] [.int z0] (mj_EV 154 0 [some (.ref 52)] [] (w_al L ps) c)) := (mj_aload_n d167_837 rfl (mj_invV [some (.ref 52)] [.int z0] d167_838 rfl rfl rfl w_52 rfl rfl))
theorem e167_841 {c : mj_C} {x3 : Int32} {z0 : Int32} {z1 : Int32} {L : Nat} {ps : List (Option (Option Nat))}   : mj_EV 167 841 [some (.ref 0), some (.ref 2), some (.ref 52), some (.int x3)] [.int z1, .int z0] (w_al L ps) c = (if z0 = z1 then mj_EV 167 935 [some (.ref 0), some (.ref 2), some (.ref 52), some (.int x3)] [] (w_al L ps) c else (some (some (.int (nI 0)), (w_al L ps), c))) := (mj_iceq d167_841 rfl (mj_iconst d167_844 (mj_zret0 d167_845)))
theorem e167_846 {c : mj_C} {x3 : Int32} {L : Nat} {ps : List (Option (Option Nat))}   : mj_EV 167 846 [some (.ref 0), some (.ref 2), some (.ref 52), some (.int x3)] [] (w_al L ps) c = (if mj_in (x3 + (nI 1)) L = true then (mj_then 167 855 [some (.ref 0), some (.ref 2), some (.ref 52), some (.int x3)] [] (mj_EV 72 0 [some (.ref 2), some (.int (c 0 (x3 + (nI 1)).toNatClampNeg))] [] (w_al L ps) c)) else none) := (mj_aload_n d167_846 rfl (mj_aload_n d167_847 rfl (mj_iload_n d167_848 rfl (mj_iconst d167_849 (mj_iadd d167_850 (mj_roald d167_851 w_0 rfl (mj_invV [some (.ref 2), some (.int (c 0 (x3 + (nI 1)).toNatClampNeg))] [] d167_852 rfl rfl rfl w_2 rfl rfl)))))))
theorem e167_855 {c : mj_C} {x3 : Int32} {z0 : Int32} {L : Nat} {ps : List (Option (Option Nat))}   : mj_EV 167 855 [some (.ref 0), some (.ref 2), some (.ref 52), some (.int x3)] [.int z0] (w_al L ps) c = (if mj_in (x3 + (nI 1)) L = true then (mj_then 167 864 [some (.ref 0), some (.ref 2), some (.ref 52), some (.int x3)] [.int z0] (mj_EV 155 0 [some (.ref 52), some (.int (c 0 (x3 + (nI 1)).toNatClampNeg))] [] (w_al L ps) c)) else none) := (mj_aload_n d167_855 rfl (mj_aload_n d167_856 rfl (mj_iload_n d167_857 rfl (mj_iconst d167_858 (mj_iadd d167_859 (mj_roald d167_860 w_0 rfl (mj_invV [some (.ref 52), some (.int (c 0 (x3 + (nI 1)).toNatClampNeg))] [.int z0] d167_861 rfl rfl rfl w_52 rfl rfl)))))))
theorem e167_864 {c : mj_C} {x3 : Int32} {z0 : Int32} {z1 : Int32} {L : Nat} {ps : List (Option (Option Nat))}   : mj_EV 167 864 [some (.ref 0), some (.ref 2), some (.ref 52), some (.int x3)] [.int z1, .int z0] (w_al L ps) c = (if z0 = z1 then mj_EV 167 935 [some (.ref 0), some (.ref 2), some (.ref 52), some (.int x3)] [] (w_al L ps) c else (some (some (.int (nI 0)), (w_al L ps), c))) := (mj_iceq d167_864 rfl (mj_iconst d167_867 (mj_zret0 d167_868)))
theorem e167_869 {c : mj_C} {x3 : Int32} {L : Nat} {ps : List (Option (Option Nat))}   : mj_EV 167 869 [some (.ref 0), some (.ref 2), some (.ref 52), some (.int x3)] [] (w_al L ps) c = (mj_then 167 873 [some (.ref 0), some (.ref 2), some (.ref 52), some (.int x3)] [] (mj_EV 73 0 [some (.ref 2), none] [] (w_al L ps) c)) := (mj_aload_n d167_869 rfl (mj_invV [some (.ref 2), none] [] d167_870 rfl rfl rfl w_2 rfl rfl))
theorem e167_873 {c : mj_C} {x3 : Int32} {z0 : Int32} {L : Nat} {ps : List (Option (Option Nat))}   : mj_EV 167 873 [some (.ref 0), some (.ref 2), some (.ref 52), some (.int x3)] [.int z0] (w_al L ps) c = (mj_then 167 877 [some (.ref 0), some (.ref 2), some (.ref 52), some (.int x3)] [.int z0] (mj_EV 156 0 [some (.ref 52), none] [] (w_al L ps) c)) := (mj_aload_n d167_873 rfl (mj_invV [some (.ref 52), none] [.int z0] d167_874 rfl rfl rfl w_52 rfl rfl))
theorem e167_877 {c : mj_C} {x3 : Int32} {z0 : Int32} {z1 : Int32} {L : Nat} {ps : List (Option (Option Nat))}   : mj_EV 167 877 [some (.ref 0), some (.ref 2), some (.ref 52), some (.int x3)] [.int z1, .int z0] (w_al L ps) c = (if z0 = z1 then mj_EV 167 935 [some (.ref 0), some (.ref 2), some (.ref 52), some (.int x3)] [] (w_al L ps) c else (some (some (.int (nI 0)), (w_al L ps), c))) := (mj_iceq d167_877 rfl (mj_iconst d167_880 (mj_zret0 d167_881)))
theorem e167_882 {c : mj_C} {x3 : Int32} {L : Nat} {ps : List (Option (Option Nat))}   : mj_EV 167 882 [some (.ref 0), some (.ref 2), some (.ref 52), some (.int x3)] [] (w_al L ps) c = (mj_then 167 886 [some (.ref 0), some (.ref 2), some (.ref 52), some (.int x3)] [] (mj_EV 81 0 [some (.ref 2), none] [] (w_al L ps) c)) := (mj_aload_n d167_882 rfl (mj_invV [some (.ref 2), none] [] d167_883 rfl rfl rfl w_2 rfl rfl))
theorem e167_886 {c : mj_C} {x3 : Int32} {z0 : Int32} {L : Nat} {ps : List (Option (Option Nat))}   : mj_EV 167 886 [some (.ref 0), some (.ref 2), some (.ref 52), some (.int x3)] [.int z0] (w_al L ps) c = (mj_then 167 890 [some (.ref 0), some (.ref 2), some (.ref 52), some (.int x3)] [.int z0] (mj_EV 163 0 [some (.ref 52)] [] (w_al L ps) c)) := (mj_aload_n d167_886 rfl (mj_invV [some (.ref 52)] [.int z0] d167_887 rfl rfl rfl w_52 rfl rfl))
theorem e167_890 {c : mj_C} {x3 : Int32} {z0 : Int32} {z1 : Int32} {L : Nat} {ps : List (Option (Option Nat))}   : mj_EV 167 890 [some (.ref 0), some (.ref 2), some (.ref 52), some (.int x3)] [.int z1, .int z0] (w_al L ps) c = (if z0 = z1 then mj_EV 167 935 [some (.ref 0), some (.ref 2), some (.ref 52), some (.int x3)] [] (w_al L ps) c else (some (some (.int (nI 0)), (w_al L ps), c))) := (mj_iceq d167_890 rfl (mj_iconst d167_893 (mj_zret0 d167_894)))
theorem e167_895 {c : mj_C} {x3 : Int32} {L : Nat} {ps : List (Option (Option Nat))}   : mj_EV 167 895 [some (.ref 0), some (.ref 2), some (.ref 52), some (.int x3)] [] (w_al L ps) c = (mj_then 167 899 [some (.ref 0), some (.ref 2), some (.ref 52), some (.int x3)] [] (mj_EV 84 0 [some (.ref 2), none] [] (w_al L ps) c)) := (mj_aload_n d167_895 rfl (mj_invV [some (.ref 2), none] [] d167_896 rfl rfl rfl w_2 rfl rfl))
theorem e167_899 {c : mj_C} {x3 : Int32} {z0 : Int32} {L : Nat} {ps : List (Option (Option Nat))}   : mj_EV 167 899 [some (.ref 0), some (.ref 2), some (.ref 52), some (.int x3)] [.int z0] (w_al L ps) c = (mj_then 167 903 [some (.ref 0), some (.ref 2), some (.ref 52), some (.int x3)] [.int z0] (mj_EV 164 0 [some (.ref 52), none, none] [] (w_al L ps) c)) := (mj_aload_n d167_899 rfl (mj_invV [some (.ref 52), none, none] [.int z0] d167_900 rfl rfl rfl w_52 rfl rfl))
theorem e167_903 {c : mj_C} {x3 : Int32} {z0 : Int32} {z1 : Int32} {L : Nat} {ps : List (Option (Option Nat))}   : mj_EV 167 903 [some (.ref 0), some (.ref 2), some (.ref 52), some (.int x3)] [.int z1, .int z0] (w_al L ps) c = (if z0 = z1 then mj_EV 167 935 [some (.ref 0), some (.ref 2), some (.ref 52), some (.int x3)] [] (w_al L ps) c else (some (some (.int (nI 0)), (w_al L ps), c))) := (mj_iceq d167_903 rfl (mj_iconst d167_906 (mj_zret0 d167_907)))
theorem e167_908 {c : mj_C} {x3 : Int32} {L : Nat} {ps : List (Option (Option Nat))}   : mj_EV 167 908 [some (.ref 0), some (.ref 2), some (.ref 52), some (.int x3)] [] (w_al L ps) c = (mj_then 167 912 [some (.ref 0), some (.ref 2), some (.ref 52), some (.int x3)] [] (mj_EV 88 0 [some (.ref 2)] [] (w_al L ps) c)) := (mj_aload_n d167_908 rfl (mj_invV [some (.ref 2)] [] d167_909 rfl rfl rfl w_2 rfl rfl))
theorem e167_912 {c : mj_C} {x3 : Int32} {z0 : Int32} {L : Nat} {ps : List (Option (Option Nat))}   : mj_EV 167 912 [some (.ref 0), some (.ref 2), some (.ref 52), some (.int x3)] [.int z0] (w_al L ps) c = (mj_then 167 916 [some (.ref 0), some (.ref 2), some (.ref 52), some (.int x3)] [.int z0] (mj_EV 165 0 [some (.ref 52)] [] (w_al L ps) c)) := (mj_aload_n d167_912 rfl (mj_invV [some (.ref 52)] [.int z0] d167_913 rfl rfl rfl w_52 rfl rfl))
theorem e167_916 {c : mj_C} {x3 : Int32} {z0 : Int32} {z1 : Int32} {L : Nat} {ps : List (Option (Option Nat))}   : mj_EV 167 916 [some (.ref 0), some (.ref 2), some (.ref 52), some (.int x3)] [.int z1, .int z0] (w_al L ps) c = (if z0 = z1 then mj_EV 167 935 [some (.ref 0), some (.ref 2), some (.ref 52), some (.int x3)] [] (w_al L ps) c else (some (some (.int (nI 0)), (w_al L ps), c))) := (mj_iceq d167_916 rfl (mj_iconst d167_919 (mj_zret0 d167_920)))
theorem e167_921 {c : mj_C} {x3 : Int32} {L : Nat} {ps : List (Option (Option Nat))}   : mj_EV 167 921 [some (.ref 0), some (.ref 2), some (.ref 52), some (.int x3)] [] (w_al L ps) c = (mj_then 167 925 [some (.ref 0), some (.ref 2), some (.ref 52), some (.int x3)] [] (mj_EV 91 0 [some (.ref 2), none, none, none] [] (w_al L ps) c)) := (mj_aload_n d167_921 rfl (mj_invV [some (.ref 2), none, none, none] [] d167_922 rfl rfl rfl w_2 rfl rfl))
theorem e167_925 {c : mj_C} {x3 : Int32} {z0 : Int64} {L : Nat} {ps : List (Option (Option Nat))}   : mj_EV 167 925 [some (.ref 0), some (.ref 2), some (.ref 52), some (.int x3)] [.long z0] (w_al L ps) c = (mj_then 167 929 [some (.ref 0), some (.ref 2), some (.ref 52), some (.int x3)] [.long z0] (mj_EV 166 0 [some (.ref 52), none, none, none, none, none] [] (w_al L ps) c)) := (mj_aload_n d167_925 rfl (mj_invV [some (.ref 52), none, none, none, none, none] [.long z0] d167_926 rfl rfl rfl w_52 rfl rfl))
theorem e167_929 {c : mj_C} {x3 : Int32} {z0 : Int64} {z1 : Int64} {L : Nat} {ps : List (Option (Option Nat))}   : mj_EV 167 929 [some (.ref 0), some (.ref 2), some (.ref 52), some (.int x3)] [.long z1, .long z0] (w_al L ps) c = (if (lg_cmp z0 z1) = nI 0 then mj_EV 167 935 [some (.ref 0), some (.ref 2), some (.ref 52), some (.int x3)] [] (w_al L ps) c else (some (some (.int (nI 0)), (w_al L ps), c))) := (mj_lcmp d167_929 (mj_ifeq d167_930 rfl (mj_iconst d167_933 (mj_zret0 d167_934))))
theorem e167_935 {c : mj_C} {x3 : Int32} {L : Nat} {ps : List (Option (Option Nat))}   : mj_EV 167 935 [some (.ref 0), some (.ref 2), some (.ref 52), some (.int x3)] [] (w_al L ps) c = mj_EV 167 18 [some (.ref 0), some (.ref 2), some (.ref 52), some (.int (x3 + (nI 5)))] [] (w_al L ps) c := (mj_iinc [some (.ref 0), some (.ref 2), some (.ref 52), some (.int (x3 + (nI 5)))] d167_935 rfl rfl rfl (mj_goto d167_938 rfl))
theorem e167_941 {c : mj_C} {x3 : Int32} {L : Nat} {ps : List (Option (Option Nat))}   : mj_EV 167 941 [some (.ref 0), some (.ref 2), some (.ref 52), some (.int x3)] [] (w_al L ps) c = (some (some (.int (nI 1)), (w_al L ps), c)) := (mj_iconst d167_941 (mj_zret1 d167_942))
