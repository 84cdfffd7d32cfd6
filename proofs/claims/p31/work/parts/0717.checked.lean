set_option maxRecDepth 100000 in
theorem mj_k103_8 : ((mj_c103.drop 288).take 36).all (mj_chk mj_y103) = true := by decide +kernel
set_option maxRecDepth 100000 in
theorem mj_k103_9 : ((mj_c103.drop 324).take 36).all (mj_chk mj_y103) = true := by decide +kernel
set_option maxRecDepth 100000 in
theorem mj_k103_10 : ((mj_c103.drop 360).take 36).all (mj_chk mj_y103) = true := by decide +kernel
set_option maxRecDepth 100000 in
theorem mj_k103_11 : ((mj_c103.drop 396).take 36).all (mj_chk mj_y103) = true := by decide +kernel
set_option maxRecDepth 100000 in
theorem mj_k103_12 : ((mj_c103.drop 432).take 36).all (mj_chk mj_y103) = true := by decide +kernel
