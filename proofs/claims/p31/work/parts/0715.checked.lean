set_option maxRecDepth 100000 in
theorem mj_k102_5 : ((mj_c102.drop 180).take 36).all (mj_chk mj_y102) = true := by decide +kernel
set_option maxRecDepth 100000 in
theorem mj_k102_6 : ((mj_c102.drop 216).take 36).all (mj_chk mj_y102) = true := by decide +kernel
set_option maxRecDepth 100000 in
theorem mj_k102_7 : ((mj_c102.drop 252).take 36).all (mj_chk mj_y102) = true := by decide +kernel
set_option maxRecDepth 100000 in
theorem mj_k102_8 : ((mj_c102.drop 288).take 36).all (mj_chk mj_y102) = true := by decide +kernel
set_option maxRecDepth 100000 in
theorem mj_k102_9 : ((mj_c102.drop 324).take 36).all (mj_chk mj_y102) = true := by decide +kernel
set_option maxRecDepth 100000 in
theorem mj_k102_10 : ((mj_c102.drop 360).take 34).all (mj_chk mj_y102) = true := by decide +kernel
set_option maxRecDepth 100000 in
theorem mj_k103_0 : ((mj_c103.drop 0).take 36).all (mj_chk mj_y103) = true := by decide +kernel
set_option maxRecDepth 100000 in
theorem mj_k103_1 : ((mj_c103.drop 36).take 36).all (mj_chk mj_y103) = true := by decide +kernel
set_option maxRecDepth 100000 in
theorem mj_k103_2 : ((mj_c103.drop 72).take 36).all (mj_chk mj_y103) = true := by decide +kernel
