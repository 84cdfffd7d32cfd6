set_option maxRecDepth 100000 in
theorem mj_k80_5 : ((mj_c80.drop 180).take 36).all (mj_chk mj_y80) = true := by decide +kernel
set_option maxRecDepth 100000 in
theorem mj_k80_6 : ((mj_c80.drop 216).take 36).all (mj_chk mj_y80) = true := by decide +kernel
set_option maxRecDepth 100000 in
theorem mj_k80_7 : ((mj_c80.drop 252).take 36).all (mj_chk mj_y80) = true := by decide +kernel
set_option maxRecDepth 100000 in
theorem mj_k80_8 : ((mj_c80.drop 288).take 36).all (mj_chk mj_y80) = true := by decide +kernel
set_option maxRecDepth 100000 in
theorem mj_k80_9 : ((mj_c80.drop 324).take 36).all (mj_chk mj_y80) = true := by decide +kernel
set_option maxRecDepth 100000 in
theorem mj_k80_10 : ((mj_c80.drop 360).take 34).all (mj_chk mj_y80) = true := by decide +kernel
set_option maxRecDepth 100000 in
theorem mj_k81_0 : ((mj_c81.drop 0).take 36).all (mj_chk mj_y81) = true := by decide +kernel
set_option maxRecDepth 100000 in
theorem mj_k81_1 : ((mj_c81.drop 36).take 36).all (mj_chk mj_y81) = true := by decide +kernel
set_option maxRecDepth 100000 in
theorem mj_k81_2 : ((mj_c81.drop 72).take 36).all (mj_chk mj_y81) = true := by decide +kernel
