set_option maxRecDepth 100000 in
theorem mj_k81_8 : ((mj_c81.drop 288).take 36).all (mj_chk mj_y81) = true := by decide +kernel
set_option maxRecDepth 100000 in
theorem mj_k81_9 : ((mj_c81.drop 324).take 36).all (mj_chk mj_y81) = true := by decide +kernel
set_option maxRecDepth 100000 in
theorem mj_k81_10 : ((mj_c81.drop 360).take 36).all (mj_chk mj_y81) = true := by decide +kernel
set_option maxRecDepth 100000 in
theorem mj_k81_11 : ((mj_c81.drop 396).take 36).all (mj_chk mj_y81) = true := by decide +kernel
set_option maxRecDepth 100000 in
theorem mj_k81_12 : ((mj_c81.drop 432).take 36).all (mj_chk mj_y81) = true := by decide +kernel
