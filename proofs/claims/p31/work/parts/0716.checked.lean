set_option maxRecDepth 100000 in
theorem mj_k81_3 : ((mj_c81.drop 108).take 36).all (mj_chk mj_y81) = true := by decide +kernel
set_option maxRecDepth 100000 in
theorem mj_k81_4 : ((mj_c81.drop 144).take 36).all (mj_chk mj_y81) = true := by decide +kernel
set_option maxRecDepth 100000 in
theorem mj_k81_5 : ((mj_c81.drop 180).take 36).all (mj_chk mj_y81) = true := by decide +kernel
set_option maxRecDepth 100000 in
theorem mj_k81_6 : ((mj_c81.drop 216).take 36).all (mj_chk mj_y81) = true := by decide +kernel
set_option maxRecDepth 100000 in
theorem mj_k81_7 : ((mj_c81.drop 252).take 36).all (mj_chk mj_y81) = true := by decide +kernel
