set_option maxRecDepth 100000 in
theorem mj_k81_13 : ((mj_c81.drop 468).take 36).all (mj_chk mj_y81) = true := by decide +kernel
set_option maxRecDepth 100000 in
theorem mj_k81_14 : ((mj_c81.drop 504).take 36).all (mj_chk mj_y81) = true := by decide +kernel
set_option maxRecDepth 100000 in
theorem mj_k81_15 : ((mj_c81.drop 540).take 36).all (mj_chk mj_y81) = true := by decide +kernel
set_option maxRecDepth 100000 in
theorem mj_k81_16 : ((mj_c81.drop 576).take 36).all (mj_chk mj_y81) = true := by decide +kernel
set_option maxRecDepth 100000 in
theorem mj_k81_17 : ((mj_c81.drop 612).take 36).all (mj_chk mj_y81) = true := by decide +kernel
