set_option maxRecDepth 100000 in
theorem mj_k167_12 : ((mj_c167.drop 432).take 36).all (mj_chk mj_y167) = true := by decide +kernel
set_option maxRecDepth 100000 in
theorem mj_k167_13 : ((mj_c167.drop 468).take 36).all (mj_chk mj_y167) = true := by decide +kernel
set_option maxRecDepth 100000 in
theorem mj_k167_14 : ((mj_c167.drop 504).take 36).all (mj_chk mj_y167) = true := by decide +kernel
set_option maxRecDepth 100000 in
theorem mj_k167_15 : ((mj_c167.drop 540).take 36).all (mj_chk mj_y167) = true := by decide +kernel
set_option maxRecDepth 100000 in
theorem mj_k167_16 : ((mj_c167.drop 576).take 36).all (mj_chk mj_y167) = true := by decide +kernel
set_option maxRecDepth 100000 in
theorem mj_k167_17 : ((mj_c167.drop 612).take 36).all (mj_chk mj_y167) = true := by decide +kernel
