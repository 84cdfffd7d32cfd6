set_option maxRecDepth 100000 in
theorem mj_k167_0 : ((mj_c167.drop 0).take 36).all (mj_chk mj_y167) = true := by decide +kernel
set_option maxRecDepth 100000 in
theorem mj_k167_1 : ((mj_c167.drop 36).take 36).all (mj_chk mj_y167) = true := by decide +kernel
set_option maxRecDepth 100000 in
theorem mj_k167_2 : ((mj_c167.drop 72).take 36).all (mj_chk mj_y167) = true := by decide +kernel
set_option maxRecDepth 100000 in
theorem mj_k167_3 : ((mj_c167.drop 108).take 36).all (mj_chk mj_y167) = true := by decide +kernel
set_option maxRecDepth 100000 in
theorem mj_k167_4 : ((mj_c167.drop 144).take 36).all (mj_chk mj_y167) = true := by decide +kernel
set_option maxRecDepth 100000 in
theorem mj_k167_5 : ((mj_c167.drop 180).take 36).all (mj_chk mj_y167) = true := by decide +kernel
