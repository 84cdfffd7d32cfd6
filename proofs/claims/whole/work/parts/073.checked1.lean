set_option maxRecDepth 100000 in
theorem mj_k167_6 : ((mj_c167.drop 216).take 36).all (mj_chk mj_y167) = true := by decide +kernel
set_option maxRecDepth 100000 in
theorem mj_k167_7 : ((mj_c167.drop 252).take 36).all (mj_chk mj_y167) = true := by decide +kernel
set_option maxRecDepth 100000 in
theorem mj_k167_8 : ((mj_c167.drop 288).take 36).all (mj_chk mj_y167) = true := by decide +kernel
set_option maxRecDepth 100000 in
theorem mj_k167_9 : ((mj_c167.drop 324).take 36).all (mj_chk mj_y167) = true := by decide +kernel
set_option maxRecDepth 100000 in
theorem mj_k167_10 : ((mj_c167.drop 360).take 36).all (mj_chk mj_y167) = true := by decide +kernel
set_option maxRecDepth 100000 in
theorem mj_k167_11 : ((mj_c167.drop 396).take 36).all (mj_chk mj_y167) = true := by decide +kernel
