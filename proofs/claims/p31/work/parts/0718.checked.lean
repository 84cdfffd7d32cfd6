set_option maxRecDepth 100000 in
theorem mj_k103_13 : ((mj_c103.drop 468).take 36).all (mj_chk mj_y103) = true := by decide +kernel
set_option maxRecDepth 100000 in
theorem mj_k103_14 : ((mj_c103.drop 504).take 36).all (mj_chk mj_y103) = true := by decide +kernel
set_option maxRecDepth 100000 in
theorem mj_k103_15 : ((mj_c103.drop 540).take 36).all (mj_chk mj_y103) = true := by decide +kernel
set_option maxRecDepth 100000 in
theorem mj_k103_16 : ((mj_c103.drop 576).take 36).all (mj_chk mj_y103) = true := by decide +kernel
set_option maxRecDepth 100000 in
theorem mj_k103_17 : ((mj_c103.drop 612).take 36).all (mj_chk mj_y103) = true := by decide +kernel
