set_option maxRecDepth 100000 in
theorem mj_k103_3 : ((mj_c103.drop 108).take 36).all (mj_chk mj_y103) = true := by decide +kernel
set_option maxRecDepth 100000 in
theorem mj_k103_4 : ((mj_c103.drop 144).take 36).all (mj_chk mj_y103) = true := by decide +kernel
set_option maxRecDepth 100000 in
theorem mj_k103_5 : ((mj_c103.drop 180).take 36).all (mj_chk mj_y103) = true := by decide +kernel
set_option maxRecDepth 100000 in
theorem mj_k103_6 : ((mj_c103.drop 216).take 36).all (mj_chk mj_y103) = true := by decide +kernel
set_option maxRecDepth 100000 in
theorem mj_k103_7 : ((mj_c103.drop 252).take 36).all (mj_chk mj_y103) = true := by decide +kernel
