set_option maxRecDepth 100000 in
theorem mj_k103_18 : ((mj_c103.drop 648).take 36).all (mj_chk mj_y103) = true := by decide +kernel
set_option maxRecDepth 100000 in
theorem mj_k103_19 : ((mj_c103.drop 684).take 36).all (mj_chk mj_y103) = true := by decide +kernel
set_option maxRecDepth 100000 in
theorem mj_k103_20 : ((mj_c103.drop 720).take 36).all (mj_chk mj_y103) = true := by decide +kernel
set_option maxRecDepth 100000 in
theorem mj_k103_21 : ((mj_c103.drop 756).take 36).all (mj_chk mj_y103) = true := by decide +kernel
set_option maxRecDepth 100000 in
theorem mj_k103_22 : ((mj_c103.drop 792).take 36).all (mj_chk mj_y103) = true := by decide +kernel
