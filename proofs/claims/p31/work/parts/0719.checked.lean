set_option maxRecDepth 100000 in
theorem mj_k81_18 : ((mj_c81.drop 648).take 36).all (mj_chk mj_y81) = true := by decide +kernel
set_option maxRecDepth 100000 in
theorem mj_k81_19 : ((mj_c81.drop 684).take 36).all (mj_chk mj_y81) = true := by decide +kernel
set_option maxRecDepth 100000 in
theorem mj_k81_20 : ((mj_c81.drop 720).take 36).all (mj_chk mj_y81) = true := by decide +kernel
set_option maxRecDepth 100000 in
theorem mj_k81_21 : ((mj_c81.drop 756).take 36).all (mj_chk mj_y81) = true := by decide +kernel
set_option maxRecDepth 100000 in
theorem mj_k81_22 : ((mj_c81.drop 792).take 36).all (mj_chk mj_y81) = true := by decide +kernel
