set_option maxRecDepth 100000 in
theorem mj_k94 : mj_c94.all (mj_chk mj_y94) = true := by decide +kernel
set_option maxRecDepth 100000 in
theorem mj_k95 : mj_c95.all (mj_chk mj_y95) = true := by decide +kernel
set_option maxRecDepth 100000 in
theorem mj_k96 : mj_c96.all (mj_chk mj_y96) = true := by decide +kernel
set_option maxRecDepth 100000 in
theorem mj_k97 : mj_c97.all (mj_chk mj_y97) = true := by decide +kernel
set_option maxRecDepth 100000 in
theorem mj_k98 : mj_c98.all (mj_chk mj_y98) = true := by decide +kernel
set_option maxRecDepth 100000 in
theorem mj_k99 : mj_c99.all (mj_chk mj_y99) = true := by decide +kernel
set_option maxRecDepth 100000 in
theorem mj_k100 : mj_c100.all (mj_chk mj_y100) = true := by decide +kernel
set_option maxRecDepth 100000 in
theorem mj_k101 : mj_c101.all (mj_chk mj_y101) = true := by decide +kernel
set_option maxRecDepth 100000 in
theorem mj_k102_0 : ((mj_c102.drop 0).take 36).all (mj_chk mj_y102) = true := by decide +kernel
set_option maxRecDepth 100000 in
theorem mj_k102_1 : ((mj_c102.drop 36).take 36).all (mj_chk mj_y102) = true := by decide +kernel
set_option maxRecDepth 100000 in
theorem mj_k102_2 : ((mj_c102.drop 72).take 36).all (mj_chk mj_y102) = true := by decide +kernel
set_option maxRecDepth 100000 in
theorem mj_k102_3 : ((mj_c102.drop 108).take 36).all (mj_chk mj_y102) = true := by decide +kernel
set_option maxRecDepth 100000 in
theorem mj_k102_4 : ((mj_c102.drop 144).take 36).all (mj_chk mj_y102) = true := by decide +kernel
