set_option maxRecDepth 100000 in
theorem mj_k72 : mj_c72.all (mj_chk mj_y72) = true := by decide +kernel
set_option maxRecDepth 100000 in
theorem mj_k73 : mj_c73.all (mj_chk mj_y73) = true := by decide +kernel
set_option maxRecDepth 100000 in
theorem mj_k74 : mj_c74.all (mj_chk mj_y74) = true := by decide +kernel
set_option maxRecDepth 100000 in
theorem mj_k75 : mj_c75.all (mj_chk mj_y75) = true := by decide +kernel
set_option maxRecDepth 100000 in
theorem mj_k76 : mj_c76.all (mj_chk mj_y76) = true := by decide +kernel
set_option maxRecDepth 100000 in
theorem mj_k77 : mj_c77.all (mj_chk mj_y77) = true := by decide +kernel
set_option maxRecDepth 100000 in
theorem mj_k78 : mj_c78.all (mj_chk mj_y78) = true := by decide +kernel
set_option maxRecDepth 100000 in
theorem mj_k79 : mj_c79.all (mj_chk mj_y79) = true := by decide +kernel
set_option maxRecDepth 100000 in
theorem mj_k80_0 : ((mj_c80.drop 0).take 36).all (mj_chk mj_y80) = true := by decide +kernel
set_option maxRecDepth 100000 in
theorem mj_k80_1 : ((mj_c80.drop 36).take 36).all (mj_chk mj_y80) = true := by decide +kernel
set_option maxRecDepth 100000 in
theorem mj_k80_2 : ((mj_c80.drop 72).take 36).all (mj_chk mj_y80) = true := by decide +kernel
set_option maxRecDepth 100000 in
theorem mj_k80_3 : ((mj_c80.drop 108).take 36).all (mj_chk mj_y80) = true := by decide +kernel
set_option maxRecDepth 100000 in
theorem mj_k80_4 : ((mj_c80.drop 144).take 36).all (mj_chk mj_y80) = true := by decide +kernel
