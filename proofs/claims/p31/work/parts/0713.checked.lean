set_option maxRecDepth 100000 in
theorem mj_k57 : mj_c57.all (mj_chk mj_y57) = true := by decide +kernel
set_option maxRecDepth 100000 in
theorem mj_k58 : mj_c58.all (mj_chk mj_y58) = true := by decide +kernel
set_option maxRecDepth 100000 in
theorem mj_k59 : mj_c59.all (mj_chk mj_y59) = true := by decide +kernel
set_option maxRecDepth 100000 in
theorem mj_k60 : mj_c60.all (mj_chk mj_y60) = true := by decide +kernel
set_option maxRecDepth 100000 in
theorem mj_k61 : mj_c61.all (mj_chk mj_y61) = true := by decide +kernel
set_option maxRecDepth 100000 in
theorem mj_k62 : mj_c62.all (mj_chk mj_y62) = true := by decide +kernel
set_option maxRecDepth 100000 in
theorem mj_k63 : mj_c63.all (mj_chk mj_y63) = true := by decide +kernel
set_option maxRecDepth 100000 in
theorem mj_k64 : mj_c64.all (mj_chk mj_y64) = true := by decide +kernel
set_option maxRecDepth 100000 in
theorem mj_k65 : mj_c65.all (mj_chk mj_y65) = true := by decide +kernel
set_option maxRecDepth 100000 in
theorem mj_k66 : mj_c66.all (mj_chk mj_y66) = true := by decide +kernel
set_option maxRecDepth 100000 in
theorem mj_k67 : mj_c67.all (mj_chk mj_y67) = true := by decide +kernel
set_option maxRecDepth 100000 in
theorem mj_k68 : mj_c68.all (mj_chk mj_y68) = true := by decide +kernel
set_option maxRecDepth 100000 in
theorem mj_k69 : mj_c69.all (mj_chk mj_y69) = true := by decide +kernel
set_option maxRecDepth 100000 in
theorem mj_k70 : mj_c70.all (mj_chk mj_y70) = true := by decide +kernel
set_option maxRecDepth 100000 in
theorem mj_k71 : mj_c71.all (mj_chk mj_y71) = true := by decide +kernel
