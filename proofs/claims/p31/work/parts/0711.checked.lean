set_option maxRecDepth 100000 in
theorem mj_k20 : mj_c20.all (mj_chk mj_y20) = true := by decide +kernel
set_option maxRecDepth 100000 in
theorem mj_k21 : mj_c21.all (mj_chk mj_y21) = true := by decide +kernel
set_option maxRecDepth 100000 in
theorem mj_k22 : mj_c22.all (mj_chk mj_y22) = true := by decide +kernel
set_option maxRecDepth 100000 in
theorem mj_k23 : mj_c23.all (mj_chk mj_y23) = true := by decide +kernel
set_option maxRecDepth 100000 in
theorem mj_k24 : mj_c24.all (mj_chk mj_y24) = true := by decide +kernel
set_option maxRecDepth 100000 in
theorem mj_k25 : mj_c25.all (mj_chk mj_y25) = true := by decide +kernel
set_option maxRecDepth 100000 in
theorem mj_k26 : mj_c26.all (mj_chk mj_y26) = true := by decide +kernel
set_option maxRecDepth 100000 in
theorem mj_k27 : mj_c27.all (mj_chk mj_y27) = true := by decide +kernel
set_option maxRecDepth 100000 in
theorem mj_k28 : mj_c28.all (mj_chk mj_y28) = true := by decide +kernel
set_option maxRecDepth 100000 in
theorem mj_k29 : mj_c29.all (mj_chk mj_y29) = true := by decide +kernel
set_option maxRecDepth 100000 in
theorem mj_k30 : mj_c30.all (mj_chk mj_y30) = true := by decide +kernel
set_option maxRecDepth 100000 in
theorem mj_k31 : mj_c31.all (mj_chk mj_y31) = true := by decide +kernel
set_option maxRecDepth 100000 in
theorem mj_k32 : mj_c32.all (mj_chk mj_y32) = true := by decide +kernel
set_option maxRecDepth 100000 in
theorem mj_k33 : mj_c33.all (mj_chk mj_y33) = true := by decide +kernel
set_option maxRecDepth 100000 in
theorem mj_k34 : mj_c34.all (mj_chk mj_y34) = true := by decide +kernel
set_option maxRecDepth 100000 in
theorem mj_k35 : mj_c35.all (mj_chk mj_y35) = true := by decide +kernel
set_option maxRecDepth 100000 in
theorem mj_k36 : mj_c36.all (mj_chk mj_y36) = true := by decide +kernel
set_option maxRecDepth 100000 in
theorem mj_k37 : mj_c37.all (mj_chk mj_y37) = true := by decide +kernel
set_option maxRecDepth 100000 in
theorem mj_k38 : mj_c38.all (mj_chk mj_y38) = true := by decide +kernel
set_option maxRecDepth 100000 in
theorem mj_k39 : mj_c39.all (mj_chk mj_y39) = true := by decide +kernel
