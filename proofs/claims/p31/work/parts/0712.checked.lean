set_option maxRecDepth 100000 in
theorem mj_k40 : mj_c40.all (mj_chk mj_y40) = true := by decide +kernel
set_option maxRecDepth 100000 in
theorem mj_k41 : mj_c41.all (mj_chk mj_y41) = true := by decide +kernel
set_option maxRecDepth 100000 in
theorem mj_k42 : mj_c42.all (mj_chk mj_y42) = true := by decide +kernel
set_option maxRecDepth 100000 in
theorem mj_k43 : mj_c43.all (mj_chk mj_y43) = true := by decide +kernel
set_option maxRecDepth 100000 in
theorem mj_k44 : mj_c44.all (mj_chk mj_y44) = true := by decide +kernel
set_option maxRecDepth 100000 in
theorem mj_k45 : mj_c45.all (mj_chk mj_y45) = true := by decide +kernel
set_option maxRecDepth 100000 in
theorem mj_k46 : mj_c46.all (mj_chk mj_y46) = true := by decide +kernel
set_option maxRecDepth 100000 in
theorem mj_k47 : mj_c47.all (mj_chk mj_y47) = true := by decide +kernel
set_option maxRecDepth 100000 in
theorem mj_k48 : mj_c48.all (mj_chk mj_y48) = true := by decide +kernel
set_option maxRecDepth 100000 in
theorem mj_k49 : mj_c49.all (mj_chk mj_y49) = true := by decide +kernel
set_option maxRecDepth 100000 in
theorem mj_k50 : mj_c50.all (mj_chk mj_y50) = true := by decide +kernel
set_option maxRecDepth 100000 in
theorem mj_k51 : mj_c51.all (mj_chk mj_y51) = true := by decide +kernel
set_option maxRecDepth 100000 in
theorem mj_k52 : mj_c52.all (mj_chk mj_y52) = true := by decide +kernel
set_option maxRecDepth 100000 in
theorem mj_k53 : mj_c53.all (mj_chk mj_y53) = true := by decide +kernel
set_option maxRecDepth 100000 in
theorem mj_k54 : mj_c54.all (mj_chk mj_y54) = true := by decide +kernel
set_option maxRecDepth 100000 in
theorem mj_k55 : mj_c55.all (mj_chk mj_y55) = true := by decide +kernel
set_option maxRecDepth 100000 in
theorem mj_k56 : mj_c56.all (mj_chk mj_y56) = true := by decide +kernel
