set_option maxRecDepth 100000 in
theorem mj_k0 : mj_c0.all (mj_chk mj_y0) = true := by decide +kernel
set_option maxRecDepth 100000 in
theorem mj_k1 : mj_c1.all (mj_chk mj_y1) = true := by decide +kernel
set_option maxRecDepth 100000 in
theorem mj_k2 : mj_c2.all (mj_chk mj_y2) = true := by decide +kernel
set_option maxRecDepth 100000 in
theorem mj_k3 : mj_c3.all (mj_chk mj_y3) = true := by decide +kernel
set_option maxRecDepth 100000 in
theorem mj_k4 : mj_c4.all (mj_chk mj_y4) = true := by decide +kernel
set_option maxRecDepth 100000 in
theorem mj_k5 : mj_c5.all (mj_chk mj_y5) = true := by decide +kernel
set_option maxRecDepth 100000 in
theorem mj_k6 : mj_c6.all (mj_chk mj_y6) = true := by decide +kernel
set_option maxRecDepth 100000 in
theorem mj_k7 : mj_c7.all (mj_chk mj_y7) = true := by decide +kernel
set_option maxRecDepth 100000 in
theorem mj_k8 : mj_c8.all (mj_chk mj_y8) = true := by decide +kernel
set_option maxRecDepth 100000 in
theorem mj_k9 : mj_c9.all (mj_chk mj_y9) = true := by decide +kernel
set_option maxRecDepth 100000 in
theorem mj_k10 : mj_c10.all (mj_chk mj_y10) = true := by decide +kernel
set_option maxRecDepth 100000 in
theorem mj_k11 : mj_c11.all (mj_chk mj_y11) = true := by decide +kernel
set_option maxRecDepth 100000 in
theorem mj_k12 : mj_c12.all (mj_chk mj_y12) = true := by decide +kernel
set_option maxRecDepth 100000 in
theorem mj_k13 : mj_c13.all (mj_chk mj_y13) = true := by decide +kernel
set_option maxRecDepth 100000 in
theorem mj_k14 : mj_c14.all (mj_chk mj_y14) = true := by decide +kernel
set_option maxRecDepth 100000 in
theorem mj_k15 : mj_c15.all (mj_chk mj_y15) = true := by decide +kernel
set_option maxRecDepth 100000 in
theorem mj_k16 : mj_c16.all (mj_chk mj_y16) = true := by decide +kernel
set_option maxRecDepth 100000 in
theorem mj_k17 : mj_c17.all (mj_chk mj_y17) = true := by decide +kernel
set_option maxRecDepth 100000 in
theorem mj_k18 : mj_c18.all (mj_chk mj_y18) = true := by decide +kernel
set_option maxRecDepth 100000 in
theorem mj_k19 : mj_c19.all (mj_chk mj_y19) = true := by decide +kernel
