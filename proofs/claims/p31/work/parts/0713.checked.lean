set_option maxRecDepth 100000 in
theorem mj_k57 : mj_c57.all (mj_chk mj_y57) = true := by decide +kernel
set_option maxRecDepth 100000 in
theorem mj_k58 : mj_c58.all (mj_chk mj_y58) = true := by decide +kernel
set_option maxRecDepth 100000 in
theorem mj_k59 : mj_c59.all (mj_chk mj_y59) = true := by decide +kernel
set_option maxRecDepth 100000 in
theorem mj_k60 : mj_c60.all (mj_chk mj_y60) = true := by decide +kernel
set_option maxRecDepth 100000 in
theorem mj_k61 : mj_c61.all (mj_chk mj_y61) = true := by decide +kernel
set_option maxRecDepth 100000 in
theorem mj_k62 : mj_c62.all (mj_chk mj_y62) = true := by decide +kernel
set_option maxRecDepth 100000 in
theorem mj_k63 : mj_c63.all (mj_chk mj_y63) = true := by decide +kernel
set_option maxRecDepth 100000 in
theorem mj_k64 : mj_c64.all (mj_chk mj_y64) = true := by decide +kernel
set_option maxRecDepth 100000 in
theorem mj_k65 : mj_c65.all (mj_chk mj_y65) = true := by decide +kernel
set_option maxRecDepth 100000 in
theorem mj_k66 : mj_c66.all (mj_chk mj_y66) = true := by decide +kernel
set_option maxRecDepth 100000 in
theorem mj_k67 : mj_c67.all (mj_chk mj_y67) = true := by decide +kernel
set_option maxRecDepth 100000 in
theorem mj_k68 : mj_c68.all (mj_chk mj_y68) = true := by decide +kernel
set_option maxRecDepth 100000 in
theorem mj_k69 : mj_c69.all (mj_chk mj_y69) = true := by decide +kernel
set_option maxRecDepth 100000 in
theorem mj_k70 : mj_c70.all (mj_chk mj_y70) = true := by decide +kernel
set_option maxRecDepth 100000 in
theorem mj_k71 : mj_c71.all (mj_chk mj_y71) = true := by decide +kernel
set_option maxRecDepth 100000 in
theorem mj_k72 : mj_c72.all (mj_chk mj_y72) = true := by decide +kernel
set_option maxRecDepth 100000 in
theorem mj_k73 : mj_c73.all (mj_chk mj_y73) = true := by decide +kernel
set_option maxRecDepth 100000 in
theorem mj_k74 : mj_c74.all (mj_chk mj_y74) = true := by decide +kernel
set_option maxRecDepth 100000 in
theorem mj_k75 : mj_c75.all (mj_chk mj_y75) = true := by decide +kernel
set_option maxRecDepth 100000 in
theorem mj_k76 : mj_c76.all (mj_chk mj_y76) = true := by decide +kernel
set_option maxRecDepth 100000 in
theorem mj_k77 : mj_c77.all (mj_chk mj_y77) = true := by decide +kernel
set_option maxRecDepth 100000 in
theorem mj_k78 : mj_c78.all (mj_chk mj_y78) = true := by decide +kernel
set_option maxRecDepth 100000 in
theorem mj_k79 : mj_c79.all (mj_chk mj_y79) = true := by decide +kernel
set_option maxRecDepth 100000 in
theorem mj_k80 : mj_c80.all (mj_chk mj_y80) = true := by decide +kernel
set_option maxRecDepth 100000 in
theorem mj_k81 : mj_c81.all (mj_chk mj_y81) = true := by decide +kernel
set_option maxRecDepth 100000 in
theorem mj_k82 : mj_c82.all (mj_chk mj_y82) = true := by decide +kernel
set_option maxRecDepth 100000 in
theorem mj_k83 : mj_c83.all (mj_chk mj_y83) = true := by decide +kernel
set_option maxRecDepth 100000 in
theorem mj_k84 : mj_c84.all (mj_chk mj_y84) = true := by decide +kernel
set_option maxRecDepth 100000 in
theorem mj_k85 : mj_c85.all (mj_chk mj_y85) = true := by decide +kernel
set_option maxRecDepth 100000 in
theorem mj_k86 : mj_c86.all (mj_chk mj_y86) = true := by decide +kernel
set_option maxRecDepth 100000 in
theorem mj_k87 : mj_c87.all (mj_chk mj_y87) = true := by decide +kernel
set_option maxRecDepth 100000 in
theorem mj_k88 : mj_c88.all (mj_chk mj_y88) = true := by decide +kernel
set_option maxRecDepth 100000 in
theorem mj_k89 : mj_c89.all (mj_chk mj_y89) = true := by decide +kernel
set_option maxRecDepth 100000 in
theorem mj_k90 : mj_c90.all (mj_chk mj_y90) = true := by decide +kernel
set_option maxRecDepth 100000 in
theorem mj_k91 : mj_c91.all (mj_chk mj_y91) = true := by decide +kernel
set_option maxRecDepth 100000 in
theorem mj_k92 : mj_c92.all (mj_chk mj_y92) = true := by decide +kernel
set_option maxRecDepth 100000 in
theorem mj_k93 : mj_c93.all (mj_chk mj_y93) = true := by decide +kernel
