set_option maxRecDepth 100000 in
theorem mj_k0 : mj_c0.all (mj_chk mj_y0) = true := by decide +kernel
set_option maxRecDepth 100000 in
theorem mj_k1 : mj_c1.all (mj_chk mj_y1) = true := by decide +kernel
set_option maxRecDepth 100000 in
theorem mj_k2 : mj_c2.all (mj_chk mj_y2) = true := by decide +kernel
set_option maxRecDepth 100000 in
theorem mj_k3 : mj_c3.all (mj_chk mj_y3) = true := by decide +kernel
set_option maxRecDepth 100000 in
theorem mj_k4 : mj_c4.all (mj_chk mj_y4) = true := by decide +kernel
set_option maxRecDepth 100000 in
theorem mj_k5 : mj_c5.all (mj_chk mj_y5) = true := by decide +kernel
set_option maxRecDepth 100000 in
theorem mj_k6 : mj_c6.all (mj_chk mj_y6) = true := by decide +kernel
set_option maxRecDepth 100000 in
theorem mj_k7 : mj_c7.all (mj_chk mj_y7) = true := by decide +kernel
set_option maxRecDepth 100000 in
theorem mj_k8 : mj_c8.all (mj_chk mj_y8) = true := by decide +kernel
set_option maxRecDepth 100000 in
theorem mj_k9 : mj_c9.all (mj_chk mj_y9) = true := by decide +kernel
set_option maxRecDepth 100000 in
theorem mj_k10 : mj_c10.all (mj_chk mj_y10) = true := by decide +kernel
set_option maxRecDepth 100000 in
theorem mj_k11 : mj_c11.all (mj_chk mj_y11) = true := by decide +kernel
set_option maxRecDepth 100000 in
theorem mj_k12 : mj_c12.all (mj_chk mj_y12) = true := by decide +kernel
set_option maxRecDepth 100000 in
theorem mj_k13 : mj_c13.all (mj_chk mj_y13) = true := by decide +kernel
set_option maxRecDepth 100000 in
theorem mj_k14 : mj_c14.all (mj_chk mj_y14) = true := by decide +kernel
set_option maxRecDepth 100000 in
theorem mj_k15 : mj_c15.all (mj_chk mj_y15) = true := by decide +kernel
set_option maxRecDepth 100000 in
theorem mj_k16 : mj_c16.all (mj_chk mj_y16) = true := by decide +kernel
set_option maxRecDepth 100000 in
theorem mj_k17 : mj_c17.all (mj_chk mj_y17) = true := by decide +kernel
set_option maxRecDepth 100000 in
theorem mj_k18 : mj_c18.all (mj_chk mj_y18) = true := by decide +kernel
set_option maxRecDepth 100000 in
theorem mj_k19 : mj_c19.all (mj_chk mj_y19) = true := by decide +kernel
set_option maxRecDepth 100000 in
theorem mj_k20 : mj_c20.all (mj_chk mj_y20) = true := by decide +kernel
set_option maxRecDepth 100000 in
theorem mj_k21 : mj_c21.all (mj_chk mj_y21) = true := by decide +kernel
set_option maxRecDepth 100000 in
theorem mj_k22 : mj_c22.all (mj_chk mj_y22) = true := by decide +kernel
set_option maxRecDepth 100000 in
theorem mj_k23 : mj_c23.all (mj_chk mj_y23) = true := by decide +kernel
set_option maxRecDepth 100000 in
theorem mj_k24 : mj_c24.all (mj_chk mj_y24) = true := by decide +kernel
set_option maxRecDepth 100000 in
theorem mj_k25 : mj_c25.all (mj_chk mj_y25) = true := by decide +kernel
set_option maxRecDepth 100000 in
theorem mj_k26 : mj_c26.all (mj_chk mj_y26) = true := by decide +kernel
set_option maxRecDepth 100000 in
theorem mj_k27 : mj_c27.all (mj_chk mj_y27) = true := by decide +kernel
set_option maxRecDepth 100000 in
theorem mj_k28 : mj_c28.all (mj_chk mj_y28) = true := by decide +kernel
set_option maxRecDepth 100000 in
theorem mj_k29 : mj_c29.all (mj_chk mj_y29) = true := by decide +kernel
set_option maxRecDepth 100000 in
theorem mj_k30 : mj_c30.all (mj_chk mj_y30) = true := by decide +kernel
set_option maxRecDepth 100000 in
theorem mj_k31 : mj_c31.all (mj_chk mj_y31) = true := by decide +kernel
set_option maxRecDepth 100000 in
theorem mj_k32 : mj_c32.all (mj_chk mj_y32) = true := by decide +kernel
set_option maxRecDepth 100000 in
theorem mj_k33 : mj_c33.all (mj_chk mj_y33) = true := by decide +kernel
set_option maxRecDepth 100000 in
theorem mj_k34 : mj_c34.all (mj_chk mj_y34) = true := by decide +kernel
set_option maxRecDepth 100000 in
theorem mj_k35 : mj_c35.all (mj_chk mj_y35) = true := by decide +kernel
set_option maxRecDepth 100000 in
theorem mj_k36 : mj_c36.all (mj_chk mj_y36) = true := by decide +kernel
set_option maxRecDepth 100000 in
theorem mj_k37 : mj_c37.all (mj_chk mj_y37) = true := by decide +kernel
set_option maxRecDepth 100000 in
theorem mj_k38 : mj_c38.all (mj_chk mj_y38) = true := by decide +kernel
set_option maxRecDepth 100000 in
theorem mj_k39 : mj_c39.all (mj_chk mj_y39) = true := by decide +kernel
set_option maxRecDepth 100000 in
theorem mj_k40 : mj_c40.all (mj_chk mj_y40) = true := by decide +kernel
set_option maxRecDepth 100000 in
theorem mj_k41 : mj_c41.all (mj_chk mj_y41) = true := by decide +kernel
set_option maxRecDepth 100000 in
theorem mj_k42 : mj_c42.all (mj_chk mj_y42) = true := by decide +kernel
set_option maxRecDepth 100000 in
theorem mj_k43 : mj_c43.all (mj_chk mj_y43) = true := by decide +kernel
set_option maxRecDepth 100000 in
theorem mj_k44 : mj_c44.all (mj_chk mj_y44) = true := by decide +kernel
set_option maxRecDepth 100000 in
theorem mj_k45 : mj_c45.all (mj_chk mj_y45) = true := by decide +kernel
set_option maxRecDepth 100000 in
theorem mj_k46 : mj_c46.all (mj_chk mj_y46) = true := by decide +kernel
set_option maxRecDepth 100000 in
theorem mj_k47 : mj_c47.all (mj_chk mj_y47) = true := by decide +kernel
set_option maxRecDepth 100000 in
theorem mj_k48 : mj_c48.all (mj_chk mj_y48) = true := by decide +kernel
set_option maxRecDepth 100000 in
theorem mj_k49 : mj_c49.all (mj_chk mj_y49) = true := by decide +kernel
set_option maxRecDepth 100000 in
theorem mj_k50 : mj_c50.all (mj_chk mj_y50) = true := by decide +kernel
set_option maxRecDepth 100000 in
theorem mj_k51 : mj_c51.all (mj_chk mj_y51) = true := by decide +kernel
set_option maxRecDepth 100000 in
theorem mj_k52 : mj_c52.all (mj_chk mj_y52) = true := by decide +kernel
set_option maxRecDepth 100000 in
theorem mj_k53 : mj_c53.all (mj_chk mj_y53) = true := by decide +kernel
set_option maxRecDepth 100000 in
theorem mj_k54 : mj_c54.all (mj_chk mj_y54) = true := by decide +kernel
set_option maxRecDepth 100000 in
theorem mj_k55 : mj_c55.all (mj_chk mj_y55) = true := by decide +kernel
set_option maxRecDepth 100000 in
theorem mj_k56 : mj_c56.all (mj_chk mj_y56) = true := by decide +kernel
set_option maxRecDepth 100000 in
theorem mj_k57 : mj_c57.all (mj_chk mj_y57) = true := by decide +kernel
set_option maxRecDepth 100000 in
theorem mj_k58 : mj_c58.all (mj_chk mj_y58) = true := by decide +kernel
set_option maxRecDepth 100000 in
theorem mj_k59 : mj_c59.all (mj_chk mj_y59) = true := by decide +kernel
set_option maxRecDepth 100000 in
theorem mj_k60 : mj_c60.all (mj_chk mj_y60) = true := by decide +kernel
set_option maxRecDepth 100000 in
theorem mj_k61 : mj_c61.all (mj_chk mj_y61) = true := by decide +kernel
set_option maxRecDepth 100000 in
theorem mj_k62 : mj_c62.all (mj_chk mj_y62) = true := by decide +kernel
set_option maxRecDepth 100000 in
theorem mj_k63 : mj_c63.all (mj_chk mj_y63) = true := by decide +kernel
set_option maxRecDepth 100000 in
theorem mj_k64 : mj_c64.all (mj_chk mj_y64) = true := by decide +kernel
set_option maxRecDepth 100000 in
theorem mj_k65 : mj_c65.all (mj_chk mj_y65) = true := by decide +kernel
set_option maxRecDepth 100000 in
theorem mj_k66 : mj_c66.all (mj_chk mj_y66) = true := by decide +kernel
set_option maxRecDepth 100000 in
theorem mj_k67 : mj_c67.all (mj_chk mj_y67) = true := by decide +kernel
set_option maxRecDepth 100000 in
theorem mj_k68 : mj_c68.all (mj_chk mj_y68) = true := by decide +kernel
set_option maxRecDepth 100000 in
theorem mj_k69 : mj_c69.all (mj_chk mj_y69) = true := by decide +kernel
set_option maxRecDepth 100000 in
theorem mj_k70 : mj_c70.all (mj_chk mj_y70) = true := by decide +kernel
set_option maxRecDepth 100000 in
theorem mj_k71 : mj_c71.all (mj_chk mj_y71) = true := by decide +kernel
set_option maxRecDepth 100000 in
theorem mj_k72 : mj_c72.all (mj_chk mj_y72) = true := by decide +kernel
set_option maxRecDepth 100000 in
theorem mj_k73 : mj_c73.all (mj_chk mj_y73) = true := by decide +kernel
set_option maxRecDepth 100000 in
theorem mj_k74 : mj_c74.all (mj_chk mj_y74) = true := by decide +kernel
set_option maxRecDepth 100000 in
theorem mj_k75 : mj_c75.all (mj_chk mj_y75) = true := by decide +kernel
set_option maxRecDepth 100000 in
theorem mj_k76 : mj_c76.all (mj_chk mj_y76) = true := by decide +kernel
set_option maxRecDepth 100000 in
theorem mj_k77 : mj_c77.all (mj_chk mj_y77) = true := by decide +kernel
set_option maxRecDepth 100000 in
theorem mj_k78 : mj_c78.all (mj_chk mj_y78) = true := by decide +kernel
set_option maxRecDepth 100000 in
theorem mj_k79 : mj_c79.all (mj_chk mj_y79) = true := by decide +kernel
set_option maxRecDepth 100000 in
theorem mj_k80 : mj_c80.all (mj_chk mj_y80) = true := by decide +kernel
set_option maxRecDepth 100000 in
theorem mj_k81 : mj_c81.all (mj_chk mj_y81) = true := by decide +kernel
set_option maxRecDepth 100000 in
theorem mj_k82 : mj_c82.all (mj_chk mj_y82) = true := by decide +kernel
set_option maxRecDepth 100000 in
theorem mj_k83 : mj_c83.all (mj_chk mj_y83) = true := by decide +kernel
set_option maxRecDepth 100000 in
theorem mj_k84 : mj_c84.all (mj_chk mj_y84) = true := by decide +kernel
set_option maxRecDepth 100000 in
theorem mj_k85 : mj_c85.all (mj_chk mj_y85) = true := by decide +kernel
set_option maxRecDepth 100000 in
theorem mj_k86 : mj_c86.all (mj_chk mj_y86) = true := by decide +kernel
set_option maxRecDepth 100000 in
theorem mj_k87 : mj_c87.all (mj_chk mj_y87) = true := by decide +kernel
set_option maxRecDepth 100000 in
theorem mj_k88 : mj_c88.all (mj_chk mj_y88) = true := by decide +kernel
set_option maxRecDepth 100000 in
theorem mj_k89 : mj_c89.all (mj_chk mj_y89) = true := by decide +kernel
set_option maxRecDepth 100000 in
theorem mj_k90 : mj_c90.all (mj_chk mj_y90) = true := by decide +kernel
set_option maxRecDepth 100000 in
theorem mj_k91 : mj_c91.all (mj_chk mj_y91) = true := by decide +kernel
set_option maxRecDepth 100000 in
theorem mj_k92 : mj_c92.all (mj_chk mj_y92) = true := by decide +kernel
set_option maxRecDepth 100000 in
theorem mj_k93 : mj_c93.all (mj_chk mj_y93) = true := by decide +kernel
set_option maxRecDepth 100000 in
theorem mj_k94 : mj_c94.all (mj_chk mj_y94) = true := by decide +kernel
set_option maxRecDepth 100000 in
theorem mj_k95 : mj_c95.all (mj_chk mj_y95) = true := by decide +kernel
set_option maxRecDepth 100000 in
theorem mj_k96 : mj_c96.all (mj_chk mj_y96) = true := by decide +kernel
set_option maxRecDepth 100000 in
theorem mj_k97 : mj_c97.all (mj_chk mj_y97) = true := by decide +kernel
set_option maxRecDepth 100000 in
theorem mj_k98 : mj_c98.all (mj_chk mj_y98) = true := by decide +kernel
set_option maxRecDepth 100000 in
theorem mj_k99 : mj_c99.all (mj_chk mj_y99) = true := by decide +kernel
set_option maxRecDepth 100000 in
theorem mj_k100 : mj_c100.all (mj_chk mj_y100) = true := by decide +kernel
set_option maxRecDepth 100000 in
theorem mj_k101 : mj_c101.all (mj_chk mj_y101) = true := by decide +kernel
set_option maxRecDepth 100000 in
theorem mj_k102 : mj_c102.all (mj_chk mj_y102) = true := by decide +kernel
set_option maxRecDepth 100000 in
theorem mj_k103 : mj_c103.all (mj_chk mj_y103) = true := by decide +kernel
set_option maxRecDepth 100000 in
theorem mj_k104 : mj_c104.all (mj_chk mj_y104) = true := by decide +kernel
set_option maxRecDepth 100000 in
theorem mj_k105 : mj_c105.all (mj_chk mj_y105) = true := by decide +kernel
set_option maxRecDepth 100000 in
theorem mj_k106 : mj_c106.all (mj_chk mj_y106) = true := by decide +kernel
set_option maxRecDepth 100000 in
theorem mj_k107 : mj_c107.all (mj_chk mj_y107) = true := by decide +kernel
set_option maxRecDepth 100000 in
theorem mj_k108 : mj_c108.all (mj_chk mj_y108) = true := by decide +kernel
set_option maxRecDepth 100000 in
theorem mj_k109 : mj_c109.all (mj_chk mj_y109) = true := by decide +kernel
