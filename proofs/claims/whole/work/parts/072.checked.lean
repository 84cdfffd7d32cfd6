set_option maxRecDepth 100000 in
theorem mj_k110 : mj_c110.all (mj_chk mj_y110) = true := by decide +kernel
set_option maxRecDepth 100000 in
theorem mj_k111 : mj_c111.all (mj_chk mj_y111) = true := by decide +kernel
set_option maxRecDepth 100000 in
theorem mj_k112 : mj_c112.all (mj_chk mj_y112) = true := by decide +kernel
set_option maxRecDepth 100000 in
theorem mj_k113 : mj_c113.all (mj_chk mj_y113) = true := by decide +kernel
set_option maxRecDepth 100000 in
theorem mj_k114 : mj_c114.all (mj_chk mj_y114) = true := by decide +kernel
set_option maxRecDepth 100000 in
theorem mj_k115 : mj_c115.all (mj_chk mj_y115) = true := by decide +kernel
set_option maxRecDepth 100000 in
theorem mj_k116 : mj_c116.all (mj_chk mj_y116) = true := by decide +kernel
set_option maxRecDepth 100000 in
theorem mj_k117 : mj_c117.all (mj_chk mj_y117) = true := by decide +kernel
set_option maxRecDepth 100000 in
theorem mj_k118 : mj_c118.all (mj_chk mj_y118) = true := by decide +kernel
set_option maxRecDepth 100000 in
theorem mj_k119 : mj_c119.all (mj_chk mj_y119) = true := by decide +kernel
set_option maxRecDepth 100000 in
theorem mj_k120 : mj_c120.all (mj_chk mj_y120) = true := by decide +kernel
set_option maxRecDepth 100000 in
theorem mj_k121 : mj_c121.all (mj_chk mj_y121) = true := by decide +kernel
set_option maxRecDepth 100000 in
theorem mj_k122 : mj_c122.all (mj_chk mj_y122) = true := by decide +kernel
set_option maxRecDepth 100000 in
theorem mj_k123 : mj_c123.all (mj_chk mj_y123) = true := by decide +kernel
set_option maxRecDepth 100000 in
theorem mj_k124 : mj_c124.all (mj_chk mj_y124) = true := by decide +kernel
set_option maxRecDepth 100000 in
theorem mj_k125 : mj_c125.all (mj_chk mj_y125) = true := by decide +kernel
set_option maxRecDepth 100000 in
theorem mj_k126 : mj_c126.all (mj_chk mj_y126) = true := by decide +kernel
set_option maxRecDepth 100000 in
theorem mj_k127 : mj_c127.all (mj_chk mj_y127) = true := by decide +kernel
set_option maxRecDepth 100000 in
theorem mj_k128 : mj_c128.all (mj_chk mj_y128) = true := by decide +kernel
set_option maxRecDepth 100000 in
theorem mj_k129 : mj_c129.all (mj_chk mj_y129) = true := by decide +kernel
set_option maxRecDepth 100000 in
theorem mj_k130 : mj_c130.all (mj_chk mj_y130) = true := by decide +kernel
set_option maxRecDepth 100000 in
theorem mj_k131 : mj_c131.all (mj_chk mj_y131) = true := by decide +kernel
set_option maxRecDepth 100000 in
theorem mj_k132 : mj_c132.all (mj_chk mj_y132) = true := by decide +kernel
set_option maxRecDepth 100000 in
theorem mj_k133 : mj_c133.all (mj_chk mj_y133) = true := by decide +kernel
set_option maxRecDepth 100000 in
theorem mj_k134 : mj_c134.all (mj_chk mj_y134) = true := by decide +kernel
set_option maxRecDepth 100000 in
theorem mj_k135 : mj_c135.all (mj_chk mj_y135) = true := by decide +kernel
set_option maxRecDepth 100000 in
theorem mj_k136 : mj_c136.all (mj_chk mj_y136) = true := by decide +kernel
set_option maxRecDepth 100000 in
theorem mj_k137 : mj_c137.all (mj_chk mj_y137) = true := by decide +kernel
set_option maxRecDepth 100000 in
theorem mj_k138 : mj_c138.all (mj_chk mj_y138) = true := by decide +kernel
set_option maxRecDepth 100000 in
theorem mj_k139 : mj_c139.all (mj_chk mj_y139) = true := by decide +kernel
set_option maxRecDepth 100000 in
theorem mj_k140 : mj_c140.all (mj_chk mj_y140) = true := by decide +kernel
set_option maxRecDepth 100000 in
theorem mj_k141 : mj_c141.all (mj_chk mj_y141) = true := by decide +kernel
set_option maxRecDepth 100000 in
theorem mj_k142 : mj_c142.all (mj_chk mj_y142) = true := by decide +kernel
set_option maxRecDepth 100000 in
theorem mj_k143 : mj_c143.all (mj_chk mj_y143) = true := by decide +kernel
set_option maxRecDepth 100000 in
theorem mj_k144 : mj_c144.all (mj_chk mj_y144) = true := by decide +kernel
set_option maxRecDepth 100000 in
theorem mj_k145 : mj_c145.all (mj_chk mj_y145) = true := by decide +kernel
set_option maxRecDepth 100000 in
theorem mj_k146 : mj_c146.all (mj_chk mj_y146) = true := by decide +kernel
set_option maxRecDepth 100000 in
theorem mj_k147 : mj_c147.all (mj_chk mj_y147) = true := by decide +kernel
set_option maxRecDepth 100000 in
theorem mj_k148 : mj_c148.all (mj_chk mj_y148) = true := by decide +kernel
set_option maxRecDepth 100000 in
theorem mj_k149 : mj_c149.all (mj_chk mj_y149) = true := by decide +kernel
set_option maxRecDepth 100000 in
theorem mj_k150 : mj_c150.all (mj_chk mj_y150) = true := by decide +kernel
set_option maxRecDepth 100000 in
theorem mj_k151 : mj_c151.all (mj_chk mj_y151) = true := by decide +kernel
set_option maxRecDepth 100000 in
theorem mj_k152 : mj_c152.all (mj_chk mj_y152) = true := by decide +kernel
set_option maxRecDepth 100000 in
theorem mj_k153 : mj_c153.all (mj_chk mj_y153) = true := by decide +kernel
set_option maxRecDepth 100000 in
theorem mj_k154 : mj_c154.all (mj_chk mj_y154) = true := by decide +kernel
set_option maxRecDepth 100000 in
theorem mj_k155 : mj_c155.all (mj_chk mj_y155) = true := by decide +kernel
set_option maxRecDepth 100000 in
theorem mj_k156 : mj_c156.all (mj_chk mj_y156) = true := by decide +kernel
set_option maxRecDepth 100000 in
theorem mj_k157 : mj_c157.all (mj_chk mj_y157) = true := by decide +kernel
set_option maxRecDepth 100000 in
theorem mj_k158 : mj_c158.all (mj_chk mj_y158) = true := by decide +kernel
set_option maxRecDepth 100000 in
theorem mj_k159 : mj_c159.all (mj_chk mj_y159) = true := by decide +kernel
set_option maxRecDepth 100000 in
theorem mj_k160 : mj_c160.all (mj_chk mj_y160) = true := by decide +kernel
set_option maxRecDepth 100000 in
theorem mj_k161 : mj_c161.all (mj_chk mj_y161) = true := by decide +kernel
set_option maxRecDepth 100000 in
theorem mj_k162 : mj_c162.all (mj_chk mj_y162) = true := by decide +kernel
set_option maxRecDepth 100000 in
theorem mj_k163 : mj_c163.all (mj_chk mj_y163) = true := by decide +kernel
set_option maxRecDepth 100000 in
theorem mj_k164 : mj_c164.all (mj_chk mj_y164) = true := by decide +kernel
set_option maxRecDepth 100000 in
theorem mj_k165 : mj_c165.all (mj_chk mj_y165) = true := by decide +kernel
set_option maxRecDepth 100000 in
theorem mj_k166 : mj_c166.all (mj_chk mj_y166) = true := by decide +kernel
