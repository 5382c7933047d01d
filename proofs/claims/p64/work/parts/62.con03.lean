/-! contracts 186 .. 214, checked by the kernel -/
set_option maxRecDepth 100000 in
set_option maxHeartbeats 40000000 in
theorem xz_c186 : [186, 187, 188, 189].all xz_chk = true := by decide +kernel
set_option maxRecDepth 100000 in
set_option maxHeartbeats 40000000 in
theorem xz_c190 : [190, 191, 192, 193].all xz_chk = true := by decide +kernel
set_option maxRecDepth 100000 in
set_option maxHeartbeats 40000000 in
theorem xz_c194 : [194, 195, 196, 197].all xz_chk = true := by decide +kernel
set_option maxRecDepth 100000 in
set_option maxHeartbeats 40000000 in
theorem xz_c198 : [198, 199, 200, 201].all xz_chk = true := by decide +kernel
set_option maxRecDepth 100000 in
set_option maxHeartbeats 40000000 in
theorem xz_c202 : [202, 203, 204, 205].all xz_chk = true := by decide +kernel
set_option maxRecDepth 100000 in
set_option maxHeartbeats 40000000 in
theorem xz_c206 : [206, 207, 208, 209].all xz_chk = true := by decide +kernel
set_option maxRecDepth 100000 in
set_option maxHeartbeats 40000000 in
theorem xz_c210 : [210, 211, 212, 213].all xz_chk = true := by decide +kernel
set_option maxRecDepth 100000 in
set_option maxHeartbeats 40000000 in
theorem xz_c214 : [214].all xz_chk = true := by decide +kernel
