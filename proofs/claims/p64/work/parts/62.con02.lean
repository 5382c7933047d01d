/-! contracts 157 .. 185, checked by the kernel -/
set_option maxRecDepth 100000 in
set_option maxHeartbeats 40000000 in
theorem xz_c157 : [157, 158, 159, 160].all xz_chk = true := by decide +kernel
set_option maxRecDepth 100000 in
set_option maxHeartbeats 40000000 in
theorem xz_c161 : [161, 162, 163, 164].all xz_chk = true := by decide +kernel
set_option maxRecDepth 100000 in
set_option maxHeartbeats 40000000 in
theorem xz_c165 : [165, 166, 167, 168].all xz_chk = true := by decide +kernel
set_option maxRecDepth 100000 in
set_option maxHeartbeats 40000000 in
theorem xz_c169 : [169, 170, 171, 172].all xz_chk = true := by decide +kernel
set_option maxRecDepth 100000 in
set_option maxHeartbeats 40000000 in
theorem xz_c173 : [173, 174, 175, 176].all xz_chk = true := by decide +kernel
set_option maxRecDepth 100000 in
set_option maxHeartbeats 40000000 in
theorem xz_c177 : [177, 178, 179, 180].all xz_chk = true := by decide +kernel
set_option maxRecDepth 100000 in
set_option maxHeartbeats 40000000 in
theorem xz_c181 : [181, 182, 183, 184].all xz_chk = true := by decide +kernel
set_option maxRecDepth 100000 in
set_option maxHeartbeats 40000000 in
theorem xz_c185 : [185].all xz_chk = true := by decide +kernel
