/-! contracts 298 .. 314, checked by the kernel -/
set_option maxRecDepth 100000 in
set_option maxHeartbeats 40000000 in
theorem xz_c298 : [298].all xz_chk = true := by decide +kernel
set_option maxRecDepth 100000 in
set_option maxHeartbeats 40000000 in
theorem xz_c299 : [299, 300, 301, 302, 303, 304, 305, 307, 309, 310, 311, 312].all xz_chk = true := by decide +kernel
set_option maxRecDepth 100000 in
set_option maxHeartbeats 40000000 in
theorem xz_c313 : [313].all xz_chk = true := by decide +kernel
set_option maxRecDepth 100000 in
set_option maxHeartbeats 40000000 in
theorem xz_c314 : [314].all xz_chk = true := by decide +kernel
