/-! contracts 217 .. 245, checked by the kernel -/
set_option maxRecDepth 100000 in
set_option maxHeartbeats 40000000 in
theorem xz_c217 : [217, 218, 219, 220].all xz_chk = true := by decide +kernel
set_option maxRecDepth 100000 in
set_option maxHeartbeats 40000000 in
theorem xz_c221 : [221, 222, 223, 224].all xz_chk = true := by decide +kernel
set_option maxRecDepth 100000 in
set_option maxHeartbeats 40000000 in
theorem xz_c225 : [225, 226, 227, 228].all xz_chk = true := by decide +kernel
set_option maxRecDepth 100000 in
set_option maxHeartbeats 40000000 in
theorem xz_c229 : [229, 230, 231, 232].all xz_chk = true := by decide +kernel
set_option maxRecDepth 100000 in
set_option maxHeartbeats 40000000 in
theorem xz_c233 : [233, 234, 235, 236].all xz_chk = true := by decide +kernel
set_option maxRecDepth 100000 in
set_option maxHeartbeats 40000000 in
theorem xz_c237 : [237, 238, 239, 240].all xz_chk = true := by decide +kernel
set_option maxRecDepth 100000 in
set_option maxHeartbeats 40000000 in
theorem xz_c241 : [241, 242, 243, 244].all xz_chk = true := by decide +kernel
set_option maxRecDepth 100000 in
set_option maxHeartbeats 40000000 in
theorem xz_c245 : [245].all xz_chk = true := by decide +kernel
