/-! contracts 188 .. 216, checked by the kernel -/
set_option maxRecDepth 100000 in
set_option maxHeartbeats 40000000 in
theorem xz_c188 : [188, 189, 190, 191].all xz_chk = true := by decide +kernel
set_option maxRecDepth 100000 in
set_option maxHeartbeats 40000000 in
theorem xz_c192 : [192, 193, 194, 195].all xz_chk = true := by decide +kernel
set_option maxRecDepth 100000 in
set_option maxHeartbeats 40000000 in
theorem xz_c196 : [196, 197, 198, 199].all xz_chk = true := by decide +kernel
set_option maxRecDepth 100000 in
set_option maxHeartbeats 40000000 in
theorem xz_c200 : [200, 201, 202, 203].all xz_chk = true := by decide +kernel
set_option maxRecDepth 100000 in
set_option maxHeartbeats 40000000 in
theorem xz_c204 : [204, 205, 206, 207].all xz_chk = true := by decide +kernel
set_option maxRecDepth 100000 in
set_option maxHeartbeats 40000000 in
theorem xz_c208 : [208, 209, 210, 211].all xz_chk = true := by decide +kernel
set_option maxRecDepth 100000 in
set_option maxHeartbeats 40000000 in
theorem xz_c212 : [212, 213, 214, 215].all xz_chk = true := by decide +kernel
set_option maxRecDepth 100000 in
set_option maxHeartbeats 40000000 in
theorem xz_c216 : [216].all xz_chk = true := by decide +kernel
