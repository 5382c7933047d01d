/-! the law's table, checked -/
set_option maxRecDepth 100000 in
set_option maxHeartbeats 4000000 in
theorem xt_l0 : ((xt_332.drop 0).take 240).all (fun e => xv_eB code RL "law" (some .boolean) xt_J e) = true := by decide +kernel
set_option maxRecDepth 100000 in
set_option maxHeartbeats 4000000 in
theorem xt_l240 : ((xt_332.drop 240).take 240).all (fun e => xv_eB code RL "law" (some .boolean) xt_J e) = true := by decide +kernel
set_option maxRecDepth 100000 in
set_option maxHeartbeats 4000000 in
theorem xt_l480 : ((xt_332.drop 480).take 240).all (fun e => xv_eB code RL "law" (some .boolean) xt_J e) = true := by decide +kernel
set_option maxRecDepth 100000 in
set_option maxHeartbeats 4000000 in
theorem xt_l720 : ((xt_332.drop 720).take 240).all (fun e => xv_eB code RL "law" (some .boolean) xt_J e) = true := by decide +kernel
set_option maxRecDepth 100000 in
set_option maxHeartbeats 4000000 in
theorem xt_l960 : ((xt_332.drop 960).take 240).all (fun e => xv_eB code RL "law" (some .boolean) xt_J e) = true := by decide +kernel
set_option maxRecDepth 100000 in
set_option maxHeartbeats 4000000 in
theorem xt_l1200 : ((xt_332.drop 1200).take 240).all (fun e => xv_eB code RL "law" (some .boolean) xt_J e) = true := by decide +kernel
set_option maxRecDepth 100000 in
set_option maxHeartbeats 4000000 in
theorem xt_l1440 : ((xt_332.drop 1440).take 240).all (fun e => xv_eB code RL "law" (some .boolean) xt_J e) = true := by decide +kernel
