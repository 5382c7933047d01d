/-! the law's table, checked -/
set_option maxRecDepth 100000 in
set_option maxHeartbeats 4000000 in
theorem xt_l0 : ((xt_332.drop 0).take 60).all (fun e => xv_eB code RL "law" (some .boolean) xt_J e) = true := by decide +kernel
set_option maxRecDepth 100000 in
set_option maxHeartbeats 4000000 in
theorem xt_l60 : ((xt_332.drop 60).take 60).all (fun e => xv_eB code RL "law" (some .boolean) xt_J e) = true := by decide +kernel
set_option maxRecDepth 100000 in
set_option maxHeartbeats 4000000 in
theorem xt_l120 : ((xt_332.drop 120).take 60).all (fun e => xv_eB code RL "law" (some .boolean) xt_J e) = true := by decide +kernel
set_option maxRecDepth 100000 in
set_option maxHeartbeats 4000000 in
theorem xt_l180 : ((xt_332.drop 180).take 60).all (fun e => xv_eB code RL "law" (some .boolean) xt_J e) = true := by decide +kernel
set_option maxRecDepth 100000 in
set_option maxHeartbeats 4000000 in
theorem xt_l240 : ((xt_332.drop 240).take 60).all (fun e => xv_eB code RL "law" (some .boolean) xt_J e) = true := by decide +kernel
set_option maxRecDepth 100000 in
set_option maxHeartbeats 4000000 in
theorem xt_l300 : ((xt_332.drop 300).take 60).all (fun e => xv_eB code RL "law" (some .boolean) xt_J e) = true := by decide +kernel
set_option maxRecDepth 100000 in
set_option maxHeartbeats 4000000 in
theorem xt_l360 : ((xt_332.drop 360).take 60).all (fun e => xv_eB code RL "law" (some .boolean) xt_J e) = true := by decide +kernel
set_option maxRecDepth 100000 in
set_option maxHeartbeats 4000000 in
theorem xt_l420 : ((xt_332.drop 420).take 60).all (fun e => xv_eB code RL "law" (some .boolean) xt_J e) = true := by decide +kernel
set_option maxRecDepth 100000 in
set_option maxHeartbeats 4000000 in
theorem xt_l480 : ((xt_332.drop 480).take 60).all (fun e => xv_eB code RL "law" (some .boolean) xt_J e) = true := by decide +kernel
set_option maxRecDepth 100000 in
set_option maxHeartbeats 4000000 in
theorem xt_l540 : ((xt_332.drop 540).take 60).all (fun e => xv_eB code RL "law" (some .boolean) xt_J e) = true := by decide +kernel
set_option maxRecDepth 100000 in
set_option maxHeartbeats 4000000 in
theorem xt_l600 : ((xt_332.drop 600).take 60).all (fun e => xv_eB code RL "law" (some .boolean) xt_J e) = true := by decide +kernel
set_option maxRecDepth 100000 in
set_option maxHeartbeats 4000000 in
theorem xt_l660 : ((xt_332.drop 660).take 60).all (fun e => xv_eB code RL "law" (some .boolean) xt_J e) = true := by decide +kernel
set_option maxRecDepth 100000 in
set_option maxHeartbeats 4000000 in
theorem xt_l720 : ((xt_332.drop 720).take 60).all (fun e => xv_eB code RL "law" (some .boolean) xt_J e) = true := by decide +kernel
set_option maxRecDepth 100000 in
set_option maxHeartbeats 4000000 in
theorem xt_l780 : ((xt_332.drop 780).take 60).all (fun e => xv_eB code RL "law" (some .boolean) xt_J e) = true := by decide +kernel
set_option maxRecDepth 100000 in
set_option maxHeartbeats 4000000 in
theorem xt_l840 : ((xt_332.drop 840).take 60).all (fun e => xv_eB code RL "law" (some .boolean) xt_J e) = true := by decide +kernel
set_option maxRecDepth 100000 in
set_option maxHeartbeats 4000000 in
theorem xt_l900 : ((xt_332.drop 900).take 60).all (fun e => xv_eB code RL "law" (some .boolean) xt_J e) = true := by decide +kernel
set_option maxRecDepth 100000 in
set_option maxHeartbeats 4000000 in
theorem xt_l960 : ((xt_332.drop 960).take 60).all (fun e => xv_eB code RL "law" (some .boolean) xt_J e) = true := by decide +kernel
set_option maxRecDepth 100000 in
set_option maxHeartbeats 4000000 in
theorem xt_l1020 : ((xt_332.drop 1020).take 60).all (fun e => xv_eB code RL "law" (some .boolean) xt_J e) = true := by decide +kernel
set_option maxRecDepth 100000 in
set_option maxHeartbeats 4000000 in
theorem xt_l1080 : ((xt_332.drop 1080).take 60).all (fun e => xv_eB code RL "law" (some .boolean) xt_J e) = true := by decide +kernel
set_option maxRecDepth 100000 in
set_option maxHeartbeats 4000000 in
theorem xt_l1140 : ((xt_332.drop 1140).take 60).all (fun e => xv_eB code RL "law" (some .boolean) xt_J e) = true := by decide +kernel
set_option maxRecDepth 100000 in
set_option maxHeartbeats 4000000 in
theorem xt_l1200 : ((xt_332.drop 1200).take 60).all (fun e => xv_eB code RL "law" (some .boolean) xt_J e) = true := by decide +kernel
set_option maxRecDepth 100000 in
set_option maxHeartbeats 4000000 in
theorem xt_l1260 : ((xt_332.drop 1260).take 60).all (fun e => xv_eB code RL "law" (some .boolean) xt_J e) = true := by decide +kernel
set_option maxRecDepth 100000 in
set_option maxHeartbeats 4000000 in
theorem xt_l1320 : ((xt_332.drop 1320).take 60).all (fun e => xv_eB code RL "law" (some .boolean) xt_J e) = true := by decide +kernel
set_option maxRecDepth 100000 in
set_option maxHeartbeats 4000000 in
theorem xt_l1380 : ((xt_332.drop 1380).take 60).all (fun e => xv_eB code RL "law" (some .boolean) xt_J e) = true := by decide +kernel
set_option maxRecDepth 100000 in
set_option maxHeartbeats 4000000 in
theorem xt_l1440 : ((xt_332.drop 1440).take 60).all (fun e => xv_eB code RL "law" (some .boolean) xt_J e) = true := by decide +kernel
