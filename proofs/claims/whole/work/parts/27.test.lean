set_option maxRecDepth 1000000 in
set_option maxHeartbeats 0 in
theorem zt_1 : (yrun (zX0 true 0) 600 60 1 (0, [(0, .ref 1000)], [], [.inr (5, zdef 5)], 0, 0)).isNone = true := by decide +kernel
