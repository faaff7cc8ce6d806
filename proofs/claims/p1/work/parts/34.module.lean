/-! the first call on new objects: module -/
set_option maxRecDepth 1000000 in
set_option maxHeartbeats 0 in
theorem pModule_ok : pPair 20 163 = true := by decide +kernel
