/-! the first call on new objects, where it asks for no argument: run by the kernel -/
def pPair (jc jr : Nat) : Bool := match yrun zXn 6000 40 jc (0, [(0, .ref 1000)], [], pH2, 0, 0) with
  | some (some (.int x), h, 0, 0) => zrcv 13 h 1132 && (match yrun zXn 6000 40 jr (0, [(0, .ref 1132)], [], h, 0, 0) with
    | some (some (.int y), _, 0, 0) => decide (x = y)
    | _ => false)
  | _ => false
def pPairs : List (Nat × Nat) := [(69, 204), (73, 208), (133, 267), (135, 268), (137, 269), (139, 271), (141, 273), (142, 274), (143, 275), (144, 276), (145, 277), (146, 278), (149, 280), (151, 281), (154, 283), (156, 284), (158, 285)]
set_option maxRecDepth 1000000 in
set_option maxHeartbeats 0 in
theorem pPairs_ok : pPairs.all (fun q => pPair q.1 q.2) = true := by decide +kernel
