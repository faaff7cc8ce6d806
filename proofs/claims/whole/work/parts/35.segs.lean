/-! the first call on new objects, where it asks for one small argument: stretches run by the kernel -/
/-- a stretch of the class's method, then one of the reference's: the same answer -/
def pSeg (jc pcc : Nat) (lvc : List (Nat × Value)) (jr pcr : Nat) (lvr : List (Nat × Value)) : Bool := match yrun zXn 2000 40 jc (pcc, (0, .ref 1000) :: lvc, [], pH2, 0, 0) with
  | some (some (.int x), h, 0, 0) => (match yrun zXn 2000 40 jr (pcr, (0, .ref 1132) :: lvr, [], h, 0, 0) with
    | some (some (.int y), _, 0, 0) => decide (x = y)
    | _ => false)
  | _ => false
set_option maxRecDepth 1000000 in
set_option maxHeartbeats 0 in
theorem pSegs_ok : (pSeg 82 15 [] 221 15 [] && (([1, 2, 3] : List Int32).all (fun k => pSeg 72 0 [(1, .int k)] 207 0 [(1, .int k)]) && (([0, 1, 2, 3, 4, 5, 6, 7, 8, 9, 10] : List Int32).all (fun k => pSeg 70 0 [(1, .int k)] 205 0 [(1, .int k)]) && pSeg 19 0 [(3, .int 0)] 162 0 [(3, .int 0)]))) = true := by decide +kernel
