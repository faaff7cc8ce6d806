/-! the first call on new objects, where it asks for one small argument: stretches run by the kernel -/
/-- a stretch of the class's method, then one of the reference's: the same answer -/
def pSeg (jc pcc : Nat) (lvc : List (Nat × Value)) (jr pcr : Nat) (lvr : List (Nat × Value)) : Bool := match yrun zXn 2000 40 jc (pcc, (0, .ref 1000) :: lvc, [], pH2, 0, 0) with
  | some (some (.int x), h, 0, 0) => zrcv 13 h 1132 && (match yrun zXn 2000 40 jr (pcr, (0, .ref 1132) :: lvr, [], h, 0, 0) with
    | some (some (.int y), _, 0, 0) => decide (x = y)
    | _ => false)
  | _ => false
/-- find in the range: Text.numberOf, then the reference's find -/
def pFind (k : Int32) : Bool := match yrun zXn 2000 40 36 (0, [(0, .ref 1060), (1, .int k)], [], pH2, 0, 0) with
  | some (some (.int x), h, 0, 0) => zrcv 13 h 1132 && (match yrun zXn 2000 40 206 (0, [(0, .ref 1132)], [], h, 0, 0) with
    | some (some (.int y), _, 0, 0) => decide (x = -1) && decide (y = -1)
    | _ => false)
  | _ => false
/-- item: the class's, then the field isRun of the reference -/
def pItem : Bool := match yrun zXn 2000 40 140 (0, [(0, .ref 1000)], [], pH2, 0, 0) with
  | some (some (.int x), h, 0, 0) => zrcv 13 h 1132 && decide (x = 0) && (match hget h 1132 with
    | some (.inr (13, fs)) => decide (fs[17]? = some (.int 0))
    | _ => false)
  | _ => false
/-- find outside the range: the reference's; the field current of the class -/
def pFindO : Bool := (match yrun zXn 2000 40 206 (0, [(0, .ref 1132)], [], pH2, 0, 0) with
    | some (some (.int y), _, 0, 0) => decide (y = -1)
    | _ => false) && (match hget pH2 1000 with
    | some (.inr (11, fs)) => decide (fs[3]? = some (.ref 1060))
    | _ => false) && zrcv 11 pH2 1000 && zrcv 13 pH2 1132 && zrcv 9 pH2 1060
set_option maxRecDepth 1000000 in
set_option maxHeartbeats 0 in
theorem pSegs_ok : (pSeg 82 15 [] 221 15 [] && (([1, 2, 3] : List Int32).all (fun k => pSeg 72 0 [(1, .int k)] 207 0 [(1, .int k)]) && (([0, 1, 2, 3, 4, 5, 6, 7, 8, 9, 10] : List Int32).all (fun k => pSeg 70 0 [(1, .int k)] 205 0 [(1, .int k)]) && (pSeg 19 0 [(3, .int 0)] 162 0 [(3, .int 0)] && (([0, 1, 2, 3, 4, 5, 6, 7, 8] : List Int32).all pFind && (pItem && pFindO)))))) = true := by decide +kernel
