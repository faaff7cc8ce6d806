/-! new objects, run by the kernel from behind Scanner() on -/
def zgs0 (cn idx : Nat) (st : List Value) : Option (Nat × List Value) := if cn = 4 ∧ idx = 150 then some (3, .ref 60 :: st) else none
def zXn : zXT := fun _ cn ins st => match ins with
  | .iaload => zxi0 st
  | .getstatic idx => zgs0 cn idx st
  | .ldc idx => zls 2 cn idx st
  | .ldc_w idx => zls 3 cn idx st
  | .getfield idx => zgx cn idx st
  | .baload => zxb st
  | _ => none
theorem zgs0_le {fz : Bool} {cn idx : Nat} {st : List Value} {v : Nat × List Value} (h : zgs0 cn idx st = some v) : zgs fz cn idx st = some v := by
  unfold zgs0 at h
  unfold zgs
  split at h
  · next hc => rw [if_pos hc]; exact h
  · cases h
theorem zXn_le (fz : Bool) (L : Nat) (xs : Nat → Int32) : zXle zXn (zX fz L xs) := by
  refine ⟨fun d cn ins st v h => ?_, fun d cn ins st h => ?_, fun d d' cn ins st => rfl⟩
  · cases ins with
    | iaload => exact zxi0_le h
    | getstatic idx => exact zgs0_le h
    | ldc idx => exact h
    | ldc_w idx => exact h
    | getfield idx => exact h
    | baload => exact h
    | _ => have h2 : (none : Option (Nat × List Value)) = some v := h; cases h2
  · cases ins <;> first | (exact ⟨fun _ _ => rfl, fun _ _ _ => rfl⟩) | (exact absurd rfl h)
/-- the rest of PearlHouse(), behind Scanner() -/
def pR1 : Option zR := yrun zXn 3000 40 0 (12, [(0, .ref 1000)], [.ref 1001, .ref 1000], zhS (zwst 236).2, 3, 4055)
def pH1 : List PE := match pR1 with
  | some r => r.2.1
  | none => []
set_option maxRecDepth 1000000 in
set_option maxHeartbeats 0 in
theorem pR1_ok : pR1.map (fun r => (r.1, r.2.1.length, r.2.2)) = some (none, 132, 131, 18703) := by decide +kernel
