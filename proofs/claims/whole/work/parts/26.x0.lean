/-! the outside without the script's ints: for runs that a kernel can do -/
def zxi0 (st : List Value) : Option (Nat × List Value) := match st with
  | .int i :: .ref a :: r => if a = 60 then (if zin? i 9 = true then some (1, .int (zmost.getD i.toNatClampNeg 0) :: r) else none) else none
  | _ => none
def zX0 (fz : Bool) (L : Nat) : zXT := fun d cn ins st => match ins with
  | .iaload => zxi0 st
  | _ => zX fz L (fun _ => 0) d cn ins st
theorem zxi0_le {L : Nat} {xs : Nat → Int32} {st : List Value} {v : Nat × List Value} (h : zxi0 st = some v) : zxi L xs st = some v := by
  unfold zxi0 at h
  unfold zxi
  split at h
  · split at h
    · next ha =>
      subst ha
      exact h
    · cases h
  · cases h
theorem zX_lv (fz : Bool) (L : Nat) (xs : Nat → Int32) (d cn : Nat) (ins : Instr) (st : List Value) (h : zlvI ins = true) : zX fz L xs d cn ins st = none := by
  cases ins <;> first | rfl | (cases h; done)
theorem zX0_le (fz : Bool) (L : Nat) (xs : Nat → Int32) : zXle (zX0 fz L) (zX fz L xs) := by
  refine ⟨fun d cn ins st v h => ?_, fun d cn ins st h => ?_, fun d d' cn ins st => rfl⟩
  · cases ins with
    | iaload => exact zxi0_le h
    | _ => exact h
  · cases ins <;> first | (exact ⟨fun _ _ => rfl, fun _ _ _ => rfl⟩) | (exact absurd rfl h)
