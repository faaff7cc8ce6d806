/-! new objects, run by the kernel from behind Scanner() on -/
def zgs0 (cn idx : Nat) (st : List Value) : Option (Nat × List Value) := if cn = 4 ∧ idx = 150 then some (3, .ref 60 :: st) else none
def zXn : zXT := fun _ cn ins st => match ins with
  | .iaload => zxi0 st
  | .getstatic idx => zgs0 cn idx st
  | .ldc idx => zls 2 cn idx st
  | .ldc_w idx => zls 3 cn idx st
  | .getfield idx => zgx cn idx st
  | .baload => zxb st
  | _ => none
theorem zgs0_le {fz : Bool} {cn idx : Nat} {st : List Value} {v : Nat × List Value} (h : zgs0 cn idx st = some v) : zgs fz cn idx st = some v := by
  unfold zgs0 at h
  unfold zgs
  split at h
  · next hc => rw [if_pos hc]; exact h
  · cases h
theorem zXn_le (fz : Bool) (L : Nat) (xs : Nat → Int32) : zXle zXn (zX fz L xs) := by
  refine ⟨fun d cn ins st v h => ?_, fun d cn ins st h => ?_, fun d d' cn ins st => rfl⟩
  · cases ins with
    | iaload => exact zxi0_le h
    | getstatic idx => exact zgs0_le h
    | ldc idx => exact h
    | ldc_w idx => exact h
    | getfield idx => exact h
    | baload => exact h
    | _ => have h2 : (none : Option (Nat × List Value)) = some v := h; cases h2
  · cases ins <;> first | (exact ⟨fun _ _ => rfl, fun _ _ _ => rfl⟩) | (exact absurd rfl h)
/-- the rest of PearlHouse(), behind Scanner() -/
def pR1 : Option zR := yrun zXn 3000 40 0 (12, [(0, .ref 1000)], [.ref 1001, .ref 1000], zhS (zwst 236).2, 3, 4055)
def pH1 : List PE := match pR1 with
  | some r => r.2.1
  | none => []
set_option maxRecDepth 1000000 in
set_option maxHeartbeats 0 in
theorem pR1_ok : pR1.map (fun r => (r.1, r.2.1.length, r.2.2)) = some (none, 132, 131, 18703) := by decide +kernel
theorem pR1_is : pR1 = some (none, pH1, 131, 18703) := by
  have h := pR1_ok
  unfold pH1
  cases hr : pR1 with
  | none => rw [hr] at h; cases h
  | some r =>
    rw [hr] at h
    obtain ⟨r1, r2, r3, r4⟩ := r
    simp only [Option.map_some, Option.some.injEq, Prod.mk.injEq] at h
    obtain ⟨rfl, -, rfl, rfl⟩ := h
    rfl
theorem pH1_len : pH1.length = 132 := by
  have h := pR1_ok
  rw [pR1_is] at h
  simp only [Option.map_some, Option.some.injEq, Prod.mk.injEq] at h
  exact h.2.1
/-- PearlHouse() -/
theorem g_house {fz : Bool} {L : Nat} {xs : Nat → Int32} {d : Nat} : zGo (zX fz L xs) (d + 45) (11, yX11_init, cX11_init, 1, none, 0, 1) (0, [(0, .ref 1000)], [], [.inr (11, [.null, .null, .null, .null, .null, .int 0, .int 0, .int 0])], 0, 0) (none, pH1, 131, 18703) := by
  refine zGo_s (pc' := 1) (st' := [.ref 1000]) (yd (j := 0) (ins := .aload_n 0) (len := 1) rfl rfl) rfl ?_
  refine zGo_s (pc' := 4) (st' := []) (yd (j := 0) (ins := .invokespecial 1) (len := 3) rfl rfl) rfl ?_
  refine zGo_s (pc' := 5) (st' := [.ref 1000]) (yd (j := 0) (ins := .aload_n 0) (len := 1) rfl rfl) rfl ?_
  refine zGo_s (pc' := 8) (st' := [.ref 1001, .ref 1000]) (hp' := [.inr (11, [.null, .null, .null, .null, .null, .int 0, .int 0, .int 0]), .inr (5, [.null, .null, .int 0, .int 0, .int 0, .int 0, .int 0, .long 0])]) (c' := 1) (z' := 8) (yd (j := 0) (ins := .new 7) (len := 3) rfl rfl) rfl ?_
  refine zGo_s (pc' := 9) (st' := [.ref 1001, .ref 1001, .ref 1000]) (yd (j := 0) (ins := .dup) (len := 1) rfl rfl) rfl ?_
  refine zGo_call (d := d + 44) (as := [.ref 1001]) (rest := [.ref 1001, .ref 1000]) (rv := none) (q' := (5, yX5_init, cX5_init, 4, none, 0, 1)) (yd (j := 0) (ins := .invokespecial 9) (len := 3) rfl rfl) rfl rfl rfl (g_scanner (d := d + 40)) ?_
  exact zGo_of (zXn_le fz L xs) (j := 0) (d := 40) rfl (by omega) pR1_is
