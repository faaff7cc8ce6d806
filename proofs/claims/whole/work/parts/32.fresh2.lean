/-! PearlHouseModel(), run by the kernel -/
def pR2 : Option zR := yrun zXn 3000 40 160 (0, [(0, .ref 1132)], [], pH1 ++ [.inr (13, zdef 13)], 0, 0)
def pH2 : List PE := match pR2 with
  | some r => r.2.1
  | none => []
set_option maxRecDepth 1000000 in
set_option maxHeartbeats 0 in
theorem pR2_ok : pR2.map (fun r => (r.1, r.2.1.length, r.2.2)) = some (none, 249, 116, 128054) := by decide +kernel
theorem pR2_is : pR2 = some (none, pH2, 116, 128054) := by
  have h := pR2_ok
  unfold pH2
  cases hr : pR2 with
  | none => rw [hr] at h; cases h
  | some r =>
    rw [hr] at h
    obtain ⟨r1, r2, r3, r4⟩ := r
    simp only [Option.map_some, Option.some.injEq, Prod.mk.injEq] at h
    obtain ⟨rfl, -, rfl, rfl⟩ := h
    rfl
/-- PearlHouseModel() -/
theorem g_model {fz : Bool} {L : Nat} {xs : Nat → Int32} {d : Nat} : zGo (zX fz L xs) (d + 45) (13, yX13_init, cX13_init, 1, none, 0, 1) (0, [(0, .ref 1132)], [], pH1 ++ [.inr (13, zdef 13)], 0, 0) (none, pH2, 116, 128054) := zGo_of (zXn_le fz L xs) (j := 160) (d := 40) rfl (by omega) pR2_is
