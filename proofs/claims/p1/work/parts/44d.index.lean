/-! String.indexOf -/
/-- the place of byte b in text k, from place i on, m places -/
def zixL (k : Nat) (b : Int32) : Nat → Nat → Int32
  | 0, _ => -1
  | m + 1, i => if (zbyt.getD k []).getD i 0 = b then nI i else zixL k b m (i + 1)
def zidx (k : Nat) (c : Int32) : Int32 := if c < 0 then -1 else if 255 < c then -1 else zixL k c.toInt8.toInt32 (zlen.getD k 0) 0
section ZIX
variable {fz : Bool} {L : Nat} {xs : Nat → Int32} {d k : Nat} {hp : List PE}
abbrev q_27 : zMI := (20, yJ0_indexOf_0f7a4, cJ0_indexOf_0f7a4, 2, some .int, 1, 0)
abbrev q_2 : zMI := (20, yJ0_length_8abf5, cJ0_length_8abf5, 1, some .int, 0, 0)
abbrev q_4 : zMI := (20, yJ0_charAt_5068e, cJ0_charAt_5068e, 2, some .char, 1, 0)
theorem g_indexOf (hk : decide (k < 51 ∧ 0 < zlen.getD k 0) = true) (c : Int32) : zGo (zX fz L xs) (d + 3) q_27 (0, [(0, .ref k), (1, .int c)], [], hp, 0, 0) (some (.int (zidx k c)), hp, 0, 0) := by
  sorry
end ZIX
