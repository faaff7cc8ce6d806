/-! numbers of 64 bits -/
section ZNU
theorem bm64 {v : Int} (h1 : -(2 ^ 62) ≤ v) (h2 : v ≤ 2 ^ 62) : v.bmod (2 ^ 64) = v := by
  apply Int.bmod_eq_of_le <;> omega
theorem i32b (a : Int32) : -(2 ^ 31) ≤ a.toInt ∧ a.toInt < 2 ^ 31 := ⟨a.le_toInt, a.toInt_lt⟩
/-- a rest fits -/
theorem fit_mod (a b : Int32) (hb : ¬ b.toInt64 = 0) : a.toInt64 - a.toInt64 / b.toInt64 * b.toInt64 = (a % b).toInt64 := by
  apply Int64.toInt_inj.mp
  have ha2 := i32b a
  have hb2 := i32b b
  have hb0 : b.toInt ≠ 0 := fun q => hb (Int64.toInt_inj.mp (by rw [Int32.toInt_toInt64, q]; rfl))
  rw [Int64.toInt_sub, Int64.toInt_mul, Int64.toInt_div, Int32.toInt_toInt64, Int32.toInt_toInt64, Int32.toInt_toInt64, Int32.toInt_mod]
  have e := Int.mul_tdiv_add_tmod a.toInt b.toInt
  have h1 : (a.toInt.tdiv b.toInt).natAbs ≤ a.toInt.natAbs := Int.natAbs_tdiv_le_natAbs _ _
  have h2 : (a.toInt.tmod b.toInt).natAbs < b.toInt.natAbs := by
    rw [Int.natAbs_tmod]
    exact Nat.mod_lt _ (by omega)
  rw [bm64 (v := a.toInt.tdiv b.toInt) (by omega) (by omega)]
  rw [Int.mul_comm] at e
  rw [bm64 (v := a.toInt.tdiv b.toInt * b.toInt) (by omega) (by omega), bm64 (by omega) (by omega)]
  omega
theorem fits (a : Int32) : a.toInt64 = a.toInt64.toInt32.toInt64 := by rw [Int32.toInt32_toInt64]
theorem fit1 : (1 : Int64) = (1 : Int64).toInt32.toInt64 := by decide
theorem fit0 : (0 : Int64) = (0 : Int64).toInt32.toInt64 := by decide
theorem i64_0 {a : Int32} : a.toInt64 = 0 ↔ a = 0 := by
  constructor
  · intro h
    have := congrArg Int64.toInt32 h
    rw [Int32.toInt32_toInt64] at this
    exact this
  · rintro rfl
    rfl
theorem i64_lt0 {a : Int32} : a.toInt64 < 0 ↔ a < 0 := Int32.toInt64_lt (a := a) (b := 0)
theorem i64_lt {a b : Int32} : a.toInt64 < b.toInt64 ↔ a < b := Int32.toInt64_lt
theorem i64_m1 {z : Nat} (h : z < 2 ^ 31) : ¬ (nI z).toInt64 = -1 := Int32.toInt64_ne_neg_one _ (fun q => (neqM h).mp q)
end ZNU
