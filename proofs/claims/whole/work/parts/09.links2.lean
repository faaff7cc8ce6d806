/-! constants of the pool, arraycopy, the classes of arrays: more links -/
def zconC (cn : Nat) (q : Nat × Value × Nat) : Bool := match q.2.1 with
  | .int v => decide (lw_tbl[q.2.2]? = some (Cond.constant (Rn cn) q.1 v))
  | .long v => decide (lw_tbl[q.2.2]? = some (Cond.constantLong (Rn cn) q.1 v))
  | _ => false
def zcnT (cn : Nat) : List (Nat × Value × Nat) := match cn with
  | 3 => zconT_3
  | 4 => zconT_4
  | 10 => zconT_10
  | 12 => zconT_12
  | 13 => zconT_13
  | 14 => zconT_14
  | _ => []
set_option maxRecDepth 100000 in
theorem zconC_3 : zconT_3.all (zconC 3) = true := by decide +kernel
set_option maxRecDepth 100000 in
theorem zconC_4 : zconT_4.all (zconC 4) = true := by decide +kernel
set_option maxRecDepth 100000 in
theorem zconC_10 : zconT_10.all (zconC 10) = true := by decide +kernel
set_option maxRecDepth 100000 in
theorem zconC_12 : zconT_12.all (zconC 12) = true := by decide +kernel
set_option maxRecDepth 100000 in
theorem zconC_13 : zconT_13.all (zconC 13) = true := by decide +kernel
set_option maxRecDepth 100000 in
theorem zconC_14 : zconT_14.all (zconC 14) = true := by decide +kernel
theorem zconC_all (cn : Nat) : (zcnT cn).all (zconC cn) = true := by
  unfold zcnT
  split
  · exact zconC_3
  · exact zconC_4
  · exact zconC_10
  · exact zconC_12
  · exact zconC_13
  · exact zconC_14
  · rfl
def zcpT_2 : List (Nat × Nat) := [(33, 1056)]
def zcpT_3 : List (Nat × Nat) := [(314, 1176)]
def zcpT_7 : List (Nat × Nat) := [(28, 1048)]
def zcpT (cn : Nat) : List (Nat × Nat) := match cn with
  | 2 => zcpT_2
  | 3 => zcpT_3
  | 7 => zcpT_7
  | _ => []
def zcpC (cn : Nat) (q : Nat × Nat) : Bool := decide (lw_tbl[q.2]? = some (Cond.methodLink (Rn cn) q.1 arraycopyName))
set_option maxRecDepth 100000 in
theorem zcpC_2 : zcpT_2.all (zcpC 2) = true := by decide +kernel
set_option maxRecDepth 100000 in
theorem zcpC_3 : zcpT_3.all (zcpC 3) = true := by decide +kernel
set_option maxRecDepth 100000 in
theorem zcpC_7 : zcpT_7.all (zcpC 7) = true := by decide +kernel
theorem zcpC_all (cn : Nat) : (zcpT cn).all (zcpC cn) = true := by
  unfold zcpT
  split
  · exact zcpC_2
  · exact zcpC_3
  · exact zcpC_7
  · rfl
set_option maxRecDepth 100000 in
theorem zcp_native : Cond.native arraycopyName ∈ zWS := zin 1050 (by decide +kernel) rfl
set_option maxRecDepth 100000 in
theorem zcp_static : Cond.static arraycopyName ∈ zWS := zin 1049 (by decide +kernel) rfl
set_option maxRecDepth 100000 in
theorem zcp_init : Cond.initialized "java/lang/System" ∈ zWS := zin 170 (by decide +kernel) rfl
set_option maxRecDepth 100000 in
theorem zac_int : Cond.arrayClass .int ∈ zWS := zin 314 (by decide +kernel) rfl
set_option maxRecDepth 100000 in
theorem zac_byte : Cond.arrayClass .byte ∈ zWS := zin 265 (by decide +kernel) rfl
set_option maxRecDepth 100000 in
theorem zac_boolean : Cond.arrayClass .boolean ∈ zWS := zin 424 (by decide +kernel) rfl
set_option maxRecDepth 100000 in
theorem zac_long : Cond.arrayClass .long ∈ zWS := zin 266 (by decide +kernel) rfl
set_option maxRecDepth 100000 in
theorem zoi_inst : Cond.instanceMethod objectInit ∈ zWS := zin 177 (by decide +kernel) rfl
set_option maxRecDepth 100000 in
theorem zoi_code : Cond.code objectInit ⟨#[0xb1]⟩ 1 none ∈ zWS := zin 178 rfl rfl
set_option maxRecDepth 100000 in
theorem zmn_link : Cond.classLink RX9 9 "[[J" ∈ zWS := zin 595 (by decide +kernel) rfl
set_option maxRecDepth 100000 in
theorem zmN_link : Cond.methodLinkNest RX13 19 yX12_init RX13 ∈ lw_tbl := List.mem_of_getElem? (i := 1410) (by decide +kernel)
set_option maxRecDepth 100000 in
theorem zMx_l : Cond.methodLink (Rn 21) 92 Lib.Math.max.name ∈ zWS := zin 824 (by decide +kernel) rfl
set_option maxRecDepth 100000 in
theorem zMx_s : Cond.static Lib.Math.max.name ∈ zWS := zin 825 (by decide +kernel) rfl
set_option maxRecDepth 100000 in
theorem zMx_c : Cond.code Lib.Math.max.name Lib.Math.max.code 2 (some .int) ∈ zWS := zin 826 (by decide +kernel) rfl
set_option maxRecDepth 100000 in
theorem zMn_l : Cond.methodLink (Rn 21) 38 Lib.Math.min.name ∈ zWS := zin 827 (by decide +kernel) rfl
set_option maxRecDepth 100000 in
theorem zMn_s : Cond.static Lib.Math.min.name ∈ zWS := zin 828 (by decide +kernel) rfl
set_option maxRecDepth 100000 in
theorem zMn_c : Cond.code Lib.Math.min.name Lib.Math.min.code 2 (some .int) ∈ zWS := zin 829 (by decide +kernel) rfl
set_option maxRecDepth 100000 in
theorem zMa_i : Cond.initialized "java/lang/Math" ∈ zWS := zin 168 (by decide +kernel) rfl
