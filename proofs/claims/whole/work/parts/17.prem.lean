/-! the outside at the law's entry, out of the premises; the claim out of a run of my machine -/
def zFl : List Cond := flatC (Jvm.Cond.and given_1 narrow_1)
def zspk : List Nat := [21, 261, 281, 302, 309, 316, 324, 332, 340, 346, 353, 361, 369, 611, 617, 624, 630, 639, 646, 654, 660, 670, 676, 685, 693, 701, 709, 716, 724, 735, 743, 752, 761, 770, 776, 783, 791, 800, 811, 821, 829, 836, 844, 854, 865, 872, 880, 889, 897, 906, 914]
def zstm (k : Nat) : Term := match zstrT[k]? with
  | some q => Term.string (Rn q.1) q.2.1
  | none => .int 0
def zsC (k : Nat) : Bool := match zspk[k]? with
  | some p => decide (zFl[p]? = some (.exactly (zstm k) "java/lang/String")) && decide (zFl[p + 1]? = some (.eq (.field (zstm k) "java/lang/String" "coder" "B") (.int 0))) && decide (zFl[p + 2]? = some (.arrayOf (.field (zstm k) "java/lang/String" "value" "[B") .byte)) && decide (zFl[p + 3]? = some (.eq (.length (.field (zstm k) "java/lang/String" "value" "[B")) (.int (Int32.ofNat (zlen.getD k 0))))) &&
      (List.range (zlen.getD k 0)).all (fun j => decide (zFl[p + 4 + j]? = some (.eq (.elem (.field (zstm k) "java/lang/String" "value" "[B") (.int (Int32.ofNat j))) (.int ((zbyt.getD k []).getD j 0)))))
  | none => false
set_option maxRecDepth 100000 in
theorem zsC_0 : ((List.range 17).drop 0).all zsC = true := by decide +kernel
set_option maxRecDepth 100000 in
theorem zsC_1 : ((List.range 34).drop 17).all zsC = true := by decide +kernel
set_option maxRecDepth 100000 in
theorem zsC_2 : ((List.range 51).drop 34).all zsC = true := by decide +kernel
theorem zsC_all {k : Nat} (h : k < 51) : zsC k = true := by
  have key : ∀ (a b : Nat), ((List.range b).drop a).all zsC = true → a ≤ k → k < b → zsC k = true := by
    intro a b hb h1 h2
    refine List.all_eq_true.mp hb k ?_
    rw [List.mem_iff_getElem?]
    exact ⟨k - a, by rw [List.getElem?_drop, show a + (k - a) = k by omega, List.getElem?_range h2]⟩
  rcases Nat.lt_or_ge k 17 with h1 | h1
  · exact key 0 17 zsC_0 (Nat.zero_le _) h1
  · rcases Nat.lt_or_ge k 34 with h2 | h2
    · exact key 17 34 zsC_1 h1 h2
    · exact key 34 51 zsC_2 h2 h
theorem zsLen {k : Nat} (h : k < 51) : zlen.getD k 0 < 2 ^ 31 := by
  have h1 : (List.range 51).all (fun k => decide (zlen.getD k 0 < 2 ^ 31)) = true := by decide +kernel
  exact of_decide_eq_true (List.all_eq_true.mp h1 k (List.mem_range.mpr h))
set_option maxRecDepth 100000 in
theorem zfM : decide (zFl[10]? = some (.arrayOf (.static "PearlHouse" "MOST_OF_SORT" "[I") .int)) && decide (zFl[11]? = some (.eq (.length (.static "PearlHouse" "MOST_OF_SORT" "[I")) (.int 9))) && (List.range 9).all (fun j => decide (zFl[12 + j]? = some (.eq (.elem (.static "PearlHouse" "MOST_OF_SORT" "[I") (.int (Int32.ofNat j))) (.int (zmost.getD j 0))))) = true := by decide +kernel
set_option maxRecDepth 100000 in
theorem zfC : zFl[4]? = some (.eq (.static "java/lang/String" "COMPACT_STRINGS" "Z") (.int 1)) := by decide +kernel
set_option maxRecDepth 100000 in
theorem zfS : zFl[5]? = some (.isRef (.static "jdk/internal/util/Preconditions" "SIOOBE_FORMATTER" "Ljava/util/function/BiFunction;")) := by decide +kernel
set_option maxRecDepth 100000 in
theorem zlw_ms : Cond.laysStatic "PearlHouse" "MOST_OF_SORT" "[I" ∈ lw_tbl := List.mem_of_getElem? (i := 882) (by decide +kernel)
set_option maxRecDepth 100000 in
theorem zlw_cs : Cond.laysStatic "java/lang/String" "COMPACT_STRINGS" "Z" ∈ lw_tbl := List.mem_of_getElem? (i := 195) (by decide +kernel)
set_option maxRecDepth 100000 in
theorem zlw_sf : Cond.laysStatic "jdk/internal/util/Preconditions" "SIOOBE_FORMATTER" "Ljava/util/function/BiFunction;" ∈ lw_tbl := List.mem_of_getElem? (i := 211) (by decide +kernel)
set_option maxRecDepth 100000 in
theorem zlw_ip : Cond.initialized "PearlHouse" ∈ lw_tbl := List.mem_of_getElem? (i := 149) (by decide +kernel)
set_option maxRecDepth 100000 in
theorem zlw_is : Cond.initialized "java/lang/String" ∈ lw_tbl := List.mem_of_getElem? (i := 151) (by decide +kernel)
set_option maxRecDepth 100000 in
theorem zlw_if : Cond.initialized "jdk/internal/util/Preconditions" ∈ lw_tbl := List.mem_of_getElem? (i := 153) (by decide +kernel)
set_option maxRecDepth 100000 in
theorem zlw_ao : Cond.arrayOver (.object RX8) ∈ lw_tbl := List.mem_of_getElem? (i := 322) (by decide +kernel)
set_option maxRecDepth 100000 in
theorem zlw_al : Cond.arrayOver (.array .long) ∈ lw_tbl := List.mem_of_getElem? (i := 596) (by decide +kernel)
