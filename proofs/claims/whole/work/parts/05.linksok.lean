/-! the tables of the part before say what the words say -/
/-- the words that hold in every later state -/
def zWS : List Cond := lw_tbl.filter goodWord
theorem zin {w : Cond} (i : Nat) (h : lw_tbl[i]? = some w) (g : goodWord w = true) : w ∈ zWS := List.mem_filter.mpr ⟨List.mem_of_getElem? h, g⟩
theorem zGI {y : MethodName} {cc : ByteArray} {n : Nat} {ret : Option FieldType} (h : Cond.code y cc n ret ∈ zWS) : GoodIn zWS (Cond.code y cc n ret :: zWS) := by
  have key : ∀ w ∈ zWS, w ∈ zWS ∧ ((w.onTables && w.keeps) = true ∨ ∃ ty, w = .arrayClass ty) := fun w hw => ⟨hw, good_of_word (List.mem_filter.mp hw).2⟩
  intro w hw
  rcases List.mem_cons.mp hw with rfl | hw
  · exact key _ h
  · exact key _ hw
def zfldC (cn : Nat) (q : Nat × Nat × Nat × Nat) : Bool := decide (lw_tbl[q.2.2.2]? = some (Cond.fieldLink (Rn cn) q.1 (Rn q.2.1) (zTf q.2.1 q.2.2.1).2.1 (zTf q.2.1 q.2.2.1).2.2.1)) && decide (q.2.1 < 14) && decide (q.2.2.1 < zNf q.2.1) && decide ((zTf q.2.1 q.2.2.1).1 = Rn q.2.1)
set_option maxRecDepth 100000 in
theorem zfldC_0 : (zfldT_0).all (zfldC 0) = true := by decide +kernel
set_option maxRecDepth 100000 in
theorem zfldC_1 : (zfldT_1).all (zfldC 1) = true := by decide +kernel
set_option maxRecDepth 100000 in
theorem zfldC_2 : (zfldT_2).all (zfldC 2) = true := by decide +kernel
set_option maxRecDepth 100000 in
theorem zfldC_3 : (zfldT_3).all (zfldC 3) = true := by decide +kernel
set_option maxRecDepth 100000 in
theorem zfldC_4 : (zfldT_4).all (zfldC 4) = true := by decide +kernel
set_option maxRecDepth 100000 in
theorem zfldC_5 : (zfldT_5).all (zfldC 5) = true := by decide +kernel
set_option maxRecDepth 100000 in
theorem zfldC_6 : (zfldT_6).all (zfldC 6) = true := by decide +kernel
set_option maxRecDepth 100000 in
theorem zfldC_7 : (zfldT_7).all (zfldC 7) = true := by decide +kernel
set_option maxRecDepth 100000 in
theorem zfldC_8 : (zfldT_8).all (zfldC 8) = true := by decide +kernel
set_option maxRecDepth 100000 in
theorem zfldC_9 : (zfldT_9).all (zfldC 9) = true := by decide +kernel
set_option maxRecDepth 100000 in
theorem zfldC_10 : (zfldT_10).all (zfldC 10) = true := by decide +kernel
set_option maxRecDepth 100000 in
theorem zfldC_11 : (zfldT_11).all (zfldC 11) = true := by decide +kernel
set_option maxRecDepth 100000 in
theorem zfldC_12 : (zfldT_12).all (zfldC 12) = true := by decide +kernel
set_option maxRecDepth 100000 in
theorem zfldC_13 : (zfldT_13).all (zfldC 13) = true := by decide +kernel
theorem zfldC_all (cn : Nat) : (zfldT cn).all (zfldC cn) = true := by
  unfold zfldT
  split
  · exact zfldC_0
  · exact zfldC_1
  · exact zfldC_2
  · exact zfldC_3
  · exact zfldC_4
  · exact zfldC_5
  · exact zfldC_6
  · exact zfldC_7
  · exact zfldC_8
  · exact zfldC_9
  · exact zfldC_10
  · exact zfldC_11
  · exact zfldC_12
  · exact zfldC_13
  · rfl
def zfnC (q : Nat × Nat × Nat × Nat) : Bool := decide (lw_tbl[q.2.2.2]? = some (Cond.fieldLinkNest (Rn 13) q.1 (Rn q.2.1) (zTf q.2.1 q.2.2.1).2.1 (zTf q.2.1 q.2.2.1).2.2.1 (Rn 13))) && decide (q.2.1 < 14) && decide (q.2.2.1 < zNf q.2.1) && decide ((zTf q.2.1 q.2.2.1).1 = Rn q.2.1)
set_option maxRecDepth 100000 in
theorem zfnC_13 : (zfnT_13).all zfnC = true := by decide +kernel
def zclsC (cn : Nat) (q : Nat × Nat × Nat) : Bool := decide (lw_tbl[q.2.2]? = some (Cond.classLink (Rn cn) q.1 (Rn q.2.1))) && decide (q.2.1 < 14)
set_option maxRecDepth 100000 in
theorem zclsC_3 : (zclsT_3).all (zclsC 3) = true := by decide +kernel
set_option maxRecDepth 100000 in
theorem zclsC_9 : (zclsT_9).all (zclsC 9) = true := by decide +kernel
set_option maxRecDepth 100000 in
theorem zclsC_11 : (zclsT_11).all (zclsC 11) = true := by decide +kernel
set_option maxRecDepth 100000 in
theorem zclsC_13 : (zclsT_13).all (zclsC 13) = true := by decide +kernel
set_option maxRecDepth 100000 in
theorem zclsC_14 : (zclsT_14).all (zclsC 14) = true := by decide +kernel
theorem zclsC_all (cn : Nat) : (zclsT cn).all (zclsC cn) = true := by
  unfold zclsT
  split
  · exact zclsC_3
  · exact zclsC_9
  · exact zclsC_11
  · exact zclsC_13
  · exact zclsC_14
  · rfl
def ziiC (ci : Nat) : Bool := decide ((zinsW[ci]?).bind (fun i => lw_tbl[i]?) = some (Cond.instantiable (Rn ci) (zNf ci))) && decide ((ziniW[ci]?).bind (fun i => lw_tbl[i]?) = some (Cond.initialized (Rn ci)))
set_option maxRecDepth 100000 in
theorem ziiC_all : (List.range 14).all ziiC = true := by decide +kernel
def zobjC (cn : Nat) (q : Nat × Nat) : Bool := decide (lw_tbl[q.2]? = some (Cond.methodLink (Rn cn) q.1 objectInit))
set_option maxRecDepth 100000 in
theorem zobjC_0 : (zobjT_0).all (zobjC 0) = true := by decide +kernel
set_option maxRecDepth 100000 in
theorem zobjC_1 : (zobjT_1).all (zobjC 1) = true := by decide +kernel
set_option maxRecDepth 100000 in
theorem zobjC_2 : (zobjT_2).all (zobjC 2) = true := by decide +kernel
set_option maxRecDepth 100000 in
theorem zobjC_3 : (zobjT_3).all (zobjC 3) = true := by decide +kernel
set_option maxRecDepth 100000 in
theorem zobjC_4 : (zobjT_4).all (zobjC 4) = true := by decide +kernel
set_option maxRecDepth 100000 in
theorem zobjC_5 : (zobjT_5).all (zobjC 5) = true := by decide +kernel
set_option maxRecDepth 100000 in
theorem zobjC_6 : (zobjT_6).all (zobjC 6) = true := by decide +kernel
set_option maxRecDepth 100000 in
theorem zobjC_7 : (zobjT_7).all (zobjC 7) = true := by decide +kernel
set_option maxRecDepth 100000 in
theorem zobjC_8 : (zobjT_8).all (zobjC 8) = true := by decide +kernel
set_option maxRecDepth 100000 in
theorem zobjC_9 : (zobjT_9).all (zobjC 9) = true := by decide +kernel
set_option maxRecDepth 100000 in
theorem zobjC_10 : (zobjT_10).all (zobjC 10) = true := by decide +kernel
set_option maxRecDepth 100000 in
theorem zobjC_11 : (zobjT_11).all (zobjC 11) = true := by decide +kernel
set_option maxRecDepth 100000 in
theorem zobjC_12 : (zobjT_12).all (zobjC 12) = true := by decide +kernel
set_option maxRecDepth 100000 in
theorem zobjC_13 : (zobjT_13).all (zobjC 13) = true := by decide +kernel
theorem zobjC_all (cn : Nat) : (zobjT cn).all (zobjC cn) = true := by
  unfold zobjT
  split
  · exact zobjC_0
  · exact zobjC_1
  · exact zobjC_2
  · exact zobjC_3
  · exact zobjC_4
  · exact zobjC_5
  · exact zobjC_6
  · exact zobjC_7
  · exact zobjC_8
  · exact zobjC_9
  · exact zobjC_10
  · exact zobjC_11
  · exact zobjC_12
  · exact zobjC_13
  · rfl
def zmthC (cn : Nat) (q : Nat × Nat × Nat) : Bool := match zmi q.2.1 with
  | some (_, y, _) => decide (lw_tbl[q.2.2]? = some (Cond.methodLink (Rn cn) q.1 y))
  | none => false
set_option maxRecDepth 100000 in
theorem zmthC_2 : (zmthT_2).all (zmthC 2) = true := by decide +kernel
set_option maxRecDepth 100000 in
theorem zmthC_3 : (zmthT_3).all (zmthC 3) = true := by decide +kernel
set_option maxRecDepth 100000 in
theorem zmthC_4 : (zmthT_4).all (zmthC 4) = true := by decide +kernel
set_option maxRecDepth 100000 in
theorem zmthC_5 : (zmthT_5).all (zmthC 5) = true := by decide +kernel
set_option maxRecDepth 100000 in
theorem zmthC_7 : (zmthT_7).all (zmthC 7) = true := by decide +kernel
set_option maxRecDepth 100000 in
theorem zmthC_9 : (zmthT_9).all (zmthC 9) = true := by decide +kernel
set_option maxRecDepth 100000 in
theorem zmthC_10 : (zmthT_10).all (zmthC 10) = true := by decide +kernel
set_option maxRecDepth 100000 in
theorem zmthC_11 : (zmthT_11).all (zmthC 11) = true := by decide +kernel
set_option maxRecDepth 100000 in
theorem zmthC_13 : (zmthT_13).all (zmthC 13) = true := by decide +kernel
set_option maxRecDepth 100000 in
theorem zmthC_14 : (zmthT_14).all (zmthC 14) = true := by decide +kernel
set_option maxRecDepth 100000 in
theorem zmthC_20 : (zmthT_20).all (zmthC 20) = true := by decide +kernel
set_option maxRecDepth 100000 in
theorem zmthC_21 : (zmthT_21).all (zmthC 21) = true := by decide +kernel
set_option maxRecDepth 100000 in
theorem zmthC_22 : (zmthT_22).all (zmthC 22) = true := by decide +kernel
set_option maxRecDepth 100000 in
theorem zmthC_27 : (zmthT_27).all (zmthC 27) = true := by decide +kernel
theorem zmthC_all (cn : Nat) : (zmthT cn).all (zmthC cn) = true := by
  unfold zmthT
  split
  · exact zmthC_2
  · exact zmthC_3
  · exact zmthC_4
  · exact zmthC_5
  · exact zmthC_7
  · exact zmthC_9
  · exact zmthC_10
  · exact zmthC_11
  · exact zmthC_13
  · exact zmthC_14
  · exact zmthC_20
  · exact zmthC_21
  · exact zmthC_22
  · exact zmthC_27
  · rfl
def zmC (q : Nat × MethodName × ByteArray × Nat × Option FieldType × Nat × Nat) (w : Nat × Nat × Nat × Nat) : Bool := (match q.2.2.2.2.2.2 with
  | 0 => decide (lw_tbl[w.2.1]? = some (Cond.instanceMethod q.2.1)) && decide (lw_tbl[w.2.2.1]? = some (Cond.selects q.2.1.cls q.2.1 q.2.1)) && (decide (q.1 < 14) || decide (q.1 = 20))
  | 1 => decide (lw_tbl[w.2.1]? = some (Cond.instanceMethod q.2.1)) && decide (q.2.1.name = "<init>") && decide (q.2.2.2.2.1 = none)
  | _ => decide (lw_tbl[w.2.1]? = some (Cond.static q.2.1))) && decide (lw_tbl[w.2.2.2]? = some (Cond.initialized q.2.1.cls)) && decide (q.2.1.cls = Rn q.1) && plainName q.2.1.cls && decide (q.2.1.cls ≠ "java/lang/invoke/MethodHandle") && decide (q.2.1.cls ≠ "java/lang/invoke/VarHandle") && decide ((parseMethodDescriptor q.2.1.desc).map (fun d => d.parameters.length) = some q.2.2.2.2.2.1) && decide (q.2.2.2.1 ≤ 22)
set_option maxRecDepth 100000 in
theorem zmC_0 : (zmeth_0.zip zmw_0).all (fun q => zmC q.1 q.2) = true := by decide +kernel
set_option maxRecDepth 100000 in
theorem zcode_0 : zmeth_0.map (fun q => some (Cond.code q.2.1 q.2.2.1 q.2.2.2.1 q.2.2.2.2.1)) = zmw_0.map (fun w => lw_tbl[w.1]?) := rfl
set_option maxRecDepth 100000 in
theorem zmC_1 : (zmeth_1.zip zmw_1).all (fun q => zmC q.1 q.2) = true := by decide +kernel
set_option maxRecDepth 100000 in
theorem zcode_1 : zmeth_1.map (fun q => some (Cond.code q.2.1 q.2.2.1 q.2.2.2.1 q.2.2.2.2.1)) = zmw_1.map (fun w => lw_tbl[w.1]?) := rfl
set_option maxRecDepth 100000 in
theorem zmC_2 : (zmeth_2.zip zmw_2).all (fun q => zmC q.1 q.2) = true := by decide +kernel
set_option maxRecDepth 100000 in
theorem zcode_2 : zmeth_2.map (fun q => some (Cond.code q.2.1 q.2.2.1 q.2.2.2.1 q.2.2.2.2.1)) = zmw_2.map (fun w => lw_tbl[w.1]?) := rfl
set_option maxRecDepth 100000 in
theorem zmC_3 : (zmeth_3.zip zmw_3).all (fun q => zmC q.1 q.2) = true := by decide +kernel
set_option maxRecDepth 100000 in
theorem zcode_3 : zmeth_3.map (fun q => some (Cond.code q.2.1 q.2.2.1 q.2.2.2.1 q.2.2.2.2.1)) = zmw_3.map (fun w => lw_tbl[w.1]?) := rfl
set_option maxRecDepth 100000 in
theorem zmC_4 : (zmeth_4.zip zmw_4).all (fun q => zmC q.1 q.2) = true := by decide +kernel
set_option maxRecDepth 100000 in
theorem zcode_4 : zmeth_4.map (fun q => some (Cond.code q.2.1 q.2.2.1 q.2.2.2.1 q.2.2.2.2.1)) = zmw_4.map (fun w => lw_tbl[w.1]?) := rfl
set_option maxRecDepth 100000 in
theorem zmC_5 : (zmeth_5.zip zmw_5).all (fun q => zmC q.1 q.2) = true := by decide +kernel
set_option maxRecDepth 100000 in
theorem zcode_5 : zmeth_5.map (fun q => some (Cond.code q.2.1 q.2.2.1 q.2.2.2.1 q.2.2.2.2.1)) = zmw_5.map (fun w => lw_tbl[w.1]?) := rfl
set_option maxRecDepth 100000 in
theorem zmC_6 : (zmeth_6.zip zmw_6).all (fun q => zmC q.1 q.2) = true := by decide +kernel
set_option maxRecDepth 100000 in
theorem zcode_6 : zmeth_6.map (fun q => some (Cond.code q.2.1 q.2.2.1 q.2.2.2.1 q.2.2.2.2.1)) = zmw_6.map (fun w => lw_tbl[w.1]?) := rfl
set_option maxRecDepth 100000 in
theorem zmC_7 : (zmeth_7.zip zmw_7).all (fun q => zmC q.1 q.2) = true := by decide +kernel
set_option maxRecDepth 100000 in
theorem zcode_7 : zmeth_7.map (fun q => some (Cond.code q.2.1 q.2.2.1 q.2.2.2.1 q.2.2.2.2.1)) = zmw_7.map (fun w => lw_tbl[w.1]?) := rfl
/-- what the tables say of a method -/
def zmOK (q : Nat × MethodName × ByteArray × Nat × Option FieldType × Nat × Nat) : Prop := ∃ w : Nat × Nat × Nat × Nat, zmC q w = true ∧ lw_tbl[w.1]? = some (Cond.code q.2.1 q.2.2.1 q.2.2.2.1 q.2.2.2.2.1)
theorem zchunk {ms : List (Nat × MethodName × ByteArray × Nat × Option FieldType × Nat × Nat)} {ws : List (Nat × Nat × Nat × Nat)} (h1 : (ms.zip ws).all (fun q => zmC q.1 q.2) = true) (h2 : ms.map (fun q => some (Cond.code q.2.1 q.2.2.1 q.2.2.2.1 q.2.2.2.2.1)) = ws.map (fun w => lw_tbl[w.1]?)) {i : Nat} {q : Nat × MethodName × ByteArray × Nat × Option FieldType × Nat × Nat} (hq : ms[i]? = some q) : zmOK q := by
  have e := congrArg (fun l => l[i]?) h2
  simp only [List.getElem?_map, hq, Option.map_some] at e
  cases hw : ws[i]? with
  | none => rw [hw] at e; cases e
  | some w =>
    rw [hw] at e
    have hz : (ms.zip ws)[i]? = some (q, w) := by rw [List.getElem?_zip_eq_some]; exact ⟨hq, hw⟩
    exact ⟨w, List.all_eq_true.mp h1 _ (List.mem_of_getElem? hz), (Option.some.inj e).symm⟩
theorem zmi_ok {j : Nat} {q : Nat × MethodName × ByteArray × Nat × Option FieldType × Nat × Nat} (h : zmi j = some q) : zmOK q := by
  unfold zmi at h
  split at h
  · exact zchunk zmC_0 zcode_0 h
  · exact zchunk zmC_1 zcode_1 h
  · exact zchunk zmC_2 zcode_2 h
  · exact zchunk zmC_3 zcode_3 h
  · exact zchunk zmC_4 zcode_4 h
  · exact zchunk zmC_5 zcode_5 h
  · exact zchunk zmC_6 zcode_6 h
  · exact zchunk zmC_7 zcode_7 h
  · cases h
