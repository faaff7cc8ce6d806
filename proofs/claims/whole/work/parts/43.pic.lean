/-! the heap as a picture of two states: the class's (addresses 1000 .. 1131) and the reference's (1132 .. 1248) -/
abbrev zσ : Type := (Nat → Nat → Int32) × (Nat → Nat → Int64) × (Nat → Nat → Option Nat)
/-- (0, class, fields), (1, kind, length) of ints, (2, 3, length) of longs, (3, kind, length) of references -/
def zSH : List (Nat × Nat × Nat) := [(0, 11, 8), (0, 5, 8), (1, 1, 4000), (2, 3, 47), (0, 4, 13), (1, 0, 9), (2, 3, 3), (0, 3, 18), (3, 4, 8), (0, 7, 5), (1, 0, 8), (1, 0, 4), (1, 0, 4), (1, 0, 80), (0, 2, 7), (1, 0, 4), (1, 0, 4), (1, 0, 32), (1, 0, 80), (1, 0, 4), (1, 0, 160), (1, 0, 4), (0, 10, 7), (1, 0, 16), (1, 0, 16), (1, 0, 16), (1, 0, 16), (1, 2, 4), (1, 2, 4), (1, 0, 4), (0, 1, 10), (1, 0, 200), (1, 0, 300), (1, 0, 64), (1, 0, 8), (1, 0, 8), (0, 8, 13), (1, 0, 9), (1, 0, 27), (0, 8, 13), (1, 0, 9), (1, 0, 27), (0, 8, 13), (1, 0, 9), (1, 0, 27), (0, 8, 13), (1, 0, 9), (1, 0, 27), (0, 8, 13), (1, 0, 9), (1, 0, 27), (0, 8, 13), (1, 0, 9), (1, 0, 27), (0, 8, 13), (1, 0, 9), (1, 0, 27), (0, 8, 13), (1, 0, 9), (1, 0, 27), (0, 9, 11), (3, 5, 9), (2, 3, 8), (2, 3, 8), (2, 3, 8), (2, 3, 8), (2, 3, 8), (2, 3, 8), (2, 3, 8), (2, 3, 8), (2, 3, 8), (1, 0, 9), (1, 0, 8), (1, 0, 4), (1, 0, 8), (1, 2, 8), (1, 0, 8), (1, 0, 6), (1, 0, 6), (0, 6, 12), (1, 0, 200), (1, 0, 200), (1, 0, 200), (1, 0, 200), (1, 0, 200), (1, 0, 200), (1, 0, 200), (1, 0, 400), (1, 0, 400), (0, 0, 7), (1, 0, 700), (1, 0, 700), (1, 0, 700), (1, 0, 700), (1, 0, 700), (1, 0, 700), (0, 9, 11), (3, 5, 9), (2, 3, 8), (2, 3, 8), (2, 3, 8), (2, 3, 8), (2, 3, 8), (2, 3, 8), (2, 3, 8), (2, 3, 8), (2, 3, 8), (1, 0, 9), (1, 0, 8), (1, 0, 4), (1, 0, 8), (1, 2, 8), (1, 0, 8), (1, 0, 6), (1, 0, 6), (0, 6, 12), (1, 0, 200), (1, 0, 200), (1, 0, 200), (1, 0, 200), (1, 0, 200), (1, 0, 200), (1, 0, 200), (1, 0, 400), (1, 0, 400), (0, 0, 7), (1, 0, 700), (1, 0, 700), (1, 0, 700), (1, 0, 700), (1, 0, 700), (1, 0, 700), (0, 13, 74), (1, 0, 4000), (0, 12, 42), (2, 3, 60), (1, 0, 60), (1, 0, 60), (1, 0, 9), (1, 0, 8), (1, 0, 4), (1, 0, 8), (1, 0, 8), (1, 2, 8), (1, 0, 6), (1, 0, 6), (2, 3, 18), (1, 0, 2000), (1, 0, 40000), (1, 0, 200), (1, 0, 200), (1, 0, 200), (1, 0, 200), (1, 0, 200), (1, 0, 200), (1, 0, 800), (1, 0, 800), (1, 0, 200), (1, 0, 200), (1, 0, 401), (1, 0, 401), (1, 0, 900), (1, 0, 900), (2, 3, 1400), (1, 0, 1400), (1, 0, 1400), (1, 0, 1400), (1, 0, 1400), (1, 0, 1400), (1, 0, 1400), (0, 12, 42), (2, 3, 60), (1, 0, 60), (1, 0, 60), (1, 0, 9), (1, 0, 8), (1, 0, 4), (1, 0, 8), (1, 0, 8), (1, 2, 8), (1, 0, 6), (1, 0, 6), (2, 3, 18), (1, 0, 2000), (1, 0, 40000), (1, 0, 200), (1, 0, 200), (1, 0, 200), (1, 0, 200), (1, 0, 200), (1, 0, 200), (1, 0, 800), (1, 0, 800), (1, 0, 200), (1, 0, 200), (1, 0, 401), (1, 0, 401), (1, 0, 900), (1, 0, 900), (2, 3, 1400), (1, 0, 1400), (1, 0, 1400), (1, 0, 1400), (1, 0, 1400), (1, 0, 1400), (1, 0, 1400), (1, 0, 9), (1, 0, 8), (1, 0, 4), (1, 0, 5), (1, 0, 100), (1, 0, 4), (1, 0, 4), (1, 0, 32), (1, 2, 4), (1, 2, 4), (1, 0, 4), (1, 0, 80), (1, 0, 4), (1, 0, 160), (1, 0, 4), (1, 0, 200), (1, 0, 100), (1, 0, 100), (1, 0, 100), (1, 0, 8), (1, 0, 8), (1, 0, 8), (1, 0, 8), (1, 0, 8), (1, 0, 8), (1, 0, 8), (1, 0, 8), (1, 0, 8), (1, 0, 8), (1, 0, 8), (1, 0, 1120), (1, 0, 1120), (1, 2, 1120), (1, 0, 3360), (1, 2, 16), (1, 0, 16), (1, 0, 16), (1, 0, 16), (1, 0, 16), (2, 3, 420), (1, 0, 3), (1, 0, 16), (1, 0, 3)]
def zsh (a : Nat) : Nat × Nat × Nat := zSH.getD (a - 1000) (9, 9, 0)
/-- of a class's fields: 0 an int, 1 a long, 2 a final reference, 3 another one -/
def zTg (ci : Nat) : List Nat := match ci with
  | 0 => [2, 2, 2, 2, 2, 2, 0]
  | 1 => [2, 2, 0, 0, 0, 0, 0, 0, 0, 0]
  | 2 => [2, 2, 2, 2, 2, 2, 2]
  | 3 => [2, 2, 2, 2, 2, 2, 2, 2, 3, 3, 3, 0, 0, 0, 0, 0, 0, 0]
  | 4 => [2, 2, 2, 0, 3, 3, 3, 0, 0, 0, 0, 0, 0]
  | 5 => [2, 2, 0, 0, 0, 0, 0, 1]
  | 6 => [2, 2, 2, 2, 2, 2, 2, 2, 2, 0, 0, 0]
  | 7 => [2, 2, 2, 2, 0]
  | 8 => [0, 2, 2, 0, 0, 0, 0, 0, 0, 0, 0, 0, 0]
  | 9 => [2, 2, 2, 2, 2, 2, 2, 2, 2, 2, 2]
  | 10 => [2, 2, 2, 2, 2, 2, 2]
  | 11 => [2, 2, 2, 3, 3, 0, 0, 0]
  | 12 => [0, 2, 2, 2, 2, 2, 2, 2, 2, 2, 2, 2, 2, 0, 2, 2, 0, 2, 2, 2, 2, 2, 2, 2, 2, 2, 2, 0, 0, 2, 2, 0, 2, 2, 0, 2, 2, 2, 2, 2, 2, 2]
  | 13 => [2, 0, 0, 0, 0, 0, 1, 0, 0, 0, 0, 3, 3, 0, 0, 0, 2, 0, 0, 0, 0, 0, 0, 0, 0, 0, 0, 0, 0, 0, 0, 2, 2, 2, 2, 2, 2, 2, 2, 2, 2, 2, 2, 2, 2, 2, 2, 2, 2, 2, 2, 2, 2, 2, 2, 2, 2, 2, 2, 2, 2, 2, 2, 2, 2, 2, 2, 2, 2, 0, 2, 2, 2, 2]
  | _ => []
/-- what the final references are, by place and field -/
def zR0L : List (List Nat) := [[1001, 1004, 1007, 0, 0, 0, 0, 0], [1002, 1003, 0, 0, 0, 0, 0, 0], [], [], [1001, 1005, 1006, 0, 0, 0, 0, 0, 0, 0, 0, 0, 0], [], [], [1008, 1009, 1014, 1022, 1030, 1033, 1034, 1035, 0, 0, 0, 0, 0, 0, 0, 0, 0, 0], [], [1010, 1011, 1012, 1013, 0], [], [], [], [], [1015, 1016, 1017, 1018, 1019, 1020, 1021], [], [], [], [], [], [], [], [1023, 1024, 1025, 1026, 1027, 1028, 1029], [], [], [], [], [], [], [], [1031, 1032, 0, 0, 0, 0, 0, 0, 0, 0], [], [], [], [], [], [0, 1037, 1038, 0, 0, 0, 0, 0, 0, 0, 0, 0, 0], [], [], [0, 1040, 1041, 0, 0, 0, 0, 0, 0, 0, 0, 0, 0], [], [], [0, 1043, 1044, 0, 0, 0, 0, 0, 0, 0, 0, 0, 0], [], [], [0, 1046, 1047, 0, 0, 0, 0, 0, 0, 0, 0, 0, 0], [], [], [0, 1049, 1050, 0, 0, 0, 0, 0, 0, 0, 0, 0, 0], [], [], [0, 1052, 1053, 0, 0, 0, 0, 0, 0, 0, 0, 0, 0], [], [], [0, 1055, 1056, 0, 0, 0, 0, 0, 0, 0, 0, 0, 0], [], [], [0, 1058, 1059, 0, 0, 0, 0, 0, 0, 0, 0, 0, 0], [], [], [1061, 1071, 1072, 1073, 1074, 1075, 1076, 1077, 1078, 1079, 1089], [], [], [], [], [], [], [], [], [], [], [], [], [], [], [], [], [], [], [1080, 1081, 1082, 1083, 1084, 1085, 1086, 1087, 1088, 0, 0, 0], [], [], [], [], [], [], [], [], [], [1090, 1091, 1092, 1093, 1094, 1095, 0], [], [], [], [], [], [], [1097, 1107, 1108, 1109, 1110, 1111, 1112, 1113, 1114, 1115, 1125], [], [], [], [], [], [], [], [], [], [], [], [], [], [], [], [], [], [], [1116, 1117, 1118, 1119, 1120, 1121, 1122, 1123, 1124, 0, 0, 0], [], [], [], [], [], [], [], [], [], [1126, 1127, 1128, 1129, 1130, 1131, 0], [], [], [], [], [], [], [1133, 0, 0, 0, 0, 0, 0, 0, 0, 0, 0, 0, 0, 0, 0, 0, 1206, 0, 0, 0, 0, 0, 0, 0, 0, 0, 0, 0, 0, 0, 0, 1207, 1208, 1209, 1210, 1211, 1212, 1213, 1214, 1215, 1216, 1217, 1218, 1219, 1220, 1221, 1222, 1223, 1224, 1225, 1226, 1227, 1228, 1229, 1230, 1231, 1232, 1233, 1234, 1235, 1236, 1237, 1238, 1239, 1240, 1241, 1242, 1243, 1244, 0, 1245, 1246, 1247, 1248], [], [0, 1135, 1136, 1137, 1138, 1139, 1140, 1141, 1142, 1143, 1144, 1145, 1146, 0, 1147, 1148, 0, 1149, 1150, 1151, 1152, 1153, 1154, 1155, 1156, 1157, 1158, 0, 0, 1159, 1160, 0, 1161, 1162, 0, 1163, 1164, 1165, 1166, 1167, 1168, 1169], [], [], [], [], [], [], [], [], [], [], [], [], [], [], [], [], [], [], [], [], [], [], [], [], [], [], [], [], [], [], [], [], [], [], [], [0, 1171, 1172, 1173, 1174, 1175, 1176, 1177, 1178, 1179, 1180, 1181, 1182, 0, 1183, 1184, 0, 1185, 1186, 1187, 1188, 1189, 1190, 1191, 1192, 1193, 1194, 0, 0, 1195, 1196, 0, 1197, 1198, 0, 1199, 1200, 1201, 1202, 1203, 1204, 1205], [], [], [], [], [], [], [], [], [], [], [], [], [], [], [], [], [], [], [], [], [], [], [], [], [], [], [], [], [], [], [], [], [], [], [], [], [], [], [], [], [], [], [], [], [], [], [], [], [], [], [], [], [], [], [], [], [], [], [], [], [], [], [], [], [], [], [], [], [], [], [], [], [], [], [], [], [], []]
def zR0 (a k : Nat) : Nat := (zR0L.getD (a - 1000) []).getD k 0
def zval (a : Nat) (fi : Nat → Int32) (fl : Nat → Int64) (fr : Nat → Option Nat) (t k : Nat) : Value := match t with
  | 0 => .int (fi k)
  | 1 => .long (fl k)
  | 2 => .ref (zR0 a k)
  | _ => va_rf (fr k)
def zvals (a : Nat) (fi : Nat → Int32) (fl : Nat → Int64) (fr : Nat → Option Nat) : List Nat → Nat → List Value
  | [], _ => []
  | t :: ts, k => zval a fi fl fr t k :: zvals a fi fl fr ts (k + 1)
def zcell (a : Nat) (sh : Nat × Nat × Nat) (fi : Nat → Int32) (fl : Nat → Int64) (fr : Nat → Option Nat) : PE := match sh with
  | (0, ci, _) => .inr (ci, zvals a fi fl fr (zTg ci) 0)
  | (1, t, n) => .inl (t, (n, .inl fi))
  | (2, t, n) => .inl (t, (n, .inr (.inl fl)))
  | (_, t, n) => .inl (t, (n, .inr (.inr (.inr (.inr fr)))))
def zcel (s t : zσ) (p : Nat) : PE := if p < 132 then zcell (1000 + p) (zsh (1000 + p)) (s.1 (1000 + p)) (s.2.1 (1000 + p)) (s.2.2 (1000 + p)) else zcell (1000 + p) (zsh (1000 + p)) (t.1 (1000 + p)) (t.2.1 (1000 + p)) (t.2.2 (1000 + p))
def zmk (s t : zσ) : List PE := (List.range 249).map (zcel s t)
def zcs (a : Nat) : Bool := decide (1000 ≤ a) && decide (a < 1132)
def zms (a : Nat) : Bool := decide (1132 ≤ a) && decide (a < 1249)
abbrev nx (i : Int32) : Nat := i.toNatClampNeg
def sI (s : zσ) (a k : Nat) (v : Int32) : zσ := (fun b => if b = a then upd (s.1 a) k v else s.1 b, s.2)
def sJ (s : zσ) (a k : Nat) (v : Int64) : zσ := (s.1, fun b => if b = a then vp_updL (s.2.1 a) k v else s.2.1 b, s.2.2)
def sR (s : zσ) (a k : Nat) (v : Option Nat) : zσ := (s.1, s.2.1, fun b => if b = a then va_up (s.2.2 a) k v else s.2.2 b)
/-- a stretch of an array filled -/
def zfil (f : Nat → Int32) (lo hi : Nat) (v : Int32) : Nat → Int32 := fun j => if lo ≤ j ∧ j < hi then v else f j
def sF (s : zσ) (a lo hi : Nat) (v : Int32) : zσ := (fun b => if b = a then zfil (s.1 a) lo hi v else s.1 b, s.2)
def sC (s : zσ) (a0 sp a dp n : Nat) : zσ := (fun b => if b = a then va_cpy (s.1 a0) (s.1 a) sp dp n else s.1 b, s.2)
/-- the state s2 is s but for what stands at a -/
def zoff (s s2 : zσ) (a : Nat) : Prop := ∀ b, b ≠ a → s2.1 b = s.1 b ∧ s2.2.1 b = s.2.1 b ∧ s2.2.2 b = s.2.2 b
theorem zoff_I {s : zσ} {a k : Nat} {v : Int32} : zoff s (sI s a k v) a := fun b h => ⟨if_neg h, rfl, rfl⟩
theorem zoff_J {s : zσ} {a k : Nat} {v : Int64} : zoff s (sJ s a k v) a := fun b h => ⟨rfl, if_neg h, rfl⟩
theorem zoff_R {s : zσ} {a k : Nat} {v : Option Nat} : zoff s (sR s a k v) a := fun b h => ⟨rfl, rfl, if_neg h⟩
theorem zoff_F {s : zσ} {a lo hi : Nat} {v : Int32} : zoff s (sF s a lo hi v) a := fun b h => ⟨if_neg h, rfl, rfl⟩
theorem zoff_C {s : zσ} {a0 sp a dp n : Nat} : zoff s (sC s a0 sp a dp n) a := fun b h => ⟨if_neg h, rfl, rfl⟩
theorem zmk_get {s t : zσ} {p : Nat} (h : p < 249) : (zmk s t)[p]? = some (zcel s t p) := by
  simp [zmk, h]
theorem hget_zmk {s t : zσ} {p : Nat} (h : p < 249) : hget (zmk s t) (1000 + p) = some (zcel s t p) := by
  unfold hget
  rw [if_neg (show ¬ 1000 + p < zE by unfold zE; omega), show 1000 + p - zE = p by unfold zE; omega, zmk_get h]
theorem zvals_get (a : Nat) (fi : Nat → Int32) (fl : Nat → Int64) (fr : Nat → Option Nat) : ∀ (ts : List Nat) (j k : Nat), (zvals a fi fl fr ts j)[k]? = (ts[k]?).map (fun t => zval a fi fl fr t (j + k))
  | [], j, k => by simp [zvals]
  | t :: ts, j, 0 => by simp [zvals]
  | t :: ts, j, k + 1 => by
    simp only [zvals, List.getElem?_cons_succ]
    rw [zvals_get a fi fl fr ts (j + 1) k, show j + 1 + k = j + (k + 1) by omega]
theorem zvals_len (a : Nat) (fi : Nat → Int32) (fl : Nat → Int64) (fr : Nat → Option Nat) : ∀ (ts : List Nat) (j : Nat), (zvals a fi fl fr ts j).length = ts.length
  | [], j => rfl
  | t :: ts, j => by simp [zvals, zvals_len a fi fl fr ts (j + 1)]
/-- one field set -/
theorem zvals_set {a : Nat} {fi fi2 : Nat → Int32} {fl fl2 : Nat → Int64} {fr fr2 : Nat → Option Nat} {ts : List Nat} {k : Nat} {v : Value} {t : Nat} (ht : ts[k]? = some t) (hv : zval a fi2 fl2 fr2 t k = v) (ho : ∀ j, j ≠ k → fi2 j = fi j ∧ fl2 j = fl j ∧ fr2 j = fr j) : (zvals a fi fl fr ts 0).set k v = zvals a fi2 fl2 fr2 ts 0 := by
  apply List.ext_getElem?
  intro j
  rw [List.getElem?_set, zvals_get, zvals_get, zvals_len, Nat.zero_add]
  by_cases e : k = j
  · subst e
    have hl : k < ts.length := (List.getElem?_eq_some_iff.mp ht).1
    rw [if_pos rfl, if_pos hl, ht]
    simp [hv]
  · rw [if_neg e]
    obtain ⟨h1, h2, h3⟩ := ho j (fun q => e q.symm)
    cases ts[j]? with
    | none => rfl
    | some t2 =>
      simp only [Option.map_some]
      congr 1
      unfold zval
      split <;> simp [h1, h2, h3]
/-- places of objects of a class of which there are several -/
def zCL (ci : Nat) : List Nat := match ci with
  | 0 => [1089, 1125]
  | 6 => [1079, 1115]
  | 8 => [1036, 1039, 1042, 1045, 1048, 1051, 1054, 1057]
  | 9 => [1060, 1096]
  | 12 => [1134, 1170]
  | _ => []
def zck (ci a : Nat) : Bool := decide (a ∈ zCL ci)
def zlet {α β : Type} (x : α) (k : α → β) : β := k x
/-- the answer of a call, and what goes on with it -/
def yb1 {α β γ : Type} (o : Option (α × β)) (k : α → β → Option γ) : Option γ := match o with
  | some (a, b) => k a b
  | none => none
def yb0 {β γ : Type} (o : Option β) (k : β → Option γ) : Option γ := match o with
  | some b => k b
  | none => none
/-- a reference to an object of class ci -/
def zrd {γ : Type} (ci : Nat) (o : Option Nat) (k : Nat → Option γ) : Option γ := match o with
  | some a => if zck ci a = true then k a else none
  | none => none
theorem olet {α β : Type} {x : α} {k : α → Option β} {r : β} (h : zlet x k = some r) : ∃ y, y = x ∧ k y = some r := ⟨x, rfl, h⟩
theorem oret {α β : Type} {a v : α} {b s : β} (h : some (a, b) = some (v, s)) : v = a ∧ s = b := by
  have h1 := Option.some.inj h
  exact ⟨(congrArg Prod.fst h1).symm, (congrArg Prod.snd h1).symm⟩
theorem ore0 {β : Type} {b s : β} (h : some b = some s) : s = b := (Option.some.inj h).symm
theorem oite {β : Type} {c : Prop} {i : Decidable c} {a b : Option β} {r : β} (h : (if c then a else b) = some r) : (c ∧ a = some r) ∨ (¬ c ∧ b = some r) := by
  by_cases hc : c
  · rw [if_pos hc] at h; exact Or.inl ⟨hc, h⟩
  · rw [if_neg hc] at h; exact Or.inr ⟨hc, h⟩
theorem ochk {β : Type} {c : Prop} {i : Decidable c} {a : Option β} {r : β} (h : (if c then a else none) = some r) : c ∧ a = some r := by
  by_cases hc : c
  · rw [if_pos hc] at h; exact ⟨hc, h⟩
  · rw [if_neg hc] at h; cases h
theorem obnd {α β γ : Type} {o : Option (α × β)} {k : α → β → Option γ} {r : γ} (h : yb1 o k = some r) : ∃ a b, o = some (a, b) ∧ k a b = some r := by
  cases o with
  | none => cases h
  | some q => exact ⟨q.1, q.2, rfl, h⟩
theorem obn0 {β γ : Type} {o : Option β} {k : β → Option γ} {r : γ} (h : yb0 o k = some r) : ∃ b, o = some b ∧ k b = some r := by
  cases o with
  | none => cases h
  | some q => exact ⟨q, rfl, h⟩
theorem ordd {γ : Type} {ci : Nat} {o : Option Nat} {k : Nat → Option γ} {r : γ} (h : zrd ci o k = some r) : ∃ a, o = some a ∧ zck ci a = true ∧ k a = some r := by
  cases o with
  | none => cases h
  | some a => obtain ⟨h1, h2⟩ := ochk h; exact ⟨a, rfl, h1, h2⟩
theorem hget_c {s w : zσ} {a : Nat} (h : zcs a = true) : hget (zmk s w) a = some (zcell a (zsh a) (s.1 a) (s.2.1 a) (s.2.2 a)) := by
  unfold zcs at h
  simp only [Bool.and_eq_true, decide_eq_true_eq] at h
  obtain ⟨p, rfl⟩ : ∃ p, a = 1000 + p := ⟨a - 1000, by omega⟩
  rw [hget_zmk (by omega)]
  unfold zcel
  rw [if_pos (show p < 132 by omega)]
theorem zmk_set_c {s s2 w : zσ} {a : Nat} (h : zcs a = true) (ho : zoff s s2 a) : (zmk s w).set (a - zE) (zcell a (zsh a) (s2.1 a) (s2.2.1 a) (s2.2.2 a)) = zmk s2 w := by
  unfold zcs at h
  simp only [Bool.and_eq_true, decide_eq_true_eq] at h
  obtain ⟨p, rfl⟩ : ∃ p, a = 1000 + p := ⟨a - 1000, by omega⟩
  rw [show 1000 + p - zE = p by unfold zE; omega]
  apply List.ext_getElem?
  intro i
  rw [List.getElem?_set]
  have hlen : ∀ u v : zσ, (zmk u v).length = 249 := fun u v => by simp [zmk]
  by_cases e : p = i
  · subst e
    rw [if_pos rfl, if_pos (by rw [hlen]; omega), zmk_get (by omega)]
    unfold zcel
    rw [if_pos (show p < 132 by omega)]
  · rw [if_neg e]
    by_cases hi : i < 249
    · rw [zmk_get hi, zmk_get hi]
      obtain ⟨h1, h2, h3⟩ := ho (1000 + i) (by omega)
      unfold zcel
      rw [h1, h2, h3]
    · rw [List.getElem?_eq_none (by rw [hlen]; omega), List.getElem?_eq_none (by rw [hlen]; omega)]
theorem rcv_c {s w : zσ} {a ci n : Nat} (ha : zcs a = true) (hs : zsh a = (0, ci, n)) (hc : ci < 14) : zrcv ci (zmk s w) a = true := by
  unfold zrcv
  rw [hget_c ha, hs]
  simp [zcell, hc]
section ZPc
variable {X : zXT} {d : Nat} {q : zMI} {pc c z : Nat} {lv : List (Nat × Value)} {st : List Value} {s s2 w : zσ} {r : zR} {a : Nat} {i : Int32} {n idx ci kf : Nat} {b : Bool}
theorem cGI (hd : decode q.2.2.1 pc = .ok (.getfield idx, 3)) (hz : zfl q.1 idx = some (b, ci, kf)) (ha : zcs a = true) (hs : zsh a = (0, ci, n)) (ht : (zTg ci)[kf]? = some 0) (h : zGo X d q (pc + 3, lv, .int (s.1 a kf) :: st, zmk s w, c, z) r) : zGo X d q (pc, lv, .ref a :: st, zmk s w, c, z) r := by
  refine zGo_gf hd hz (fs := zvals a (s.1 a) (s.2.1 a) (s.2.2 a) (zTg ci) 0) (by rw [hget_c ha, hs]; rfl) (by rw [zvals_get, ht, Nat.zero_add]; rfl) h
theorem cGJ (hd : decode q.2.2.1 pc = .ok (.getfield idx, 3)) (hz : zfl q.1 idx = some (b, ci, kf)) (ha : zcs a = true) (hs : zsh a = (0, ci, n)) (ht : (zTg ci)[kf]? = some 1) (h : zGo X d q (pc + 3, lv, .long (s.2.1 a kf) :: st, zmk s w, c, z) r) : zGo X d q (pc, lv, .ref a :: st, zmk s w, c, z) r := by
  refine zGo_gf hd hz (fs := zvals a (s.1 a) (s.2.1 a) (s.2.2 a) (zTg ci) 0) (by rw [hget_c ha, hs]; rfl) (by rw [zvals_get, ht, Nat.zero_add]; rfl) h
theorem cGF {e : Nat} (hd : decode q.2.2.1 pc = .ok (.getfield idx, 3)) (hz : zfl q.1 idx = some (b, ci, kf)) (ha : zcs a = true) (hs : zsh a = (0, ci, n)) (ht : (zTg ci)[kf]? = some 2) (he : zR0 a kf = e) (h : zGo X d q (pc + 3, lv, .ref e :: st, zmk s w, c, z) r) : zGo X d q (pc, lv, .ref a :: st, zmk s w, c, z) r := by
  refine zGo_gf hd hz (fs := zvals a (s.1 a) (s.2.1 a) (s.2.2 a) (zTg ci) 0) (v := .ref e) (by rw [hget_c ha, hs]; rfl) (by rw [zvals_get, ht, Nat.zero_add]; show some (Value.ref (zR0 a kf)) = _; rw [he]) h
theorem cGR {e : Nat} (hd : decode q.2.2.1 pc = .ok (.getfield idx, 3)) (hz : zfl q.1 idx = some (b, ci, kf)) (ha : zcs a = true) (hs : zsh a = (0, ci, n)) (ht : (zTg ci)[kf]? = some 3) (he : s.2.2 a kf = some e) (h : zGo X d q (pc + 3, lv, .ref e :: st, zmk s w, c, z) r) : zGo X d q (pc, lv, .ref a :: st, zmk s w, c, z) r := by
  refine zGo_gf hd hz (fs := zvals a (s.1 a) (s.2.1 a) (s.2.2 a) (zTg ci) 0) (v := .ref e) (by rw [hget_c ha, hs]; rfl) (by rw [zvals_get, ht, Nat.zero_add]; show some (va_rf (s.2.2 a kf)) = _; rw [he]; rfl) h
theorem cPI {v : Int32} (hd : decode q.2.2.1 pc = .ok (.putfield idx, 3)) (hz : zfl q.1 idx = some (b, ci, kf)) (ha : zcs a = true) (hs : zsh a = (0, ci, n)) (ht : (zTg ci)[kf]? = some 0) (hf : zfit (zty ci kf) (.int v) = true) (hn : zfin q.1 (q.2.2.2.2.2.2 == 1) b ci kf = true) (e : s2 = sI s a kf v) (h : zGo X d q (pc + 3, lv, st, zmk s2 w, c, z) r) : zGo X d q (pc, lv, .int v :: .ref a :: st, zmk s w, c, z) r := by
  refine zGo_pf hd hz (fs := zvals a (s.1 a) (s.2.1 a) (s.2.2 a) (zTg ci) 0) (by rw [hget_c ha, hs]; rfl) (by rw [zvals_len]; exact (List.getElem?_eq_some_iff.mp ht).1) hf hn ?_
  have hk := zmk_set_c (w := w) ha (zoff_I (s := s) (k := kf) (v := v))
  rw [hs] at hk
  have e2 : (Sum.inr (ci, (zvals a (s.1 a) (s.2.1 a) (s.2.2 a) (zTg ci) 0).set kf (.int v)) : PE) = zcell a (0, ci, n) ((sI s a kf v).1 a) ((sI s a kf v).2.1 a) ((sI s a kf v).2.2 a) := by
    exact congrArg (fun x => (Sum.inr (ci, x) : PE)) (zvals_set (fi := s.1 a) (fl := s.2.1 a) (fr := s.2.2 a) ht (show zval a ((sI s a kf v).1 a) ((sI s a kf v).2.1 a) ((sI s a kf v).2.2 a) 0 kf = .int v by simp [zval, sI, upd]) (fun j hj => ⟨by simp [sI, upd, hj], rfl, rfl⟩))
  rw [e2, hk, ← e]
  exact h
theorem cPJ {v : Int64} (hd : decode q.2.2.1 pc = .ok (.putfield idx, 3)) (hz : zfl q.1 idx = some (b, ci, kf)) (ha : zcs a = true) (hs : zsh a = (0, ci, n)) (ht : (zTg ci)[kf]? = some 1) (hf : zfit (zty ci kf) (.long v) = true) (hn : zfin q.1 (q.2.2.2.2.2.2 == 1) b ci kf = true) (e : s2 = sJ s a kf v) (h : zGo X d q (pc + 3, lv, st, zmk s2 w, c, z) r) : zGo X d q (pc, lv, .long v :: .ref a :: st, zmk s w, c, z) r := by
  refine zGo_pf hd hz (fs := zvals a (s.1 a) (s.2.1 a) (s.2.2 a) (zTg ci) 0) (by rw [hget_c ha, hs]; rfl) (by rw [zvals_len]; exact (List.getElem?_eq_some_iff.mp ht).1) hf hn ?_
  have hk := zmk_set_c (w := w) ha (zoff_J (s := s) (k := kf) (v := v))
  rw [hs] at hk
  have e2 : (Sum.inr (ci, (zvals a (s.1 a) (s.2.1 a) (s.2.2 a) (zTg ci) 0).set kf (.long v)) : PE) = zcell a (0, ci, n) ((sJ s a kf v).1 a) ((sJ s a kf v).2.1 a) ((sJ s a kf v).2.2 a) := by
    exact congrArg (fun x => (Sum.inr (ci, x) : PE)) (zvals_set (fi := s.1 a) (fl := s.2.1 a) (fr := s.2.2 a) ht (show zval a ((sJ s a kf v).1 a) ((sJ s a kf v).2.1 a) ((sJ s a kf v).2.2 a) 1 kf = .long v by simp [zval, sJ, vp_updL]) (fun j hj => ⟨rfl, by simp [sJ, vp_updL, hj], rfl⟩))
  rw [e2, hk, ← e]
  exact h
theorem cPR {v : Nat} (hd : decode q.2.2.1 pc = .ok (.putfield idx, 3)) (hz : zfl q.1 idx = some (b, ci, kf)) (ha : zcs a = true) (hs : zsh a = (0, ci, n)) (ht : (zTg ci)[kf]? = some 3) (hf : zfit (zty ci kf) (.ref v) = true) (hn : zfin q.1 (q.2.2.2.2.2.2 == 1) b ci kf = true) (e : s2 = sR s a kf (some v)) (h : zGo X d q (pc + 3, lv, st, zmk s2 w, c, z) r) : zGo X d q (pc, lv, .ref v :: .ref a :: st, zmk s w, c, z) r := by
  refine zGo_pf hd hz (fs := zvals a (s.1 a) (s.2.1 a) (s.2.2 a) (zTg ci) 0) (by rw [hget_c ha, hs]; rfl) (by rw [zvals_len]; exact (List.getElem?_eq_some_iff.mp ht).1) hf hn ?_
  have hk := zmk_set_c (w := w) ha (zoff_R (s := s) (k := kf) (v := some v))
  rw [hs] at hk
  have e2 : (Sum.inr (ci, (zvals a (s.1 a) (s.2.1 a) (s.2.2 a) (zTg ci) 0).set kf (.ref v)) : PE) = zcell a (0, ci, n) ((sR s a kf (some v)).1 a) ((sR s a kf (some v)).2.1 a) ((sR s a kf (some v)).2.2 a) := by
    exact congrArg (fun x => (Sum.inr (ci, x) : PE)) (zvals_set (fi := s.1 a) (fl := s.2.1 a) (fr := s.2.2 a) ht (show zval a ((sR s a kf (some v)).1 a) ((sR s a kf (some v)).2.1 a) ((sR s a kf (some v)).2.2 a) 3 kf = .ref v by simp [zval, sR, va_up, va_rf]) (fun j hj => ⟨rfl, rfl, by simp [sR, va_up, hj]⟩))
  rw [e2, hk, ← e]
  exact h
theorem cIA (hd : decode q.2.2.1 pc = .ok (.iaload, 1)) (ha : zcs a = true) (hs : zsh a = (1, 0, n)) (hi : zin? i n = true) (h : zGo X d q (pc + 1, lv, .int (s.1 a (nx i)) :: st, zmk s w, c, z) r) : zGo X d q (pc, lv, .int i :: .ref a :: st, zmk s w, c, z) r :=
  zGo_ia hd (by rw [hget_c ha, hs]; rfl) hi h
theorem cBA {t : Nat} (hd : decode q.2.2.1 pc = .ok (.baload, 1)) (ha : zcs a = true) (hs : zsh a = (1, t, n)) (ht : (t == 1 || t == 2) = true) (hi : zin? i n = true) (h : zGo X d q (pc + 1, lv, .int (s.1 a (nx i)) :: st, zmk s w, c, z) r) : zGo X d q (pc, lv, .int i :: .ref a :: st, zmk s w, c, z) r :=
  zGo_ba hd (by rw [hget_c ha, hs]; rfl) ht hi h
theorem cLA (hd : decode q.2.2.1 pc = .ok (.laload, 1)) (ha : zcs a = true) (hs : zsh a = (2, 3, n)) (hi : zin? i n = true) (h : zGo X d q (pc + 1, lv, .long (s.2.1 a (nx i)) :: st, zmk s w, c, z) r) : zGo X d q (pc, lv, .int i :: .ref a :: st, zmk s w, c, z) r :=
  zGo_la hd (by rw [hget_c ha, hs]; rfl) hi h
theorem cAA {t e : Nat} (hd : decode q.2.2.1 pc = .ok (.aaload, 1)) (ha : zcs a = true) (hs : zsh a = (3, t, n)) (ht : t = 4 ∨ t = 5) (hi : zin? i n = true) (he : s.2.2 a (nx i) = some e) (h : zGo X d q (pc + 1, lv, .ref e :: st, zmk s w, c, z) r) : zGo X d q (pc, lv, .int i :: .ref a :: st, zmk s w, c, z) r :=
  zGo_aa hd (by rw [hget_c ha, hs]; rfl) ht hi (by rw [he]; exact h)
theorem cAL {k t : Nat} (hd : decode q.2.2.1 pc = .ok (.arraylength, 1)) (ha : zcs a = true) (hs : zsh a = (k + 1, t, n)) (ht : t < 6) (h : zGo X d q (pc + 1, lv, .int (Int32.ofNat n) :: st, zmk s w, c, z) r) : zGo X d q (pc, lv, .ref a :: st, zmk s w, c, z) r := by
  match k, hs with
  | 0, hs => exact zGo_al hd (by rw [hget_c ha, hs]; rfl) ht h
  | 1, hs => exact zGo_al hd (by rw [hget_c ha, hs]; rfl) ht h
  | k + 2, hs => exact zGo_al hd (by rw [hget_c ha, hs]; rfl) ht h
theorem cIS {x : Int32} (hd : decode q.2.2.1 pc = .ok (.iastore, 1)) (ha : zcs a = true) (hs : zsh a = (1, 0, n)) (hi : zin? i n = true) (e : s2 = sI s a (nx i) x) (h : zGo X d q (pc + 1, lv, st, zmk s2 w, c, z) r) : zGo X d q (pc, lv, .int x :: .int i :: .ref a :: st, zmk s w, c, z) r := by
  refine zGo_is hd (f := s.1 a) (by rw [hget_c ha, hs]; rfl) hi ?_
  have hk := zmk_set_c (w := w) ha (zoff_I (s := s) (k := nx i) (v := x))
  rw [hs] at hk
  have e2 : ((sI s a (nx i) x).1 a) = upd (s.1 a) (nx i) x := if_pos rfl
  rw [e2, ← e] at hk
  have hk2 : (zmk s w).set (a - zE) (.inl (0, (n, .inl (upd (s.1 a) (nx i) x)))) = zmk s2 w := hk
  rw [hk2]
  exact h
theorem cBS {t : Nat} {g : Int32 → Int32} {x : Int32} (hd : decode q.2.2.1 pc = .ok (.bastore, 1)) (ha : zcs a = true) (hs : zsh a = (1, t, n)) (ht : zbk t = some g) (hi : zin? i n = true) (e : s2 = sI s a (nx i) (g x)) (h : zGo X d q (pc + 1, lv, st, zmk s2 w, c, z) r) : zGo X d q (pc, lv, .int x :: .int i :: .ref a :: st, zmk s w, c, z) r := by
  refine zGo_bs hd (f := s.1 a) (by rw [hget_c ha, hs]; rfl) ht hi ?_
  have hk := zmk_set_c (w := w) ha (zoff_I (s := s) (k := nx i) (v := g x))
  rw [hs] at hk
  have e2 : ((sI s a (nx i) (g x)).1 a) = upd (s.1 a) (nx i) (g x) := if_pos rfl
  rw [e2, ← e] at hk
  have hk2 : (zmk s w).set (a - zE) (.inl (t, (n, .inl (upd (s.1 a) (nx i) (g x))))) = zmk s2 w := hk
  rw [hk2]
  exact h
theorem cLS {x : Int64} (hd : decode q.2.2.1 pc = .ok (.lastore, 1)) (ha : zcs a = true) (hs : zsh a = (2, 3, n)) (hi : zin? i n = true) (e : s2 = sJ s a (nx i) x) (h : zGo X d q (pc + 1, lv, st, zmk s2 w, c, z) r) : zGo X d q (pc, lv, .long x :: .int i :: .ref a :: st, zmk s w, c, z) r := by
  refine zGo_ls hd (f := s.2.1 a) (by rw [hget_c ha, hs]; rfl) hi ?_
  have hk := zmk_set_c (w := w) ha (zoff_J (s := s) (k := nx i) (v := x))
  rw [hs] at hk
  have e2 : ((sJ s a (nx i) x).2.1 a) = vp_updL (s.2.1 a) (nx i) x := if_pos rfl
  rw [e2, ← e] at hk
  have hk2 : (zmk s w).set (a - zE) (.inl (3, (n, .inr (.inl (vp_updL (s.2.1 a) (nx i) x))))) = zmk s2 w := hk
  rw [hk2]
  exact h
end ZPc
theorem hget_m {s w : zσ} {a : Nat} (h : zms a = true) : hget (zmk w s) a = some (zcell a (zsh a) (s.1 a) (s.2.1 a) (s.2.2 a)) := by
  unfold zms at h
  simp only [Bool.and_eq_true, decide_eq_true_eq] at h
  obtain ⟨p, rfl⟩ : ∃ p, a = 1000 + p := ⟨a - 1000, by omega⟩
  rw [hget_zmk (by omega)]
  unfold zcel
  rw [if_neg (show ¬ p < 132 by omega)]
theorem zmk_set_m {s s2 w : zσ} {a : Nat} (h : zms a = true) (ho : zoff s s2 a) : (zmk w s).set (a - zE) (zcell a (zsh a) (s2.1 a) (s2.2.1 a) (s2.2.2 a)) = zmk w s2 := by
  unfold zms at h
  simp only [Bool.and_eq_true, decide_eq_true_eq] at h
  obtain ⟨p, rfl⟩ : ∃ p, a = 1000 + p := ⟨a - 1000, by omega⟩
  rw [show 1000 + p - zE = p by unfold zE; omega]
  apply List.ext_getElem?
  intro i
  rw [List.getElem?_set]
  have hlen : ∀ u v : zσ, (zmk u v).length = 249 := fun u v => by simp [zmk]
  by_cases e : p = i
  · subst e
    rw [if_pos rfl, if_pos (by rw [hlen]; omega), zmk_get (by omega)]
    unfold zcel
    rw [if_neg (show ¬ p < 132 by omega)]
  · rw [if_neg e]
    by_cases hi : i < 249
    · rw [zmk_get hi, zmk_get hi]
      obtain ⟨h1, h2, h3⟩ := ho (1000 + i) (by omega)
      unfold zcel
      rw [h1, h2, h3]
    · rw [List.getElem?_eq_none (by rw [hlen]; omega), List.getElem?_eq_none (by rw [hlen]; omega)]
theorem rcv_m {s w : zσ} {a ci n : Nat} (ha : zms a = true) (hs : zsh a = (0, ci, n)) (hc : ci < 14) : zrcv ci (zmk w s) a = true := by
  unfold zrcv
  rw [hget_m ha, hs]
  simp [zcell, hc]
section ZPm
variable {X : zXT} {d : Nat} {q : zMI} {pc c z : Nat} {lv : List (Nat × Value)} {st : List Value} {s s2 w : zσ} {r : zR} {a : Nat} {i : Int32} {n idx ci kf : Nat} {b : Bool}
theorem mGI (hd : decode q.2.2.1 pc = .ok (.getfield idx, 3)) (hz : zfl q.1 idx = some (b, ci, kf)) (ha : zms a = true) (hs : zsh a = (0, ci, n)) (ht : (zTg ci)[kf]? = some 0) (h : zGo X d q (pc + 3, lv, .int (s.1 a kf) :: st, zmk w s, c, z) r) : zGo X d q (pc, lv, .ref a :: st, zmk w s, c, z) r := by
  refine zGo_gf hd hz (fs := zvals a (s.1 a) (s.2.1 a) (s.2.2 a) (zTg ci) 0) (by rw [hget_m ha, hs]; rfl) (by rw [zvals_get, ht, Nat.zero_add]; rfl) h
theorem mGJ (hd : decode q.2.2.1 pc = .ok (.getfield idx, 3)) (hz : zfl q.1 idx = some (b, ci, kf)) (ha : zms a = true) (hs : zsh a = (0, ci, n)) (ht : (zTg ci)[kf]? = some 1) (h : zGo X d q (pc + 3, lv, .long (s.2.1 a kf) :: st, zmk w s, c, z) r) : zGo X d q (pc, lv, .ref a :: st, zmk w s, c, z) r := by
  refine zGo_gf hd hz (fs := zvals a (s.1 a) (s.2.1 a) (s.2.2 a) (zTg ci) 0) (by rw [hget_m ha, hs]; rfl) (by rw [zvals_get, ht, Nat.zero_add]; rfl) h
theorem mGF {e : Nat} (hd : decode q.2.2.1 pc = .ok (.getfield idx, 3)) (hz : zfl q.1 idx = some (b, ci, kf)) (ha : zms a = true) (hs : zsh a = (0, ci, n)) (ht : (zTg ci)[kf]? = some 2) (he : zR0 a kf = e) (h : zGo X d q (pc + 3, lv, .ref e :: st, zmk w s, c, z) r) : zGo X d q (pc, lv, .ref a :: st, zmk w s, c, z) r := by
  refine zGo_gf hd hz (fs := zvals a (s.1 a) (s.2.1 a) (s.2.2 a) (zTg ci) 0) (v := .ref e) (by rw [hget_m ha, hs]; rfl) (by rw [zvals_get, ht, Nat.zero_add]; show some (Value.ref (zR0 a kf)) = _; rw [he]) h
theorem mGR {e : Nat} (hd : decode q.2.2.1 pc = .ok (.getfield idx, 3)) (hz : zfl q.1 idx = some (b, ci, kf)) (ha : zms a = true) (hs : zsh a = (0, ci, n)) (ht : (zTg ci)[kf]? = some 3) (he : s.2.2 a kf = some e) (h : zGo X d q (pc + 3, lv, .ref e :: st, zmk w s, c, z) r) : zGo X d q (pc, lv, .ref a :: st, zmk w s, c, z) r := by
  refine zGo_gf hd hz (fs := zvals a (s.1 a) (s.2.1 a) (s.2.2 a) (zTg ci) 0) (v := .ref e) (by rw [hget_m ha, hs]; rfl) (by rw [zvals_get, ht, Nat.zero_add]; show some (va_rf (s.2.2 a kf)) = _; rw [he]; rfl) h
theorem mPI {v : Int32} (hd : decode q.2.2.1 pc = .ok (.putfield idx, 3)) (hz : zfl q.1 idx = some (b, ci, kf)) (ha : zms a = true) (hs : zsh a = (0, ci, n)) (ht : (zTg ci)[kf]? = some 0) (hf : zfit (zty ci kf) (.int v) = true) (hn : zfin q.1 (q.2.2.2.2.2.2 == 1) b ci kf = true) (e : s2 = sI s a kf v) (h : zGo X d q (pc + 3, lv, st, zmk w s2, c, z) r) : zGo X d q (pc, lv, .int v :: .ref a :: st, zmk w s, c, z) r := by
  refine zGo_pf hd hz (fs := zvals a (s.1 a) (s.2.1 a) (s.2.2 a) (zTg ci) 0) (by rw [hget_m ha, hs]; rfl) (by rw [zvals_len]; exact (List.getElem?_eq_some_iff.mp ht).1) hf hn ?_
  have hk := zmk_set_m (w := w) ha (zoff_I (s := s) (k := kf) (v := v))
  rw [hs] at hk
  have e2 : (Sum.inr (ci, (zvals a (s.1 a) (s.2.1 a) (s.2.2 a) (zTg ci) 0).set kf (.int v)) : PE) = zcell a (0, ci, n) ((sI s a kf v).1 a) ((sI s a kf v).2.1 a) ((sI s a kf v).2.2 a) := by
    exact congrArg (fun x => (Sum.inr (ci, x) : PE)) (zvals_set (fi := s.1 a) (fl := s.2.1 a) (fr := s.2.2 a) ht (show zval a ((sI s a kf v).1 a) ((sI s a kf v).2.1 a) ((sI s a kf v).2.2 a) 0 kf = .int v by simp [zval, sI, upd]) (fun j hj => ⟨by simp [sI, upd, hj], rfl, rfl⟩))
  rw [e2, hk, ← e]
  exact h
theorem mPJ {v : Int64} (hd : decode q.2.2.1 pc = .ok (.putfield idx, 3)) (hz : zfl q.1 idx = some (b, ci, kf)) (ha : zms a = true) (hs : zsh a = (0, ci, n)) (ht : (zTg ci)[kf]? = some 1) (hf : zfit (zty ci kf) (.long v) = true) (hn : zfin q.1 (q.2.2.2.2.2.2 == 1) b ci kf = true) (e : s2 = sJ s a kf v) (h : zGo X d q (pc + 3, lv, st, zmk w s2, c, z) r) : zGo X d q (pc, lv, .long v :: .ref a :: st, zmk w s, c, z) r := by
  refine zGo_pf hd hz (fs := zvals a (s.1 a) (s.2.1 a) (s.2.2 a) (zTg ci) 0) (by rw [hget_m ha, hs]; rfl) (by rw [zvals_len]; exact (List.getElem?_eq_some_iff.mp ht).1) hf hn ?_
  have hk := zmk_set_m (w := w) ha (zoff_J (s := s) (k := kf) (v := v))
  rw [hs] at hk
  have e2 : (Sum.inr (ci, (zvals a (s.1 a) (s.2.1 a) (s.2.2 a) (zTg ci) 0).set kf (.long v)) : PE) = zcell a (0, ci, n) ((sJ s a kf v).1 a) ((sJ s a kf v).2.1 a) ((sJ s a kf v).2.2 a) := by
    exact congrArg (fun x => (Sum.inr (ci, x) : PE)) (zvals_set (fi := s.1 a) (fl := s.2.1 a) (fr := s.2.2 a) ht (show zval a ((sJ s a kf v).1 a) ((sJ s a kf v).2.1 a) ((sJ s a kf v).2.2 a) 1 kf = .long v by simp [zval, sJ, vp_updL]) (fun j hj => ⟨rfl, by simp [sJ, vp_updL, hj], rfl⟩))
  rw [e2, hk, ← e]
  exact h
theorem mPR {v : Nat} (hd : decode q.2.2.1 pc = .ok (.putfield idx, 3)) (hz : zfl q.1 idx = some (b, ci, kf)) (ha : zms a = true) (hs : zsh a = (0, ci, n)) (ht : (zTg ci)[kf]? = some 3) (hf : zfit (zty ci kf) (.ref v) = true) (hn : zfin q.1 (q.2.2.2.2.2.2 == 1) b ci kf = true) (e : s2 = sR s a kf (some v)) (h : zGo X d q (pc + 3, lv, st, zmk w s2, c, z) r) : zGo X d q (pc, lv, .ref v :: .ref a :: st, zmk w s, c, z) r := by
  refine zGo_pf hd hz (fs := zvals a (s.1 a) (s.2.1 a) (s.2.2 a) (zTg ci) 0) (by rw [hget_m ha, hs]; rfl) (by rw [zvals_len]; exact (List.getElem?_eq_some_iff.mp ht).1) hf hn ?_
  have hk := zmk_set_m (w := w) ha (zoff_R (s := s) (k := kf) (v := some v))
  rw [hs] at hk
  have e2 : (Sum.inr (ci, (zvals a (s.1 a) (s.2.1 a) (s.2.2 a) (zTg ci) 0).set kf (.ref v)) : PE) = zcell a (0, ci, n) ((sR s a kf (some v)).1 a) ((sR s a kf (some v)).2.1 a) ((sR s a kf (some v)).2.2 a) := by
    exact congrArg (fun x => (Sum.inr (ci, x) : PE)) (zvals_set (fi := s.1 a) (fl := s.2.1 a) (fr := s.2.2 a) ht (show zval a ((sR s a kf (some v)).1 a) ((sR s a kf (some v)).2.1 a) ((sR s a kf (some v)).2.2 a) 3 kf = .ref v by simp [zval, sR, va_up, va_rf]) (fun j hj => ⟨rfl, rfl, by simp [sR, va_up, hj]⟩))
  rw [e2, hk, ← e]
  exact h
theorem mIA (hd : decode q.2.2.1 pc = .ok (.iaload, 1)) (ha : zms a = true) (hs : zsh a = (1, 0, n)) (hi : zin? i n = true) (h : zGo X d q (pc + 1, lv, .int (s.1 a (nx i)) :: st, zmk w s, c, z) r) : zGo X d q (pc, lv, .int i :: .ref a :: st, zmk w s, c, z) r :=
  zGo_ia hd (by rw [hget_m ha, hs]; rfl) hi h
theorem mBA {t : Nat} (hd : decode q.2.2.1 pc = .ok (.baload, 1)) (ha : zms a = true) (hs : zsh a = (1, t, n)) (ht : (t == 1 || t == 2) = true) (hi : zin? i n = true) (h : zGo X d q (pc + 1, lv, .int (s.1 a (nx i)) :: st, zmk w s, c, z) r) : zGo X d q (pc, lv, .int i :: .ref a :: st, zmk w s, c, z) r :=
  zGo_ba hd (by rw [hget_m ha, hs]; rfl) ht hi h
theorem mLA (hd : decode q.2.2.1 pc = .ok (.laload, 1)) (ha : zms a = true) (hs : zsh a = (2, 3, n)) (hi : zin? i n = true) (h : zGo X d q (pc + 1, lv, .long (s.2.1 a (nx i)) :: st, zmk w s, c, z) r) : zGo X d q (pc, lv, .int i :: .ref a :: st, zmk w s, c, z) r :=
  zGo_la hd (by rw [hget_m ha, hs]; rfl) hi h
theorem mAA {t e : Nat} (hd : decode q.2.2.1 pc = .ok (.aaload, 1)) (ha : zms a = true) (hs : zsh a = (3, t, n)) (ht : t = 4 ∨ t = 5) (hi : zin? i n = true) (he : s.2.2 a (nx i) = some e) (h : zGo X d q (pc + 1, lv, .ref e :: st, zmk w s, c, z) r) : zGo X d q (pc, lv, .int i :: .ref a :: st, zmk w s, c, z) r :=
  zGo_aa hd (by rw [hget_m ha, hs]; rfl) ht hi (by rw [he]; exact h)
theorem mAL {k t : Nat} (hd : decode q.2.2.1 pc = .ok (.arraylength, 1)) (ha : zms a = true) (hs : zsh a = (k + 1, t, n)) (ht : t < 6) (h : zGo X d q (pc + 1, lv, .int (Int32.ofNat n) :: st, zmk w s, c, z) r) : zGo X d q (pc, lv, .ref a :: st, zmk w s, c, z) r := by
  match k, hs with
  | 0, hs => exact zGo_al hd (by rw [hget_m ha, hs]; rfl) ht h
  | 1, hs => exact zGo_al hd (by rw [hget_m ha, hs]; rfl) ht h
  | k + 2, hs => exact zGo_al hd (by rw [hget_m ha, hs]; rfl) ht h
theorem mIS {x : Int32} (hd : decode q.2.2.1 pc = .ok (.iastore, 1)) (ha : zms a = true) (hs : zsh a = (1, 0, n)) (hi : zin? i n = true) (e : s2 = sI s a (nx i) x) (h : zGo X d q (pc + 1, lv, st, zmk w s2, c, z) r) : zGo X d q (pc, lv, .int x :: .int i :: .ref a :: st, zmk w s, c, z) r := by
  refine zGo_is hd (f := s.1 a) (by rw [hget_m ha, hs]; rfl) hi ?_
  have hk := zmk_set_m (w := w) ha (zoff_I (s := s) (k := nx i) (v := x))
  rw [hs] at hk
  have e2 : ((sI s a (nx i) x).1 a) = upd (s.1 a) (nx i) x := if_pos rfl
  rw [e2, ← e] at hk
  have hk2 : (zmk w s).set (a - zE) (.inl (0, (n, .inl (upd (s.1 a) (nx i) x)))) = zmk w s2 := hk
  rw [hk2]
  exact h
theorem mBS {t : Nat} {g : Int32 → Int32} {x : Int32} (hd : decode q.2.2.1 pc = .ok (.bastore, 1)) (ha : zms a = true) (hs : zsh a = (1, t, n)) (ht : zbk t = some g) (hi : zin? i n = true) (e : s2 = sI s a (nx i) (g x)) (h : zGo X d q (pc + 1, lv, st, zmk w s2, c, z) r) : zGo X d q (pc, lv, .int x :: .int i :: .ref a :: st, zmk w s, c, z) r := by
  refine zGo_bs hd (f := s.1 a) (by rw [hget_m ha, hs]; rfl) ht hi ?_
  have hk := zmk_set_m (w := w) ha (zoff_I (s := s) (k := nx i) (v := g x))
  rw [hs] at hk
  have e2 : ((sI s a (nx i) (g x)).1 a) = upd (s.1 a) (nx i) (g x) := if_pos rfl
  rw [e2, ← e] at hk
  have hk2 : (zmk w s).set (a - zE) (.inl (t, (n, .inl (upd (s.1 a) (nx i) (g x))))) = zmk w s2 := hk
  rw [hk2]
  exact h
theorem mLS {x : Int64} (hd : decode q.2.2.1 pc = .ok (.lastore, 1)) (ha : zms a = true) (hs : zsh a = (2, 3, n)) (hi : zin? i n = true) (e : s2 = sJ s a (nx i) x) (h : zGo X d q (pc + 1, lv, st, zmk w s2, c, z) r) : zGo X d q (pc, lv, .long x :: .int i :: .ref a :: st, zmk w s, c, z) r := by
  refine zGo_ls hd (f := s.2.1 a) (by rw [hget_m ha, hs]; rfl) hi ?_
  have hk := zmk_set_m (w := w) ha (zoff_J (s := s) (k := nx i) (v := x))
  rw [hs] at hk
  have e2 : ((sJ s a (nx i) x).2.1 a) = vp_updL (s.2.1 a) (nx i) x := if_pos rfl
  rw [e2, ← e] at hk
  have hk2 : (zmk w s).set (a - zE) (.inl (3, (n, .inr (.inl (vp_updL (s.2.1 a) (nx i) x))))) = zmk w s2 := hk
  rw [hk2]
  exact h
end ZPm
