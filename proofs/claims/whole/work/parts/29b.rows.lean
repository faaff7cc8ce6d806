/-! rows for fields and arrays over heaps of which a place is known -/
section ZR
variable {X : zXT} {d : Nat} {q : zMI} {pc c z : Nat} {lv : List (Nat × Value)} {st : List Value} {hp : List PE} {r : zR} {a : Nat} {i : Int32} {n : Nat}
theorem zGo_gf {idx ci kf : Nat} {b : Bool} {fs : List Value} {v : Value} (hd : decode q.2.2.1 pc = .ok (.getfield idx, 3)) (hz : zfl q.1 idx = some (b, ci, kf)) (hg : hget hp a = some (.inr (ci, fs))) (hv : fs[kf]? = some v) (h : zGo X d q (pc + 3, lv, v :: st, hp, c, z) r) : zGo X d q (pc, lv, .ref a :: st, hp, c, z) r := by
  refine zGo_s hd ?_ h
  simp only [zstep, sStk, sLd, sSv, sBr, sHp, zgf, hz, hg, hv, if_true]
  rfl
theorem zGo_pf {idx ci kf : Nat} {b : Bool} {fs : List Value} {v : Value} (hd : decode q.2.2.1 pc = .ok (.putfield idx, 3)) (hz : zfl q.1 idx = some (b, ci, kf)) (hg : hget hp a = some (.inr (ci, fs))) (hk : kf < fs.length) (hf : zfit (zty ci kf) v = true) (hn : zfin q.1 (q.2.2.2.2.2.2 == 1) b ci kf = true) (h : zGo X d q (pc + 3, lv, st, hp.set (a - zE) (.inr (ci, fs.set kf v)), c, z) r) : zGo X d q (pc, lv, v :: .ref a :: st, hp, c, z) r := by
  refine zGo_s hd ?_ h
  simp only [zstep, sStk, sLd, sSv, sBr, sHp, zpf, hz, hg, hk, hf, hn, if_true]
  rfl
theorem zGo_ia {f : Nat → Int32} (hd : decode q.2.2.1 pc = .ok (.iaload, 1)) (hg : hget hp a = some (.inl (0, (n, .inl f)))) (hi : zin? i n = true) (h : zGo X d q (pc + 1, lv, .int (f i.toNatClampNeg) :: st, hp, c, z) r) : zGo X d q (pc, lv, .int i :: .ref a :: st, hp, c, z) r := by
  refine zGo_s hd ?_ h
  simp only [zstep, sStk, sLd, sSv, sBr, sHp, zaI, hg, hi, if_true]
  rfl
theorem zGo_ba {t : Nat} {f : Nat → Int32} (hd : decode q.2.2.1 pc = .ok (.baload, 1)) (hg : hget hp a = some (.inl (t, (n, .inl f)))) (ht : (t == 1 || t == 2) = true) (hi : zin? i n = true) (h : zGo X d q (pc + 1, lv, .int (f i.toNatClampNeg) :: st, hp, c, z) r) : zGo X d q (pc, lv, .int i :: .ref a :: st, hp, c, z) r := by
  refine zGo_s hd ?_ h
  simp only [zstep, sStk, sLd, sSv, sBr, sHp, zaI, hg, ht, hi, if_true]
  rfl
theorem zGo_la {f : Nat → Int64} (hd : decode q.2.2.1 pc = .ok (.laload, 1)) (hg : hget hp a = some (.inl (3, (n, .inr (.inl f))))) (hi : zin? i n = true) (h : zGo X d q (pc + 1, lv, .long (f i.toNatClampNeg) :: st, hp, c, z) r) : zGo X d q (pc, lv, .int i :: .ref a :: st, hp, c, z) r := by
  refine zGo_s hd ?_ h
  simp only [zstep, sStk, sLd, sSv, sBr, sHp, zaJ, hg, hi, if_true]
  rfl
theorem zGo_aa {t : Nat} {f : Nat → Option Nat} (hd : decode q.2.2.1 pc = .ok (.aaload, 1)) (hg : hget hp a = some (.inl (t, (n, .inr (.inr (.inr (.inr f))))))) (ht : t = 4 ∨ t = 5) (hi : zin? i n = true) (h : zGo X d q (pc + 1, lv, va_rf (f i.toNatClampNeg) :: st, hp, c, z) r) : zGo X d q (pc, lv, .int i :: .ref a :: st, hp, c, z) r := by
  refine zGo_s hd ?_ h
  simp only [zstep, sStk, sLd, sSv, sBr, sHp, zaA, hg, ht, hi, if_true]
  rfl
theorem zGo_al {t : Nat} {x : vp_A} (hd : decode q.2.2.1 pc = .ok (.arraylength, 1)) (hg : hget hp a = some (.inl (t, x))) (ht : t < 6) (h : zGo X d q (pc + 1, lv, .int (Int32.ofNat x.1) :: st, hp, c, z) r) : zGo X d q (pc, lv, .ref a :: st, hp, c, z) r := by
  refine zGo_s hd ?_ h
  simp only [zstep, sStk, sLd, sSv, sBr, sHp, zaL, hg, ht, if_true]
  rfl
theorem zGo_is {f : Nat → Int32} {x : Int32} (hd : decode q.2.2.1 pc = .ok (.iastore, 1)) (hg : hget hp a = some (.inl (0, (n, .inl f)))) (hi : zin? i n = true) (h : zGo X d q (pc + 1, lv, st, hp.set (a - zE) (.inl (0, (n, .inl (upd f i.toNatClampNeg x)))), c, z) r) : zGo X d q (pc, lv, .int x :: .int i :: .ref a :: st, hp, c, z) r := by
  refine zGo_s hd ?_ h
  simp only [zstep, sStk, sLd, sSv, sBr, sHp, zasI, zik, hg, hi, if_true]
  rfl
theorem zGo_bs {t : Nat} {g : Int32 → Int32} {f : Nat → Int32} {x : Int32} (hd : decode q.2.2.1 pc = .ok (.bastore, 1)) (hg : hget hp a = some (.inl (t, (n, .inl f)))) (ht : zbk t = some g) (hi : zin? i n = true) (h : zGo X d q (pc + 1, lv, st, hp.set (a - zE) (.inl (t, (n, .inl (upd f i.toNatClampNeg (g x))))), c, z) r) : zGo X d q (pc, lv, .int x :: .int i :: .ref a :: st, hp, c, z) r := by
  refine zGo_s hd ?_ h
  simp only [zstep, sStk, sLd, sSv, sBr, sHp, zasI, hg, ht, hi, if_true]
  rfl
theorem zGo_ls {f : Nat → Int64} {x : Int64} (hd : decode q.2.2.1 pc = .ok (.lastore, 1)) (hg : hget hp a = some (.inl (3, (n, .inr (.inl f))))) (hi : zin? i n = true) (h : zGo X d q (pc + 1, lv, st, hp.set (a - zE) (.inl (3, (n, .inr (.inl (vp_updL f i.toNatClampNeg x))))), c, z) r) : zGo X d q (pc, lv, .long x :: .int i :: .ref a :: st, hp, c, z) r := by
  refine zGo_s hd ?_ h
  simp only [zstep, sStk, sLd, sSv, sBr, sHp, zasJ, hg, hi, if_true]
  rfl
end ZR
