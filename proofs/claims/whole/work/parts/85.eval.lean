/-! one code of an expression -/
section ZEV
variable {G W : Nat → Nat → Nat} {F : Nat → Nat → Nat → Nat} {B C x y n i D : Nat} {s t s2 t2 : zσ}
/-- but for the pile and the signal -/
def scE (t t2 : zσ) : Prop := t2.2.2 = t.2.2 ∧ (∀ a, a ≠ 1245 → t2.2.1 a = t.2.1 a) ∧ ∀ a k, ¬ (a = 1132 ∧ k = 69) → t2.1 a k = t.1 a k
theorem scE_rf : scE t t := ⟨rfl, fun _ _ => rfl, fun _ _ _ => rfl⟩
theorem scE_tr {t3 : zσ} (h1 : scE t t2) (h2 : scE t2 t3) : scE t t3 := ⟨h2.1.trans h1.1, fun a b => (h2.2.1 a b).trans (h1.2.1 a b), fun a k e => (h2.2.2 a k e).trans (h1.2.2 a k e)⟩
theorem scE_M (h : scE t t2) : scM t t2 := ⟨h.1, h.2.1, fun a k _ _ _ e => h.2.2 a k e⟩
/-- the class's stack from hb on, the reference's pile: h numbers -/
def PS (hb h : Nat) (s t : zσ) : Prop := s.1 1007 16 = nI (hb + h) ∧ ∀ j, j < h → t.2.1 1245 j = (s.1 1033 (hb + j)).toInt64
theorem c_push {k : Nat} {v : Int64} (hv : v = v.toInt32.toInt64) (hk : s.1 1007 16 = nI k) (h : k < 64) : f91_265 n v s = some (0, sI (sI s 1007 16 (nI (k + 1))) 1033 k v.toInt32) := by
  have q : nI k < Int32.ofNat 64 := (nltN (b := 64) (by omega) (by decide)).mpr h
  have z : zin? (nI k) 64 = true := (zinN (by omega)).mpr h
  unfold f91_265
  rw [if_pos hv, hk, if_pos q]
  simp (disch := omega) only [zlet, ↓reduceIte, nI_1, z, nxN]
theorem c_nofit {v : Int64} (hv : ¬ v = v.toInt32.toInt64) : f91_265 n v s = some (5, s) := by
  unfold f91_265
  rw [if_neg hv]
theorem c_pop {k : Nat} (hk : s.1 1007 16 = nI (k + 1)) (h : k < 64) : f93 n s = some (s.1 1033 k, sI s 1007 16 (nI k)) := by
  have q : (0 : Int32) < nI (k + 1) := (nltN (a := 0) (by decide) (by omega)).mpr (by omega)
  have z : zin? (nI k) 64 = true := (zinN (by omega)).mpr h
  have e : nI (k + 1) - 1 = nI k := nI_pred k
  unfold f93
  rw [hk, if_pos q]
  simp (disch := omega) only [zlet, f93_17, ↓reduceIte, e, hIe, hIo, z, nxN]
theorem scC_16 {v : Int32} : scC s (sI s 1007 16 v) := ⟨rfl, fun a k _ _ _ _ => hIx (by omega)⟩
theorem scC_33 {k : Nat} {v : Int32} : scC s (sI s 1033 k v) := ⟨rfl, fun a k _ _ _ _ => hIx (by omega)⟩
theorem scE_45 {k : Nat} {v : Int64} : scE t (sJ t 1245 k v) := ⟨rfl, fun a h => by
  funext j
  rw [gJ, if_neg (by omega)], fun _ _ _ => rfl⟩
theorem scE_69 {v : Int32} : scE t (sI t 1132 69 v) := ⟨rfl, fun _ _ => rfl, fun a k _ => hIx (by omega)⟩
theorem scM_69 {v : Int32} : scM t (sI t 1132 69 v) := scE_M scE_69
/-- one number more on the pile -/
theorem PS_push {hb h : Nat} {v : Int64} (hv : v = v.toInt32.toInt64) (hP : PS hb h s t) : PS hb (h + 1) (sI (sI s 1007 16 (nI (hb + h + 1))) 1033 (hb + h) v.toInt32) (sJ t 1245 h v) := by
  refine ⟨by rw [hIo (by decide), hIe]; rfl, fun j hj => ?_⟩
  by_cases q : j = h
  · subst q
    rw [gJ, if_pos ⟨rfl, rfl⟩, hIe]
    exact hv
  · rw [gJ, if_neg (by omega), hIk (by omega), hIo (by decide)]
    exact hP.2 j (by omega)
/-- what the loop of the reference does at code p -/
theorem m_code {e h p c1 j : Nat} (hy : y = 1134 ∨ y = 1170) (h11 : t.2.2 1132 11 = some y) (he : e < 401) (hto : t.1 (y + 26) e = nI c1) (hp : p < c1) (hc : c1 ≤ 400) (h69 : t.1 1132 69 = 0) (h27 : t.1 (y + 27) p = nI (G 13 p)) (hG : G 13 p ≤ 7) : f243_13 n (j + 1) (nI i) (nI e) (nI h) (nI p) t =
    (if nI (G 13 p) = (7 : Int32) then
      if zin? ((nI h + (-1 : Int32)) - (1 : Int32)) 420 = true then
      if zin? (nI h + (-1 : Int32)) 420 = true then
      yb1 (f244 n (t.1 (y + 28) p) (t.2.1 1245 (nx ((nI h + (-1 : Int32)) - (1 : Int32)))) (t.2.1 1245 (nx (nI h + (-1 : Int32)))) t) fun v20 u19 =>
      if zin? ((nI h + (-1 : Int32)) - (1 : Int32)) 420 = true then
      zlet (sJ u19 1245 (nx ((nI h + (-1 : Int32)) - (1 : Int32))) v20) fun u21 =>
      f243_261 n (f243_13 n j) (nI i) (nI e) (nI h + (-1 : Int32)) (nI p) u21
      else none
      else none
      else none
      else if nI (G 13 p) = (6 : Int32) then
      if zin? (nI h - (1 : Int32)) 420 = true then
      yb1 (f245 n (-(t.2.1 1245 (nx (nI h - (1 : Int32))))) t) fun v17 u16 =>
      if zin? (nI h - (1 : Int32)) 420 = true then
      zlet (sJ u16 1245 (nx (nI h - (1 : Int32))) v17) fun u18 =>
      f243_261 n (f243_13 n j) (nI i) (nI e) (nI h) (nI p) u18
      else none
      else none
      else if nI (G 13 p) = (2 : Int32) then
      zrd 12 (t.2.2 1132 11) fun a12 =>
      if zin? (t.1 (y + 28) p) 1400 = true then
      if zin? (nI h - (1 : Int32)) 420 = true then
      yb1 (f247 n (t.1 (a12 + 33) (nx (t.1 (y + 28) p))) (t.2.1 1245 (nx (nI h - (1 : Int32)))) t) fun v14 u13 =>
      if zin? (nI h - (1 : Int32)) 420 = true then
      zlet (sJ u13 1245 (nx (nI h - (1 : Int32))) (v14.toInt64)) fun u15 =>
      f243_261 n (f243_13 n j) (nI i) (nI e) (nI h) (nI p) u15
      else none
      else none
      else none
      else if nI (G 13 p) = (0 : Int32) then
      f243_257 n (f243_13 n j) (nI i) (nI e) (nI h) (nI p) ((t.1 (y + 28) p).toInt64) (nI h) t
      else if nI (G 13 p) = (1 : Int32) then
      yb1 (f250 n (nI i) (t.1 (y + 28) p) t) fun v11 u10 =>
      f243_257 n (f243_13 n j) (nI i) (nI e) (nI h) (nI p) (v11.toInt64) (nI h) u10
      else if nI (G 13 p) = (4 : Int32) then
      f243_257 n (f243_13 n j) (nI i) (nI e) (nI h) (nI p) ((t.1 1132 20).toInt64) (nI h) t
      else if nI (G 13 p) = (5 : Int32) then
      zrd 12 (t.2.2 1132 11) fun a9 =>
      if zin? (t.1 (y + 28) p) 1400 = true then
      if zin? (t.1 (a9 + 33) (nx (t.1 (y + 28) p))) 8 = true then
      f243_257 n (f243_13 n j) (nI i) (nI e) (nI h) (nI p) ((t.1 1225 (nx (t.1 (a9 + 33) (nx (t.1 (y + 28) p))))).toInt64) (nI h) t
      else none
      else none
      else zrd 12 (t.2.2 1132 11) fun a6 =>
      if zin? (t.1 (y + 28) p) 1400 = true then
      yb1 (f249 n (t.1 (a6 + 33) (nx (t.1 (y + 28) p))) t) fun v8 u7 =>
      f243_257 n (f243_13 n j) (nI i) (nI e) (nI h) (nI p) (v8.toInt64) (nI h) u7
      else none) := by
  have c12 := gck12 hy
  have z4 : zin? (nI e) 401 = true := (zinN (by omega)).mpr he
  have z9 : zin? (nI p) 900 = true := (zinN (by omega)).mpr (by omega)
  have q : nI p < nI c1 := (nltN (by omega) (by omega)).mpr hp
  rw [f243_13, h11, grd c12, if_pos z4, nxN (show e < 2 ^ 31 by omega), hto, if_pos q, h69, if_pos rfl, grd c12, if_pos z9, nxN (show p < 2 ^ 31 by omega), zlet, grd c12, if_pos z9, h27, zlet]
theorem m_push {e h p j : Nat} {v : Int64} (hh : h < 420) : f243_257 n (f243_13 n j) (nI i) (nI e) (nI h) (nI p) v (nI h) t = f243_13 n j (nI i) (nI e) (nI (h + 1)) (nI (p + 1)) (sJ t 1245 h v) := by
  have z : zin? (nI h) 420 = true := (zinN (by omega)).mpr hh
  unfold f243_257
  rw [if_pos z, nxN (show h < 2 ^ 31 by omega), nI_1]
  show f243_261 n (f243_13 n j) (nI i) (nI e) (nI (h + 1)) (nI p) (sJ t 1245 h v) = _
  unfold f243_261
  rw [nI_1]
theorem m_sig {w : Nat} (h69 : t.1 1132 69 = 0) : f246 n (nI w) t = some (sI t 1132 69 (nI w)) := by
  unfold f246
  rw [if_pos h69]
  rfl
/-- what a code does: a number more or less, or a signal -/
def evO (n i e hb h h2 p : Nat) (op ar : Int32) (s t : zσ) : Prop := ∃ s2 t2, scC s s2 ∧ scE t t2 ∧ (∀ j, j < hb → s2.1 1033 j = s.1 1033 j) ∧ ((f91 n (1036 + 3 * i) op ar s = some (0, s2) ∧ (∀ j, f243_13 n (j + 1) (nI i) (nI e) (nI h) (nI p) t = f243_13 n j (nI i) (nI e) (nI h2) (nI (p + 1)) t2) ∧ t2.1 1132 69 = 0 ∧ PS hb h2 s2 t2) ∨ (∃ w, 1 ≤ w ∧ w < 20 ∧ f91 n (1036 + 3 * i) op ar s = some (nI w, s2) ∧ t2.1 1132 69 = nI w ∧ ∀ j, ∃ h3, f243_13 n (j + 1) (nI i) (nI e) (nI h) (nI p) t = f243_13 n j (nI i) (nI e) h3 (nI (p + 1)) t2))
/-- a number is pushed by both -/
theorem evO_push {e hb h p : Nat} {op ar : Int32} {v : Int64} (hv : v = v.toInt32.toInt64) (hP : PS hb h s t) (h69 : t.1 1132 69 = 0) (hhb : hb ≤ 3) (hh : h ≤ 40) (hc : f91 n (1036 + 3 * i) op ar s = f91_265 n v s) (hm : ∀ j, f243_13 n (j + 1) (nI i) (nI e) (nI h) (nI p) t = f243_257 n (f243_13 n j) (nI i) (nI e) (nI h) (nI p) v (nI h) t) : evO n i e hb h (h + 1) p op ar s t := by
  refine ⟨_, _, scC_tr scC_16 scC_33, scE_45, fun j hj => ?_, Or.inl ⟨?_, fun j => ?_, ?_, PS_push hv hP⟩⟩
  · rw [hIk (by omega), hIo (by decide)]
  · rw [hc, c_push hv hP.1 (by omega)]
  · rw [hm j, m_push (by omega)]
  · rw [gJ1]; exact h69
end ZEV
