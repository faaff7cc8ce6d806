/-! each code of an expression, for both -/
section ZEW
variable {G W : Nat → Nat → Nat} {F : Nat → Nat → Nat → Nat} {B C x y n i D : Nat} {s t : zσ}
theorem PS_set {hb h k : Nat} {sP : zσ} {v : Int64} (hv : v = v.toInt32.toInt64) (hs : sP.1 1033 = s.1 1033) (hP : PS hb h s t) (hk : k < h) : PS hb (k + 1) (sI (sI sP 1007 16 (nI (hb + k + 1))) 1033 (hb + k) v.toInt32) (sJ t 1245 k v) := by
  refine ⟨by rw [hIo (by decide), hIe]; rfl, fun j hj => ?_⟩
  by_cases q : j = k
  · subst q
    rw [gJ, if_pos ⟨rfl, rfl⟩, hIe]
    exact hv
  · rw [gJ, if_neg (by omega), hIk (by omega), hIo (by decide), hs]
    exact hP.2 j (by omega)
theorem evO_set {e hb h k p : Nat} {op ar : Int32} {v : Int64} {sP : zσ} (hv : v = v.toInt32.toInt64) (hsc : scC s sP) (hs : sP.1 1033 = s.1 1033) (h16 : sP.1 1007 16 = nI (hb + k)) (hP : PS hb h s t) (h69 : t.1 1132 69 = 0) (hhb : hb ≤ 3) (hh : h ≤ 40) (hk : k < h) (hc : f91 n (1036 + 3 * i) op ar s = f91_265 n v sP) (hm : ∀ j, f243_13 n (j + 1) (nI i) (nI e) (nI h) (nI p) t = f243_13 n j (nI i) (nI e) (nI (k + 1)) (nI (p + 1)) (sJ t 1245 k v)) : evO n i e hb h (k + 1) p op ar s t := by
  refine ⟨_, _, scC_tr hsc (scC_tr scC_16 scC_33), scE_45, fun j hj => ?_, Or.inl ⟨?_, hm, ?_, PS_set (sP := sP) hv hs hP hk⟩⟩
  · rw [hIk (by omega), hIo (by decide), hs]
  · rw [hc, c_push hv h16 (by omega)]
  · rw [gJ1]; exact h69
theorem evO_sig {e hb h h2 w p : Nat} {op ar : Int32} {sP tP : zσ} (hw : 1 ≤ w ∧ w < 20) (hsc : scC s sP) (hs : sP.1 1033 = s.1 1033) (hsm : scE t tP) (h69 : tP.1 1132 69 = nI w) (hc : f91 n (1036 + 3 * i) op ar s = some (nI w, sP)) (hm : ∀ j, ∃ h3, f243_13 n (j + 1) (nI i) (nI e) (nI h) (nI p) t = f243_13 n j (nI i) (nI e) h3 (nI (p + 1)) tP) : evO n i e hb h h2 p op ar s t :=
  ⟨sP, tP, hsc, hsm, fun j hj => by rw [hs], Or.inr ⟨w, hw.1, hw.2, hc, h69, hm⟩⟩
theorem c_16 {v : Int32} : (sI s 1007 16 v).1 1033 = s.1 1033 := hIo (by decide)
theorem CL_st (h : CL G F W B C x y i D s t) {v : Nat} (hv : v < 8) : s.1 (1036 + 3 * v) 3 = t.1 1225 v := by
  by_cases q : v = i
  · subst q
    obtain ⟨a, k, -, h1, h2, -⟩ := h.2.2.1
    rw [h1, h2]
  · exact rT_st (h.1.2.2.2.2.1 v hv q)
/-- fit, for the reference -/
theorem m_fit {v : Int64} (h69 : t.1 1132 69 = 0) : (v = v.toInt32.toInt64 → f245 n v t = some (v, t)) ∧ (¬ v = v.toInt32.toInt64 → f245 n v t = some (v, sI t 1132 69 (nI 5))) := by
  unfold f245
  constructor
  · intro q
    rw [if_pos q]
  · intro q
    rw [if_neg q, show (5 : Int32) = nI 5 from rfl, m_sig h69]
    rfl
/-- a binary sign, for both: the same number, or the same signal -/
theorem sign_ok {op : Int32} {a b : Int32} (h69 : t.1 1132 69 = 0) (hop : op = 43 ∨ op = 45 ∨ op = 42 ∨ op = 47 ∨ op = 37 ∨ op = 61 ∨ op = 60 ∨ op = 62) : (∃ v : Int64, v = v.toInt32.toInt64 ∧ (¬ (b.toInt64 = 0 ∧ (op = 47 ∨ op = 37))) ∧ (∀ u, f96 n op a.toInt64 b.toInt64 u = some (v, u)) ∧ f244 n op a.toInt64 b.toInt64 t = some (v, t)) ∨ (∃ v : Int64, ¬ v = v.toInt32.toInt64 ∧ (¬ (b.toInt64 = 0 ∧ (op = 47 ∨ op = 37))) ∧ (∀ u, f96 n op a.toInt64 b.toInt64 u = some (v, u)) ∧ f244 n op a.toInt64 b.toInt64 t = some (v, sI t 1132 69 (nI 5))) ∨ (b.toInt64 = 0 ∧ (op = 47 ∨ op = 37) ∧ f244 n op a.toInt64 b.toInt64 t = some (0, sI t 1132 69 (nI 4))) := by
  have fin : ∀ v : Int64, (¬ (b.toInt64 = 0 ∧ (op = 47 ∨ op = 37))) → (∀ u, f96 n op a.toInt64 b.toInt64 u = some (v, u)) → f244 n op a.toInt64 b.toInt64 t = (yb1 (f245 n v t) fun v2 u1 => some (v2, u1)) → (∃ v : Int64, v = v.toInt32.toInt64 ∧ (¬ (b.toInt64 = 0 ∧ (op = 47 ∨ op = 37))) ∧ (∀ u, f96 n op a.toInt64 b.toInt64 u = some (v, u)) ∧ f244 n op a.toInt64 b.toInt64 t = some (v, t)) ∨ (∃ v : Int64, ¬ v = v.toInt32.toInt64 ∧ (¬ (b.toInt64 = 0 ∧ (op = 47 ∨ op = 37))) ∧ (∀ u, f96 n op a.toInt64 b.toInt64 u = some (v, u)) ∧ f244 n op a.toInt64 b.toInt64 t = some (v, sI t 1132 69 (nI 5))) ∨ (b.toInt64 = 0 ∧ (op = 47 ∨ op = 37) ∧ f244 n op a.toInt64 b.toInt64 t = some (0, sI t 1132 69 (nI 4))) := by
    intro v h0 h1 h2
    by_cases q : v = v.toInt32.toInt64
    · exact Or.inl ⟨v, q, h0, h1, by rw [h2, (m_fit h69).1 q]; rfl⟩
    · exact Or.inr (Or.inl ⟨v, q, h0, h1, by rw [h2, (m_fit h69).2 q]; rfl⟩)
  have m4 : f246 n 4 t = some (sI t 1132 69 (nI 4)) := m_sig (w := 4) h69
  rcases hop with rfl | rfl | rfl | rfl | rfl | rfl | rfl | rfl
  · exact fin (a.toInt64 + b.toInt64) (by simp) (fun u => by simp [f96]) (by simp [f244])
  · exact fin (a.toInt64 - b.toInt64) (by simp) (fun u => by simp [f96]) (by simp [f244])
  · exact fin (a.toInt64 * b.toInt64) (by simp) (fun u => by simp [f96]) (by simp [f244])
  · by_cases q : b.toInt64 = 0
    · refine Or.inr (Or.inr ⟨q, Or.inl rfl, ?_⟩)
      simp [f244, f244_143, q, m4, gy0]
    · exact fin (a.toInt64 / b.toInt64) (by simp [q]) (fun u => by simp [f96, q]) (by simp [f244, f244_143, q])
  · by_cases q : b.toInt64 = 0
    · refine Or.inr (Or.inr ⟨q, Or.inr rfl, ?_⟩)
      simp [f244, f244_143, q, m4, gy0]
    · refine Or.inl ⟨(a % b).toInt64, fits _, by simp [q], fun u => ?_, ?_⟩
      · rw [← fit_mod a b q]
        simp [f96, q]
      · rw [← fit_mod a b q]
        simp [f244, f244_143, q]
  · by_cases q : a.toInt64 = b.toInt64
    · exact Or.inl ⟨1, fit1, by simp, fun u => by simp [f96, q], by simp [f244, q]⟩
    · exact Or.inl ⟨0, fit0, by simp, fun u => by simp [f96, q], by simp [f244, q]⟩
  · by_cases q : a.toInt64 < b.toInt64
    · exact Or.inl ⟨1, fit1, by simp, fun u => by simp only [f96]; simp [q], by simp only [f244]; simp [q]⟩
    · exact Or.inl ⟨0, fit0, by simp, fun u => by simp only [f96]; simp [q], by simp only [f244]; simp [q]⟩
  · by_cases q : b.toInt64 < a.toInt64
    · exact Or.inl ⟨1, fit1, by simp, fun u => by simp only [f96, f96_180]; simp [q], by simp only [f244, f244_205]; simp [q]⟩
    · exact Or.inl ⟨0, fit0, by simp, fun u => by simp only [f96, f96_180]; simp [q], by simp only [f244, f244_205]; simp [q]⟩
end ZEW
