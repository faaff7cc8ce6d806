/-! words and signs; what the reference asks of a token -/
def zsg (u : Nat) : Bool := decide (u ∈ [40, 41, 123, 125, 91, 93, 44, 59, 61, 60, 62, 43, 45, 42, 47, 37])
theorem zsg_all : ∀ u : Fin 256, (zidx 1 (nI u.1) < 0 ↔ zsg u.1 = false) ∧ (zidx 2 (nI u.1) < 0 ↔ zsg u.1 = false) := by decide +kernel
theorem zsg_1 {u : Nat} (h : u < 256) : (zidx 1 (nI u) < 0 ↔ zsg u = false) := (zsg_all ⟨u, h⟩).1
theorem zsg_2 {u : Nat} (h : u < 256) : (zidx 2 (nI u) < 0 ↔ zsg u = false) := (zsg_all ⟨u, h⟩).2
/-- the words of the class, one by one: none twice -/
theorem zWd_inj : ∀ i j : Fin 47, zWd i.1 = zWd j.1 → i = j := by decide +kernel
theorem zkwf_no {nm : Int64} : ∀ (m i : Nat) (kd : Int32), (∀ k, i ≤ k → k < i + m → ¬ zWd k = nm) → zkwf nm m i kd = kd
  | 0, _, _, _ => rfl
  | m + 1, i, kd, h => by
    unfold zkwf
    rw [if_neg (h i (Nat.le_refl _) (by omega))]
    exact zkwf_no m (i + 1) kd (fun k h1 h2 => h k (by omega) (by omega))
theorem zkwf_at {nm : Int64} {w : Nat} (hw : zWd w = nm) (hw2 : w < 47) : ∀ (m i : Nat) (kd : Int32), i + m = 47 → i ≤ w → zkwf nm m i kd = nI (128 + w)
  | 0, i, _, h1, h2 => by omega
  | m + 1, i, kd, h1, h2 => by
    unfold zkwf
    by_cases e : i = w
    · subst e
      rw [if_pos hw]
      refine zkwf_no m (i + 1) _ (fun k h3 h4 h5 => ?_)
      have h6 := zWd_inj ⟨k, by omega⟩ ⟨i, hw2⟩ (h5.trans hw.symm)
      have h7 : k = i := congrArg Fin.val h6
      omega
    · exact zkwf_at hw hw2 m (i + 1) _ (by omega) (by omega)
theorem zkw_at {nm : Int64} {w : Nat} (hw : zWd w = nm) (hw2 : w < 47) : zkwf nm 47 0 1 = nI (128 + w) := zkwf_at hw hw2 47 0 1 rfl (Nat.zero_le _)
theorem zkw_no {nm : Int64} (h : ∀ k, k < 47 → ¬ zWd k = nm) : zkwf nm 47 0 1 = 1 := zkwf_no 47 0 1 (fun k _ h2 => h k (by omega))
/-- the first m characters of text k from place p on, as a name -/
def zseg (k p : Nat) : Nat → Int64
  | 0 => 0
  | m + 1 => (zseg k p m <<< ((8 : Int32).toInt64 &&& 63)) ||| (zchr k (p + m)).toInt64
section ZTK
variable {n : Nat}
theorem of_L {k : Nat} (hk : k < 51) (t : zσ) : ∀ (m i j : Nat), i + m = zlen.getD k 0 → m < j → f171_4 n j k (zseg k 0 i) (nI i) t = some (zseg k 0 (zlen.getD k 0), t) := by
  intro m
  have hl := zsLen hk
  induction m with
  | zero =>
    intro i j h hj
    obtain ⟨j, rfl⟩ : ∃ j0, j = j0 + 1 := ⟨j - 1, by omega⟩
    rw [f171_4, ← h]
    rw [if_neg (show ¬ nI i < Int32.ofNat (i + 0) from Int32.lt_irrefl)]
    rfl
  | succ m ih =>
    intro i j h hj
    obtain ⟨j, rfl⟩ : ∃ j0, j = j0 + 1 := ⟨j - 1, by omega⟩
    rw [f171_4, if_pos (show nI i < Int32.ofNat (zlen.getD k 0) from nI_lt (by omega) hl), if_pos (zin_nI (by omega) hl), nx_nI (show i < 2 ^ 31 by omega)]
    have h1 := ih (i + 1) j (by omega) (by omega)
    show f171_4 n j k ((zseg k 0 i <<< ((8 : Int32).toInt64 &&& 63)) ||| (zchr k i).toInt64) (nI i + 1) t = _
    rw [nI_1]
    have e : zseg k 0 (i + 1) = (zseg k 0 i <<< ((8 : Int32).toInt64 &&& 63)) ||| (zchr k i).toInt64 := by
      show (zseg k 0 i <<< ((8 : Int32).toInt64 &&& 63)) ||| (zchr k (0 + i)).toInt64 = _
      rw [Nat.zero_add]
    rw [← e]
    exact h1
/-- the name that a text is -/
def zofv (k : Nat) : Int64 := zseg k 0 (zlen.getD k 0)
theorem zlen_le : ∀ k : Fin 51, zlen.getD k.1 0 ≤ 238 := by decide +kernel
theorem of_ok {k : Nat} (hk : k < 51) (hn : 5000 ≤ n) (t : zσ) : f171 n k t = some (zofv k, t) := by
  have h := of_L (n := n) hk t (zlen.getD k 0) 0 n (by omega) (by have := zlen_le ⟨k, hk⟩; simp only at this; omega)
  exact h
/-- the blanks of the reference's text of words -/
def zspL : List Nat := [0, 4, 8, 13, 18, 23, 26, 30, 35, 40, 45, 48, 52, 55, 62, 65, 70, 76, 81, 86, 91, 95, 100, 108, 113, 119, 125, 131, 134, 138, 143, 149, 157, 164, 169, 173, 178, 185, 193, 197, 200, 206, 210, 216, 221, 226, 231, 237]
def zsp (i : Nat) : Nat := zspL.getD i 0
theorem zsp_ok : (∀ i : Fin 47, zsp i.1 + 1 < zsp (i.1 + 1) ∧ zsp (i.1 + 1) < 238) ∧ (∀ i : Fin 48, zchr 12 (zsp i.1) = 32) ∧ zsp 47 = 237 ∧ zsp 0 = 0 := by decide +kernel
theorem zsp_no : ∀ i : Fin 47, ∀ p : Fin 238, zsp i.1 < p.1 → p.1 < zsp (i.1 + 1) → ¬ zchr 12 p.1 = 32 := by decide +kernel
/-- the words of the reference -/
def zWm (i : Nat) : Int64 := zseg 12 (zsp i + 1) (zsp (i + 1) - (zsp i + 1))
theorem zWm_set : (∀ i : Fin 47, ∃ j : Fin 47, zWm i.1 = zWd j.1) ∧ (∀ j : Fin 47, ∃ i : Fin 47, zWm i.1 = zWd j.1) := by decide +kernel
theorem zlen12 : zlen.getD 12 0 = 238 := by decide +kernel
theorem res_in {x : Int64} {r2 : Int64 → Int32 → zσ → Option (Int32 × zσ)} {t : zσ} {i : Nat} (hi : i < 47) : ∀ (m p j : Nat), p + m = zsp (i + 1) → zsp i + 1 ≤ p → m < j → f176_20 n r2 j x (nI p) (zseg 12 (zsp i + 1) (p - (zsp i + 1))) t = if zWm i = x then some (1, t) else r2 x (nI (zsp (i + 1))) t := by
  intro m
  have hs := zsp_ok.1 ⟨i, hi⟩
  simp only at hs
  induction m with
  | zero =>
    intro p j h1 h2 hj
    obtain ⟨j, rfl⟩ : ∃ j0, j = j0 + 1 := ⟨j - 1, by omega⟩
    have e : p = zsp (i + 1) := by omega
    have h32 : zchr 12 p = 32 := by rw [e]; exact zsp_ok.2.1 ⟨i + 1, by omega⟩
    rw [f176_20, zlen12, if_pos (zin_nI (by omega) (by decide)), nx_nI (show p < 2 ^ 31 by omega), if_pos h32, e]
    rfl
  | succ m ih =>
    intro p j h1 h2 hj
    obtain ⟨j, rfl⟩ : ∃ j0, j = j0 + 1 := ⟨j - 1, by omega⟩
    have hno : ¬ zchr 12 p = 32 := zsp_no ⟨i, hi⟩ ⟨p, by omega⟩ (by simp only; omega) (by simp only; omega)
    rw [f176_20, zlen12, if_pos (zin_nI (by omega) (by decide)), nx_nI (show p < 2 ^ 31 by omega), if_neg hno, if_pos (zin_nI (by omega) (by decide))]
    have hih := ih (p + 1) j (by omega) (by omega) (by omega)
    show f176_20 n r2 j x (nI p + 1) ((zseg 12 (zsp i + 1) (p - (zsp i + 1)) <<< ((8 : Int32).toInt64 &&& 63)) ||| (zchr 12 p).toInt64) t = _
    rw [nI_1, ← hih]
    congr 1
    rw [show p + 1 - (zsp i + 1) = (p - (zsp i + 1)) + 1 by omega]
    show _ = (zseg 12 (zsp i + 1) (p - (zsp i + 1)) <<< ((8 : Int32).toInt64 &&& 63)) ||| (zchr 12 (zsp i + 1 + (p - (zsp i + 1)))).toInt64
    rw [show zsp i + 1 + (p - (zsp i + 1)) = p by omega]
theorem res_out {x : Int64} {t : zσ} (hn : 5000 ≤ n) : ∀ (m i j : Nat), i + m = 47 → m < j → ((∃ k, i ≤ k ∧ k < 47 ∧ zWm k = x) → f176_2 n j x (nI (zsp i)) t = some (1, t)) ∧ ((¬ ∃ k, i ≤ k ∧ k < 47 ∧ zWm k = x) → f176_2 n j x (nI (zsp i)) t = some (0, t)) := by
  intro m
  induction m with
  | zero =>
    intro i j h1 hj
    obtain ⟨j, rfl⟩ : ∃ j0, j = j0 + 1 := ⟨j - 1, by omega⟩
    have e : i = 47 := by omega
    subst e
    refine ⟨fun ⟨k, h1, h2, _⟩ => by omega, fun _ => ?_⟩
    rw [f176_2, zlen12, zsp_ok.2.2.1, if_neg (by decide)]
  | succ m ih =>
    intro i j h1 hj
    obtain ⟨j, rfl⟩ : ∃ j0, j = j0 + 1 := ⟨j - 1, by omega⟩
    have hs := zsp_ok.1 ⟨i, by omega⟩
    simp only at hs
    have hstep : f176_2 n (j + 1) x (nI (zsp i)) t = if zWm i = x then some (1, t) else f176_2 n j x (nI (zsp (i + 1))) t := by
      rw [f176_2, zlen12, nI_1, if_pos (show nI (zsp i + 1) < Int32.ofNat 238 from nI_lt (b := 238) (by omega) (by decide))]
      have hin := res_in (n := n) (x := x) (r2 := f176_2 n j) (t := t) (i := i) (by omega) (zsp (i + 1) - (zsp i + 1)) (zsp i + 1) n (by omega) (Nat.le_refl _) (by omega)
      rw [Nat.sub_self] at hin
      exact hin
    rw [hstep]
    obtain ⟨g1, g2⟩ := ih (i + 1) j (by omega) (by omega)
    by_cases hc : zWm i = x
    · exact ⟨fun _ => by rw [if_pos hc], fun q => absurd ⟨i, Nat.le_refl _, by omega, hc⟩ q⟩
    · rw [if_neg hc]
      refine ⟨fun ⟨k, h3, h4, h5⟩ => g1 ⟨k, ?_, h4, h5⟩, fun q => g2 (fun ⟨k, h3, h4, h5⟩ => q ⟨k, by omega, h4, h5⟩)⟩
      have : k ≠ i := fun e => hc (e ▸ h5)
      omega
/-- whether a name is a word -/
def zres (x : Int64) : Prop := ∃ k, k < 47 ∧ zWd k = x
theorem res_ok {x : Int64} (hn : 5000 ≤ n) (t : zσ) : (zres x → f176 n x t = some (1, t)) ∧ (¬ zres x → f176 n x t = some (0, t)) := by
  have h := res_out (n := n) (x := x) (t := t) hn 47 0 n rfl (by omega)
  rw [zsp_ok.2.2.2] at h
  constructor
  · rintro ⟨k, hk, e⟩
    obtain ⟨i, hi⟩ := zWm_set.2 ⟨k, hk⟩
    exact h.1 ⟨i.1, Nat.zero_le _, i.2, hi.trans e⟩
  · intro hno
    refine h.2 ?_
    rintro ⟨k, _, hk, e⟩
    obtain ⟨j, hj⟩ := zWm_set.1 ⟨k, hk⟩
    exact hno ⟨j.1, j.2, hj.symm.trans e⟩
end ZTK
/-- text k is the word i -/
theorem zofv_w : zofv 3 = zWd 0 ∧ zofv 4 = zWd 1 ∧ zofv 5 = zWd 2 ∧ zofv 6 = zWd 3 ∧ zofv 7 = zWd 4 ∧ zofv 8 = zWd 5 ∧ zofv 9 = zWd 6 ∧ zofv 10 = zWd 7 ∧ zofv 11 = zWd 8 ∧ zofv 13 = zWd 10 ∧ zofv 14 = zWd 11 ∧ zofv 15 = zWd 17 ∧ zofv 16 = zWd 18 ∧ zofv 17 = zWd 19 ∧ zofv 18 = zWd 20 ∧ zofv 19 = zWd 21 ∧ zofv 20 = zWd 22 ∧ zofv 21 = zWd 23 ∧ zofv 22 = zWd 24 ∧ zofv 23 = zWd 26 ∧ zofv 24 = zWd 27 ∧ zofv 25 = zWd 28 ∧ zofv 26 = zWd 31 ∧ zofv 27 = zWd 32 ∧ zofv 28 = zWd 33 ∧ zofv 29 = zWd 34 ∧ zofv 30 = zWd 35 ∧ zofv 31 = zWd 36 ∧ zofv 32 = zWd 39 ∧ zofv 33 = zWd 40 ∧ zofv 34 = zWd 25 ∧ zofv 35 = zWd 41 ∧ zofv 36 = zWd 42 ∧ zofv 37 = zWd 43 ∧ zofv 38 = zWd 30 ∧ zofv 39 = zWd 37 ∧ zofv 40 = zWd 38 ∧ zofv 41 = zWd 44 ∧ zofv 42 = zWd 45 ∧ zofv 43 = zWd 46 ∧ zofv 44 = zWd 29 ∧ zofv 45 = zWd 14 ∧ zofv 46 = zWd 16 ∧ zofv 47 = zWd 15 ∧ zofv 48 = zWd 13 ∧ zofv 49 = zWd 12 ∧ zofv 50 = zWd 9 := by decide +kernel
