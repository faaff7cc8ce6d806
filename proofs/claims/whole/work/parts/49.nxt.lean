/-! the reference's next: what it does to a text -/
def txM (U : Nat → Nat) (len : Nat) (t : zσ) : Prop := len ≤ 4000 ∧ t.1 1132 1 = nI len ∧ ∀ i, i < len → U i < 256 ∧ t.1 1133 i = nI (U i)
/-- t2 is t but for the fields of a token -/
def frN (t t2 : zσ) : Prop := zoff t t2 1132 ∧ (∀ k, k ≠ 3 → k ≠ 4 → k ≠ 5 → k ≠ 7 → k ≠ 8 → t2.1 1132 k = t.1 1132 k) ∧ (∀ k, k ≠ 6 → t2.2.1 1132 k = t.2.1 1132 k) ∧ t2.2.2 = t.2.2
theorem frN_rf {t : zσ} : frN t t := ⟨zoff_rf, fun _ _ _ _ _ _ => rfl, fun _ _ => rfl, rfl⟩
theorem frN_tr {t t2 t3 : zσ} (h1 : frN t t2) (h2 : frN t2 t3) : frN t t3 := ⟨zoff_tr h1.1 h2.1, fun k a b c d e => (h2.2.1 k a b c d e).trans (h1.2.1 k a b c d e), fun k a => (h2.2.2.1 k a).trans (h1.2.2.1 k a), h2.2.2.2.trans h1.2.2.2⟩
theorem frN_3 {t : zσ} {v : Int32} : frN t (sI t 1132 3 v) := ⟨zoff_I, fun k a _ _ _ _ => rIk a, fun _ _ => rfl, rfl⟩
theorem frN_4 {t : zσ} {v : Int32} : frN t (sI t 1132 4 v) := ⟨zoff_I, fun k _ a _ _ _ => rIk a, fun _ _ => rfl, rfl⟩
theorem frN_5 {t : zσ} {v : Int32} : frN t (sI t 1132 5 v) := ⟨zoff_I, fun k _ _ a _ _ => rIk a, fun _ _ => rfl, rfl⟩
theorem frN_7 {t : zσ} {v : Int32} : frN t (sI t 1132 7 v) := ⟨zoff_I, fun k _ _ _ a _ => rIk a, fun _ _ => rfl, rfl⟩
theorem frN_8 {t : zσ} {v : Int32} : frN t (sI t 1132 8 v) := ⟨zoff_I, fun k _ _ _ _ a => rIk a, fun _ _ => rfl, rfl⟩
theorem frN_J {t : zσ} {v : Int64} : frN t (sJ t 1132 6 v) := ⟨zoff_J, fun k _ _ _ _ _ => rfl, fun k a => rJk a, rfl⟩
theorem txM_fr {U : Nat → Nat} {len : Nat} {t t2 : zσ} (h : txM U len t) (ho : frN t t2) : txM U len t2 := ⟨h.1, (ho.2.1 1 (by decide) (by decide) (by decide) (by decide) (by decide)).trans h.2.1, fun i hi => by rw [(ho.1 1133 (by decide)).1]; exact h.2.2 i hi⟩
def rkKind (U : Nat → Nat) (len q : Nat) : Int32 := if q = len then 0 else if zltU (U q) = true then (if 8 < tkEnd U len q - q then 4 else 1) else if zfgU (U q) = true then (if 9 < tkEnd U len q - q then 4 else 2) else if zidx 2 (nI (U q)) < 0 then 4 else 3
section ZNX
variable {U : Nat → Nat} {len n : Nat}
theorem isL {u : Nat} (hu : u < 256) (t : zσ) : f165 n (nI u) t = some (if zltU u = true then 1 else 0, t) := by
  unfold f165
  have h1 := nIlt hu (k := 97) (by decide)
  have h2 := nIlt (u := 122) (by decide) hu
  by_cases hl : zltU u = true
  · have h : 97 ≤ u ∧ u ≤ 122 := by simpa [zltU] using hl
    rw [if_neg (fun e => by have := h1.mp e; omega), if_neg (fun e => by have := h2.mp e; omega), if_pos hl]
  · have h : ¬ (97 ≤ u ∧ u ≤ 122) := by simpa [zltU] using hl
    rw [if_neg hl]
    by_cases h3 : nI u < 97
    · rw [if_pos h3]
    · rw [if_neg h3, if_pos (show (122 : Int32) < nI u from h2.mpr (by have := mt h1.mpr h3; omega))]
theorem isF {u : Nat} (hu : u < 256) (t : zσ) : f166 n (nI u) t = some (if zfgU u = true then 1 else 0, t) := by
  unfold f166
  have h1 := nIlt hu (k := 48) (by decide)
  have h2 := nIlt (u := 57) (by decide) hu
  by_cases hl : zfgU u = true
  · have h : 48 ≤ u ∧ u ≤ 57 := by simpa [zfgU] using hl
    rw [if_neg (fun e => by have := h1.mp e; omega), if_neg (fun e => by have := h2.mp e; omega), if_pos hl]
  · have h : ¬ (48 ≤ u ∧ u ≤ 57) := by simpa [zfgU] using hl
    rw [if_neg hl]
    by_cases h3 : nI u < 48
    · rw [if_pos h3]
    · rw [if_neg h3, if_pos (show (57 : Int32) < nI u from h2.mpr (by have := mt h1.mpr h3; omega))]
theorem nIe {u k : Nat} (hu : u < 256) (hk : k < 256) : nI u = nI k ↔ u = k := nI_eq (by omega) (by omega)
theorem nxt_skip {t : zσ} (hT : txM U len t) : ∀ (m p j : Nat), len - p = m → p ≤ len → m < j → f164_5 n j (nI p) t = f164_41 n (nI (zsk U len p)) t := by
  intro m
  have hl := hT.1
  induction m with
  | zero =>
    intro p j hm hp hj
    obtain ⟨j, rfl⟩ : ∃ j0, j = j0 + 1 := ⟨j - 1, by omega⟩
    have e : p = len := by omega
    subst e
    rw [f164_5, hT.2.1, if_neg Int32.lt_irrefl, zsk_l]
  | succ m ih =>
    intro p j hm hp hj
    obtain ⟨j, rfl⟩ : ∃ j0, j = j0 + 1 := ⟨j - 1, by omega⟩
    have hlt : p < len := by omega
    obtain ⟨hu, hb⟩ := hT.2.2 p hlt
    have hin : zin? (nI p) 4000 = true := zin_nI (by omega) (by decide)
    have h35 : f164_35 n (f164_5 n j) (nI p) t = f164_5 n j (nI (p + 1)) t := by
      show f164_5 n j (nI p + 1) t = _
      rw [nI_1]
    have hih := ih (p + 1) j (by omega) (by omega) (by omega)
    rw [f164_5, hT.2.1, if_pos (nI_lt hlt (by omega)), if_pos hin, nx_nI (show p < 2 ^ 31 by omega), hb]
    by_cases h1 : U p = 10
    · rw [if_pos (show nI (U p) = (10 : Int32) from (nIe hu (k := 10) (by decide)).mpr h1), zsk_s hlt (by simp [zblU, h1]), h35]
      exact hih
    · rw [if_neg (show ¬ nI (U p) = (10 : Int32) from fun q => h1 ((nIe hu (k := 10) (by decide)).mp q)), if_pos hin]
      by_cases h2 : U p = 32
      · rw [if_pos (show nI (U p) = (32 : Int32) from (nIe hu (k := 32) (by decide)).mpr h2), zsk_s hlt (by simp [zblU, h2]), h35]
        exact hih
      · rw [if_neg (show ¬ nI (U p) = (32 : Int32) from fun q => h2 ((nIe hu (k := 32) (by decide)).mp q)), zsk_n (by simp [zblU, h1, h2])]
/-- a name -/
theorem nxt_name {q : Nat} : ∀ (m p j : Nat) (t : zσ), len - p = m → p ≤ len → m < j → q ≤ p → txM U len t → t.2.1 1132 6 = znm U q (p - q) → ∃ t2, f164_79 n j (nI p) t = f164_136 n (nI (zrn U true len p)) t2 ∧ frN t t2 ∧ (∀ k, t2.1 1132 k = t.1 1132 k) ∧ t2.2.1 1132 6 = znm U q (zrn U true len p - q) := by
  intro m
  induction m with
  | zero =>
    intro p j t hm hp hj hq hT h6
    obtain ⟨j, rfl⟩ : ∃ j0, j = j0 + 1 := ⟨j - 1, by omega⟩
    have e : p = len := by omega
    subst e
    refine ⟨t, ?_, frN_rf, fun _ => rfl, by rw [zrn_l]; exact h6⟩
    rw [f164_79, hT.2.1, if_neg Int32.lt_irrefl, zrn_l]
  | succ m ih =>
    intro p j t hm hp hj hq hT h6
    obtain ⟨j, rfl⟩ : ∃ j0, j = j0 + 1 := ⟨j - 1, by omega⟩
    have hlt : p < len := by omega
    have hl := hT.1
    obtain ⟨hu, hb⟩ := hT.2.2 p hlt
    have hin : zin? (nI p) 4000 = true := zin_nI (by omega) (by decide)
    have hnx : nx (nI p) = p := nx_nI (by omega)
    have hgo : ∃ t2, f164_111 n (f164_79 n j) (nI p) t = f164_136 n (nI (zrn U true len (p + 1))) t2 ∧ frN t t2 ∧ (∀ k, t2.1 1132 k = t.1 1132 k) ∧ t2.2.1 1132 6 = znm U q (zrn U true len (p + 1) - q) := by
      have hm1 : p + 1 - q = (p - q) + 1 := by omega
      have hm2 : q + (p - q) = p := by omega
      obtain ⟨t2, e, o, rk, r6⟩ := ih (p + 1) j (sJ t 1132 6 (znm U q (p + 1 - q))) (by omega) (by omega) (by omega) (by omega) (txM_fr hT frN_J) rJe
      refine ⟨t2, ?_, frN_tr frN_J o, fun k => (rk k).trans rfl, r6⟩
      rw [← e]
      show (if zin? (nI p) 4000 = true then _ else none) = _
      rw [if_pos hin]
      show f164_79 n j (nI p + 1) (sJ t 1132 6 _) = _
      rw [nI_1, hnx, hb, h6, hm1]
      show _ = f164_79 n j (nI (p + 1)) (sJ t 1132 6 ((znm U q (p - q) <<< ((8 : Int32).toInt64 &&& 63)) ||| (nI (U (q + (p - q)))).toInt64))
      rw [hm2]
    rw [f164_79, hT.2.1, if_pos (nI_lt hlt (by omega)), if_pos hin, hnx, hb, isL hu, yb1_s]
    by_cases hlet : zltU (U p) = true
    · rw [if_pos hlet, if_neg (by decide), zrn_s hlt (by simp [hlet])]
      exact hgo
    · rw [if_neg hlet, if_pos rfl, if_pos hin, hb, isF hu, yb1_s]
      by_cases hfig : zfgU (U p) = true
      · rw [if_pos hfig, if_neg (by decide), zrn_s hlt (by simp [hfig])]
        exact hgo
      · rw [if_neg hfig, if_pos rfl, zrn_n (by simp [hlet, hfig])]
        exact ⟨t, rfl, frN_rf, fun _ => rfl, h6⟩
/-- a number -/
theorem nxt_numb {q : Nat} : ∀ (m p j : Nat) (t : zσ), len - p = m → p ≤ len → m < j → q ≤ p → txM U len t → t.1 1132 4 = nI q → t.1 1132 7 = znb U q (min (p - q) 9) → ∃ t2, f164_171 n j (nI p) t = f164_236 n (nI (zrn U false len p)) t2 ∧ frN t t2 ∧ (∀ k, k ≠ 7 → t2.1 1132 k = t.1 1132 k) ∧ t2.1 1132 7 = znb U q (min (zrn U false len p - q) 9) := by
  intro m
  induction m with
  | zero =>
    intro p j t hm hp hj hq hT h4 h7
    obtain ⟨j, rfl⟩ : ∃ j0, j = j0 + 1 := ⟨j - 1, by omega⟩
    have e : p = len := by omega
    subst e
    refine ⟨t, ?_, frN_rf, fun _ _ => rfl, by rw [zrn_l]; exact h7⟩
    rw [f164_171, hT.2.1, if_neg Int32.lt_irrefl, zrn_l]
  | succ m ih =>
    intro p j t hm hp hj hq hT h4 h7
    obtain ⟨j, rfl⟩ : ∃ j0, j = j0 + 1 := ⟨j - 1, by omega⟩
    have hlt : p < len := by omega
    have hl := hT.1
    obtain ⟨hu, hb⟩ := hT.2.2 p hlt
    have hin : zin? (nI p) 4000 = true := zin_nI (by omega) (by decide)
    have hnx : nx (nI p) = p := nx_nI (by omega)
    rw [f164_171, hT.2.1, if_pos (nI_lt hlt (by omega)), if_pos hin, hnx, hb, isF hu, yb1_s]
    by_cases hfig : zfgU (U p) = true
    · rw [if_pos hfig, if_neg (by decide), h4, nI_sub hq, if_pos hin, hb, h7, zrn_s hlt (by simp [hfig])]
      have hgo : ∀ v : Int32, v = znb U q (min (p + 1 - q) 9) → ∃ t2, f164_227 n (f164_171 n j) (nI p) v t = f164_236 n (nI (zrn U false len (p + 1))) t2 ∧ frN t t2 ∧ (∀ k, k ≠ 7 → t2.1 1132 k = t.1 1132 k) ∧ t2.1 1132 7 = znb U q (min (zrn U false len (p + 1) - q) 9) := by
        intro v hv
        obtain ⟨t2, e, o, rk, r7⟩ := ih (p + 1) j (sI t 1132 7 v) (by omega) (by omega) (by omega) (by omega) (txM_fr hT frN_7) (by rw [rIk (by decide), h4]) (by rw [rIe, hv])
        refine ⟨t2, ?_, frN_tr frN_7 o, fun k hk => (rk k hk).trans (rIk hk), r7⟩
        rw [← e]
        show f164_171 n j (nI p + 1) (sI t 1132 7 v) = _
        rw [nI_1]
      by_cases h9 : p - q < 9
      · rw [if_pos (show nI (p - q) < 9 from nI_lt (b := 9) h9 (by decide))]
        refine hgo _ ?_
        rw [show min (p - q) 9 = p - q by omega, show min (p + 1 - q) 9 = (p - q) + 1 by omega]
        show _ = ((znb U q (p - q) * 10) + nI (U (q + (p - q)))) - 48
        rw [show q + (p - q) = p by omega, Int32.mul_comm]
      · rw [if_neg (show ¬ nI (p - q) < 9 from nI_nlt (b := 9) (by omega) (by omega))]
        refine hgo _ ?_
        rw [show min (p - q) 9 = 9 by omega, show min (p + 1 - q) 9 = 9 by omega]
    · rw [if_neg hfig, if_pos rfl, zrn_n (by simp [hfig])]
      exact ⟨t, rfl, frN_rf, fun _ _ => rfl, h7⟩
/-- next -/
theorem nxt_ok {t : zσ} {p : Nat} (hn : 5000 ≤ n) (hT : txM U len t) (h5 : t.1 1132 5 = nI p) (hp : p ≤ len) : ∃ t2, f164 n t = some t2 ∧ frN t t2 ∧ t2.1 1132 4 = nI (zsk U len p) ∧ t2.1 1132 3 = rkKind U len (zsk U len p) ∧ (zsk U len p < len → t2.1 1132 5 = nI (tkEnd U len (zsk U len p))) ∧ (zsk U len p = len → t2.1 1132 5 = nI p) ∧ (zsk U len p < len → zltU (U (zsk U len p)) = true → t2.2.1 1132 6 = znm U (zsk U len p) (tkEnd U len (zsk U len p) - zsk U len p)) ∧ (zsk U len p < len → zfgU (U (zsk U len p)) = true → tkEnd U len (zsk U len p) - zsk U len p ≤ 9 → t2.1 1132 7 = znb U (zsk U len p) (tkEnd U len (zsk U len p) - zsk U len p)) ∧ (zsk U len p < len → ¬ zltU (U (zsk U len p)) = true → ¬ zfgU (U (zsk U len p)) = true → t2.1 1132 8 = nI (U (zsk U len p))) := by
  have hl := hT.1
  unfold f164
  show ∃ t2, f164_5 n n (t.1 1132 5) t = some t2 ∧ _
  rw [h5, nxt_skip hT (len - p) p n rfl hp (by omega)]
  have hq : zsk U len p ≤ len := zsk_le hp
  generalize zsk U len p = q at hq ⊢
  have a1 : (sI t 1132 4 (nI q)).1 1132 1 = nI len := (rIk (by decide)).trans hT.2.1
  have hu1 : ∃ u, u = sI t 1132 4 (nI q) := ⟨_, rfl⟩
  obtain ⟨u, eu⟩ := hu1
  have o1 : frN t u := by rw [eu]; exact frN_4
  have t4 : u.1 1132 4 = nI q := by rw [eu, rIe]
  have t5 : u.1 1132 5 = nI p := by rw [eu, rIk (by decide), h5]
  have hTu := txM_fr hT o1
  by_cases hlt : q < len
  · obtain ⟨hu, hb⟩ := hTu.2.2 q hlt
    have hin : zin? (nI q) 4000 = true := zin_nI (by omega) (by decide)
    have hne : ¬ q = len := by omega
    have e41 : f164_41 n (nI q) t = (yb1 (f165 n (nI (U q)) u) fun v4 u3 => if v4 = (0 : Int32) then yb1 (f166 n (nI (U q)) u3) fun v6 u5 => if v6 = (0 : Int32) then (if (zidx 2 (nI (U q))) < (0 : Int32) then f164_274 n (nI q) (nI (U q)) (4 : Int32) u5 else f164_274 n (nI q) (nI (U q)) (3 : Int32) u5) else zlet (sI u5 1132 7 (0 : Int32)) fun u7 => f164_171 n n (nI q) u7 else zlet (sJ u3 1132 6 (0 : Int64)) fun u8 => f164_79 n n (nI q) u8) := by
      unfold f164_41
      show (if nI q = (sI t 1132 4 (nI q)).1 1132 1 then _ else _) = _
      rw [a1, if_neg (fun e => hne ((nI_eq (by omega) (by omega)).mp e)), if_pos hin, ← eu, nx_nI (show q < 2 ^ 31 by omega), hb]
      rfl
    rw [e41, isL hu, yb1_s]
    by_cases hlet : zltU (U q) = true
    · rw [if_pos hlet, if_neg (by decide)]
      obtain ⟨t2, e, o, rk, r6⟩ := nxt_name (n := n) (q := q) (len - q) q n (sJ u 1132 6 0) rfl (by omega) (by omega) (Nat.le_refl _) (txM_fr hTu frN_J) (by rw [rJe, Nat.sub_self]; rfl)
      have eE : tkEnd U len q = zrn U true len q := by unfold tkEnd; rw [if_neg hne, if_pos hlet, ← zrn_s hlt (by simp [hlet])]
      have hge : q ≤ zrn U true len q := zrn_ge
      have hle : zrn U true len q ≤ len := zrn_le (by omega)
      have h4 : t2.1 1132 4 = nI q := by rw [rk 4, rJ1, t4]
      have h153 : ∀ y : Int32, f164_153 n (nI (zrn U true len q)) y t2 = some (sI (sI t2 1132 3 y) 1132 5 (nI (zrn U true len q))) := fun y => rfl
      have e136 : f164_136 n (nI (zrn U true len q)) t2 = some (sI (sI t2 1132 3 (if 8 < zrn U true len q - q then 4 else 1)) 1132 5 (nI (zrn U true len q))) := by
        unfold f164_136
        rw [h4, nI_sub hge]
        by_cases hc : 8 < zrn U true len q - q
        · rw [if_pos (show (8 : Int32) < nI (zrn U true len q - q) from nI_lt (a := 8) hc (by omega)), if_pos hc, h153]
        · rw [if_neg (show ¬ (8 : Int32) < nI (zrn U true len q - q) from nI_nlt (a := 8) (by omega) (by decide)), if_neg hc, h153]
      refine ⟨_, (show f164_79 n n (nI q) (sJ u 1132 6 0) = _ by rw [e, e136]), frN_tr (frN_tr (frN_tr (frN_tr o1 frN_J) o) frN_3) frN_5, by rw [rIk (by decide), rIk (by decide), h4], ?_, fun _ => by rw [rIe, eE], fun h => absurd h hne, fun _ _ => by rw [eE]; exact r6, fun _ hf => ?_, fun _ h => absurd hlet h⟩
      · rw [rIk (by decide), rIe]
        unfold rkKind
        rw [if_neg hne, if_pos hlet, eE]
      · exfalso
        have h1 : 48 ≤ U q ∧ U q ≤ 57 := by simpa [zfgU] using hf
        have h2 : 97 ≤ U q ∧ U q ≤ 122 := by simpa [zltU] using hlet
        omega
    · rw [if_neg hlet, if_pos rfl, isF hu, yb1_s]
      by_cases hfig : zfgU (U q) = true
      · rw [if_pos hfig, if_neg (by decide)]
        obtain ⟨t2, e, o, rk, r7⟩ := nxt_numb (n := n) (q := q) (len - q) q n (sI u 1132 7 0) rfl (by omega) (by omega) (Nat.le_refl _) (txM_fr hTu frN_7) (by rw [rIk (by decide), t4]) (by rw [rIe, Nat.sub_self]; rfl)
        have eE : tkEnd U len q = zrn U false len q := by unfold tkEnd; rw [if_neg hne, if_neg hlet, if_pos hfig, ← zrn_s hlt (by simp [hfig])]
        have hge : q ≤ zrn U false len q := zrn_ge
        have hle : zrn U false len q ≤ len := zrn_le (by omega)
        have h4 : t2.1 1132 4 = nI q := by rw [rk 4 (by decide), rIk (by decide), t4]
        have h253 : ∀ y : Int32, f164_253 n (nI (zrn U false len q)) y t2 = some (sI (sI t2 1132 3 y) 1132 5 (nI (zrn U false len q))) := fun y => rfl
        have e236 : f164_236 n (nI (zrn U false len q)) t2 = some (sI (sI t2 1132 3 (if 9 < zrn U false len q - q then 4 else 2)) 1132 5 (nI (zrn U false len q))) := by
          unfold f164_236
          rw [h4, nI_sub hge]
          by_cases hc : 9 < zrn U false len q - q
          · rw [if_pos (show (9 : Int32) < nI (zrn U false len q - q) from nI_lt (a := 9) hc (by omega)), if_pos hc, h253]
          · rw [if_neg (show ¬ (9 : Int32) < nI (zrn U false len q - q) from nI_nlt (a := 9) (by omega) (by decide)), if_neg hc, h253]
        refine ⟨_, (show f164_171 n n (nI q) (sI u 1132 7 0) = _ by rw [e, e236]), frN_tr (frN_tr (frN_tr (frN_tr o1 frN_7) o) frN_3) frN_5, by rw [rIk (by decide), rIk (by decide), h4], ?_, fun _ => by rw [rIe, eE], fun h => absurd h hne, fun _ h => absurd h hlet, fun _ _ h9 => ?_, fun _ _ h => absurd hfig h⟩
        · rw [rIk (by decide), rIe]
          unfold rkKind
          rw [if_neg hne, if_neg hlet, if_pos hfig, eE]
        · rw [rIk (by decide), rIk (by decide), r7, ← eE, show min (tkEnd U len q - q) 9 = tkEnd U len q - q by omega]
      · rw [if_neg hfig, if_pos rfl]
        have eE : tkEnd U len q = q + 1 := by unfold tkEnd; rw [if_neg hne, if_neg hlet, if_neg hfig]
        have e274 : (if (zidx 2 (nI (U q))) < (0 : Int32) then f164_274 n (nI q) (nI (U q)) (4 : Int32) u else f164_274 n (nI q) (nI (U q)) (3 : Int32) u) = some (sI (sI (sI u 1132 3 (if zidx 2 (nI (U q)) < 0 then 4 else 3)) 1132 8 (nI (U q))) 1132 5 (nI q + 1)) := by
          by_cases hz : zidx 2 (nI (U q)) < 0
          · rw [if_pos hz, if_pos hz]; rfl
          · rw [if_neg hz, if_neg hz]; rfl
        refine ⟨_, e274, frN_tr (frN_tr (frN_tr o1 frN_3) frN_8) frN_5, by rw [rIk (by decide), rIk (by decide), rIk (by decide), t4], ?_, fun _ => by rw [rIe, eE, nI_1], fun h => absurd h hne, fun _ h => absurd h hlet, fun _ h => absurd h hfig, fun _ _ _ => by rw [rIk (by decide), rIe]⟩
        rw [rIk (by decide), rIk (by decide), rIe]
        unfold rkKind
        rw [if_neg hne, if_neg hlet, if_neg hfig]
  · have e : q = len := by omega
    subst e
    have e41 : f164_41 n (nI q) t = some (sI u 1132 3 0) := by
      unfold f164_41
      show (if nI q = (sI t 1132 4 (nI q)).1 1132 1 then _ else _) = _
      rw [a1, if_pos rfl, ← eu]
      rfl
    refine ⟨_, e41, frN_tr o1 frN_3, by rw [rIk (by decide), t4], ?_, fun h => absurd h (by omega), fun _ => by rw [rIk (by decide), t5], fun h => absurd h (by omega), fun h => absurd h (by omega), fun h => absurd h (by omega)⟩
    rw [rIe]
    unfold rkKind
    rw [if_pos rfl]
end ZNX
