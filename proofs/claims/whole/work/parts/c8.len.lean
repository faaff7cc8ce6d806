/-! how long the words are -/
section ZQG
def nv (U : Nat → Nat) (q : Nat) : Nat → Nat
  | 0 => 0
  | m + 1 => nv U q m * 256 + U (q + m)
theorem i64_u : ∀ u : Fin 256, (nI u.1).toInt64 = Int64.ofNat u.1 := by decide +kernel
theorem i64_8 : ((8 : Int32).toInt64 &&& 63) = (8 : Int64) := by decide
theorem i64_s {a u : Nat} (ha : a < 2 ^ 48) (hu : u < 256) : (Int64.ofNat a <<< (8 : Int64)) ||| Int64.ofNat u = Int64.ofNat (a * 256 + u) := by
  apply Int64.toBitVec_inj.mp
  have e : a * 256 + u = a <<< 8 ||| u := by
    rw [← Nat.shiftLeft_add_eq_or_of_lt (show u < 2 ^ 8 by omega), Nat.shiftLeft_eq]
  rw [e]
  apply BitVec.eq_of_toNat_eq
  simp only [Int64.toBitVec_or, Int64.toBitVec_shiftLeft, Int64.toBitVec_ofNat']
  have e8 : ((8 : Int64).toBitVec.smod 64) = 8#64 := by decide
  rw [e8]
  simp [BitVec.toNat_or, BitVec.toNat_shiftLeft]
  rw [Nat.mod_eq_of_lt (show a < 18446744073709551616 by omega)]
theorem znm_n {U : Nat → Nat} {q : Nat} : ∀ m, m ≤ 6 → (∀ i, i < m → U (q + i) < 256) → znm U q m = Int64.ofNat (nv U q m) ∧ nv U q m < 256 ^ m
  | 0, _, _ => ⟨rfl, Nat.lt_add_one 0⟩
  | m + 1, hm, hU => by
    obtain ⟨h1, h2⟩ := znm_n m (by omega) (fun i hi => hU i (by omega))
    have hu := hU m (by omega)
    have h3 : nv U q m < 2 ^ 48 := by
      have : 256 ^ m ≤ 256 ^ 6 := Nat.pow_le_pow_right (by decide) (by omega)
      omega
    refine ⟨?_, ?_⟩
    · show (znm U q m <<< ((8 : Int32).toInt64 &&& 63)) ||| (nI (U (q + m))).toInt64 = _
      rw [h1, i64_u ⟨U (q + m), hu⟩, i64_8, i64_s h3 hu]
      rfl
    · show nv U q m * 256 + U (q + m) < 256 ^ (m + 1)
      rw [Nat.pow_succ]
      omega
theorem zWd_4 : zWd 12 = Int64.ofNat 1701606245 ∧ zWd 23 = Int64.ofNat 26982 ∧ zWd 10 = Int64.ofNat 28526 ∧ zWd 24 = Int64.ofNat 512852847717 ∧ zWd 7 = Int64.ofNat 1886547811 ∧ zWd 8 = Int64.ofNat 1952543595 := by decide +kernel
theorem i64_inj {a b : Nat} (ha : a < 2 ^ 63) (hb : b < 2 ^ 63) (h : Int64.ofNat a = Int64.ofNat b) : a = b := by
  have h1 := congrArg (fun z : Int64 => z.toBitVec.toNat) h
  simp only [Int64.toBitVec_ofNat', BitVec.toNat_ofNat] at h1
  rw [Nat.mod_eq_of_lt (by omega), Nat.mod_eq_of_lt (by omega)] at h1
  exact h1
theorem zrn_stop {U : Nat → Nat} {b : Bool} {len : Nat} : ∀ (m p : Nat), len - p = m → p ≤ len → zrn U b len p < len → ¬ (zfgU (U (zrn U b len p)) || b && zltU (U (zrn U b len p))) = true := by
  intro m
  induction m with
  | zero =>
    intro p h1 h2 h3
    have : p = len := by omega
    subst this
    rw [zrn_l] at h3
    omega
  | succ m ih =>
    intro p h1 h2 h3
    by_cases h : (zfgU (U p) || b && zltU (U p)) = true
    · rw [zrn_s (by omega) h] at h3 ⊢
      exact ih (p + 1) (by omega) (by omega) h3
    · rw [zrn_n h]; exact h
theorem w_len {U : Nat → Nat} {len q w L v : Nat} (hU : zby U len) (hq : q ≤ len) (hw : w < 47) (hk : tkKind U len q = nI (128 + w)) (hv : zWd w = Int64.ofNat v) (hL : 1 ≤ L ∧ L ≤ 6) (h1 : 256 ^ (L - 1) ≤ v) (h2 : v < 2 ^ 63) : q + L ≤ tkEnd U len q ∧ (tkEnd U len q < tkNx U len q ∨ tkNx U len q = len ∨ (¬ zltU (U (tkNx U len q)) = true ∧ ¬ zfgU (U (tkNx U len q)) = true)) := by
  have hno : ∀ k, k < 256 → k ≠ 128 + w → ¬ tkKind U len q = nI k := fun k hk2 hne e => hne ((nIe hk2 (by omega)).mp (e.symm.trans hk))
  rcases tk_cases hU hq with ⟨-, e, -⟩ | ⟨-, e, -⟩ | ⟨hlt, hl, ⟨w', hw', ev, e⟩, -⟩ | ⟨-, -, -, e, -⟩ | ⟨-, -, -, e, -⟩ | ⟨hlt, -, -, hs, e, -⟩
  · exact absurd e (hno 3 (by omega) (by omega))
  · exact absurd e (hno 0 (by omega) (by omega))
  · have : w' = w := by
      have := (nIe (u := 128 + w') (k := 128 + w) (by omega) (by omega)).mp (e.symm.trans hk)
      omega
    subst this
    have hle := tkEnd_le (U := U) hq
    constructor
    · rcases Nat.lt_or_ge (tkEnd U len q) (q + L) with h3 | h3
      · exfalso
        have hm : tkEnd U len q - q ≤ L - 1 := by omega
        obtain ⟨a1, a2⟩ := znm_n (U := U) (q := q) (tkEnd U len q - q) (by omega) (fun i hi => hU _ (by omega))
        have a3 : 256 ^ (tkEnd U len q - q) ≤ 256 ^ (L - 1) := Nat.pow_le_pow_right (by decide) hm
        have a4 : Int64.ofNat (nv U q (tkEnd U len q - q)) = Int64.ofNat v := by
          rw [← a1, ← hv, ev]; rfl
        have := i64_inj (by omega) h2 a4
        omega
      · exact h3
    · unfold tkNx
      by_cases h3 : tkEnd U len q = len
      · right; left
        rw [h3, zsk_l]
      · have hlt2 : tkEnd U len q < len := by omega
        by_cases hb : zblU (U (tkEnd U len q)) = true
        · left
          rw [zsk_s hlt2 hb]
          have := zsk_ge (U := U) (len := len) (p := tkEnd U len q + 1)
          omega
        · right; right
          rw [zsk_n hb]
          have e2 : tkEnd U len q = zrn U true len (q + 1) := by
            unfold tkEnd
            rw [if_neg (by omega), if_pos hl]
          have := zrn_stop (U := U) (b := true) (len := len) (len - (q + 1)) (q + 1) rfl (by omega) (by rw [← e2]; exact hlt2)
          rw [← e2] at this
          simp only [Bool.true_and, Bool.or_eq_true, not_or] at this
          exact ⟨this.2, this.1⟩
  · exact absurd e (hno 1 (by omega) (by omega))
  · exact absurd e (hno 2 (by omega) (by omega))
  · have := zsg_b hs (hU q hlt)
    exact absurd e (hno (U q) (hU q hlt) (by omega))
/-- a token that begins with a letter or figure -/
theorem k_lf {U : Nat → Nat} {len q : Nat} (hU : zby U len) (hq : q ≤ len) (hk : tkKind U len q = 1 ∨ tkKind U len q = 2 ∨ ∃ w, w < 47 ∧ tkKind U len q = nI (128 + w)) : q < len ∧ (zltU (U q) = true ∨ zfgU (U q) = true) := by
  rcases tk_cases hU hq with ⟨-, e, -⟩ | ⟨-, e, -⟩ | ⟨hlt, hl, -, -⟩ | ⟨hlt, hl, -, -, -⟩ | ⟨hlt, hf, -, -, -⟩ | ⟨hlt, -, -, hs, e, -⟩
  · exfalso
    rcases hk with h | h | ⟨w, hw, h⟩
    · rw [h] at e; exact absurd e (by decide)
    · rw [h] at e; exact absurd e (by decide)
    · have := (nIe (u := 128 + w) (k := 3) (by omega) (by decide)).mp (h.symm.trans e); omega
  · exfalso
    rcases hk with h | h | ⟨w, hw, h⟩
    · rw [h] at e; exact absurd e (by decide)
    · rw [h] at e; exact absurd e (by decide)
    · have := (nIe (u := 128 + w) (k := 0) (by omega) (by decide)).mp (h.symm.trans e); omega
  · exact ⟨hlt, Or.inl hl⟩
  · exact ⟨hlt, Or.inl hl⟩
  · exact ⟨hlt, Or.inr hf⟩
  · exfalso
    have hb := zsg_b hs (hU q hlt)
    rcases hk with h | h | ⟨w, hw, h⟩
    · have := (nIe (u := U q) (k := 1) (hU q hlt) (by decide)).mp (e.symm.trans h); omega
    · have := (nIe (u := U q) (k := 2) (hU q hlt) (by decide)).mp (e.symm.trans h); omega
    · have := (nIe (u := U q) (k := 128 + w) (hU q hlt) (by omega)).mp (e.symm.trans h); omega
/-- a word of two letters, an expression: four bytes -/
theorem if_len {U : Nat → Nat} {len q q2 w v : Nat} (hU : zby U len) (hq : q ≤ len) (hw : w < 47) (hk : tkKind U len q = nI (128 + w)) (hv : zWd w = Int64.ofNat v) (h1 : 256 ≤ v) (h2 : v < 2 ^ 63) (h3 : tkNx U len q + 1 ≤ q2) (h4 : tkNx U len q + 2 ≤ q2 ∨ tkKind U len (tkNx U len q) = 1 ∨ tkKind U len (tkNx U len q) = 2 ∨ tkKind U len (tkNx U len q) = 142 ∨ tkKind U len (tkNx U len q) = 143 ∨ tkKind U len (tkNx U len q) = 144) : q + 4 ≤ q2 := by
  obtain ⟨a1, a2⟩ := w_len (L := 2) hU hq hw hk hv (by omega) (by omega) h2
  have hge : tkEnd U len q ≤ tkNx U len q := zsk_ge
  rcases h4 with h4 | h4
  · omega
  · have hlf := k_lf hU (tkNx_le hq) (by
      rcases h4 with e | e | e | e | e
      · exact Or.inl e
      · exact Or.inr (Or.inl e)
      · exact Or.inr (Or.inr ⟨14, by omega, e⟩)
      · exact Or.inr (Or.inr ⟨15, by omega, e⟩)
      · exact Or.inr (Or.inr ⟨16, by omega, e⟩))
    rcases a2 with a2 | a2 | ⟨a2, a3⟩
    · omega
    · omega
    · rcases hlf.2 with e | e
      · exact absurd e a2
      · exact absurd e a3
end ZQG
