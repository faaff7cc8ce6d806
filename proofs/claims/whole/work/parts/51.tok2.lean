/-! the token at place q, on both sides -/
theorem tkEnd_le {U : Nat → Nat} {len q : Nat} (h : q ≤ len) : tkEnd U len q ≤ len := by
  unfold tkEnd
  split
  · exact h
  · split
    · exact zrn_le (by omega)
    · split
      · exact zrn_le (by omega)
      · omega
theorem tkEnd_gt {U : Nat → Nat} {len q : Nat} (h : q < len) : q < tkEnd U len q := by
  unfold tkEnd
  rw [if_neg (by omega)]
  split
  · exact zrn_ge
  · split
    · exact zrn_ge
    · omega
/-- the place of the token behind the one at q -/
def tkNx (U : Nat → Nat) (len q : Nat) : Nat := zsk U len (tkEnd U len q)
theorem tkNx_le {U : Nat → Nat} {len q : Nat} (h : q ≤ len) : tkNx U len q ≤ len := zsk_le (tkEnd_le h)
theorem tkNx_gt {U : Nat → Nat} {len q : Nat} (h : q < len) : q < tkNx U len q := Nat.lt_of_lt_of_le (tkEnd_gt h) zsk_ge
theorem tkNx_l {U : Nat → Nat} {len : Nat} : tkNx U len len = len := by
  unfold tkNx tkEnd
  rw [if_pos rfl, zsk_l]
/-- the name that stands at q -/
def tkNm (U : Nat → Nat) (len q : Nat) : Int64 := znm U q (tkEnd U len q - q)
def tkNb (U : Nat → Nat) (len q : Nat) : Int32 := znb U q (tkEnd U len q - q)
def zby (U : Nat → Nat) (len : Nat) : Prop := ∀ i, i < len → U i < 256
theorem tk_cases {U : Nat → Nat} {len q : Nat} (hU : zby U len) (hq : q ≤ len) :
  (q = len ∧ tkKind U len q = 3 ∧ rkKind U len q = 0) ∨
  (q < len ∧ tkKind U len q = 0 ∧ rkKind U len q = 4) ∨
  (q < len ∧ zltU (U q) = true ∧ (∃ w, w < 47 ∧ zWd w = tkNm U len q ∧ tkKind U len q = nI (128 + w)) ∧ rkKind U len q = 1) ∨
  (q < len ∧ zltU (U q) = true ∧ ¬ zres (tkNm U len q) ∧ tkKind U len q = 1 ∧ rkKind U len q = 1) ∨
  (q < len ∧ zfgU (U q) = true ∧ tkEnd U len q - q ≤ 9 ∧ tkKind U len q = 2 ∧ rkKind U len q = 2) ∨
  (q < len ∧ ¬ zltU (U q) = true ∧ ¬ zfgU (U q) = true ∧ zsg (U q) = true ∧ tkKind U len q = nI (U q) ∧ rkKind U len q = 3) := by
  by_cases he : q = len
  · left
    exact ⟨he, by unfold tkKind; rw [if_pos he], by unfold rkKind; rw [if_pos he]⟩
  · right
    have hlt : q < len := by omega
    by_cases hl : zltU (U q) = true
    · by_cases h8 : 8 < tkEnd U len q - q
      · left
        exact ⟨hlt, by unfold tkKind; rw [if_neg he, if_pos hl, if_pos h8], by unfold rkKind; rw [if_neg he, if_pos hl, if_pos h8]⟩
      · right
        have hk : tkKind U len q = zkwf (tkNm U len q) 47 0 1 := by unfold tkKind; rw [if_neg he, if_pos hl, if_neg h8]; rfl
        have hr : rkKind U len q = 1 := by unfold rkKind; rw [if_neg he, if_pos hl, if_neg h8]
        by_cases hz : zres (tkNm U len q)
        · left
          obtain ⟨w, hw, e⟩ := hz
          exact ⟨hlt, hl, ⟨w, hw, e, hk.trans (zkw_at e hw)⟩, hr⟩
        · right; left
          exact ⟨hlt, hl, hz, hk.trans (zkw_no (fun k hk e => hz ⟨k, hk, e⟩)), hr⟩
    · by_cases hf : zfgU (U q) = true
      · by_cases h9 : 9 < tkEnd U len q - q
        · left
          exact ⟨hlt, by unfold tkKind; rw [if_neg he, if_neg hl, if_pos hf, if_pos h9], by unfold rkKind; rw [if_neg he, if_neg hl, if_pos hf, if_pos h9]⟩
        · right; right; right; left
          exact ⟨hlt, hf, by omega, by unfold tkKind; rw [if_neg he, if_neg hl, if_pos hf, if_neg h9], by unfold rkKind; rw [if_neg he, if_neg hl, if_pos hf, if_neg h9]⟩
      · have hu := hU q hlt
        by_cases hs : zsg (U q) = true
        · right; right; right; right
          refine ⟨hlt, hl, hf, hs, ?_, ?_⟩
          · unfold tkKind; rw [if_neg he, if_neg hl, if_neg hf, if_neg (fun e => by rw [(zsg_1 hu).mp e] at hs; cases hs)]
          · unfold rkKind; rw [if_neg he, if_neg hl, if_neg hf, if_neg (fun e => by rw [(zsg_2 hu).mp e] at hs; cases hs)]
        · left
          have hs2 : zsg (U q) = false := by simpa using hs
          refine ⟨hlt, ?_, ?_⟩
          · unfold tkKind; rw [if_neg he, if_neg hl, if_neg hf, if_pos ((zsg_1 hu).mpr hs2)]
          · unfold rkKind; rw [if_neg he, if_neg hl, if_neg hf, if_pos ((zsg_2 hu).mpr hs2)]
theorem zsg_no : ∀ u : Fin 256, zsg u.1 = true → 37 ≤ u.1 ∧ u.1 < 126 := by decide +kernel
theorem zsg_b {u : Nat} (h : zsg u = true) (hu : u < 256) : 37 ≤ u ∧ u < 126 := zsg_no ⟨u, hu⟩ h
/-- kinds as numbers -/
theorem tk_num {U : Nat → Nat} {len q : Nat} (hU : zby U len) (hq : q ≤ len) : ∃ k, k < 256 ∧ k ≠ 4 ∧ tkKind U len q = nI k := by
  rcases tk_cases hU hq with ⟨-, e, -⟩ | ⟨-, e, -⟩ | ⟨-, -, ⟨w, hw, -, e⟩, -⟩ | ⟨-, -, -, e, -⟩ | ⟨-, -, -, e, -⟩ | ⟨hlt, -, -, hs, e, -⟩
  · exact ⟨3, by decide, by decide, e⟩
  · exact ⟨0, by decide, by decide, e⟩
  · exact ⟨128 + w, by omega, by omega, e⟩
  · exact ⟨1, by decide, by decide, e⟩
  · exact ⟨2, by decide, by decide, e⟩
  · have := zsg_b hs (hU q hlt)
    exact ⟨U q, hU q hlt, by omega, e⟩
theorem tk_ne4 {U : Nat → Nat} {len q : Nat} (hU : zby U len) (hq : q ≤ len) : ¬ tkKind U len q = 4 := by
  obtain ⟨k, hk, h4, e⟩ := tk_num hU hq
  rw [e]
  exact fun h => h4 ((nIe hk (k := 4) (by decide)).mp h)
def TC (U : Nat → Nat) (len q : Nat) (s : zσ) : Prop := q ≤ len ∧ txC U len s ∧ wdC s ∧ s.1 1001 5 = nI q ∧ s.1 1001 3 = nI (tkEnd U len q) ∧ s.1 1001 4 = tkKind U len q ∧ (q < len → zltU (U q) = true → s.2.1 1001 7 = tkNm U len q) ∧ (q < len → zfgU (U q) = true → s.1 1001 6 = tkNb U len q)
def TM (U : Nat → Nat) (len q : Nat) (t : zσ) : Prop := q ≤ len ∧ txM U len t ∧ t.1 1132 4 = nI q ∧ t.1 1132 3 = rkKind U len q ∧ (∃ p, p ≤ len ∧ t.1 1132 5 = nI p ∧ zsk U len p = tkNx U len q) ∧ (q < len → zltU (U q) = true → t.2.1 1132 6 = tkNm U len q) ∧ (q < len → zfgU (U q) = true → tkEnd U len q - q ≤ 9 → t.1 1132 7 = tkNb U len q) ∧ (q < len → ¬ zltU (U q) = true → ¬ zfgU (U q) = true → t.1 1132 8 = nI (U q))
theorem txC_by {U : Nat → Nat} {len : Nat} {s : zσ} (h : txC U len s) : zby U len := fun i hi => (h.2.2 i hi).1
theorem txM_by {U : Nat → Nat} {len : Nat} {s : zσ} (h : txM U len s) : zby U len := fun i hi => (h.2.2 i hi).1
section ZT2
variable {U : Nat → Nat} {len n q : Nat}
theorem TC_of {s s2 : zσ} {p : Nat} (hn : 5000 ≤ n) (hT : txC U len s) (hw : wdC s) (hk : ¬ s.1 1001 4 = 4) (h3 : s.1 1001 3 = nI p) (hp : p ≤ len) : ∃ s2, f26 n s = some s2 ∧ TC U len (zsk U len p) s2 ∧ zof s s2 1001 := by
  obtain ⟨s2, e, o, r2, r5, r3, r4, r7, r6⟩ := adv_ok hn hT hw hk h3 hp
  exact ⟨s2, e, ⟨zsk_le hp, txC_off hT o r2, wdC_off hw o, r5, r3, r4, r7, r6⟩, o⟩
theorem TC_next {s : zσ} (hn : 5000 ≤ n) (h : TC U len q s) : ∃ s2, f26 n s = some s2 ∧ TC U len (tkNx U len q) s2 ∧ zof s s2 1001 := by
  obtain ⟨h1, h2, h3, h4, h5, h6, -, -⟩ := h
  exact TC_of (s2 := s) hn h2 h3 (by rw [h6]; exact tk_ne4 (txC_by h2) h1) h5 (tkEnd_le h1)
theorem TM_of {t : zσ} {p : Nat} (hn : 5000 ≤ n) (hT : txM U len t) (h5 : t.1 1132 5 = nI p) (hp : p ≤ len) : ∃ t2, f164 n t = some t2 ∧ TM U len (zsk U len p) t2 ∧ frN t t2 := by
  obtain ⟨t2, e, o, r4, r3, ra, rb, r6, r7, r8⟩ := nxt_ok hn hT h5 hp
  refine ⟨t2, e, ⟨zsk_le hp, txM_fr hT o, r4, r3, ?_, r6, r7, r8⟩, o⟩
  by_cases hlt : zsk U len p < len
  · exact ⟨tkEnd U len (zsk U len p), tkEnd_le (zsk_le hp), ra hlt, rfl⟩
  · have e2 : zsk U len p = len := by have := zsk_le (U := U) hp; omega
    exact ⟨p, hp, rb e2, by rw [e2, tkNx_l]⟩
theorem TM_next {t : zσ} (hn : 5000 ≤ n) (h : TM U len q t) : ∃ t2, f164 n t = some t2 ∧ TM U len (tkNx U len q) t2 ∧ frN t t2 := by
  obtain ⟨h1, h2, h3, h4, ⟨p, hp, h5, e⟩, -⟩ := h
  rw [← e]
  exact TM_of hn h2 h5 hp
theorem TC_fr {s s2 : zσ} (h : TC U len q s) (e1 : s2.1 1001 = s.1 1001) (e2 : s2.1 1002 = s.1 1002) (e3 : s2.2.1 1001 = s.2.1 1001) (e4 : s2.2.1 1003 = s.2.1 1003) : TC U len q s2 := by
  obtain ⟨h1, ⟨a1, a2, a3⟩, h3, h4, h5, h6, h7, h8⟩ := h
  refine ⟨h1, ⟨a1, by rw [e1]; exact a2, fun i hi => by rw [e2]; exact a3 i hi⟩, fun i hi => by rw [e4]; exact h3 i hi, ?_, ?_, ?_, ?_, ?_⟩
  · rw [e1]; exact h4
  · rw [e1]; exact h5
  · rw [e1]; exact h6
  · rw [e3]; exact h7
  · rw [e1]; exact h8
theorem TM_fr {t t2 : zσ} (h : TM U len q t) (e1 : ∀ k, k = 1 ∨ k = 3 ∨ k = 4 ∨ k = 5 ∨ k = 7 ∨ k = 8 → t2.1 1132 k = t.1 1132 k) (e2 : t2.1 1133 = t.1 1133) (e3 : t2.2.1 1132 6 = t.2.1 1132 6) : TM U len q t2 := by
  obtain ⟨h1, ⟨a1, a2, a3⟩, h3, h4, ⟨p, hp, h5, e⟩, h6, h7, h8⟩ := h
  refine ⟨h1, ⟨a1, ?_, fun i hi => by rw [e2]; exact a3 i hi⟩, ?_, ?_, ⟨p, hp, ?_, e⟩, ?_, ?_, ?_⟩
  · rw [e1 1 (by simp)]; exact a2
  · rw [e1 4 (by simp)]; exact h3
  · rw [e1 3 (by simp)]; exact h4
  · rw [e1 5 (by simp)]; exact h5
  · rw [e3]; exact h6
  · rw [e1 7 (by simp)]; exact h7
  · rw [e1 8 (by simp)]; exact h8
/-! what the reference asks of the token, by the class's kind -/
def zone (p : Bool) : Int32 := if p = true then 1 else 0
theorem tm_kind {t : zσ} (h : TM U len q t) : (t.1 1132 3 = 4 ↔ tkKind U len q = 0) ∧ (t.1 1132 3 = 2 ↔ tkKind U len q = 2) ∧ (t.1 1132 3 = 0 ↔ tkKind U len q = 3) := by
  obtain ⟨h1, h2, -, h4, -⟩ := h
  have hU := txM_by h2
  rw [h4]
  rcases tk_cases hU h1 with ⟨-, e, r⟩ | ⟨-, e, r⟩ | ⟨-, -, ⟨w, hw, -, e⟩, r⟩ | ⟨-, -, -, e, r⟩ | ⟨-, -, -, e, r⟩ | ⟨hlt, -, -, hs, e, r⟩
  · rw [e, r]; decide
  · rw [e, r]; decide
  · rw [e, r]
    have a0 := mt (nIe (u := 128 + w) (k := 0) (by omega) (by decide)).mp (by omega)
    have a2 := mt (nIe (u := 128 + w) (k := 2) (by omega) (by decide)).mp (by omega)
    have a3 := mt (nIe (u := 128 + w) (k := 3) (by omega) (by decide)).mp (by omega)
    exact ⟨⟨fun q => absurd q (by decide), fun q => absurd q a0⟩, ⟨fun q => absurd q (by decide), fun q => absurd q a2⟩, ⟨fun q => absurd q (by decide), fun q => absurd q a3⟩⟩
  · rw [e, r]; decide
  · rw [e, r]; decide
  · rw [e, r]
    have hu := hU q hlt
    have hb := zsg_b hs hu
    have a0 := mt (nIe (u := U q) (k := 0) hu (by decide)).mp (by omega)
    have a2 := mt (nIe (u := U q) (k := 2) hu (by decide)).mp (by omega)
    have a3 := mt (nIe (u := U q) (k := 3) hu (by decide)).mp (by omega)
    exact ⟨⟨fun q => absurd q (by decide), fun q => absurd q a0⟩, ⟨fun q => absurd q (by decide), fun q => absurd q a2⟩, ⟨fun q => absurd q (by decide), fun q => absurd q a3⟩⟩
/-- isSign -/
theorem tm_sign {t : zσ} {c : Nat} (h : TM U len q t) (hc : zsg c = true) (hc2 : c < 126) : f177 n (nI c) t = some (zone (decide (tkKind U len q = nI c)), t) := by
  obtain ⟨h1, h2, -, h4, -, -, -, h8⟩ := h
  have hU := txM_by h2
  have hcb := zsg_b hc (by omega)
  have hne : ∀ k, k < 256 → k ≠ c → tkKind U len q = nI k → decide (tkKind U len q = nI c) = false := fun k hk hkc e => by
    rw [e]
    exact decide_eq_false (fun q => hkc ((nIe hk (by omega)).mp q))
  unfold f177
  rw [h4]
  rcases tk_cases hU h1 with ⟨-, e, r⟩ | ⟨-, e, r⟩ | ⟨-, -, ⟨w, hw, -, e⟩, r⟩ | ⟨-, -, -, e, r⟩ | ⟨-, -, -, e, r⟩ | ⟨hlt, hl, hf, hs, e, r⟩
  · rw [r, if_neg (by decide), hne 3 (by decide) (by omega) e]; rfl
  · rw [r, if_neg (by decide), hne 0 (by decide) (by omega) e]; rfl
  · rw [r, if_neg (by decide), hne (128 + w) (by omega) (by omega) e]; rfl
  · rw [r, if_neg (by decide), hne 1 (by decide) (by omega) e]; rfl
  · rw [r, if_neg (by decide), hne 2 (by decide) (by omega) e]; rfl
  · rw [r, if_pos rfl, h8 hlt hl hf, e]
    by_cases hx : nI (U q) = nI c
    · rw [if_pos hx, decide_eq_true hx]; rfl
    · rw [if_neg hx, decide_eq_false hx]; rfl
/-- isWord -/
theorem tm_word {t : zσ} {k w : Nat} (hn : 5000 ≤ n) (h : TM U len q t) (hk : k < 51) (hw : w < 47) (hkw : zofv k = zWd w) : f170 n k t = some (zone (decide (tkKind U len q = nI (128 + w))), t) := by
  obtain ⟨h1, h2, -, h4, -, h6, -⟩ := h
  have hU := txM_by h2
  have hne : ∀ j, j < 256 → j ≠ 128 + w → tkKind U len q = nI j → decide (tkKind U len q = nI (128 + w)) = false := fun j hj hjw e => by
    rw [e]
    exact decide_eq_false (fun q => hjw ((nIe hj (by omega)).mp q))
  unfold f170
  rw [h4]
  rcases tk_cases hU h1 with ⟨-, e, r⟩ | ⟨-, e, r⟩ | ⟨hlt, hl, ⟨v, hv, ev, e⟩, r⟩ | ⟨hlt, hl, hz, e, r⟩ | ⟨-, -, -, e, r⟩ | ⟨hlt, hl, hf, hs, e, r⟩
  · rw [r, if_neg (by decide), hne 3 (by decide) (by omega) e]; rfl
  · rw [r, if_neg (by decide), hne 0 (by decide) (by omega) e]; rfl
  · rw [r, if_pos rfl, of_ok hk hn, yb1_s, h6 hlt hl, hkw, ← ev]
    by_cases hx : v = w
    · subst hx
      rw [if_pos rfl, e, decide_eq_true rfl]; rfl
    · rw [if_neg (fun q => hx (congrArg Fin.val (zWd_inj ⟨v, hv⟩ ⟨w, hw⟩ q))), hne (128 + v) (by omega) (by omega) e]; rfl
  · rw [r, if_pos rfl, of_ok hk hn, yb1_s, h6 hlt hl, hkw, if_neg (fun q => hz ⟨w, hw, q.symm⟩), hne 1 (by decide) (by omega) e]; rfl
  · rw [r, if_neg (by decide), hne 2 (by decide) (by omega) e]; rfl
  · have := zsg_b hs (hU q hlt)
    rw [r, if_neg (by decide), hne (U q) (hU q hlt) (by omega) e]; rfl
/-- isName -/
theorem tm_name {t : zσ} (hn : 5000 ≤ n) (h : TM U len q t) : f175 n t = some (zone (decide (tkKind U len q = 1)), t) := by
  obtain ⟨h1, h2, -, h4, -, h6, -⟩ := h
  have hU := txM_by h2
  have hne : ∀ j, j < 256 → j ≠ 1 → tkKind U len q = nI j → decide (tkKind U len q = 1) = false := fun j hj hjw e => by
    rw [e]
    exact decide_eq_false (fun q => hjw ((nIe hj (k := 1) (by decide)).mp q))
  unfold f175
  rw [h4]
  rcases tk_cases hU h1 with ⟨-, e, r⟩ | ⟨-, e, r⟩ | ⟨hlt, hl, ⟨v, hv, ev, e⟩, r⟩ | ⟨hlt, hl, hz, e, r⟩ | ⟨-, -, -, e, r⟩ | ⟨hlt, hl, hf, hs, e, r⟩
  · rw [r, if_neg (by decide), hne 3 (by decide) (by omega) e]; rfl
  · rw [r, if_neg (by decide), hne 0 (by decide) (by omega) e]; rfl
  · rw [r, if_pos rfl, h6 hlt hl, (res_ok hn t).1 ⟨v, hv, ev⟩, yb1_s, if_neg (by decide), hne (128 + v) (by omega) (by omega) e]; rfl
  · rw [r, if_pos rfl, h6 hlt hl, (res_ok hn t).2 hz, yb1_s, if_pos rfl, e]; rfl
  · rw [r, if_neg (by decide), hne 2 (by decide) (by omega) e]; rfl
  · have := zsg_b hs (hU q hlt)
    rw [r, if_neg (by decide), hne (U q) (hU q hlt) (by omega) e]; rfl
end ZT2
