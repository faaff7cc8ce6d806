/-! reading and writing states -/
section ZT7
variable {s : zσ} {a b k j : Nat} {v x : Int32} {y : Int64} {o : Option Nat}
theorem rIe : (sI s a k v).1 a k = v := by simp [sI, upd]
theorem rIk (h : j ≠ k) : (sI s a k v).1 a j = s.1 a j := by simp [sI, upd, h]
theorem rIo (h : b ≠ a) : (sI s a k v).1 b = s.1 b := by simp [sI, h]
theorem rI2 : (sI s a k v).2 = s.2 := rfl
theorem rJ1 : (sJ s a k y).1 = s.1 := rfl
theorem rJ3 : (sJ s a k y).2.2 = s.2.2 := rfl
theorem rJe : (sJ s a k y).2.1 a k = y := by simp [sJ, vp_updL]
theorem rJk (h : j ≠ k) : (sJ s a k y).2.1 a j = s.2.1 a j := by simp [sJ, vp_updL, h]
theorem rJo (h : b ≠ a) : (sJ s a k y).2.1 b = s.2.1 b := by simp [sJ, h]
theorem rR1 : (sR s a k o).1 = s.1 := rfl
theorem rR2 : (sR s a k o).2.1 = s.2.1 := rfl
theorem rRe : (sR s a k o).2.2 a k = o := by simp [sR, va_up]
theorem rRk (h : j ≠ k) : (sR s a k o).2.2 a j = s.2.2 a j := by simp [sR, va_up, h]
theorem rRo (h : b ≠ a) : (sR s a k o).2.2 b = s.2.2 b := by simp [sR, h]
theorem sI_sI : sI (sI s a k v) a k x = sI s a k x := by
  unfold sI
  have e : (fun b => if b = a then upd ((fun b => if b = a then upd (s.1 a) k v else s.1 b) a) k x else (fun b => if b = a then upd (s.1 a) k v else s.1 b) b) = (fun b => if b = a then upd (s.1 a) k x else s.1 b) := by
    funext b
    by_cases hb : b = a
    · subst hb
      simp only [if_true]
      funext j
      unfold upd
      split <;> rfl
    · simp only [if_neg hb]
  exact congrArg (fun x => (x, s.2)) e
theorem sI_id (h : s.1 a k = v) : sI s a k v = s := by
  unfold sI
  have e : (fun b => if b = a then upd (s.1 a) k v else s.1 b) = s.1 := by
    funext b
    by_cases hb : b = a
    · subst hb
      rw [if_pos rfl]
      funext j
      unfold upd
      split
      · next e => rw [e, h]
      · rfl
    · rw [if_neg hb]
  rw [e]
theorem yb1_s {α β γ : Type} {a : α} {b : β} {k : α → β → Option γ} : yb1 (some (a, b)) k = k a b := rfl
theorem yb0_s {β γ : Type} {b : β} {k : β → Option γ} : yb0 (some b) k = k b := rfl
theorem zrd_s {γ : Type} {ci a : Nat} {k : Nat → Option γ} (h : zck ci a = true) : zrd ci (some a) k = k a := if_pos h
theorem zrw_s {γ : Type} {a : Nat} {k : Nat → Option γ} (h : zrk a = true) : zrw (some a) k = k a := if_pos h
end ZT7
theorem zoff_tr {s s2 s3 : zσ} {a : Nat} (h1 : zoff s s2 a) (h2 : zoff s2 s3 a) : zoff s s3 a := fun b hb => ⟨((h2 b hb).1).trans (h1 b hb).1, ((h2 b hb).2.1).trans (h1 b hb).2.1, ((h2 b hb).2.2).trans (h1 b hb).2.2⟩
theorem zoff_rf {s : zσ} {a : Nat} : zoff s s a := fun _ _ => ⟨rfl, rfl, rfl⟩
/-- the same, and no reference changed -/
def zof (s s2 : zσ) (a : Nat) : Prop := zoff s s2 a ∧ s2.2.2 = s.2.2
theorem zof_tr {s s2 s3 : zσ} {a : Nat} (h1 : zof s s2 a) (h2 : zof s2 s3 a) : zof s s3 a := ⟨zoff_tr h1.1 h2.1, h2.2.trans h1.2⟩
theorem zof_rf {s : zσ} {a : Nat} : zof s s a := ⟨zoff_rf, rfl⟩
theorem zof_I {s : zσ} {a k : Nat} {v : Int32} : zof s (sI s a k v) a := ⟨zoff_I, rfl⟩
theorem zof_J {s : zσ} {a k : Nat} {v : Int64} : zof s (sJ s a k v) a := ⟨zoff_J, rfl⟩
/-! bytes: the class has them signed, the reference not -/
def sb (u : Nat) : Int32 := (nI u).toInt8.toInt32
theorem sb_all : ∀ u : Fin 256, (sb u.1 &&& 255 = nI u.1) ∧ (sb u.1 = 32 ↔ u.1 = 32) ∧ (sb u.1 = 10 ↔ u.1 = 10) ∧ (sb u.1 < 48 ↔ u.1 < 48 ∨ 128 ≤ u.1) ∧ ((57 : Int32) < sb u.1 ↔ 57 < u.1 ∧ u.1 < 128) ∧ (sb u.1 < 97 ↔ u.1 < 97 ∨ 128 ≤ u.1) ∧ ((122 : Int32) < sb u.1 ↔ 122 < u.1 ∧ u.1 < 128) ∧ (u.1 < 128 → sb u.1 = nI u.1) ∧ (((nI u.1).toUInt32 % 65536).toInt32 = nI u.1) := by decide +kernel
theorem sb_f {u : Nat} (h : u < 256) : (sb u &&& 255 = nI u) ∧ (sb u = 32 ↔ u = 32) ∧ (sb u = 10 ↔ u = 10) ∧ (sb u < 48 ↔ u < 48 ∨ 128 ≤ u) ∧ ((57 : Int32) < sb u ↔ 57 < u ∧ u < 128) ∧ (sb u < 97 ↔ u < 97 ∨ 128 ≤ u) ∧ ((122 : Int32) < sb u ↔ 122 < u ∧ u < 128) ∧ (u < 128 → sb u = nI u) ∧ (((nI u).toUInt32 % 65536).toInt32 = nI u) := sb_all ⟨u, h⟩
/-! a walk along the text -/
def zwh (P : Nat → Bool) : Nat → Nat → Nat
  | 0, p => p
  | m + 1, p => if P p = true then zwh P m (p + 1) else p
theorem zwh_ge (P : Nat → Bool) : ∀ m p, p ≤ zwh P m p
  | 0, p => Nat.le_refl _
  | m + 1, p => by
    unfold zwh
    split
    · exact Nat.le_trans (Nat.le_succ p) (zwh_ge P m (p + 1))
    · exact Nat.le_refl _
theorem zwh_le (P : Nat → Bool) : ∀ m p, zwh P m p ≤ p + m
  | 0, p => Nat.le_refl _
  | m + 1, p => by
    unfold zwh
    split
    · have := zwh_le P m (p + 1); omega
    · omega
def zblU (u : Nat) : Bool := decide (u = 32) || decide (u = 10)
def zltU (u : Nat) : Bool := decide (97 ≤ u) && decide (u ≤ 122)
def zfgU (u : Nat) : Bool := decide (48 ≤ u) && decide (u ≤ 57)
/-- the first place from p on that is no blank -/
def zsk (U : Nat → Nat) (len p : Nat) : Nat := zwh (fun i => zblU (U i)) (len - p) p
/-- the end of a name (b) or number that goes on at p -/
def zrn (U : Nat → Nat) (b : Bool) (len p : Nat) : Nat := zwh (fun i => zfgU (U i) || b && zltU (U i)) (len - p) p
theorem zsk_ge {U : Nat → Nat} {len p : Nat} : p ≤ zsk U len p := zwh_ge _ _ _
theorem zsk_le {U : Nat → Nat} {len p : Nat} (h : p ≤ len) : zsk U len p ≤ len := by
  have := zwh_le (fun i => zblU (U i)) (len - p) p
  unfold zsk
  omega
theorem zsk_s {U : Nat → Nat} {len p : Nat} (h : p < len) (hb : zblU (U p) = true) : zsk U len p = zsk U len (p + 1) := by
  unfold zsk
  obtain ⟨m, hm⟩ : ∃ m, len - p = m + 1 := ⟨len - p - 1, by omega⟩
  rw [hm, show len - (p + 1) = m by omega]
  show (if zblU (U p) = true then _ else _) = _
  rw [if_pos hb]
theorem zsk_n {U : Nat → Nat} {len p : Nat} (hb : ¬ zblU (U p) = true) : zsk U len p = p := by
  unfold zsk
  cases len - p with
  | zero => rfl
  | succ m => show (if zblU (U p) = true then _ else _) = _; rw [if_neg hb]
theorem zsk_l {U : Nat → Nat} {len : Nat} : zsk U len len = len := by
  unfold zsk
  rw [Nat.sub_self]
  rfl
theorem zrn_ge {U : Nat → Nat} {b : Bool} {len p : Nat} : p ≤ zrn U b len p := zwh_ge _ _ _
theorem zrn_le {U : Nat → Nat} {b : Bool} {len p : Nat} (h : p ≤ len) : zrn U b len p ≤ len := by
  have := zwh_le (fun i => zfgU (U i) || b && zltU (U i)) (len - p) p
  unfold zrn
  omega
theorem zrn_s {U : Nat → Nat} {b : Bool} {len p : Nat} (h : p < len) (hb : (zfgU (U p) || b && zltU (U p)) = true) : zrn U b len p = zrn U b len (p + 1) := by
  unfold zrn
  obtain ⟨m, hm⟩ : ∃ m, len - p = m + 1 := ⟨len - p - 1, by omega⟩
  rw [hm, show len - (p + 1) = m by omega]
  show (if (zfgU (U p) || b && zltU (U p)) = true then _ else _) = _
  rw [if_pos hb]
theorem zrn_n {U : Nat → Nat} {b : Bool} {len p : Nat} (hb : ¬ (zfgU (U p) || b && zltU (U p)) = true) : zrn U b len p = p := by
  unfold zrn
  cases len - p with
  | zero => rfl
  | succ m => show (if (zfgU (U p) || b && zltU (U p)) = true then _ else _) = _; rw [if_neg hb]
theorem zrn_l {U : Nat → Nat} {b : Bool} {len : Nat} : zrn U b len len = len := by
  unfold zrn
  rw [Nat.sub_self]
  rfl
/-- the bytes from q on, m of them, as a name; as a number -/
def znm (U : Nat → Nat) (q : Nat) : Nat → Int64
  | 0 => 0
  | m + 1 => (znm U q m <<< ((8 : Int32).toInt64 &&& 63)) ||| (nI (U (q + m))).toInt64
def znb (U : Nat → Nat) (q : Nat) : Nat → Int32
  | 0 => 0
  | m + 1 => ((znb U q m * 10) + nI (U (q + m))) - 48
/-! what the class has of a text: its bytes and its length -/
def txC (U : Nat → Nat) (len : Nat) (s : zσ) : Prop := len ≤ 4000 ∧ s.1 1001 2 = nI len ∧ ∀ i, i < len → U i < 256 ∧ s.1 1002 i = sb (U i)
theorem txC_off {U : Nat → Nat} {len : Nat} {s s2 : zσ} (h : txC U len s) (ho : zof s s2 1001) (h2 : s2.1 1001 2 = s.1 1001 2) : txC U len s2 := ⟨h.1, h2.trans h.2.1, fun i hi => by rw [(ho.1 1002 (by decide)).1]; exact h.2.2 i hi⟩
theorem txC_sI {U : Nat → Nat} {len k : Nat} {v : Int32} {s : zσ} (h : txC U len s) (hk : 2 ≠ k) : txC U len (sI s 1001 k v) := txC_off h zof_I (rIk hk)
theorem txC_sJ {U : Nat → Nat} {len k : Nat} {v : Int64} {s : zσ} (h : txC U len s) : txC U len (sJ s 1001 k v) := txC_off h zof_J rfl
theorem zin_nI {a n : Nat} (h : a < n) (hn : n < 2 ^ 31) : zin? (nI a) n = true := zin?_nI h hn
theorem nx_nI {a : Nat} (h : a < 2 ^ 31) : nx (nI a) = a := nI_clamp h
