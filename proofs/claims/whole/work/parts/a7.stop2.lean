/-! the readers behind a fault: whole functions -/
section ZPJ0
variable {U : Nat → Nat} {len n b : Nat}
theorem peek_L {s : zσ} (hT : txC U len s) : ∀ (m p j : Nat), len - p = m → p ≤ len → m < j → f56_5 n j (nI p) s = some (if zsk U len p < len then sb (U (zsk U len p)) else 0, s) := by
  intro m
  have hl := hT.1
  induction m with
  | zero =>
    intro p j hm hp hj
    obtain ⟨j, rfl⟩ : ∃ j0, j = j0 + 1 := ⟨j - 1, by omega⟩
    have e : p = len := by omega
    subst e
    rw [f56_5, hT.2.1, if_neg Int32.lt_irrefl, zsk_l, if_neg (Nat.lt_irrefl _)]
    unfold f56_41
    rw [hT.2.1, if_neg Int32.lt_irrefl]
  | succ m ih =>
    intro p j hm hp hj
    obtain ⟨j, rfl⟩ : ∃ j0, j = j0 + 1 := ⟨j - 1, by omega⟩
    have hlt : p < len := by omega
    obtain ⟨hu, hb⟩ := hT.2.2 p hlt
    obtain ⟨-, b2, b3, -⟩ := sb_f hu
    have hin : zin? (nI p) 4000 = true := zin_nI (by omega) (by decide)
    have h35 : f56_35 n (f56_5 n j) (nI p) s = f56_5 n j (nI (p + 1)) s := by
      show f56_5 n j (nI p + 1) s = _
      rw [nI_1]
    have hih := ih (p + 1) j (by omega) (by omega) (by omega)
    rw [f56_5, hT.2.1, if_pos (nI_lt hlt (by omega)), if_pos hin, nx_nI (show p < 2 ^ 31 by omega), hb]
    by_cases h1 : U p = 32
    · rw [if_pos (b2.mpr h1), zsk_s hlt (by simp [zblU, h1]), h35]
      exact hih
    · rw [if_neg (fun q => h1 (b2.mp q)), if_pos hin]
      by_cases h2 : U p = 10
      · rw [if_pos (b3.mpr h2), zsk_s hlt (by simp [zblU, h2]), h35]
        exact hih
      · rw [if_neg (fun q => h2 (b3.mp q)), zsk_n (by simp [zblU, h1, h2]), if_pos hlt]
        unfold f56_41
        rw [hT.2.1, if_pos (nI_lt hlt (by omega)), if_pos hin, nx_nI (show p < 2 ^ 31 by omega), hb]
/-- the first byte of a sign tells the token -/
theorem tk_byte {q c : Nat} (hU : zby U len) (hq : q ≤ len) (hc : zsg c = true) (hc2 : c < 126) : tkKind U len q = nI c ↔ (q < len ∧ U q = c) := by
  have hcb := zsg_b hc (by omega)
  constructor
  · intro e
    rcases tk_cases hU hq with ⟨-, e2, -⟩ | ⟨-, e2, -⟩ | ⟨-, -, ⟨w, hw, -, e2⟩, -⟩ | ⟨-, -, -, e2, -⟩ | ⟨-, -, -, e2, -⟩ | ⟨hlt, -, -, hs, e2, -⟩
    · exfalso; have := (nIe (u := 3) (k := c) (by decide) (by omega)).mp (e2.symm.trans e); omega
    · exfalso; have := (nIe (u := 0) (k := c) (by decide) (by omega)).mp (e2.symm.trans e); omega
    · exfalso; have := (nIe (u := 128 + w) (k := c) (by omega) (by omega)).mp (e2.symm.trans e); omega
    · exfalso; have := (nIe (u := 1) (k := c) (by decide) (by omega)).mp (e2.symm.trans e); omega
    · exfalso; have := (nIe (u := 2) (k := c) (by decide) (by omega)).mp (e2.symm.trans e); omega
    · exact ⟨hlt, (nIe (hU q hlt) (by omega)).mp (e2.symm.trans e)⟩
  · rintro ⟨hlt, rfl⟩
    have hnl : ¬ zltU (U q) = true ∧ ¬ zfgU (U q) = true := by
      have : ∀ u : Fin 256, zsg u.1 = true → ¬ zltU u.1 = true ∧ ¬ zfgU u.1 = true := by decide +kernel
      exact this ⟨U q, by omega⟩ hc
    unfold tkKind
    rw [if_neg (by omega), if_neg hnl.1, if_neg hnl.2, if_neg (fun e => by rw [(zsg_1 (by omega)).mp e] at hc; cases hc)]
theorem sb_91 : ∀ u : Fin 256, sb u.1 = 91 ↔ u.1 = 91 := by decide +kernel
end ZPJ0
section ZPJ
variable {U : Nat → Nat} {len x y n f z : Nat} {s0 t0 s t : zσ} {β : Type} {P : β → Prop} {g : zσ → Option zσ}
theorem fcs_k {c : Int32} {p q : Option β} (h : FC len x s0 f z s) (h2 : fw P (if (4 : Int32) < c then p else q)) : fw P (if s.1 1001 4 < c then p else q) := by
  rw [fc_4 h]; exact h2
theorem fc_51 (hn : 5000 ≤ n) (hS : S0 U len x y s0 t0) (hg : ∀ s, FC len x s0 f z s → fw (FC len x s0 f z) (g s)) (h : FC len x s0 f z s) : fw (FC len x s0 f z) (f51 n g s) := by
  obtain ⟨n, rfl⟩ : ∃ m, n = m + 1 := ⟨n - 1, by omega⟩
  unfold f51
  refine fw_y0 (hg s h) (fun u hu => ?_)
  unfold f51_6
  refine fw_i1 (by decide) ?_
  repeat' (first | (with_reducible assumption) | (with_reducible refine fw_some ?_) | (with_reducible exact ⟨rfl, by assumption⟩) | (with_reducible refine fcs_r5 hS (by assumption) ?_) | (with_reducible refine fcs_r6 hS (by assumption) ?_) | (with_reducible refine fcs_r4 hS (by assumption) ?_) | (with_reducible refine fcs_32 (by assumption) ?_) | (with_reducible refine fcs_26 (by assumption) ?_) | (with_reducible refine fcs_37 (by assumption) ?_ ?_) | (with_reducible refine fcs_39 (by assumption) ?_ ?_) | (with_reducible refine fcs_41 (by assumption) ?_ ?_) | (with_reducible refine fcs_57 (by assumption) ?_) | (with_reducible refine fcs_58 hS (by assumption) ?_) | (with_reducible refine fcs_53 hS (by assumption) (fun _ _ => ?_)) | (with_reducible refine fcs_54 hx (by assumption) (fun _ _ => ?_)) | (with_reducible refine fcs_I (by assumption) hx ?_ ?_ ?_ (fun _ => ?_)) | (with_reducible refine fw_z ?_) | (with_reducible refine fw_i1 rfl ?_) | (with_reducible refine fw_i1 (by assumption) ?_) | (with_reducible refine fw_i0 (by assumption) ?_) | (with_reducible refine fw_i0 (fc_k (by assumption) ?_) ?_) | (with_reducible refine fcs_k (by assumption) ?_) | (refine fw_i0 (by decide) ?_) | (refine fw_i1 (by decide) ?_) | (omega) | (decide))
theorem fc_50 (hn : 5000 ≤ n) (hS : S0 U len x y s0 t0) (hg : ∀ s, FC len x s0 f z s → fw (FC len x s0 f z) (g s)) (h : FC len x s0 f z s) : fw (FC len x s0 f z) (f50 n g s) := by
  unfold f50
  refine fw_y0 (fc_51 hn hS hg h) (fun u hu => ?_)
  obtain ⟨n, rfl⟩ : ∃ m, n = m + 1 := ⟨n - 1, by omega⟩
  unfold f50_6
  refine fw_i1 (by decide) ?_
  repeat' (first | (with_reducible assumption) | (with_reducible refine fw_some ?_) | (with_reducible exact ⟨rfl, by assumption⟩) | (with_reducible refine fcs_r5 hS (by assumption) ?_) | (with_reducible refine fcs_r6 hS (by assumption) ?_) | (with_reducible refine fcs_r4 hS (by assumption) ?_) | (with_reducible refine fcs_32 (by assumption) ?_) | (with_reducible refine fcs_26 (by assumption) ?_) | (with_reducible refine fcs_37 (by assumption) ?_ ?_) | (with_reducible refine fcs_39 (by assumption) ?_ ?_) | (with_reducible refine fcs_41 (by assumption) ?_ ?_) | (with_reducible refine fcs_57 (by assumption) ?_) | (with_reducible refine fcs_58 hS (by assumption) ?_) | (with_reducible refine fcs_53 hS (by assumption) (fun _ _ => ?_)) | (with_reducible refine fcs_54 hx (by assumption) (fun _ _ => ?_)) | (with_reducible refine fcs_I (by assumption) hx ?_ ?_ ?_ (fun _ => ?_)) | (with_reducible refine fw_z ?_) | (with_reducible refine fw_i1 rfl ?_) | (with_reducible refine fw_i1 (by assumption) ?_) | (with_reducible refine fw_i0 (by assumption) ?_) | (with_reducible refine fw_i0 (fc_k (by assumption) ?_) ?_) | (with_reducible refine fcs_k (by assumption) ?_) | (refine fw_i0 (by decide) ?_) | (refine fw_i1 (by decide) ?_) | (omega) | (decide))
theorem fc_49 (hn : 5000 ≤ n) (hS : S0 U len x y s0 t0) (hg : ∀ s, FC len x s0 f z s → fw (FC len x s0 f z) (g s)) (h : FC len x s0 f z s) : fw (FC len x s0 f z) (f49 n g s) := by
  unfold f49
  refine fw_y0 (fc_50 hn hS hg h) (fun u hu => ?_)
  repeat' (first | (with_reducible assumption) | (with_reducible refine fw_some ?_) | (with_reducible exact ⟨rfl, by assumption⟩) | (with_reducible refine fcs_r5 hS (by assumption) ?_) | (with_reducible refine fcs_r6 hS (by assumption) ?_) | (with_reducible refine fcs_r4 hS (by assumption) ?_) | (with_reducible refine fcs_32 (by assumption) ?_) | (with_reducible refine fcs_26 (by assumption) ?_) | (with_reducible refine fcs_37 (by assumption) ?_ ?_) | (with_reducible refine fcs_39 (by assumption) ?_ ?_) | (with_reducible refine fcs_41 (by assumption) ?_ ?_) | (with_reducible refine fcs_57 (by assumption) ?_) | (with_reducible refine fcs_58 hS (by assumption) ?_) | (with_reducible refine fcs_53 hS (by assumption) (fun _ _ => ?_)) | (with_reducible refine fcs_54 hx (by assumption) (fun _ _ => ?_)) | (with_reducible refine fcs_I (by assumption) hx ?_ ?_ ?_ (fun _ => ?_)) | (with_reducible refine fw_z ?_) | (with_reducible refine fw_i1 rfl ?_) | (with_reducible refine fw_i1 (by assumption) ?_) | (with_reducible refine fw_i0 (by assumption) ?_) | (with_reducible refine fw_i0 (fc_k (by assumption) ?_) ?_) | (with_reducible refine fcs_k (by assumption) ?_) | (refine fw_i0 (by decide) ?_) | (refine fw_i1 (by decide) ?_) | (omega) | (decide))
theorem fc_52b (hn : 5000 ≤ n) (hS : S0 U len x y s0 t0) (h : FC len x s0 f z s) : fw (FC len x s0 f z) (f52b n g s) := by
  unfold f52b
  repeat' (first | (with_reducible assumption) | (with_reducible refine fw_some ?_) | (with_reducible exact ⟨rfl, by assumption⟩) | (with_reducible refine fcs_r5 hS (by assumption) ?_) | (with_reducible refine fcs_r6 hS (by assumption) ?_) | (with_reducible refine fcs_r4 hS (by assumption) ?_) | (with_reducible refine fcs_32 (by assumption) ?_) | (with_reducible refine fcs_26 (by assumption) ?_) | (with_reducible refine fcs_37 (by assumption) ?_ ?_) | (with_reducible refine fcs_39 (by assumption) ?_ ?_) | (with_reducible refine fcs_41 (by assumption) ?_ ?_) | (with_reducible refine fcs_57 (by assumption) ?_) | (with_reducible refine fcs_58 hS (by assumption) ?_) | (with_reducible refine fcs_53 hS (by assumption) (fun _ _ => ?_)) | (with_reducible refine fcs_54 hx (by assumption) (fun _ _ => ?_)) | (with_reducible refine fcs_I (by assumption) hx ?_ ?_ ?_ (fun _ => ?_)) | (with_reducible refine fw_z ?_) | (with_reducible refine fw_i1 rfl ?_) | (with_reducible refine fw_i1 (by assumption) ?_) | (with_reducible refine fw_i0 (by assumption) ?_) | (with_reducible refine fw_i0 (fc_k (by assumption) ?_) ?_) | (with_reducible refine fcs_k (by assumption) ?_) | (refine fw_i0 (by decide) ?_) | (refine fw_i1 (by decide) ?_) | (omega) | (decide))
theorem fc_52 {k : Nat} (hn : 5000 ≤ n) (hS : S0 U len x y s0 t0) (h : FC len x s0 f z s) : fw (FC len x s0 f z) (f52 n (k + 1) s) := fc_52b hn hS h
/-- an expression -/
theorem fcs_49 {k : zσ → Option β} (hn : 5000 ≤ n) (hS : S0 U len x y s0 t0) (h : FC len x s0 f z s) (hk : ∀ u, FC len x s0 f z u → fw P (k u)) : fw P (yb0 (f49 n (f52 n 20) s) k) := fw_y0 (fc_49 hn hS (fun s h => fc_52 hn hS h) h) hk
theorem fc_peek (hn : 5000 ≤ n) (hS : S0 U len x y s0 t0) (h : FC len x s0 f z s) : ∃ v, f56 n s = some (v, s) := by
  obtain ⟨p, hp, h3⟩ := h.1.2.2.1
  have hT := (BC_tx hS h.1).1
  refine ⟨if zsk U len p < len then sb (U (zsk U len p)) else 0, ?_⟩
  have hl := hT.1
  show f56_5 n n (s.1 1001 3) s = _
  rw [h3]
  exact peek_L hT (len - p) p n rfl hp (by omega)
theorem fcs_56 {k : Int32 → zσ → Option β} (hn : 5000 ≤ n) (hS : S0 U len x y s0 t0) (h : FC len x s0 f z s) (hk : ∀ v, fw P (k v s)) : fw P (yb1 (f56 n s) k) := by
  obtain ⟨v, e⟩ := fc_peek hn hS h
  rw [e]; exact hk v
theorem fc_40 {j : Nat} {a c : Int32} (h : FC len x s0 f z s) : f40 n (j + 1) a c s = some (-1, s) := by
  show f40b n _ a c s = _
  unfold f40b
  rw [fc_41 h (by decide), yb1_s, if_pos rfl]
theorem fcs_40 {j : Nat} {a c : Int32} {k : Int32 → zσ → Option β} (h : FC len x s0 f z s) (hk : fw P (k (-1) s)) : fw P (yb1 (f40 n (j + 1) a c s) k) := by
  rw [fc_40 h]; exact hk
theorem fc_34 {c : Int32} (h : FC len x s0 f z s) : f34 n c s = some (-1, s) := by
  unfold f34
  rw [if_neg (fc_k h (by decide)), c_refuse0 (fc_4 h)]
  rfl
theorem fcs_34 {c : Int32} {k : Int32 → zσ → Option β} (h : FC len x s0 f z s) (hk : fw P (k (-1) s)) : fw P (yb1 (f34 n c s) k) := by
  rw [fc_34 h]; exact hk
theorem fcs_67 {a c : Int32} {k : Int32 → zσ → Option β} (h : FC len x s0 f z s) (hk : fw P (k (-1) s)) : fw P (yb1 (f67 n a c s) k) := by
  have e : f67 n a c s = some (-1, s) := by
    unfold f67
    rw [if_neg (fc_k h (by decide)), c_refuse0 (fc_4 h)]
    rfl
  rw [e]; exact hk
theorem fcs_38 {k : zσ → Option β} (h : FC len x s0 f z s) (hk : fw P (k s)) : fw P (yb0 (f38 n s) k) := by
  have e : f38 n s = some s := by
    unfold f38
    rw [if_neg (fc_k h (by decide)), c_refuse0 (fc_4 h)]
    rfl
  rw [e]; exact hk
/-! statements of the class behind a fault -/
theorem fc_61_7 {a v c : Int32} {i : Nat} (hn : 5000 ≤ n) (hS : S0 U len x y s0 t0) (ha : zin? a 200 = true) (hi : i ≤ 4) : ∀ (j : Nat) (w : Int32), 5 < j → FC len x s0 f z s → fw (FC len x s0 f z) (f61_7 n j a w c (nI i) s) := by
  intro j w hj h
  have hx := hS.1
  obtain ⟨j, rfl⟩ : ∃ m, j = m + 1 := ⟨j - 1, by omega⟩
  have h68 : ∀ w, fw (FC len x s0 f z) (f61_68 n a w s) := fun w => by
    unfold f61_68
    repeat' (first | (with_reducible assumption) | (with_reducible refine fw_some ?_) | (with_reducible exact ⟨rfl, by assumption⟩) | (with_reducible refine fcs_r5 hS (by assumption) ?_) | (with_reducible refine fcs_r6 hS (by assumption) ?_) | (with_reducible refine fcs_r4 hS (by assumption) ?_) | (with_reducible refine fcs_32 (by assumption) ?_) | (with_reducible refine fcs_26 (by assumption) ?_) | (with_reducible refine fcs_37 (by assumption) ?_ ?_) | (with_reducible refine fcs_39 (by assumption) ?_ ?_) | (with_reducible refine fcs_41 (by assumption) ?_ ?_) | (with_reducible refine fcs_57 (by assumption) ?_) | (with_reducible refine fcs_58 hS (by assumption) ?_) | (with_reducible refine fcs_53 hS (by assumption) (fun _ _ => ?_)) | (with_reducible refine fcs_54 hx (by assumption) (fun _ _ => ?_)) | (with_reducible refine fcs_I (by assumption) hx ?_ ?_ ?_ (fun _ => ?_)) | (with_reducible refine fw_z ?_) | (with_reducible refine fw_i1 rfl ?_) | (with_reducible refine fw_i1 (by assumption) ?_) | (with_reducible refine fw_i0 (by assumption) ?_) | (with_reducible refine fw_i0 (fc_k (by assumption) ?_) ?_) | (with_reducible refine fcs_k (by assumption) ?_) | (refine fw_i0 (by decide) ?_) | (refine fw_i1 (by decide) ?_) | (omega) | (decide))
  have h2 : ∀ (w : Int32) (i : Int32), fw (FC len x s0 f z) (f61_40 n (f61_7 n j) a w i s) := fun w i => by
    obtain ⟨j, rfl⟩ : ∃ m, j = m + 1 := ⟨j - 1, by omega⟩
    unfold f61_40
    refine fcs_57 h (fw_z (fcs_39 h (by decide) ?_))
    unfold f61_7
    rw [if_pos rfl]
    exact h68 _
  unfold f61_7
  refine fw_i (fun _ => h68 _) (fun _ => fw_i (fun _ => h68 _) (fun _ => fw_i (fun _ => fw_i0 (fc_k h (by decide)) (h2 _ _)) (fun _ => h2 _ _)))
theorem fc_64_103 {a b c d : Int32} (hn : 5000 ≤ n) (hS : S0 U len x y s0 t0) (ha : zin? a 200 = true) (hc : c = -1 ∨ zin? c 6 = true) (h : FC len x s0 f z s) : fw (FC len x s0 f z) (f64_103 n a b c d s) := by
  have hx := hS.1
  unfold f64_103
  refine fcs_37 h (by decide) (fcs_r5 hS h (fw_i1 ha (fcs_I h hx (by omega) (by omega) (by omega) (fun h2 => ?_))))
  refine fw_i (fun _ => fw_some h2) (fun _ => fw_i (fun _ => ?_) (fun _ => fw_some h2))
  rcases hc with rfl | hc
  · repeat' (first | (with_reducible assumption) | (with_reducible refine fw_some ?_) | (with_reducible exact ⟨rfl, by assumption⟩) | (with_reducible refine fcs_r5 hS (by assumption) ?_) | (with_reducible refine fcs_r6 hS (by assumption) ?_) | (with_reducible refine fcs_r4 hS (by assumption) ?_) | (with_reducible refine fcs_32 (by assumption) ?_) | (with_reducible refine fcs_26 (by assumption) ?_) | (with_reducible refine fcs_37 (by assumption) ?_ ?_) | (with_reducible refine fcs_39 (by assumption) ?_ ?_) | (with_reducible refine fcs_41 (by assumption) ?_ ?_) | (with_reducible refine fcs_57 (by assumption) ?_) | (with_reducible refine fcs_58 hS (by assumption) ?_) | (with_reducible refine fcs_53 hS (by assumption) (fun _ _ => ?_)) | (with_reducible refine fcs_54 hx (by assumption) (fun _ _ => ?_)) | (with_reducible refine fcs_I (by assumption) hx ?_ ?_ ?_ (fun _ => ?_)) | (with_reducible refine fw_z ?_) | (with_reducible refine fw_i1 rfl ?_) | (with_reducible refine fw_i1 (by assumption) ?_) | (with_reducible refine fw_i0 (by assumption) ?_) | (with_reducible refine fw_i0 (fc_k (by assumption) ?_) ?_) | (with_reducible refine fcs_k (by assumption) ?_) | (refine fw_i0 (by decide) ?_) | (refine fw_i1 (by decide) ?_) | (omega) | (decide))
  · refine fw_i (fun _ => fw_some h2) (fun _ => fcs_r4 hS h2 (fw_i1 hc (fw_i (fun _ => fw_some h2) (fun _ => fcs_I h2 hx (by omega) (by omega) (by omega) (fun h3 => fw_some h3)))))
theorem fc_64_46 {a b c d : Int32} {v : Int32} {i : Nat} (hn : 5000 ≤ n) (hS : S0 U len x y s0 t0) (ha : zin? a 200 = true) (hc : c = -1 ∨ zin? c 6 = true) {j : Nat} (hj : 5 < j) (h : FC len x s0 f z s) : fw (FC len x s0 f z) (f64_46 n j a b c d v (nI i) s) := by
  obtain ⟨j, rfl⟩ : ∃ m, j = m + 1 := ⟨j - 1, by omega⟩
  have h2 : ∀ (d i : Int32), fw (FC len x s0 f z) (f64_82 n (f64_46 n j) a b c d i s) := fun d i => by
    obtain ⟨j, rfl⟩ : ∃ m, j = m + 1 := ⟨j - 1, by omega⟩
    unfold f64_82
    refine fcs_49 hn hS h (fun u hu => fcs_39 hu (by decide) ?_)
    unfold f64_46
    rw [if_pos rfl]
    exact fc_64_103 hn hS ha hc hu
  unfold f64_46
  refine fw_i (fun _ => fc_64_103 hn hS ha hc h) (fun _ => fw_i (fun _ => fc_64_103 hn hS ha hc h) (fun _ => fw_i (fun _ => ?_) (fun _ => h2 _ _)))
  rw [show f65 n (s.1 1001 4) s = some (0, s) by rw [fc_4 h]; rfl, yb1_s, if_pos rfl]
  exact h2 _ _
theorem fc_46_146 {a : Int32} {g : Int32 → Int32 → zσ → Option (Int32 × zσ)} (hn : 5000 ≤ n) (hS : S0 U len x y s0 t0) (ha : zin? a 200 = true) (h : FC len x s0 f z s) : fw (fun b => b.1 = a ∧ FC len x s0 f z b.2) (f46_146 n g a s) := by
  have hx := hS.1
  have h166 : ∀ u, FC len x s0 f z u → fw (fun b => b.1 = a ∧ FC len x s0 f z b.2) (f46_166 n g a u) := fun u hu => by
    unfold f46_166
    repeat' (first | (with_reducible assumption) | (with_reducible refine fw_some ?_) | (with_reducible exact ⟨rfl, by assumption⟩) | (with_reducible refine fcs_r5 hS (by assumption) ?_) | (with_reducible refine fcs_r6 hS (by assumption) ?_) | (with_reducible refine fcs_r4 hS (by assumption) ?_) | (with_reducible refine fcs_32 (by assumption) ?_) | (with_reducible refine fcs_26 (by assumption) ?_) | (with_reducible refine fcs_37 (by assumption) ?_ ?_) | (with_reducible refine fcs_39 (by assumption) ?_ ?_) | (with_reducible refine fcs_41 (by assumption) ?_ ?_) | (with_reducible refine fcs_57 (by assumption) ?_) | (with_reducible refine fcs_58 hS (by assumption) ?_) | (with_reducible refine fcs_53 hS (by assumption) (fun _ _ => ?_)) | (with_reducible refine fcs_54 hx (by assumption) (fun _ _ => ?_)) | (with_reducible refine fcs_I (by assumption) hx ?_ ?_ ?_ (fun _ => ?_)) | (with_reducible refine fw_z ?_) | (with_reducible refine fw_i1 rfl ?_) | (with_reducible refine fw_i1 (by assumption) ?_) | (with_reducible refine fw_i0 (by assumption) ?_) | (with_reducible refine fw_i0 (fc_k (by assumption) ?_) ?_) | (with_reducible refine fcs_k (by assumption) ?_) | (refine fw_i0 (by decide) ?_) | (refine fw_i1 (by decide) ?_) | (omega) | (decide))
  unfold f46_146
  refine fcs_r5 hS h (fw_i1 ha (fw_i (fun _ => fw_y0 (Q := FC len x s0 f z) ?_ h166) (fun _ => h166 _ h)))
  unfold f64
  refine fw_z (fcs_57 h (fcs_37 h (by decide) (fw_i0 (fc_k h (by decide)) ?_)))
  unfold f64_41
  exact fc_64_46 (i := 0) hn hS ha (Or.inl rfl) (by omega) h
end ZPJ
