/-! statements, both readers: assignments -/
section ZPZ
/-- the operands of a statement, by the values of its fields -/
def OD (G : Nat → Nat → Nat) (y bl : Nat) (tz : zσ) (kk : Nat) (c m L : Nat → Int32) (mE : Nat) : Prop :=
  let A := fun cc => uA G y cc (tzMp tz y) (c 1) (m 2)
  let B := fun cc => uA G y cc (tzMp tz y) (c 2) (m 3)
  let N := c 1 = -1 ∧ m 2 = -1
  let V := uV G y bl (tzMp tz y) (c 1) (m 2)
  (kk = 1 ∧ V ∧ mE = 1) ∨ (kk = 2 ∧ A 1 ∧ mE = 2) ∨
  (kk = 3 ∧ (N ∨ V) ∧ B 7 ∧ ∃ p, p < G 6 7 ∧ c 2 = nI p ∧ m 5 = nI (G 12 p) ∧ mE = G 12 p) ∨
  (kk = 4 ∧ mE = 1 ∧ 8 ≤ G 5 bl) ∨
  (kk = 7 ∧ A 1 ∧ mE = 1) ∨ (kk = 8 ∧ A 1 ∧ B 1 ∧ mE = 0) ∨ (kk = 9 ∧ A 1 ∧ mE = 0) ∨
  ((kk = 10 ∨ kk = 11) ∧ (∃ l : List Nat, l.length ≤ 4 ∧ (∀ v, v ∈ l → v < G 6 2) ∧ c 1 = nI (zpk l) ∧ m 5 = nI l.length ∧ (∀ k, k < l.length → ∃ u, u < 1400 ∧ L k = nI u ∧ (tzMp tz y).1 (y + 33) u = nI (l.getD k 0)) ∧ m 2 = -1) ∧ mE = 0) ∨
  ((kk = 12 ∨ kk = 13 ∨ kk = 14 ∨ kk = 15) ∧ A 3 ∧ mE = 0) ∨
  ((kk = 16 ∨ kk = 17) ∧ A 8 ∧ ((m 4 = nI 0 ∧ c 2 = -1 ∧ mE = 0) ∨ (m 4 = nI 1 ∧ c 2 = 145 ∧ m 5 = 1 ∧ mE = 1) ∨ (m 4 = nI 2 ∧ c 2 = 146 ∧ m 5 = 1 ∧ mE = 1) ∨ (m 4 = nI 3 ∧ c 2 = 147 ∧ m 5 = 1 ∧ mE = 1) ∨ (m 4 = nI 3 ∧ c 2 = 141 ∧ m 5 = 2 ∧ mE = 2) ∨ (m 4 = nI 4 ∧ B 4 ∧ mE = 0))) ∨
  (kk = 18 ∧ m 4 = nI 0 ∧ (N ∨ A 8) ∧ mE = 0) ∨ (kk = 19 ∧ m 4 = nI 0 ∧ A 8 ∧ mE = 0) ∨ (kk = 20 ∧ m 4 = nI 0 ∧ A 8 ∧ mE = 1) ∨ (kk = 21 ∧ m 4 = nI 0 ∧ A 8 ∧ mE = 0) ∨
  (kk = 22 ∧ mE = 1) ∨ (kk = 23 ∧ A 5 ∧ B 0 ∧ mE = 0) ∨ (kk = 24 ∧ A 6 ∧ mE = 1) ∨ ((kk = 25 ∨ kk = 26 ∨ kk = 27) ∧ A 4 ∧ mE = 0) ∨ (kk = 28 ∧ mE = 1)
/-- what comes of a statement's body -/
def BO (U : Nat → Nat) (len x y : Nat) (s0 t0 : zσ) (K np : Nat) (tz : zσ) (G : Nat → Nat → Nat) (bl r nb0 cd0 : Nat) (sS tS : zσ) (q dp nb : Nat) (a b : zσ) : Prop := ∃ kk ub2 q2 nd2 cd2 us2 es2 c m L E mE cs, ST U len x y s0 t0 K np tz G bl r nb0 cd0 sS tS ub2 q2 dp nd2 cd2 us2 es2 nb c m L E mE cs a b ∧ (q ≤ q2 ∧ ub2 ≤ 4 * r + 4 ∧ kk < 29 ∧ kk ≠ 5 ∧ kk ≠ 6 ∧ kk ≠ 0) ∧ (c 0 = nI (zkd kk) ∧ m 0 = nI kk ∧ c 3 = nI cd0 ∧ c 5 = -1 ∧ c 6 = nI bl ∧ m 1 = -1) ∧ (K = 1 → a.1 1004 12 = -1 → OD G y bl tz kk c m L mE)
def c0F (k : Int32) (cd bl : Nat) : Nat → Int32 := fun j => if j = 0 then k else if j = 1 then -1 else if j = 2 then -1 else if j = 5 then -1 else if j = 6 then nI bl else nI cd
def m0F (k : Int32) : Nat → Int32 := fun j => if j = 0 then k else if j = 4 then 0 else if j = 5 then 0 else -1
/-- a call behind a statement that has become one -/
def clF (n r : Nat) (u : zσ) : Option zσ := zrd 6 (u.2.2 1004 5) fun a1 => if (u.1 (a1 + 1) r) = (149 : Int32) then f64 n (nI r) u else some u
variable {U : Nat → Nat} {len x y n K np bl ub q dp nd cd us es na nb q2 dp2 nd2 cd2 us2 r nb0 cd0 mE na2 nb2 : Nat} {s0 t0 tz s t s2 t2 s3 t3 sS tS : zσ} {G : Nat → Nat → Nat} {c m L E : Nat → Int32} {cs : Nat → Nat}
theorem as_00 {α : Type} {p : Option zσ} {k : zσ → Option zσ} {f : zσ → Option α} : yb0 (yb0 p k) f = yb0 p (fun u => yb0 (k u) f) := by cases p <;> rfl
theorem as_01 {α : Type} {p : Option (Int32 × zσ)} {k : Int32 → zσ → Option zσ} {f : zσ → Option α} : yb0 (yb1 p k) f = yb1 p (fun v u => yb0 (k v u) f) := by cases p <;> rfl
theorem as_0z {α γ : Type} {v : γ} {k : γ → Option zσ} {f : zσ → Option α} : yb0 (zlet v k) f = zlet v (fun u => yb0 (k u) f) := rfl
theorem as_0r {α : Type} {ci : Nat} {o : Option Nat} {k : Nat → Option zσ} {f : zσ → Option α} : yb0 (zrd ci o k) f = zrd ci o (fun u => yb0 (k u) f) := by
  cases o with
  | none => rfl
  | some a =>
    show yb0 (if zck ci a = true then k a else none) f = if zck ci a = true then yb0 (k a) f else none
    by_cases h : zck ci a = true
    · rw [if_pos h, if_pos h]
    · rw [if_neg h, if_neg h]; rfl
theorem as_0i {α : Type} {c : Prop} {i : Decidable c} {p q : Option zσ} {f : zσ → Option α} : yb0 (if c then p else q) f = if c then yb0 p f else yb0 q f := by
  by_cases h : c
  · rw [if_pos h, if_pos h]
  · rw [if_neg h, if_neg h]
theorem as_0s {α : Type} {u : zσ} {f : zσ → Option α} : yb0 (some u) f = f u := rfl
theorem as_10 {α : Type} {p : Option zσ} {v : Int32} {f : Int32 → zσ → Option α} : yb1 (yb0 p fun u => some (v, u)) f = yb0 p (fun u => f v u) := by cases p <;> rfl
theorem as_0n {α : Type} {f : zσ → Option α} : yb0 none f = none := rfl
theorem fc_cl {f z : Nat} (hn : 5000 ≤ n) (hS : S0 U len x y s0 t0) (hz : zin? (nI r) 200 = true) (h : FC len x s0 f z s) : fw (FC len x s0 f z) (clF n r s) := by
  unfold clF
  exact fcs_r5 hS h (fw_i (fun _ => fc_64 hn hS hz h) (fun _ => fw_some h))
theorem cl_n (hS : S0 U len x y s0 t0) (h : ST U len x y s0 t0 K np tz G bl r nb0 cd0 sS tS ub q dp nd cd us es nb c m L E mE cs s t) (hk : ¬ c 0 = 149) : clF n r s = some s := by
  unfold clF
  rw [ER_5 hS h.1.1, grd (gck9 hS.1).2.1, if_neg]
  have : s.1 (x + 20 + 0) r = c 0 := h.2.1.1 0 (by omega)
  rw [show x + 19 + 1 = x + 20 + 0 by omega, this]; exact hk
theorem cl_y (hS : S0 U len x y s0 t0) (h : ST U len x y s0 t0 K np tz G bl r nb0 cd0 sS tS ub q dp nd cd us es nb c m L E mE cs s t) (hk : c 0 = 149) : clF n r s = f64 n (nI r) s := by
  unfold clF
  rw [ER_5 hS h.1.1, grd (gck9 hS.1).2.1, if_pos]
  have : s.1 (x + 20 + 0) r = c 0 := h.2.1.1 0 (by omega)
  rw [show x + 19 + 1 = x + 20 + 0 by omega, this]; exact hk
/-- into a level; the rest goes on behind a fault -/
theorem er_open2 {α β : Type} {pm : β → zσ} {F2 : Nat → Nat → α → Prop} {M2 : Nat → Nat → β → Prop} {B : α → β → Prop} {c : Nat} {kc kf : zσ → Option α} {km mf : zσ → Option β} (hn : 5000 ≤ n) (hS : S0 U len x y s0 t0) (h : ER U len x y s0 t0 K np tz G bl ub q dp nd cd us s t) (hk : tkKind U len q = nI c) (hk0 : ¬ tkKind U len q = 0) (H : Hb pm K np y tz (yb0 (f182 n t) fun u => yb1 (f167 n u) fun v u2 => if v = (0 : Int32) then mf u2 else yb0 (f164 n u2) km)) (hkm : ∀ u, bk pm (LR np y tz) (km u) u) (hF : ∀ f z u, FC len x s0 f z u → fw (F2 f z) (kf u)) (hM : ∀ f z u, FM len y t0 f z u → fw (M2 f z) (mf u)) (hA : dp < 12 → ∀ a b, EN U len x y s0 t0 K np tz G bl ub cd us (tkNx U len q) (dp + 1) nd cd us s t a b → Hb pm K np y tz (km b) → Rs F2 M2 (ZB K y tz) B (kc a) (km b)) : Rs F2 M2 (ZB K y tz) B (yb1 (f41 n (nI c) s) fun v u => if v = (0 : Int32) then kf u else kc u) (yb0 (f182 n t) fun u => yb1 (f167 n u) fun v u2 => if v = (0 : Int32) then mf u2 else yb0 (f164 n u2) km) := by
  have d3 := h.2.2.2.1.2.2
  rcases Nat.lt_or_ge dp 12 with hlt | hge
  · obtain ⟨c1, h1⟩ := er_dp (v := dp + 1) hS (by omega) h
    have e2 : (yb0 (f182 n t) fun u => yb1 (f167 n u) fun v u2 => if v = (0 : Int32) then mf u2 else yb0 (f164 n u2) km) = yb0 (f164 n (sI t 1132 14 (nI (dp + 1)))) km := by
      rw [(er_182 hS h).1 hlt, yb0_s, m_goes h1.2.1.2.2, yb1_s, if_neg (by decide)]
    have e1 : (yb1 (f41 n (nI c) s) fun v u => if v = (0 : Int32) then kf u else kc u) = yb0 (f26 n (sI s 1004 9 (nI (dp + 1)))) kc := by
      rw [(er_41 hn hS h hk hk0).1 hlt]
      cases f26 n (sI s 1004 9 (nI (dp + 1))) <;> rfl
    rw [e2] at H ⊢
    rw [e1]
    exact er_n hn hS h1 H hkm (fun a b hab _ H2 => hA hlt a b ⟨EC_tr c1 hab.1 (by omega) (by omega), hab.2⟩ H2)
  · obtain ⟨t2, e2, g2⟩ := (er_182 (n := n) hS h).2 (by omega)
    obtain ⟨s2, e1, g1⟩ := (er_41 hn hS h hk hk0).2 (by omega)
    rw [e1, e2, yb0_s, m_goes0 (fm_ne g2), yb1_s, yb1_s, if_pos rfl, if_pos rfl]
    exact Rs_B (hF _ _ _ g1) (hM _ _ _ g2)
theorem lb99 (hn : 5000 ≤ n) (hy : y = 1134 ∨ y = 1170) {v : Int32} (t : zσ) : bk (fun u => u) (LR np y tz) (f198_99 n v y t) t := by
  unfold f198_99
  repeat' (first | (with_reducible exact b195 hy) | (with_reducible exact b164 hy) | (with_reducible exact b196 hy) | (with_reducible exact b182 hy) | (with_reducible exact b179 hy) | (with_reducible exact b172 hy) | (with_reducible exact b173 hy (by decide)) | (with_reducible exact b189 hn hy) | (with_reducible exact b190 hn hy _) | (with_reducible exact b178 hy) | (with_reducible exact bk_none) | (with_reducible exact bk_some LR_rf) | (with_reducible refine bk_ite (fun _ => ?_) (fun _ => ?_)) | (with_reducible refine bk_rdL ?_) | (with_reducible refine bk_zS LR_tr (LR_I ?_ ?_ ?_ ?_) ?_) | (with_reducible refine bk_zS LR_tr (LR_J ?_ ?_) ?_) | (with_reducible refine bk_zV ?_) | (with_reducible refine bk_y0 LR_tr ?_ (fun _ => ?_)) | (with_reducible refine bk_y1 LR_tr ?_ (fun _ _ => ?_)) | (with_reducible exact bk_pu pu_167 _) | (with_reducible exact bk_pu pu_177 _) | (with_reducible refine bk_pu (pu_170 hn ?_) _) | (with_reducible exact bk_pu (pu_175 hn) _) | (omega) | (decide))
theorem lb120 (hn : 5000 ≤ n) (hy : y = 1134 ∨ y = 1170) {v : Int32} (t : zσ) : bk (fun u => u) (LR np y tz) (f198_120 n v y t) t := by
  unfold f198_120 f198_162
  repeat' (first | (with_reducible exact b199 hn hy _) | (with_reducible exact b195 hy) | (with_reducible exact b164 hy) | (with_reducible exact b196 hy) | (with_reducible exact b182 hy) | (with_reducible exact b179 hy) | (with_reducible exact b172 hy) | (with_reducible exact b173 hy (by decide)) | (with_reducible exact b189 hn hy) | (with_reducible exact b190 hn hy _) | (with_reducible exact b178 hy) | (with_reducible exact bk_none) | (with_reducible exact bk_some LR_rf) | (with_reducible refine bk_ite (fun _ => ?_) (fun _ => ?_)) | (with_reducible refine bk_rdL ?_) | (with_reducible refine bk_zS LR_tr (LR_I ?_ ?_ ?_ ?_) ?_) | (with_reducible refine bk_zS LR_tr (LR_J ?_ ?_) ?_) | (with_reducible refine bk_zV ?_) | (with_reducible refine bk_y0 LR_tr ?_ (fun _ => ?_)) | (with_reducible refine bk_y1 LR_tr ?_ (fun _ _ => ?_)) | (with_reducible exact bk_pu pu_167 _) | (with_reducible exact bk_pu pu_177 _) | (with_reducible refine bk_pu (pu_170 hn ?_) _) | (with_reducible exact bk_pu (pu_175 hn) _) | (omega) | (decide))
theorem fm_99 {f z : Nat} (hn : 5000 ≤ n) (hS : S0 U len x y s0 t0) (hr : r < 200) (h : FM len y t0 f z t) : fw (FM len y t0 f z) (f198_99 n (nI r) y t) := by
  have hy := hS.2.1
  obtain ⟨-, -, h4m, h4a, h8z, -⟩ := r4 (r := r) (i := 1) hr (by omega)
  have e : zin? ((4 : Int32) * nI r + 1) 800 = true := by
    have : nI (4 * r) + 1 = nI (4 * r + 1) := h4a
    rw [h4m, this]; exact h8z
  unfold f198_99
  repeat' (first | (with_reducible assumption) | (with_reducible refine fw_some ?_) | (with_reducible exact ⟨rfl, by assumption⟩) | (with_reducible refine fms_rd hS (by assumption) ?_) | (with_reducible refine fms_167 (by assumption) ?_) | (with_reducible refine fms_173 (by assumption) ?_) | (with_reducible refine fms_172 (by assumption) ?_) | (with_reducible refine fms_179 (by assumption) ?_) | (with_reducible refine fms_164 hn hS (by assumption) (fun _ _ => ?_)) | (with_reducible refine fms_196 (by assumption) ?_) | (with_reducible refine fms_195 hS (by assumption) ?_) | (with_reducible refine fms_182 hS (by assumption) (fun _ _ => ?_)) | (with_reducible refine fms_189 (by assumption) ?_) | (with_reducible refine fms_190 (by assumption) ?_) | (with_reducible refine fms_178 (by assumption) ?_) | (with_reducible refine fms_I (by assumption) hy ?_ (fun _ => ?_)) | (with_reducible refine fw_z ?_) | (with_reducible refine fw_i1 rfl ?_) | (with_reducible refine fw_i1 (by assumption) ?_) | (with_reducible refine fw_i0 (by assumption) ?_) | (refine fw_i0 (by decide) ?_) | (refine fw_i1 (by decide) ?_) | (omega) | (decide))
theorem fm_120 {f z : Nat} (hn : 5000 ≤ n) (hS : S0 U len x y s0 t0) (hr : r < 200) (h : FM len y t0 f z t) : fw (FM len y t0 f z) (f198_120 n (nI r) y t) := by
  have hy := hS.2.1
  obtain ⟨hz, -, h4m, h4a, h8z, -⟩ := r4 (r := r) (i := 0) hr (by omega)
  have e : zin? ((4 : Int32) * nI r) 800 = true := by rw [h4m]; exact h8z
  unfold f198_120 f198_162
  repeat' (first | (with_reducible assumption) | (with_reducible refine fw_some ?_) | (with_reducible exact ⟨rfl, by assumption⟩) | (with_reducible refine fms_rd hS (by assumption) ?_) | (with_reducible refine fms_167 (by assumption) ?_) | (with_reducible refine fms_173 (by assumption) ?_) | (with_reducible refine fms_172 (by assumption) ?_) | (with_reducible refine fms_179 (by assumption) ?_) | (with_reducible refine fms_164 hn hS (by assumption) (fun _ _ => ?_)) | (with_reducible refine fms_196 (by assumption) ?_) | (with_reducible refine fms_195 hS (by assumption) ?_) | (with_reducible refine fms_182 hS (by assumption) (fun _ _ => ?_)) | (with_reducible refine fms_189 (by assumption) ?_) | (with_reducible refine fms_190 (by assumption) ?_) | (with_reducible refine fms_178 (by assumption) ?_) | (with_reducible refine fms_I (by assumption) hy ?_ (fun _ => ?_)) | (with_reducible refine fw_z ?_) | (with_reducible refine fw_i1 rfl ?_) | (with_reducible refine fw_i1 (by assumption) ?_) | (with_reducible refine fw_i0 (by assumption) ?_) | (refine fw_i0 (by decide) ?_) | (refine fw_i1 (by decide) ?_) | (omega) | (decide))
theorem BO_c (hc : cd0 = cd) {kk ub2 : Nat} {a b : zσ} (h : ST U len x y s0 t0 K np tz G bl r nb0 cd0 sS tS ub2 q2 dp nd2 cd2 us2 es nb c m L E mE cs a b) (h1 : q ≤ q2 ∧ ub2 ≤ 4 * r + 4 ∧ kk < 29 ∧ kk ≠ 5 ∧ kk ≠ 6 ∧ kk ≠ 0) (h2 : c 0 = nI (zkd kk) ∧ m 0 = nI kk ∧ c 3 = nI cd ∧ c 5 = -1 ∧ c 6 = nI bl ∧ m 1 = -1) (h3 : K = 1 → a.1 1004 12 = -1 → OD G y bl tz kk c m L mE) : BO U len x y s0 t0 K np tz G bl r nb0 cd0 sS tS q dp nb a b := ⟨kk, ub2, q2, nd2, cd2, us2, es, c, m, L, E, mE, cs, h, h1, by rw [hc]; exact h2, h3⟩
theorem asg_ok (hQ : HQ n U len x y s0 t0 K tz G ub) (hr : r < 200) (hc0 : cd0 = cd) (h : ST U len x y s0 t0 K np tz G bl r nb0 cd0 sS tS (4 * r) q dp nd cd us es nb (c0F 1 cd bl) (m0F 0) L E 0 cs s t) (hk : tkKind U len q = 1) (hG12 : K = 1 → ∀ p, p < G 6 7 → tz.1 (y + 11) p = nI (G 12 p) ∧ G 12 p ≤ 3) (H : Hb (fun u => u) K np y tz (f198 n (nI r) t)) : Rs (FC len x s0) (FM len y t0) (ZB K y tz) (BO U len x y s0 t0 K np tz G bl r nb0 cd0 sS tS q dp nb) (yb0 (f59 n (nI r) s) (clF n r)) (f198 n (nI r) t) := by
  obtain ⟨hn, hS, hub, -, -, hK01, h67⟩ := id hQ
  have hx := hS.1
  have hy := hS.2.1
  have hE := h.1.1
  obtain ⟨hz, hnx, h4m, h4a, h8z, h8n⟩ := r4 (r := r) (i := 0) hr (by omega)
  obtain ⟨-, -, -, h4a1, h8z1, h8n1⟩ := r4 (r := r) (i := 1) hr (by omega)
  have e80 : zin? ((4 : Int32) * nI r) 800 = true := by rw [h4m]; exact h8z
  have e81 : zin? ((4 : Int32) * nI r + 1) 800 = true := by
    have : nI (4 * r) + 1 = nI (4 * r + 1) := h4a1
    rw [h4m, this]; exact h8z1
  have n80 : nx ((4 : Int32) * nI r) = 4 * r + 0 := by rw [h4m]; exact h8n
  have n81 : nx ((4 : Int32) * nI r + 1) = 4 * r + 1 := by
    have : nI (4 * r) + 1 = nI (4 * r + 1) := h4a1
    rw [h4m, this]; exact h8n1
  have u3 := hE.2.2.2.2.2.2.1.2
  have n3 := hE.2.2.2.2.1.2.2
  have hQ1 := HQ_ub (ub2 := 4 * r + 1) hQ (by omega)
  have hql := tk_lt hE (by rw [hk]; decide)
  have hgt := tkNx_gt (U := U) hql
  obtain ⟨v, ev, hv⟩ := er_peek hn hE
  have h1 := ST_ub (ub2 := 4 * r + 1) (ST_wM (j := 0) (v := 1) hS (by omega) (by omega) (by omega) h) (by omega)
  unfold f59 f59_66
  rw [ev, yb1_s]
  by_cases hbr : tkKind U len (tkNx U len q) = 91
  · rw [if_pos (hv.mpr hbr), ER_5 hS hE, grd (gck9 hx).2.1]
    simp only [if_pos hz, hnx, as_00, as_01, as_0z, as_0r, as_0i, as_0s]
    have h2 := ST_wC (j := 0) (v := 91) hS (by omega) h1
    obtain ⟨t2, e2, g2', o2, v1, v2, v3, v4, v5, v6, w1, w2, w3, w4⟩ := use_189 (w := 10) hn hS h2.1.1 hk (by omega)
    have g91 : f177 n 91 (sI t2 (y + 17) r (nI us)) = some (zone (decide (tkKind U len (tkNx U len q) = 91)), sI t2 (y + 17) r (nI us)) := tm_sign (c := 91) (MG_I (by omega) (by omega) g2').1 (by decide) (by decide)
    have hr2 : t2.2.2 1132 12 = some y := by rw [o2.2.2.1]; exact ER_y hS h2.1.1
    have em : f198 n (nI r) t = zlet (sI (sI t2 (y + 31) us 1) (y + 17) r (nI us)) fun u10 => zlet (sI u10 (y + 15) r (2 : Int32)) fun u11 => yb0 (f182 n u11) fun u12 => yb1 (f167 n u12) fun v14 u13 => if v14 = (0 : Int32) then f198_99 n (nI r) y u13 else yb0 (f164 n u13) fun u15 => yb1 (f190 n u15) fun v17 u16 => zlet (sI u16 (y + 22) (4 * r + 0) v17) fun u18 => yb0 (f179 n (93 : Int32) u18) fun u19 => zlet (sI u19 1132 14 ((u19.1 1132 14) - (1 : Int32))) fun u20 => f198_99 n (nI r) y u20 := by
      unfold f198
      rw [ER_y hS hE, grd (gck12 hy)]
      simp only [if_pos hz, hnx, if_pos e80, n80]
      show yb1 (f189 n 10 (sI t (y + 15) r 1)) _ = _
      rw [show f189 n 10 (sI t (y + 15) r 1) = _ from e2, yb1_s]
      show yb1 (f167 n (sI t2 (y + 17) r (nI us))) _ = _
      rw [m_goes (show (sI t2 (y + 17) r (nI us)).1 1132 9 = 0 by rw [hIo (by omega)]; exact g2'.2), yb1_s, if_neg n10, g91, yb1_s, zone_1 hbr, if_neg n10, if_pos (zin_nI (show us < 1400 by omega) (by decide)), nx_nI (show us < 2 ^ 31 by omega)]
      show zlet (sI (sI t2 (y + 17) r (nI us)) (y + 31) us 1) _ = _
      rw [sI_comm (show y + 17 ≠ y + 31 by omega)]
    rw [em] at H ⊢
    have hL : K = 1 → Lt np y (sI t2 (y + 31) us 1) tz := by
      refine Hb_bk (t := sI t2 (y + 31) us 1) H ?_ hr2
      repeat' (first | (with_reducible exact lb99 hn hy _) | (with_reducible exact b195 hy) | (with_reducible exact b164 hy) | (with_reducible exact b196 hy) | (with_reducible exact b182 hy) | (with_reducible exact b179 hy) | (with_reducible exact b172 hy) | (with_reducible exact b173 hy (by decide)) | (with_reducible exact b189 hn hy) | (with_reducible exact b190 hn hy _) | (with_reducible exact b178 hy) | (with_reducible exact bk_none) | (with_reducible exact bk_some LR_rf) | (with_reducible refine bk_ite (fun _ => ?_) (fun _ => ?_)) | (with_reducible refine bk_rdL ?_) | (with_reducible refine bk_zS LR_tr (LR_I ?_ ?_ ?_ ?_) ?_) | (with_reducible refine bk_zS LR_tr (LR_J ?_ ?_) ?_) | (with_reducible refine bk_zV ?_) | (with_reducible refine bk_y0 LR_tr ?_ (fun _ => ?_)) | (with_reducible refine bk_y1 LR_tr ?_ (fun _ _ => ?_)) | (with_reducible exact bk_pu pu_167 _) | (with_reducible exact bk_pu pu_177 _) | (with_reducible refine bk_pu (pu_170 hn ?_) _) | (with_reducible exact bk_pu (pu_175 hn) _) | (omega) | (decide))
    have o3 : frM y (sI t (y + 15) r 1) (sI t2 (y + 31) us 1) := frM_tr o2 (frM_I hy (by omega))
    refine Rs_zc ?_
    rw [show (sI s (x + 19 + 1) r 91).2.2 1004 5 = some (x + 19) from ER_5 hS h2.1.1, grd (gck9 hx).2.1]
    rcases use_raw (a := 1) (w := 1) (c0 := 1) hQ1 h2.1.1 hk (by omega) (Or.inl ⟨rfl, rfl⟩) (by omega) (MG_I (by omega) (by omega) g2') o3 (by rw [hIo (by omega)]; exact v1) (by rw [hIo (by omega)]; exact v2) (by rw [hIo (by omega)]; exact v3) (by rw [hIo (by omega)]; exact v4) (fun u hu => by rw [hIo (by omega)]; exact v5 u hu) (by rw [hIo (by omega)]; exact v6) w1 (by rw [hIo (by omega)]; exact w2) hIe (by rw [hIo (by omega)]; exact w4) hL with ⟨v, s2, e1, hE2, -, hR⟩ | ⟨s2, z, e1, hz', hF⟩
    · have h3 := ST_C hS h2 (SC_E hE2.1) hE2.2 (EC_28 hE2.1) (by omega) (by omega) (by omega)
      have h4 := ST_wM (j := 0) (v := 2) hS (by omega) (by omega) (by omega) (ST_wM (j := 2) (v := nI us) hS (by omega) (by omega) (by omega) (ST_wC (j := 1) (v := v) hS (by omega) h3))
      rw [show f57 n 1 (sI s (x + 19 + 1) r 91) = some (v, s2) from e1, yb1_s]
      refine Rs_zc (Rs_zm (Rs_zm ?_))
      replace H := Hb_z (Hb_z H)
      have hk2 : ¬ tkKind U len (tkNx U len q) = 0 := by rw [hbr]; decide
      have hgt2 := tkNx_gt (U := U) (tk_lt hE2.2 (by rw [hbr]; decide))
      refine er_open2 (c := 91) hn hS h4.1.1 hbr hk2 H (fun u => ?_) (fun f z u hF => ?_) (fun f z u hM => fm_99 hn hS hr hM) (fun hlt s3 t3 hA H3 => ?_)
      · repeat' (first | (with_reducible exact lb99 hn hy _) | (with_reducible exact b195 hy) | (with_reducible exact b164 hy) | (with_reducible exact b196 hy) | (with_reducible exact b182 hy) | (with_reducible exact b179 hy) | (with_reducible exact b172 hy) | (with_reducible exact b173 hy (by decide)) | (with_reducible exact b189 hn hy) | (with_reducible exact b190 hn hy _) | (with_reducible exact b178 hy) | (with_reducible exact bk_none) | (with_reducible exact bk_some LR_rf) | (with_reducible refine bk_ite (fun _ => ?_) (fun _ => ?_)) | (with_reducible refine bk_rdL ?_) | (with_reducible refine bk_zS LR_tr (LR_I ?_ ?_ ?_ ?_) ?_) | (with_reducible refine bk_zS LR_tr (LR_J ?_ ?_) ?_) | (with_reducible refine bk_zV ?_) | (with_reducible refine bk_y0 LR_tr ?_ (fun _ => ?_)) | (with_reducible refine bk_y1 LR_tr ?_ (fun _ _ => ?_)) | (with_reducible exact bk_pu pu_167 _) | (with_reducible exact bk_pu pu_177 _) | (with_reducible refine bk_pu (pu_170 hn ?_) _) | (with_reducible exact bk_pu (pu_175 hn) _) | (omega) | (decide))
      · repeat' (first | (with_reducible refine fcs_49 hn hS (by assumption) (fun _ _ => ?_)) | (with_reducible exact fc_cl hn hS hz (by assumption)) | (with_reducible assumption) | (with_reducible refine fw_some ?_) | (with_reducible exact ⟨rfl, by assumption⟩) | (with_reducible refine fcs_r5 hS (by assumption) ?_) | (with_reducible refine fcs_r6 hS (by assumption) ?_) | (with_reducible refine fcs_r4 hS (by assumption) ?_) | (with_reducible refine fcs_32 (by assumption) ?_) | (with_reducible refine fcs_26 (by assumption) ?_) | (with_reducible refine fcs_37 (by assumption) ?_ ?_) | (with_reducible refine fcs_39 (by assumption) ?_ ?_) | (with_reducible refine fcs_41 (by assumption) ?_ ?_) | (with_reducible refine fcs_57 (by assumption) ?_) | (with_reducible refine fcs_58 hS (by assumption) ?_) | (with_reducible refine fcs_53 hS (by assumption) (fun _ _ => ?_)) | (with_reducible refine fcs_54 hx (by assumption) (fun _ _ => ?_)) | (with_reducible refine fcs_I (by assumption) hx ?_ ?_ ?_ (fun _ => ?_)) | (with_reducible refine fw_z ?_) | (with_reducible refine fw_i1 rfl ?_) | (with_reducible refine fw_i1 (by assumption) ?_) | (with_reducible refine fw_i0 (by assumption) ?_) | (with_reducible refine fw_i0 (fc_k (by assumption) ?_) ?_) | (with_reducible refine fcs_k (by assumption) ?_) | (refine fw_i0 (by decide) ?_) | (refine fw_i1 (by decide) ?_) | (omega) | (decide))
      have h5 := ST_C hS h4 (SC_E hA.1) hA.2 (EC_28 hA.1) (by omega) (by omega) (by omega)
      refine st_e (mE := 0) hQ1 (by omega) h5 H3 (fun u => ?_) (fun f z u hF => ?_) (fun f z u hM => ?_) (fun q4 nd4 cd4 us4 s4 t4 hq4 _ h6 hu4 har H4 => ?_)
      · repeat' (first | (with_reducible exact lb99 hn hy _) | (with_reducible exact b195 hy) | (with_reducible exact b164 hy) | (with_reducible exact b196 hy) | (with_reducible exact b182 hy) | (with_reducible exact b179 hy) | (with_reducible exact b172 hy) | (with_reducible exact b173 hy (by decide)) | (with_reducible exact b189 hn hy) | (with_reducible exact b190 hn hy _) | (with_reducible exact b178 hy) | (with_reducible exact bk_none) | (with_reducible exact bk_some LR_rf) | (with_reducible refine bk_ite (fun _ => ?_) (fun _ => ?_)) | (with_reducible refine bk_rdL ?_) | (with_reducible refine bk_zS LR_tr (LR_I ?_ ?_ ?_ ?_) ?_) | (with_reducible refine bk_zS LR_tr (LR_J ?_ ?_) ?_) | (with_reducible refine bk_zV ?_) | (with_reducible refine bk_y0 LR_tr ?_ (fun _ => ?_)) | (with_reducible refine bk_y1 LR_tr ?_ (fun _ _ => ?_)) | (with_reducible exact bk_pu pu_167 _) | (with_reducible exact bk_pu pu_177 _) | (with_reducible refine bk_pu (pu_170 hn ?_) _) | (with_reducible exact bk_pu (pu_175 hn) _) | (omega) | (decide))
      · repeat' (first | (with_reducible refine fcs_49 hn hS (by assumption) (fun _ _ => ?_)) | (with_reducible exact fc_cl hn hS hz (by assumption)) | (with_reducible assumption) | (with_reducible refine fw_some ?_) | (with_reducible exact ⟨rfl, by assumption⟩) | (with_reducible refine fcs_r5 hS (by assumption) ?_) | (with_reducible refine fcs_r6 hS (by assumption) ?_) | (with_reducible refine fcs_r4 hS (by assumption) ?_) | (with_reducible refine fcs_32 (by assumption) ?_) | (with_reducible refine fcs_26 (by assumption) ?_) | (with_reducible refine fcs_37 (by assumption) ?_ ?_) | (with_reducible refine fcs_39 (by assumption) ?_ ?_) | (with_reducible refine fcs_41 (by assumption) ?_ ?_) | (with_reducible refine fcs_57 (by assumption) ?_) | (with_reducible refine fcs_58 hS (by assumption) ?_) | (with_reducible refine fcs_53 hS (by assumption) (fun _ _ => ?_)) | (with_reducible refine fcs_54 hx (by assumption) (fun _ _ => ?_)) | (with_reducible refine fcs_I (by assumption) hx ?_ ?_ ?_ (fun _ => ?_)) | (with_reducible refine fw_z ?_) | (with_reducible refine fw_i1 rfl ?_) | (with_reducible refine fw_i1 (by assumption) ?_) | (with_reducible refine fw_i0 (by assumption) ?_) | (with_reducible refine fw_i0 (fc_k (by assumption) ?_) ?_) | (with_reducible refine fcs_k (by assumption) ?_) | (refine fw_i0 (by decide) ?_) | (refine fw_i1 (by decide) ?_) | (omega) | (decide))
      · repeat' (first | (with_reducible exact fm_99 hn hS hr (by assumption)) | (with_reducible assumption) | (with_reducible refine fw_some ?_) | (with_reducible exact ⟨rfl, by assumption⟩) | (with_reducible refine fms_rd hS (by assumption) ?_) | (with_reducible refine fms_167 (by assumption) ?_) | (with_reducible refine fms_173 (by assumption) ?_) | (with_reducible refine fms_172 (by assumption) ?_) | (with_reducible refine fms_179 (by assumption) ?_) | (with_reducible refine fms_164 hn hS (by assumption) (fun _ _ => ?_)) | (with_reducible refine fms_196 (by assumption) ?_) | (with_reducible refine fms_195 hS (by assumption) ?_) | (with_reducible refine fms_182 hS (by assumption) (fun _ _ => ?_)) | (with_reducible refine fms_189 (by assumption) ?_) | (with_reducible refine fms_190 (by assumption) ?_) | (with_reducible refine fms_178 (by assumption) ?_) | (with_reducible refine fms_I (by assumption) hy ?_ (fun _ => ?_)) | (with_reducible refine fw_z ?_) | (with_reducible refine fw_i1 rfl ?_) | (with_reducible refine fw_i1 (by assumption) ?_) | (with_reducible refine fw_i0 (by assumption) ?_) | (refine fw_i0 (by decide) ?_) | (refine fw_i1 (by decide) ?_) | (omega) | (decide))
      refine st00 H4 (ER_y hS h6.1.1) (b179 hy) (fun u => ?_) (er_want (c := 93) hn hS (by decide) (by decide) h6.1.1) (fun f z a hF => ?_) (fun f z b hM => ?_) (fun s5 t5 hA5 H5 => ?_)
      · repeat' (first | (with_reducible exact lb99 hn hy _) | (with_reducible exact b195 hy) | (with_reducible exact b164 hy) | (with_reducible exact b196 hy) | (with_reducible exact b182 hy) | (with_reducible exact b179 hy) | (with_reducible exact b172 hy) | (with_reducible exact b173 hy (by decide)) | (with_reducible exact b189 hn hy) | (with_reducible exact b190 hn hy _) | (with_reducible exact b178 hy) | (with_reducible exact bk_none) | (with_reducible exact bk_some LR_rf) | (with_reducible refine bk_ite (fun _ => ?_) (fun _ => ?_)) | (with_reducible refine bk_rdL ?_) | (with_reducible refine bk_zS LR_tr (LR_I ?_ ?_ ?_ ?_) ?_) | (with_reducible refine bk_zS LR_tr (LR_J ?_ ?_) ?_) | (with_reducible refine bk_zV ?_) | (with_reducible refine bk_y0 LR_tr ?_ (fun _ => ?_)) | (with_reducible refine bk_y1 LR_tr ?_ (fun _ _ => ?_)) | (with_reducible exact bk_pu pu_167 _) | (with_reducible exact bk_pu pu_177 _) | (with_reducible refine bk_pu (pu_170 hn ?_) _) | (with_reducible exact bk_pu (pu_175 hn) _) | (omega) | (decide))
      · repeat' (first | (with_reducible refine fcs_49 hn hS (by assumption) (fun _ _ => ?_)) | (with_reducible exact fc_cl hn hS hz (by assumption)) | (with_reducible assumption) | (with_reducible refine fw_some ?_) | (with_reducible exact ⟨rfl, by assumption⟩) | (with_reducible refine fcs_r5 hS (by assumption) ?_) | (with_reducible refine fcs_r6 hS (by assumption) ?_) | (with_reducible refine fcs_r4 hS (by assumption) ?_) | (with_reducible refine fcs_32 (by assumption) ?_) | (with_reducible refine fcs_26 (by assumption) ?_) | (with_reducible refine fcs_37 (by assumption) ?_ ?_) | (with_reducible refine fcs_39 (by assumption) ?_ ?_) | (with_reducible refine fcs_41 (by assumption) ?_ ?_) | (with_reducible refine fcs_57 (by assumption) ?_) | (with_reducible refine fcs_58 hS (by assumption) ?_) | (with_reducible refine fcs_53 hS (by assumption) (fun _ _ => ?_)) | (with_reducible refine fcs_54 hx (by assumption) (fun _ _ => ?_)) | (with_reducible refine fcs_I (by assumption) hx ?_ ?_ ?_ (fun _ => ?_)) | (with_reducible refine fw_z ?_) | (with_reducible refine fw_i1 rfl ?_) | (with_reducible refine fw_i1 (by assumption) ?_) | (with_reducible refine fw_i0 (by assumption) ?_) | (with_reducible refine fw_i0 (fc_k (by assumption) ?_) ?_) | (with_reducible refine fcs_k (by assumption) ?_) | (refine fw_i0 (by decide) ?_) | (refine fw_i1 (by decide) ?_) | (omega) | (decide))
      · repeat' (first | (with_reducible exact fm_99 hn hS hr (by assumption)) | (with_reducible assumption) | (with_reducible refine fw_some ?_) | (with_reducible exact ⟨rfl, by assumption⟩) | (with_reducible refine fms_rd hS (by assumption) ?_) | (with_reducible refine fms_167 (by assumption) ?_) | (with_reducible refine fms_173 (by assumption) ?_) | (with_reducible refine fms_172 (by assumption) ?_) | (with_reducible refine fms_179 (by assumption) ?_) | (with_reducible refine fms_164 hn hS (by assumption) (fun _ _ => ?_)) | (with_reducible refine fms_196 (by assumption) ?_) | (with_reducible refine fms_195 hS (by assumption) ?_) | (with_reducible refine fms_182 hS (by assumption) (fun _ _ => ?_)) | (with_reducible refine fms_189 (by assumption) ?_) | (with_reducible refine fms_190 (by assumption) ?_) | (with_reducible refine fms_178 (by assumption) ?_) | (with_reducible refine fms_I (by assumption) hy ?_ (fun _ => ?_)) | (with_reducible refine fw_z ?_) | (with_reducible refine fw_i1 rfl ?_) | (with_reducible refine fw_i1 (by assumption) ?_) | (with_reducible refine fw_i0 (by assumption) ?_) | (refine fw_i0 (by decide) ?_) | (refine fw_i1 (by decide) ?_) | (omega) | (decide))
      obtain ⟨hC6, hE6⟩ := er_close hS hA5.2.2
      have hC7 := EC_tr hA5.2.1 hC6 (by omega) (by omega)
      have hg5 := tkNx_gt (U := U) hA5.1.1
      have h7 := ST_C hS h6 (SC_E hC7) hE6 (EC_28 hC7) (by omega) (by omega) (by omega)
      refine Rs_zc (Rs_zm ?_)
      replace H5 := Hb_z H5
      unfold f198_99 at H5 ⊢
      simp only [if_pos e81, n81] at H5 ⊢
      refine st00 H5 (ER_y hS h7.1.1) (b179 hy) (fun u => ?_) (st_want (k := 61) hn hS (by decide) (by decide) h7) (fun f z a hF => ?_) (fun f z b hM => ?_) (fun s8 t8 hA8 H8 => ?_)
      · repeat' (first | (with_reducible exact b195 hy) | (with_reducible exact b164 hy) | (with_reducible exact b196 hy) | (with_reducible exact b182 hy) | (with_reducible exact b179 hy) | (with_reducible exact b172 hy) | (with_reducible exact b173 hy (by decide)) | (with_reducible exact b189 hn hy) | (with_reducible exact b190 hn hy _) | (with_reducible exact b178 hy) | (with_reducible exact bk_none) | (with_reducible exact bk_some LR_rf) | (with_reducible refine bk_ite (fun _ => ?_) (fun _ => ?_)) | (with_reducible refine bk_rdL ?_) | (with_reducible refine bk_zS LR_tr (LR_I ?_ ?_ ?_ ?_) ?_) | (with_reducible refine bk_zS LR_tr (LR_J ?_ ?_) ?_) | (with_reducible refine bk_zV ?_) | (with_reducible refine bk_y0 LR_tr ?_ (fun _ => ?_)) | (with_reducible refine bk_y1 LR_tr ?_ (fun _ _ => ?_)) | (with_reducible exact bk_pu pu_167 _) | (with_reducible exact bk_pu pu_177 _) | (with_reducible refine bk_pu (pu_170 hn ?_) _) | (with_reducible exact bk_pu (pu_175 hn) _) | (omega) | (decide))
      · repeat' (first | (with_reducible refine fcs_49 hn hS (by assumption) (fun _ _ => ?_)) | (with_reducible exact fc_cl hn hS hz (by assumption)) | (with_reducible assumption) | (with_reducible refine fw_some ?_) | (with_reducible exact ⟨rfl, by assumption⟩) | (with_reducible refine fcs_r5 hS (by assumption) ?_) | (with_reducible refine fcs_r6 hS (by assumption) ?_) | (with_reducible refine fcs_r4 hS (by assumption) ?_) | (with_reducible refine fcs_32 (by assumption) ?_) | (with_reducible refine fcs_26 (by assumption) ?_) | (with_reducible refine fcs_37 (by assumption) ?_ ?_) | (with_reducible refine fcs_39 (by assumption) ?_ ?_) | (with_reducible refine fcs_41 (by assumption) ?_ ?_) | (with_reducible refine fcs_57 (by assumption) ?_) | (with_reducible refine fcs_58 hS (by assumption) ?_) | (with_reducible refine fcs_53 hS (by assumption) (fun _ _ => ?_)) | (with_reducible refine fcs_54 hx (by assumption) (fun _ _ => ?_)) | (with_reducible refine fcs_I (by assumption) hx ?_ ?_ ?_ (fun _ => ?_)) | (with_reducible refine fw_z ?_) | (with_reducible refine fw_i1 rfl ?_) | (with_reducible refine fw_i1 (by assumption) ?_) | (with_reducible refine fw_i0 (by assumption) ?_) | (with_reducible refine fw_i0 (fc_k (by assumption) ?_) ?_) | (with_reducible refine fcs_k (by assumption) ?_) | (refine fw_i0 (by decide) ?_) | (refine fw_i1 (by decide) ?_) | (omega) | (decide))
      · repeat' (first | (with_reducible assumption) | (with_reducible refine fw_some ?_) | (with_reducible exact ⟨rfl, by assumption⟩) | (with_reducible refine fms_rd hS (by assumption) ?_) | (with_reducible refine fms_167 (by assumption) ?_) | (with_reducible refine fms_173 (by assumption) ?_) | (with_reducible refine fms_172 (by assumption) ?_) | (with_reducible refine fms_179 (by assumption) ?_) | (with_reducible refine fms_164 hn hS (by assumption) (fun _ _ => ?_)) | (with_reducible refine fms_196 (by assumption) ?_) | (with_reducible refine fms_195 hS (by assumption) ?_) | (with_reducible refine fms_182 hS (by assumption) (fun _ _ => ?_)) | (with_reducible refine fms_189 (by assumption) ?_) | (with_reducible refine fms_190 (by assumption) ?_) | (with_reducible refine fms_178 (by assumption) ?_) | (with_reducible refine fms_I (by assumption) hy ?_ (fun _ => ?_)) | (with_reducible refine fw_z ?_) | (with_reducible refine fw_i1 rfl ?_) | (with_reducible refine fw_i1 (by assumption) ?_) | (with_reducible refine fw_i0 (by assumption) ?_) | (refine fw_i0 (by decide) ?_) | (refine fw_i1 (by decide) ?_) | (omega) | (decide))
      obtain ⟨⟨hql8, -⟩, h8, hSC8⟩ := hA8
      have hg8 := tkNx_gt (U := U) hql8
      refine st_e (mE := 1) hQ1 (by omega) h8 H8 (fun u => ?_) (fun f z u hF => fc_cl hn hS hz hF) (fun f z u hM => fw_some hM) (fun q9 nd9 cd9 us9 s9 t9 hq9 _ h9 hu9 har9 H9 => ?_)
      · repeat' (first | (with_reducible exact b195 hy) | (with_reducible exact b164 hy) | (with_reducible exact b196 hy) | (with_reducible exact b182 hy) | (with_reducible exact b179 hy) | (with_reducible exact b172 hy) | (with_reducible exact b173 hy (by decide)) | (with_reducible exact b189 hn hy) | (with_reducible exact b190 hn hy _) | (with_reducible exact b178 hy) | (with_reducible exact bk_none) | (with_reducible exact bk_some LR_rf) | (with_reducible refine bk_ite (fun _ => ?_) (fun _ => ?_)) | (with_reducible refine bk_rdL ?_) | (with_reducible refine bk_zS LR_tr (LR_I ?_ ?_ ?_ ?_) ?_) | (with_reducible refine bk_zS LR_tr (LR_J ?_ ?_) ?_) | (with_reducible refine bk_zV ?_) | (with_reducible refine bk_y0 LR_tr ?_ (fun _ => ?_)) | (with_reducible refine bk_y1 LR_tr ?_ (fun _ _ => ?_)) | (with_reducible exact bk_pu pu_167 _) | (with_reducible exact bk_pu pu_177 _) | (with_reducible refine bk_pu (pu_170 hn ?_) _) | (with_reducible exact bk_pu (pu_175 hn) _) | (omega) | (decide))
      rw [cl_n hS h9 (show ¬ (91 : Int32) = 149 by decide)]
      refine Rs_A rfl rfl (BO_c (kk := 2) hc0 h9 ⟨by omega, by omega, by omega, by omega, by omega, by omega⟩ ⟨rfl, rfl, rfl, rfl, rfl, rfl⟩ (fun hK _ => Or.inr (Or.inl ⟨rfl, (hR hK).1.1 1 (by omega) rfl, rfl⟩)))
    · rw [show f57 n 1 (sI s (x + 19 + 1) r 91) = some (-1, s2) from e1, yb1_s]
      refine Rs_C hz' ?_
      repeat' (first | (with_reducible refine fcs_49 hn hS (by assumption) (fun _ _ => ?_)) | (with_reducible exact fc_cl hn hS hz (by assumption)) | (with_reducible assumption) | (with_reducible refine fw_some ?_) | (with_reducible exact ⟨rfl, by assumption⟩) | (with_reducible refine fcs_r5 hS (by assumption) ?_) | (with_reducible refine fcs_r6 hS (by assumption) ?_) | (with_reducible refine fcs_r4 hS (by assumption) ?_) | (with_reducible refine fcs_32 (by assumption) ?_) | (with_reducible refine fcs_26 (by assumption) ?_) | (with_reducible refine fcs_37 (by assumption) ?_ ?_) | (with_reducible refine fcs_39 (by assumption) ?_ ?_) | (with_reducible refine fcs_41 (by assumption) ?_ ?_) | (with_reducible refine fcs_57 (by assumption) ?_) | (with_reducible refine fcs_58 hS (by assumption) ?_) | (with_reducible refine fcs_53 hS (by assumption) (fun _ _ => ?_)) | (with_reducible refine fcs_54 hx (by assumption) (fun _ _ => ?_)) | (with_reducible refine fcs_I (by assumption) hx ?_ ?_ ?_ (fun _ => ?_)) | (with_reducible refine fw_z ?_) | (with_reducible refine fw_i1 rfl ?_) | (with_reducible refine fw_i1 (by assumption) ?_) | (with_reducible refine fw_i0 (by assumption) ?_) | (with_reducible refine fw_i0 (fc_k (by assumption) ?_) ?_) | (with_reducible refine fcs_k (by assumption) ?_) | (refine fw_i0 (by decide) ?_) | (refine fw_i1 (by decide) ?_) | (omega) | (decide))
  · rw [if_neg (fun e => hbr (hv.mp e)), ER_5 hS hE, grd (gck9 hx).2.1]
    simp only [if_pos hz, hnx, as_00, as_01, as_0z, as_0r, as_0i, as_0s]
    obtain ⟨t2, e2, g2', o2, v1, v2, v3, v4, v5, v6, w1, w2, w3, w4⟩ := use_189 (w := 10) hn hS h1.1.1 hk (by omega)
    have g91 : f177 n 91 (sI t2 (y + 17) r (nI us)) = some (zone (decide (tkKind U len (tkNx U len q) = 91)), sI t2 (y + 17) r (nI us)) := tm_sign (c := 91) (MG_I (by omega) (by omega) g2').1 (by decide) (by decide)
    have hr2 : t2.2.2 1132 12 = some y := by rw [o2.2.2.1]; exact ER_y hS h1.1.1
    have em : f198 n (nI r) t = zlet (sI t2 (y + 17) r (nI us)) fun u10 => f198_120 n (nI r) y u10 := by
      unfold f198
      rw [ER_y hS hE, grd (gck12 hy)]
      simp only [if_pos hz, hnx]
      show yb1 (f189 n 10 (sI t (y + 15) r 1)) _ = _
      rw [show f189 n 10 (sI t (y + 15) r 1) = _ from e2, yb1_s]
      show yb1 (f167 n (sI t2 (y + 17) r (nI us))) _ = _
      rw [m_goes (show (sI t2 (y + 17) r (nI us)).1 1132 9 = 0 by rw [hIo (by omega)]; exact g2'.2), yb1_s, if_neg n10, g91, yb1_s, zone_0 hbr, if_pos rfl]
      rfl
    rw [em] at H ⊢
    have hL : K = 1 → Lt np y t2 tz := by
      refine Hb_bk (t := t2) H ?_ hr2
      repeat' (first | (with_reducible exact lb120 hn hy _) | (with_reducible exact b195 hy) | (with_reducible exact b164 hy) | (with_reducible exact b196 hy) | (with_reducible exact b182 hy) | (with_reducible exact b179 hy) | (with_reducible exact b172 hy) | (with_reducible exact b173 hy (by decide)) | (with_reducible exact b189 hn hy) | (with_reducible exact b190 hn hy _) | (with_reducible exact b178 hy) | (with_reducible exact bk_none) | (with_reducible exact bk_some LR_rf) | (with_reducible refine bk_ite (fun _ => ?_) (fun _ => ?_)) | (with_reducible refine bk_rdL ?_) | (with_reducible refine bk_zS LR_tr (LR_I ?_ ?_ ?_ ?_) ?_) | (with_reducible refine bk_zS LR_tr (LR_J ?_ ?_) ?_) | (with_reducible refine bk_zV ?_) | (with_reducible refine bk_y0 LR_tr ?_ (fun _ => ?_)) | (with_reducible refine bk_y1 LR_tr ?_ (fun _ _ => ?_)) | (with_reducible exact bk_pu pu_167 _) | (with_reducible exact bk_pu pu_177 _) | (with_reducible refine bk_pu (pu_170 hn ?_) _) | (with_reducible exact bk_pu (pu_175 hn) _) | (omega) | (decide))
    rcases use_raw (a := 9) (w := 10) (c0 := 0) hQ1 h1.1.1 hk (by omega) (Or.inr ⟨rfl, rfl, rfl⟩) (by omega) g2' o2 v1 v2 v3 v4 v5 v6 w1 w2 w3 w4 hL with ⟨v, s2, e1, hE2, -, hR⟩ | ⟨s2, z, e1, hz', hF⟩
    · have h3 := ST_C hS h1 (SC_E hE2.1) hE2.2 (EC_28 hE2.1) (by omega) (by omega) (by omega)
      have h4 := ST_wM (j := 2) (v := nI us) hS (by omega) (by omega) (by omega) (ST_wC (j := 1) (v := v) hS (by omega) h3)
      rw [e1, yb1_s]
      refine Rs_zc (Rs_zm ?_)
      replace H := Hb_z H
      unfold f198_120 f198_162 at H ⊢
      simp only [if_pos e80, n80, if_pos hz, hnx] at H ⊢
      refine st00 H (ER_y hS h4.1.1) (b179 hy) (fun u => ?_) (st_want (k := 61) hn hS (by decide) (by decide) h4) (fun f z a hF => ?_) (fun f z b hM => ?_) (fun s5 t5 hA5 H5 => ?_)
      · repeat' (first | (with_reducible exact b199 hn hy _) | (with_reducible exact b195 hy) | (with_reducible exact b164 hy) | (with_reducible exact b196 hy) | (with_reducible exact b182 hy) | (with_reducible exact b179 hy) | (with_reducible exact b172 hy) | (with_reducible exact b173 hy (by decide)) | (with_reducible exact b189 hn hy) | (with_reducible exact b190 hn hy _) | (with_reducible exact b178 hy) | (with_reducible exact bk_none) | (with_reducible exact bk_some LR_rf) | (with_reducible refine bk_ite (fun _ => ?_) (fun _ => ?_)) | (with_reducible refine bk_rdL ?_) | (with_reducible refine bk_zS LR_tr (LR_I ?_ ?_ ?_ ?_) ?_) | (with_reducible refine bk_zS LR_tr (LR_J ?_ ?_) ?_) | (with_reducible refine bk_zV ?_) | (with_reducible refine bk_y0 LR_tr ?_ (fun _ => ?_)) | (with_reducible refine bk_y1 LR_tr ?_ (fun _ _ => ?_)) | (with_reducible exact bk_pu pu_167 _) | (with_reducible exact bk_pu pu_177 _) | (with_reducible refine bk_pu (pu_170 hn ?_) _) | (with_reducible exact bk_pu (pu_175 hn) _) | (omega) | (decide))
      · repeat' (first | (with_reducible refine fcs_49 hn hS (by assumption) (fun _ _ => ?_)) | (with_reducible exact fc_cl hn hS hz (by assumption)) | (with_reducible assumption) | (with_reducible refine fw_some ?_) | (with_reducible exact ⟨rfl, by assumption⟩) | (with_reducible refine fcs_r5 hS (by assumption) ?_) | (with_reducible refine fcs_r6 hS (by assumption) ?_) | (with_reducible refine fcs_r4 hS (by assumption) ?_) | (with_reducible refine fcs_32 (by assumption) ?_) | (with_reducible refine fcs_26 (by assumption) ?_) | (with_reducible refine fcs_37 (by assumption) ?_ ?_) | (with_reducible refine fcs_39 (by assumption) ?_ ?_) | (with_reducible refine fcs_41 (by assumption) ?_ ?_) | (with_reducible refine fcs_57 (by assumption) ?_) | (with_reducible refine fcs_58 hS (by assumption) ?_) | (with_reducible refine fcs_53 hS (by assumption) (fun _ _ => ?_)) | (with_reducible refine fcs_54 hx (by assumption) (fun _ _ => ?_)) | (with_reducible refine fcs_I (by assumption) hx ?_ ?_ ?_ (fun _ => ?_)) | (with_reducible refine fw_z ?_) | (with_reducible refine fw_i1 rfl ?_) | (with_reducible refine fw_i1 (by assumption) ?_) | (with_reducible refine fw_i0 (by assumption) ?_) | (with_reducible refine fw_i0 (fc_k (by assumption) ?_) ?_) | (with_reducible refine fcs_k (by assumption) ?_) | (refine fw_i0 (by decide) ?_) | (refine fw_i1 (by decide) ?_) | (omega) | (decide))
      · repeat' (first | (with_reducible assumption) | (with_reducible refine fw_some ?_) | (with_reducible exact ⟨rfl, by assumption⟩) | (with_reducible refine fms_rd hS (by assumption) ?_) | (with_reducible refine fms_167 (by assumption) ?_) | (with_reducible refine fms_173 (by assumption) ?_) | (with_reducible refine fms_172 (by assumption) ?_) | (with_reducible refine fms_179 (by assumption) ?_) | (with_reducible refine fms_164 hn hS (by assumption) (fun _ _ => ?_)) | (with_reducible refine fms_196 (by assumption) ?_) | (with_reducible refine fms_195 hS (by assumption) ?_) | (with_reducible refine fms_182 hS (by assumption) (fun _ _ => ?_)) | (with_reducible refine fms_189 (by assumption) ?_) | (with_reducible refine fms_190 (by assumption) ?_) | (with_reducible refine fms_178 (by assumption) ?_) | (with_reducible refine fms_I (by assumption) hy ?_ (fun _ => ?_)) | (with_reducible refine fw_z ?_) | (with_reducible refine fw_i1 rfl ?_) | (with_reducible refine fw_i1 (by assumption) ?_) | (with_reducible refine fw_i0 (by assumption) ?_) | (refine fw_i0 (by decide) ?_) | (refine fw_i1 (by decide) ?_) | (omega) | (decide))
      obtain ⟨⟨hql5, -⟩, h5, hSC5⟩ := hA5
      have hg5 := tkNx_gt (U := U) hql5
      have hE5 := h5.1.1
      have gdo : f170 n 19 t5 = some (zone (decide (tkKind U len (tkNx U len (tkNx U len q)) = 149)), t5) := tm_word (w := 21) hn hE5.2.1.2.1 (by decide) (by decide) (by decide +kernel)
      rw [m_goes hE5.2.1.2.2, yb1_s, if_neg n10, gdo, yb1_s] at H5 ⊢
      by_cases hdo : tkKind U len (tkNx U len (tkNx U len q)) = 149
      · rw [zone_1 hdo, if_neg n10] at H5 ⊢
        have ec : f39 n 149 s5 = yb0 (f26 n s5) fun u => some (1, u) := by
          unfold f39
          rw [ER_k hE5, if_pos hdo]
        rw [ec]
        simp only [as_10]
        refine Rs_zm ?_
        replace H5 := Hb_z H5
        have h6 := ST_wM (j := 0) (v := 3) hS (by omega) (by omega) (by omega) h5
        refine st_n hn hS h6 H5 (fun u => ?_) (fun s7 t7 h7 hSC7 hq7 H7 => ?_)
        · repeat' (first | (with_reducible exact b199 hn hy _) | (with_reducible exact b195 hy) | (with_reducible exact b164 hy) | (with_reducible exact b196 hy) | (with_reducible exact b182 hy) | (with_reducible exact b179 hy) | (with_reducible exact b172 hy) | (with_reducible exact b173 hy (by decide)) | (with_reducible exact b189 hn hy) | (with_reducible exact b190 hn hy _) | (with_reducible exact b178 hy) | (with_reducible exact bk_none) | (with_reducible exact bk_some LR_rf) | (with_reducible refine bk_ite (fun _ => ?_) (fun _ => ?_)) | (with_reducible refine bk_rdL ?_) | (with_reducible refine bk_zS LR_tr (LR_I ?_ ?_ ?_ ?_) ?_) | (with_reducible refine bk_zS LR_tr (LR_J ?_ ?_) ?_) | (with_reducible refine bk_zV ?_) | (with_reducible refine bk_y0 LR_tr ?_ (fun _ => ?_)) | (with_reducible refine bk_y1 LR_tr ?_ (fun _ _ => ?_)) | (with_reducible exact bk_pu pu_167 _) | (with_reducible exact bk_pu pu_177 _) | (with_reducible refine bk_pu (pu_170 hn ?_) _) | (with_reducible exact bk_pu (pu_175 hn) _) | (omega) | (decide))
        rw [if_neg n10, ER_5 hS h7.1.1, grd (gck9 hx).2.1]
        refine Rs_zc ?_
        have h8 := ST_wC (j := 0) (v := 149) hS (by omega) h7
        rw [show clF n r (sI s7 (x + 19 + 1) r 149) = _ from cl_y hS h8 rfl]
        rw [y0s] at H7 ⊢
        have hg7 := tkNx_gt (U := U) (tk_lt hE5 (by rw [hdo]; decide))
        refine Rs_w (pcall_ok (HQ_ub (ub2 := 4 * r + 1) hQ (by omega)) hr (by omega) h8 H7) (fun a b _ _ hab => ?_)
        obtain ⟨v3, ⟨q9, nd9, cd9, us9, es9, i9, E9, cs9, b1, b2, b3, b4⟩, b5⟩ := hab
        refine BO_c (kk := 3) hc0 b3 ⟨by omega, by omega, by omega, by omega, by omega, by omega⟩ ⟨rfl, rfl, rfl, rfl, rfl, rfl⟩ (fun hK hm => Or.inr (Or.inr (Or.inl ⟨rfl, Or.inr ((hR hK).1.2 rfl), b5 hK, ?_⟩)))
        obtain ⟨p, p1, p2, p3⟩ := b4 hK
        have e := (hG12 hK p p1).1.symm.trans (p3 hm)
        have : G 12 p = i9 := (nI_eq (by have := (hG12 hK p p1).2; omega) (by omega)).mp e
        exact ⟨p, p1, p2, by rw [this]; rfl, this.symm⟩
      · rw [zone_0 hdo, if_pos rfl] at H5 ⊢
        have ec : f39 n 149 s5 = some (0, s5) := by
          unfold f39
          rw [ER_k hE5, if_neg hdo]
        rw [ec, yb1_s, if_pos rfl]
        refine st_e (mE := 0) hQ1 (by omega) h5 H5 (fun u => ?_) (fun f z u hF => fc_cl hn hS hz hF) (fun f z u hM => fw_some hM) (fun q9 nd9 cd9 us9 s9 t9 hq9 _ h9 hu9 har9 H9 => ?_)
        · repeat' (first | (with_reducible exact b195 hy) | (with_reducible exact b164 hy) | (with_reducible exact b196 hy) | (with_reducible exact b182 hy) | (with_reducible exact b179 hy) | (with_reducible exact b172 hy) | (with_reducible exact b173 hy (by decide)) | (with_reducible exact b189 hn hy) | (with_reducible exact b190 hn hy _) | (with_reducible exact b178 hy) | (with_reducible exact bk_none) | (with_reducible exact bk_some LR_rf) | (with_reducible refine bk_ite (fun _ => ?_) (fun _ => ?_)) | (with_reducible refine bk_rdL ?_) | (with_reducible refine bk_zS LR_tr (LR_I ?_ ?_ ?_ ?_) ?_) | (with_reducible refine bk_zS LR_tr (LR_J ?_ ?_) ?_) | (with_reducible refine bk_zV ?_) | (with_reducible refine bk_y0 LR_tr ?_ (fun _ => ?_)) | (with_reducible refine bk_y1 LR_tr ?_ (fun _ _ => ?_)) | (with_reducible exact bk_pu pu_167 _) | (with_reducible exact bk_pu pu_177 _) | (with_reducible refine bk_pu (pu_170 hn ?_) _) | (with_reducible exact bk_pu (pu_175 hn) _) | (omega) | (decide))
        rw [cl_n hS h9 (show ¬ (1 : Int32) = 149 by decide)]
        refine Rs_A rfl rfl (BO_c (kk := 1) hc0 h9 ⟨by omega, by omega, by omega, by omega, by omega, by omega⟩ ⟨rfl, rfl, rfl, rfl, rfl, rfl⟩ (fun hK _ => Or.inl ⟨rfl, (hR hK).1.2 rfl, rfl⟩))
    · rw [e1, yb1_s]
      refine Rs_C hz' ?_
      repeat' (first | (with_reducible refine fcs_49 hn hS (by assumption) (fun _ _ => ?_)) | (with_reducible exact fc_cl hn hS hz (by assumption)) | (with_reducible assumption) | (with_reducible refine fw_some ?_) | (with_reducible exact ⟨rfl, by assumption⟩) | (with_reducible refine fcs_r5 hS (by assumption) ?_) | (with_reducible refine fcs_r6 hS (by assumption) ?_) | (with_reducible refine fcs_r4 hS (by assumption) ?_) | (with_reducible refine fcs_32 (by assumption) ?_) | (with_reducible refine fcs_26 (by assumption) ?_) | (with_reducible refine fcs_37 (by assumption) ?_ ?_) | (with_reducible refine fcs_39 (by assumption) ?_ ?_) | (with_reducible refine fcs_41 (by assumption) ?_ ?_) | (with_reducible refine fcs_57 (by assumption) ?_) | (with_reducible refine fcs_58 hS (by assumption) ?_) | (with_reducible refine fcs_53 hS (by assumption) (fun _ _ => ?_)) | (with_reducible refine fcs_54 hx (by assumption) (fun _ _ => ?_)) | (with_reducible refine fcs_I (by assumption) hx ?_ ?_ ?_ (fun _ => ?_)) | (with_reducible refine fw_z ?_) | (with_reducible refine fw_i1 rfl ?_) | (with_reducible refine fw_i1 (by assumption) ?_) | (with_reducible refine fw_i0 (by assumption) ?_) | (with_reducible refine fw_i0 (fc_k (by assumption) ?_) ?_) | (with_reducible refine fcs_k (by assumption) ?_) | (refine fw_i0 (by decide) ?_) | (refine fw_i1 (by decide) ?_) | (omega) | (decide))
end ZPZ
