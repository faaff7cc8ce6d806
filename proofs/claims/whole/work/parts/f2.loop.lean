/-! the loops of both readers: declaration after declaration -/
section ZRM
variable {U : Nat → Nat} {len x y n K np bl ub q dp nd cd us es na nb q2 p m N c : Nat} {s0 t0 tz s t s2 t2 s3 t3 t1 : zσ} {G G2 : Nat → Nat → Nat} {cnt cnt2 : Nat → Nat}
/-- the class's loop, without what goes on behind it -/
def cLp (n : Nat) : Nat → Int32 → zσ → Option zσ
  | 0, _, _ => none
  | j + 1, x3, s => if x3 < (4000 : Int32) then (if (s.1 1001 4) = (3 : Int32) then some s else if (s.1 1001 4) = (4 : Int32) then some s else yb0 (dC n s) fun u => cLp n j (x3 + 1) u) else some s
theorem e_cL {r : Int32 → zσ → Option (Int32 × zσ)} {x2 : Int32} : ∀ (j : Nat) (x3 : Int32) (s : zσ), f21_69 n r j x2 x3 s = yb0 (cLp n j x3 s) fun u => r (x2 + 1) u := by
  intro j
  induction j with
  | zero => intro x3 s; rfl
  | succ j ih =>
    intro x3 s
    rw [e_69, cLp]
    simp only [as_0i, as_00, as_0s, ih]
/-- the reference's -/
def mLp (n : Nat) : Nat → zσ → Option zσ
  | 0, _ => none
  | j + 1, s => yb1 (f167 n s) fun v2 u1 => if v2 = (0 : Int32) then some u1 else if (u1.1 1132 3) = (0 : Int32) then some u1 else yb0 (f168 n u1) fun u3 => mLp n j u3
theorem as_11 {α : Type} {q : Option (Int32 × zσ)} {k : Int32 → zσ → Option zσ} {f : zσ → Option α} : yb0 (yb1 q k) f = yb1 q (fun v u => yb0 (k v u) f) := as_01
theorem e_mL {x1 : Nat} : ∀ (j : Nat) (s : zσ), f163_85 n j x1 s = yb0 (mLp n j s) fun u => f163_106 n x1 u := by
  intro j
  induction j with
  | zero => intro s; rfl
  | succ j ih =>
    intro s
    rw [f163_85, mLp]
    simp only [as_01, as_0i, as_00, as_0s, ih]
theorem fc_L {f z j : Nat} {x3 : Int32} (hj : 0 < j) (h : FC len x s0 f z s) : fw (FC len x s0 f z) (cLp n j x3 s) := by
  obtain ⟨j, rfl⟩ : ∃ j0, j = j0 + 1 := ⟨j - 1, by omega⟩
  refine ⟨s, ?_, h⟩
  rw [cLp, if_neg (fc_k h (by decide)), if_pos (fc_4 h)]
  split <;> rfl
theorem fm_L {f z j : Nat} (hj : 0 < j) (h : FM len y t0 f z t) : fw (FM len y t0 f z) (mLp n j t) := by
  obtain ⟨j, rfl⟩ : ∃ j0, j = j0 + 1 := ⟨j - 1, by omega⟩
  rw [mLp]
  exact fms_167 h (fw_i1 rfl (fw_some h))
/-- a declaration, backwards -/
theorem b168c (hn : 5000 ≤ n) (hS : S0 U len x y s0 t0) (hK : ¬ K = 1) (hE : ER U len x y s0 t0 K np tz G bl ub q 0 nd cd us s t) (hD : DT x y K cnt N s t) (e : f168 n t = some t1) (h9 : t1.1 1132 9 = 0) {tz2 : zσ} (hL : Lt (pN U len q cnt) y t1 tz2) : Lt (cnt 7) y t tz2 := by
  have hx := hS.1
  have hy := hS.2.1
  have hyt := ER_y hS hE
  have hple : cnt 7 ≤ pN U len q cnt := by unfold pN; split <;> omega
  by_cases hd : ∃ c, c < 9 ∧ tkKind U len q = nI (128 + c)
  · obtain ⟨c, hc, ek⟩ := hd
    have hcm : ¬ nI c = (-1 : Int32) := fun e => (neqM (by omega)).mp e
    by_cases c7 : c = 7
    · subst c7
      have em : f168 n t = yb0 (f164 n t) fun u4 => yb1 (f174 n (nI 7) u4) fun v6 u5 => yb1 (f167 n u5) fun v8 u7 => if v8 = (0 : Int32) then some u7 else yb0 (f179 n (nI 40) u7) fun u17 => prM n y v6 u17 := by
        unfold f168
        rw [hyt, grd (gck12 hy), (m_169 hn hE).1 7 (by decide) ek, yb1_s, if_neg hcm]
        simp only [if_neg (show ¬ nI 7 = (0 : Int32) by decide), if_neg (show ¬ nI 7 = (2 : Int32) by decide), if_pos (show nI 7 = (7 : Int32) by decide)]
        rfl
      obtain ⟨s1, x1, c1, o1⟩ := c_adv hn hE.1.2
      obtain ⟨ta, y1, c2, o2⟩ := m_next hn hE.2.1.2
      have hE1 := (er_tok hS hE c1 o1 c2 (frT_N o2) (fun e => absurd e hK)).2
      have hD1 : DT x y K cnt N s1 ta := DT_v hS hD (vF_tok hx o1 o2)
      have hya : ta.2.2 1132 12 = some y := ER_y hS hE1
      rw [em, y1, yb0_s] at e
      rcases m_tell_c (c := 7) hn hS hE1 hD1 (by omega) with ⟨f, z, u, e3, g⟩ | ⟨u, e3, hlim⟩
      · have ne : ¬ u.1 1132 9 = 0 := by
          obtain ⟨a, -, b, c⟩ := g.2
          rw [a]; exact fun e => by have := (nIe (u := f) (k := 0) (by omega) (by decide)).mp e; omega
        rw [e3, yb1_s, m_goes0 ne, yb1_s, if_pos rfl] at e
        cases e
        exact absurd h9 ne
      · rw [e3, yb1_s] at e
        have hp6 : cnt 7 < 6 := hlim
        have hyu : u.2.2 1132 12 = some y := ((b174 (np := cnt 7) (tz := tz2) hn hy ta) _ e3 hya).1
        have hb2 : bk (fun u => u) (LR (cnt 7) y tz2) (yb1 (f167 n u) fun v8 u7 => if v8 = (0 : Int32) then some u7 else yb0 (f179 n (nI 40) u7) fun u17 => prM n y (nI (cnt 7)) u17) u := by
          repeat' (first | (with_reducible exact bM hn hy (Nat.le_refl _) hp6 _) | (with_reducible exact b195 hy) | (with_reducible exact b164 hy) | (with_reducible exact b196 hy) | (with_reducible exact b182 hy) | (with_reducible exact b179 hy) | (with_reducible exact b172 hy) | (with_reducible exact b173 hy (by decide)) | (with_reducible exact b189 hn hy) | (with_reducible exact b190 hn hy _) | (with_reducible exact b178 hy) | (with_reducible exact bk_none) | (with_reducible exact bk_some LR_rf) | (with_reducible refine bk_ite (fun _ => ?_) (fun _ => ?_)) | (with_reducible refine bk_rdL ?_) | (with_reducible refine bk_zS LR_tr (LR_I ?_ ?_ ?_ ?_) ?_) | (with_reducible refine bk_zS LR_tr (LR_J ?_ ?_) ?_) | (with_reducible refine bk_zV ?_) | (with_reducible refine bk_y0 LR_tr ?_ (fun _ => ?_)) | (with_reducible refine bk_y1 LR_tr ?_ (fun _ _ => ?_)) | (with_reducible exact bk_pu pu_167 _) | (with_reducible exact bk_pu pu_177 _) | (with_reducible refine bk_pu (pu_170 hn ?_) _) | (with_reducible exact bk_pu (pu_175 hn) _) | (omega) | (decide))
        have h1 := ((hb2 t1 e) hyu).2 (Lt_le hL hple)
        have h2 := ((b174 (np := cnt 7) (tz := tz2) hn hy ta) _ e3 hya).2 h1
        exact ((b164 (np := cnt 7) (tz := tz2) hy) _ y1 hyt).2 h2
    · have c7' : ¬ nI c = (7 : Int32) := fun e => c7 ((nIe (u := c) (k := 7) (by omega) (by decide)).mp e)
      have hb : bk (fun u => u) (LR (cnt 7) y tz2) (f168 n t) t := by
        unfold f168
        rw [hyt, grd (gck12 hy), (m_169 hn hE).1 c hc ek, yb1_s, if_neg hcm]
        simp only [if_neg c7']
        unfold f168_79 f168_107 f168_108 f168_235 f168_236 f168_250
        repeat' (first | (with_reducible exact b174 hn hy _) | (with_reducible exact b181 hn hy _ _) | (with_reducible exact b195 hy) | (with_reducible exact b164 hy) | (with_reducible exact b196 hy) | (with_reducible exact b182 hy) | (with_reducible exact b179 hy) | (with_reducible exact b172 hy) | (with_reducible exact b173 hy (by decide)) | (with_reducible exact b189 hn hy) | (with_reducible exact b190 hn hy _) | (with_reducible exact b178 hy) | (with_reducible exact bk_none) | (with_reducible exact bk_some LR_rf) | (with_reducible refine bk_ite (fun _ => ?_) (fun _ => ?_)) | (with_reducible refine bk_rdL ?_) | (with_reducible refine bk_zS LR_tr (LR_I ?_ ?_ ?_ ?_) ?_) | (with_reducible refine bk_zS LR_tr (LR_J ?_ ?_) ?_) | (with_reducible refine bk_zV ?_) | (with_reducible refine bk_y0 LR_tr ?_ (fun _ => ?_)) | (with_reducible refine bk_y1 LR_tr ?_ (fun _ _ => ?_)) | (with_reducible exact bk_pu pu_167 _) | (with_reducible exact bk_pu pu_177 _) | (with_reducible refine bk_pu (pu_170 hn ?_) _) | (with_reducible exact bk_pu (pu_175 hn) _) | (omega) | (decide))
      exact ((hb t1 e) hyt).2 (Lt_le hL hple)
  · have hno : ∀ c, c < 9 → ¬ tkKind U len q = nI (128 + c) := fun c hc e => hd ⟨c, hc, e⟩
    have hb : bk (fun u => u) (LR (cnt 7) y tz2) (f168 n t) t := by
      unfold f168
      rw [hyt, grd (gck12 hy), (m_169 hn hE).2 hno, yb1_s, if_pos rfl]
      repeat' (first | (with_reducible exact b195 hy) | (with_reducible exact b164 hy) | (with_reducible exact b196 hy) | (with_reducible exact b182 hy) | (with_reducible exact b179 hy) | (with_reducible exact b172 hy) | (with_reducible exact b173 hy (by decide)) | (with_reducible exact b189 hn hy) | (with_reducible exact b190 hn hy _) | (with_reducible exact b178 hy) | (with_reducible exact bk_none) | (with_reducible exact bk_some LR_rf) | (with_reducible refine bk_ite (fun _ => ?_) (fun _ => ?_)) | (with_reducible refine bk_rdL ?_) | (with_reducible refine bk_zS LR_tr (LR_I ?_ ?_ ?_ ?_) ?_) | (with_reducible refine bk_zS LR_tr (LR_J ?_ ?_) ?_) | (with_reducible refine bk_zV ?_) | (with_reducible refine bk_y0 LR_tr ?_ (fun _ => ?_)) | (with_reducible refine bk_y1 LR_tr ?_ (fun _ _ => ?_)) | (with_reducible exact bk_pu pu_167 _) | (with_reducible exact bk_pu pu_177 _) | (with_reducible refine bk_pu (pu_170 hn ?_) _) | (with_reducible exact bk_pu (pu_175 hn) _) | (omega) | (decide))
    exact ((hb t1 e) hyt).2 (Lt_le hL hple)
/-- the reference's way, with its end tz -/
def Tr (n y : Nat) (tz : zσ) (PC : Nat) : Nat → Nat → zσ → Prop
  | 0, _, _ => False
  | j + 1, pc, t => (t.1 1132 9 = 0 ∧ Lt pc y t tz ∧ pc ≤ PC) ∧ ((t.1 1132 3 = 0 ∧ t = tz ∧ pc = PC) ∨ (¬ t.1 1132 3 = 0 ∧ ∃ t1 pc1, f168 n t = some t1 ∧ (f170 n 10 t = some (1, t) → pc1 = pc + 1) ∧ (¬ f170 n 10 t = some (1, t) → pc1 = pc) ∧ Tr n y tz PC j pc1 t1))
end ZRM
