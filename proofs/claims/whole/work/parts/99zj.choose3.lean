/-! who of the ready ones comes first, as a whole -/
section ZCQ
variable {G W W2 : Nat → Nat → Nat} {F F2 : Nat → Nat → Nat → Nat} {B C C2 x y n i j o k v p D r N P : Nat} {s t s2 t2 s' t' : zσ}
theorem nI_ex (v : Int32) : ∃ m, v = nI m := by
  refine ⟨v.toBitVec.toNat, Int32.toBitVec_inj.mp ?_⟩
  show v.toBitVec = BitVec.ofNat 32 v.toBitVec.toNat
  rw [BitVec.ofNat_toNat]
  simp
def Gu (G : Nat → Nat → Nat) (a b : Nat → Nat) : Nat → Nat → Nat := fun i k => if i = 20 then a k else if i = 21 then b k else G i k
theorem TX_G {a b : Nat → Nat} (h : TX G x y s t) : TX (Gu G a b) x y s t := h
/-- the orders change -/
theorem RUN_G {a b : Nat → Nat} (h : RUN G F W B C x y s t) (c1 : s2.2 = s.2) (c2 : ∀ a, a ≠ 1034 → s2.1 a = s.1 a) (m1 : t2.2 = t.2) (m2 : ∀ a, a ≠ 1248 → t2.1 a = t.1 a) (ha : ∀ k, k < 3 → s2.1 1034 k = nI (a k)) (hb : ∀ k, k < 3 → t2.1 1248 k = nI (b k)) : RUN (Gu G a b) F W B C x y s2 t2 := by
  obtain ⟨⟨r1, r2, ⟨r3, rz⟩, r4, r5, r6, r7⟩, hX, ⟨d1, d2, d3, d4, d5, d6, d7, d8, d9, d10, d11⟩, hE, hT, hU⟩ := h
  have rz2 : rZ G x y s2 t2 := rZ_fr (fun _ _ => by rw [c1]) (fun a q1 q2 => c2 a (by omega)) (by rw [c1]) (by rw [m1]) (fun a q1 q2 => m2 a (by omega)) r2 rz
  refine ⟨⟨r1, r2, ⟨by rw [c1]; exact r3, rz2⟩, by rw [c1]; exact r4, by rw [c1]; exact r5, by rw [m1]; exact r6, by rw [c1]; exact r7⟩, TX_G (TX_fr (fun k => c2 _ (by omega)) (fun k => by rw [c1]) (fun k hk => m2 _ (by omega)) (by rw [m1]) hX), ⟨?_, ?_, ?_, ?_, ?_, ?_, ?_, ?_, ?_, ?_, ?_⟩, ?_, fun j hj hji => ?_, fun j k hj hk hji hki => ?_⟩
  · obtain ⟨a1, a2, a3, a4, a5, a6, a7, a8, a9⟩ := d1
    unfold rA
    simp (disch := omega) only [c2, m2]
    exact ⟨a1, a2, a3, a4, a5, a6, a7, a8, fun k hk => ⟨ha k hk, hb k hk⟩, a9.2⟩
  · unfold rB at d2 ⊢; simp (disch := omega) only [c2, m2]; exact d2
  · have d3' : rV G s2 t2 := by unfold rV at d3 ⊢; simp (disch := omega) only [c2, m2]; exact d3
    exact d3'
  · unfold rW at d4 ⊢; simp (disch := omega) only [c2, m2]; exact d4
  · have d5' : rS G s2 t2 := by unfold rS at d5 ⊢; simp (disch := omega) only [c2, m2]; exact d5
    exact d5'
  · unfold rL at d6 ⊢; simp (disch := omega) only [c2, m2]; exact d6
  · unfold rI at d7 ⊢; simp (disch := omega) only [c2, m2]; exact d7
  · unfold rO at d8 ⊢; simp (disch := omega) only [c2, m2]; exact d8
  · unfold rP at d9 ⊢; simp (disch := omega) only [c2, m2]; exact d9
  · have d10' : rH G s2 t2 := by unfold rH at d10 ⊢; simp (disch := omega) only [c2, m2]; exact d10
    exact d10'
  · unfold rC at d11 ⊢; simp (disch := omega) only [c2, m2]; exact d11
  · unfold rE at hE ⊢; simp (disch := omega) only [c2, m2]; exact hE
  · have w : rT G W F x s2 t2 j := rT_fr ⟨c2 _ (by omega), c2 _ (by omega), c2 _ (by omega)⟩ ⟨fun a q1 q2 => by rw [m2 a (by omega)], fun a d q1 q2 q3 => by rw [m2 a (by omega)], fun k q => by rw [m2 1239 (by omega)]⟩ sG1_rf (c2 _ (by omega)) (hT j hj hji)
    exact w
  · have u := hU j k hj hk hji hki
    unfold rU2 at u ⊢
    rw [c2 (1036 + 3 * j) (by omega), c2 (1036 + 3 * k) (by omega)]
    exact u
/-- how many ready ones have less than q ahead of them -/
def cl (N q : Nat) (s : zσ) : Nat := zct (fun i => decide (s.1 (1036 + 3 * i) 3 = 1 ∧ rk N i s < q)) N 0
theorem cl_0 : cl N 0 s = 0 := zct_no N 0 (fun i _ _ w => by have := of_decide_eq_true w; omega)
theorem cl_s (h : RUN G F W B C x y s t) {a q : Nat} (ha : a < G 6 8) (wa : rdy a s) (e : rk (G 6 8) a s = q) : cl (G 6 8) (q + 1) s = cl (G 6 8) q s + 1 := by
  have e1 : zct (fun i => decide (i = a)) (G 6 8) 0 = 1 := zct_one (e := a) _ 0 (fun i _ _ => by simp) (Nat.zero_le _) (by omega)
  unfold cl
  rw [← e1]
  refine zct_or (G 6 8) 0 (fun i _ hi => ?_)
  simp only [decide_eq_true_eq]
  by_cases w : i = a
  · subst w
    rw [if_pos ⟨wa, by omega⟩, if_neg (by omega), if_pos rfl]
  · rw [if_neg w]
    by_cases u : s.1 (1036 + 3 * i) 3 = 1 ∧ rk (G 6 8) i s < q
    · rw [if_pos ⟨u.1, by omega⟩, if_pos u]
    · rw [if_neg u, if_neg (fun v => u ⟨v.1, ?_⟩)]
      rcases Nat.lt_or_ge (rk (G 6 8) i s) q with z | z
      · exact z
      · exact absurd (rk_inj h (by omega) ha v.1 wa (by omega)) w
theorem cl_all {q P : Nat} (h : ∀ i, i < N → rdy i s → rk N i s < q) (hq : q ≤ P) : cl N P s = cl N q s := by
  refine zct_eq N 0 (fun i _ hi => ?_)
  by_cases w : s.1 (1036 + 3 * i) 3 = 1
  · have := h i (by omega) w
    rw [decide_eq_true (show s.1 (1036 + 3 * i) 3 = 1 ∧ rk N i s < P from ⟨w, by omega⟩), decide_eq_true (show s.1 (1036 + 3 * i) 3 = 1 ∧ rk N i s < q from ⟨w, this⟩)]
  · rw [decide_eq_false (fun u => w u.1), decide_eq_false (fun u => w u.1)]
theorem m_out (hn : 1000 ≤ n) (h : RUN G F W B C x y s t) (hP : t.1 1132 19 = nI P) (hP3 : P ≤ 3) : ∀ m r fu (last : Option Nat) (t' : zσ), t'.2 = t.2 → (∀ a, a ≠ 1248 → t'.1 a = t.1 a) → r + m = P → m < fu → (last = none → r = 0) → (∀ l, last = some l → l < G 6 8 ∧ rdy l s ∧ rk (G 6 8) l s + 1 = r) → cl (G 6 8) r s = r → ∃ c t2, f238_4 n fu (nI r) (enc last) t' = some (nI c, t2) ∧ c ≤ P ∧ r ≤ c ∧ cl (G 6 8) P s = c ∧ t2.2 = t.2 ∧ (∀ a, a ≠ 1248 → t2.1 a = t.1 a) ∧ (∀ q, r ≤ q → q < c → ∃ a, a < G 6 8 ∧ rdy a s ∧ rk (G 6 8) a s = q ∧ t2.1 1248 q = nI a) ∧ (∀ q, q < r → t2.1 1248 q = t'.1 1248 q) := by
  have h88 := (h.2.1.1.1 8 (by decide)).2.2
  intro m
  induction m with
  | zero =>
    intro r fu last t' hs2 ag hr hf h0 hl hcl
    obtain ⟨fu, rfl⟩ : ∃ f0, fu = f0 + 1 := ⟨fu - 1, by omega⟩
    have er : r = P := by omega
    subst er
    refine ⟨r, t', ?_, Nat.le_refl _, Nat.le_refl _, hcl, hs2, ag, fun q q1 q2 => by omega, fun _ _ => rfl⟩
    rw [f238_4, ag 1132 (by decide), hP, if_neg Int32.lt_irrefl]
  | succ m ih =>
    intro r fu last t' hs2 ag hr hf h0 hl hcl
    obtain ⟨fu, rfl⟩ : ∃ f0, fu = f0 + 1 := ⟨fu - 1, by omega⟩
    -- the run, with the order as it stands
    obtain ⟨a, ha⟩ : ∃ a : Nat → Nat, ∀ k, s.1 1034 k = nI (a k) := ⟨fun k => (nI_ex (s.1 1034 k)).choose, fun k => (nI_ex (s.1 1034 k)).choose_spec⟩
    obtain ⟨b, hb⟩ : ∃ b : Nat → Nat, ∀ k, t'.1 1248 k = nI (b k) := ⟨fun k => (nI_ex (t'.1 1248 k)).choose, fun k => (nI_ex (t'.1 1248 k)).choose_spec⟩
    have h' : RUN (Gu G a b) F W B C x y s t' := RUN_G h rfl (fun _ _ => rfl) hs2 ag (fun k _ => ha k) (fun k _ => hb k)
    obtain ⟨b', b1, b2⟩ := m_chs (n := n) (ov := last) (r := r) (r4 := f238_4 n fu) h' (fun v e => ⟨by have := (hl v e).1; omega, (hl v e).2.1⟩) (G 6 8) 0 n none (Nat.zero_add _) (by omega) (fun k hk => by omega)
    have b1' : MnR last (G 6 8) s b' := b1
    have e0 : f238_4 n (fu + 1) (nI r) (enc last) t' = finR n r (f238_4 n fu) t' b' := by
      rw [f238_4, ag 1132 (by decide), hP, if_pos ((nltN (by omega) (by omega)).mpr (by omega))]
      exact b2
    rw [e0]
    cases b' with
    | none =>
      refine ⟨r, t', rfl, by omega, Nat.le_refl _, ?_, hs2, ag, fun q q1 q2 => by omega, fun _ _ => rfl⟩
      rw [cl_all (q := r) (fun i hi w => ?_) (by omega)]
      · exact hcl
      · cases last with
        | none => exact absurd ⟨w, fun v e => by cases e⟩ (b1' i hi)
        | some l =>
          obtain ⟨l1, l2, l3⟩ := hl l rfl
          by_cases e : i = l
          · rw [e]; omega
          · rcases zR_tot h (show i < 8 by omega) (show l < 8 by omega) w l2 e with o | o
            · have := rk_lt hi w o; omega
            · exact absurd ⟨w, fun v e => by cases e; exact o⟩ (b1' i hi)
    | some a' =>
      obtain ⟨c1, c2, c3⟩ := b1'
      have zr : zin? (nI r) 3 = true := (zinN (by omega)).mpr (by omega)
      have e1 : finR n r (f238_4 n fu) t' (some a') = f238_4 n fu (nI (r + 1)) (enc (some a')) (sI t' 1248 r (nI a')) := by
        show (if zin? (nI r) 3 = true then f238_4 n fu (nI r + 1) (nI a') (sI t' 1248 (nx (nI r)) (nI a')) else none) = _
        rw [if_pos zr, naddL, nxN (show r < 2 ^ 31 by omega)]
        rfl
      have rka : rk (G 6 8) a' s = r := by
        cases last with
        | none =>
          rw [h0 rfl]
          refine rk_0 (fun j hj wj o => ?_)
          rcases c3 j hj ⟨wj, fun v e => by cases e⟩ with e | e
          · rw [e] at o; exact zR_irr o
          · exact zR_as o e
        | some l =>
          obtain ⟨l1, l2, l3⟩ := hl l rfl
          rw [rk_s h l1 l2 c2.1 (c2.2 l rfl) (fun j hj wj o => c3 j hj ⟨wj, fun v e => by cases e; exact o⟩)]
          exact l3
      obtain ⟨c, t2, d1, d2, d3, d4, d5, d6, d7, d8⟩ := ih (r + 1) fu (some a') (sI t' 1248 r (nI a')) hs2 (fun q hq => by rw [hIo hq]; exact ag q hq) (by omega) (by omega) (fun e => by cases e) (fun l e => by cases e; exact ⟨c1, c2.1, by omega⟩) (by rw [cl_s h c1 c2.1 rka, hcl])
      refine ⟨c, t2, by rw [e1, d1], d2, by omega, d4, d5, d6, fun q q1 q2 => ?_, fun q hq => by rw [d8 q (by omega), hIk (by omega)]⟩
      by_cases e : q = r
      · subst e
        exact ⟨a', c1, c2.1, rka, by rw [d8 q (by omega), hIe]⟩
      · exact d7 q (by omega) q2
/-- both choose the same -/
theorem choose_ok (hn : 1000 ≤ n) (h : RUN G F W B C x y s t) : ∃ c s2 t2, c ≤ 3 ∧ f88 n s = some (nI c, s2) ∧ f238 n t = some (nI c, t2) ∧ s2.2 = s.2 ∧ (∀ a, a ≠ 1034 → s2.1 a = s.1 a) ∧ t2.2 = t.2 ∧ (∀ a, a ≠ 1248 → t2.1 a = t.1 a) ∧ ∀ q, q < c → ∃ a, a < G 6 8 ∧ s2.1 1034 q = nI a ∧ t2.1 1248 q = nI a := by
  have h88 := (h.2.1.1.1 8 (by decide)).2.2
  obtain ⟨P, p1, p2, p3, p4⟩ := h.2.2.1.1.2.1
  obtain ⟨s2, a1, a2, a3, a4, -⟩ := c_chs hn h p3 p2 (G 6 8) 0 n 0 s rfl (fun _ _ => rfl) (Nat.zero_add _) (by omega)
  obtain ⟨c, t2, b1, b2, b3, b4, b5, b6, b7, -⟩ := m_out hn h p4 p2 P 0 n none t rfl (fun _ _ => rfl) (Nat.zero_add _) (by omega) (fun _ => rfl) (fun l e => by cases e) cl_0
  refine ⟨c, s2, t2, by omega, ?_, b1, a2, a3, b5, b6, fun q hq => ?_⟩
  · have e : zct (fun q => decide (s.1 (1036 + 3 * q) 3 = 1 ∧ rk (G 6 8) q s < P)) (G 6 8) 0 = c := b4
    rw [Nat.zero_add, e] at a1
    exact a1
  · obtain ⟨a, c1, c2, c3, c4⟩ := b7 q (by omega) hq
    refine ⟨a, c1, ?_, c4⟩
    have := a4 a (Nat.zero_le _) c1 c2 (by omega)
    rw [c3] at this
    exact this
end ZCQ
