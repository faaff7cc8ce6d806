/-! the calls that only read a run; find, processors, feed -/
section ZDE
variable {G W W2 : Nat → Nat → Nat} {F F2 : Nat → Nat → Nat → Nat} {B C B2 C2 x y n i j o k v p D r N P g z q c : Nat} {s t s2 t2 s' t' : zσ} {a b : Nat → Nat}
theorem pc_task (hc : c ≤ 2100) (q1 q2 : Int32) : pc c (fun n s => f137 n q1 q2 s) (fun n s => f269 n q1 q2 s) := by
  refine pc_aft hc (fun s t _ w1 w2 => ⟨-3, by show f137 1000 q1 q2 s = _; unfold f137; rw [if_pos w1], by show f269 1000 q1 q2 t = _; unfold f269; rw [if_pos w2]⟩) (fun G x y B C F W a b s t hB hC h hN => aft_eq2 h hN (ea_task (h.2.2.2.2.1.1.2.2.1.2.2.1) h q1 q2))
theorem pc_value (hc : c ≤ 2100) (q1 : Int32) : pc c (fun n s => f139 n q1 s) (fun n s => f271 n q1 s) := by
  refine pc_aft hc (fun s t _ w1 w2 => ⟨0, by show f139 1000 q1 s = _; unfold f139; rw [if_pos w1], by show f271 1000 q1 t = _; unfold f271; rw [if_pos w2]; rfl⟩) (fun G x y B C F W a b s t hB hC h hN => aft_eq2 h hN (ea_value h q1))
theorem pc_item (hc : c ≤ 2100) (q1 q2 : Int32) : pc c (fun n s => f140 n q1 q2 s) (fun n s => f272 n q1 q2 s) := by
  refine pc_aft hc (fun s t _ w1 w2 => ⟨0, by show f140 1000 q1 q2 s = _; unfold f140; rw [if_pos w1], by show f272 1000 q1 q2 t = _; unfold f272; rw [if_pos w2]; simp [f272_28, f272_29, f272_102]⟩) (fun G x y B C F W a b s t hB hC h hN => aft_eq2 h hN (ea_item h q1 q2))
theorem pc_one (hc : c ≤ 2100) (q1 q2 : Int32) : pc c (fun n s => f141 n q1 q2 s) (fun n s => f273 n q1 q2 s) := by
  refine pc_aft hc (fun s t _ w1 w2 => ⟨-3, by show f141 1000 q1 q2 s = _; unfold f141; rw [if_pos w1], by show f273 1000 q1 q2 t = _; unfold f273; rw [if_pos w2]⟩) (fun G x y B C F W a b s t hB hC h hN => aft_eq2 h hN (ea_one h q1 q2))
theorem pc_sema (hc : c ≤ 2100) (q1 : Int32) : pc c (fun n s => f142 n q1 s) (fun n s => f274 n q1 s) := by
  refine pc_aft hc (fun s t _ w1 w2 => ⟨-3, by show f142 1000 q1 s = _; unfold f142; rw [if_pos w1], by show f274 1000 q1 t = _; unfold f274; rw [if_pos w2]⟩) (fun G x y B C F W a b s t hB hC h hN => aft_eq2 h hN (ea_sema h q1))
theorem pc_bolt (hc : c ≤ 2100) (q1 q2 : Int32) : pc c (fun n s => f143 n q1 q2 s) (fun n s => f275 n q1 q2 s) := by
  refine pc_aft hc (fun s t _ w1 w2 => ⟨-3, by show f143 1000 q1 q2 s = _; unfold f143; rw [if_pos w1], by show f275 1000 q1 q2 t = _; unfold f275; rw [if_pos w2]⟩) (fun G x y B C F W a b s t hB hC h hN => aft_eq2 h hN (ea_bolt (by omega) h q1 q2))
theorem pc_irpt (hc : c ≤ 2100) (q1 q2 : Int32) : pc c (fun n s => f144 n q1 q2 s) (fun n s => f276 n q1 q2 s) := by
  refine pc_aft hc (fun s t _ w1 w2 => ⟨-3, by show f144 1000 q1 q2 s = _; unfold f144; rw [if_pos w1], by show f276 1000 q1 q2 t = _; unfold f276; rw [if_pos w2]⟩) (fun G x y B C F W a b s t hB hC h hN => aft_eq2 h hN (ea_irpt h q1 q2))
theorem pc_sent (hc : c ≤ 2100) (q1 q2 : Int32) : pc c (fun n s => f145 n q1 q2 s) (fun n s => f277 n q1 q2 s) := by
  refine pc_aft hc (fun s t _ w1 w2 => ⟨0, by show f145 1000 q1 q2 s = _; unfold f145; rw [if_pos w1], by show f277 1000 q1 q2 t = _; unfold f277; rw [if_pos w2]; rfl⟩) (fun G x y B C F W a b s t hB hC h hN => aft_eq2 h hN (ea_sent h q1 q2))
theorem pc_schedule (hc : c ≤ 2100) (q1 q2 q3 : Int32) : pc c (fun n s => f149 n q1 q2 q3 s) (fun n s => f280 n q1 q2 q3 s) := by
  refine pc_aft hc (fun s t _ w1 w2 => ⟨-3, by show f149 1000 q1 q2 q3 s = _; unfold f149; rw [if_pos w1], by show f280 1000 q1 q2 q3 t = _; unfold f280; rw [if_pos w2]⟩) (fun G x y B C F W a b s t hB hC h hN => aft_eq2 h hN (ea_schedule h q1 q2 q3))
theorem pc_logged (hc : c ≤ 2100) (q1 : Int32) : pc c (fun n s => f154 n q1 s) (fun n s => f283 n q1 s) := by
  refine pc_aft hc (fun s t _ w1 w2 => ⟨0, by show f154 1000 q1 s = _; unfold f154; rw [if_pos w1], by show f283 1000 q1 t = _; unfold f283; rw [if_pos w2]; rfl⟩) (fun G x y B C F W a b s t hB hC h hN => aft_eq2 h hN (ea_logged (by omega) h q1))
theorem pc_induced (hc : c ≤ 2100) (q1 q2 : Int32) : pc c (fun n s => f156 n q1 q2 s) (fun n s => f284 n q1 q2 s) := by
  refine pc_aft hc (fun s t _ w1 w2 => ⟨-1, by show f156 1000 q1 q2 s = _; unfold f156; rw [if_pos w1], by show f284 1000 q1 q2 t = _; unfold f284; rw [if_pos w2]⟩) (fun G x y B C F W a b s t hB hC h hN => aft_eq2 h hN (ea_induced (by omega) h q1 q2))
theorem pc_count (hc : c ≤ 2100) (q1 : Int32) : pc c (fun n s => f158 n q1 s) (fun n s => f285 n q1 s) := by
  refine pc_aft hc (fun s t _ w1 w2 => ⟨-3, by show f158 1000 q1 s = _; unfold f158; rw [if_pos w1], by show f285 1000 q1 t = _; unfold f285; rw [if_pos w2]⟩) (fun G x y B C F W a b s t hB hC h hN => aft_eq2 h hN (ea_count (by omega) h q1))
/-- what lies beside the machine changes, and nothing else -/
theorem Rel_out {h' : Nat → Nat} (h : Rel c s t) (c0 : s2.2 = s.2) (c1 : ∀ a, a ≠ 1000 → a ≠ 1001 → a ≠ 1002 → s2.1 a = s.1 a) (c5 : s2.1 1000 5 = s.1 1000 5) (m0 : t2.2 = t.2) (m1 : ∀ a, a ≠ 1132 → a ≠ 1133 → t2.1 a = t.1 a) (m2 : ∀ k, k ≠ 1 → k ≠ 2 → k ≠ 18 → t2.1 1132 k = t.1 1132 k) (n1 : s2.1 1000 6 = nI (h' 1) ∧ t2.1 1132 2 = nI (h' 1)) (n2 : s2.1 1000 7 = nI (h' 2) ∧ t2.1 1132 18 = nI (h' 2) ∧ 1 ≤ h' 2 ∧ h' 2 ≤ 3) (n3 : s2.1 1001 2 = nI (h' 0) ∧ t2.1 1132 1 = nI (h' 0) ∧ h' 0 ≤ 4000 ∧ ∀ k, k < h' 0 → zTp (s2.1 1002 k) (t2.1 1133 k)) : Rel c s2 t2 := by
  obtain ⟨G, x, y, C, e1, ⟨k1, k2, k3, -, -, -, k7, k8, k9⟩, e3⟩ := h
  have kz : KZ (Gz G h') C x y s2 t2 := by
    refine ⟨k1, k2, by rw [c0, m0]; exact k3, n1, n2, n3, ?_, fun i hi => ?_, ?_⟩
    · obtain ⟨q1, q2, q3⟩ := k7
      exact ⟨by rw [c0]; exact q1, by rw [c0, m1 1206 (by decide) (by decide)]; exact q2, by rw [m1 _ (by omega) (by omega)]; exact q3⟩
    · rw [c0, c1 _ (by omega) (by omega) (by omega)]
      exact k8 i hi
    · unfold rE at k9 ⊢
      rw [c1 1030 (by decide) (by decide) (by decide), c1 1009 (by decide) (by decide) (by decide), m2 29 (by decide) (by decide) (by decide), m2 28 (by decide) (by decide) (by decide), m2 30 (by decide) (by decide) (by decide)]
      exact k9
  have e11 : s2.1 1007 11 = s.1 1007 11 := by rw [c1 1007 (by decide) (by decide) (by decide)]
  have e17 : t2.1 1132 17 = t.1 1132 17 := m2 17 (by decide) (by decide) (by decide)
  have e13 : t2.1 1132 13 = t.1 1132 13 := m2 13 (by decide) (by decide) (by decide)
  have cX : ∀ k, k ≤ 35 → s2.1 (x + k) = s.1 (x + k) := fun k _ => c1 _ (by omega) (by omega) (by omega)
  have mX : ∀ k, k ≤ 35 → t2.1 (y + k) = t.1 (y + k) := fun k _ => m1 _ (by omega) (by omega)
  refine ⟨Gz G h', x, y, C, e1, kz, ?_⟩
  rcases e3 with ⟨q1, q2, ⟨q3, q4, q5⟩, q6, q7, q8⟩ | ⟨q1, q2, q3, q6, q7⟩ | ⟨F, W, B, a, b, b1, b2, b3⟩
  · refine Or.inl ⟨by rw [c5]; exact q1, by rw [e13]; exact q2, ⟨fun k hk => by rw [cX 11 (by decide)]; exact q3 k hk, by rw [cX 19 (by decide)]; exact q4, by rw [cX 19 (by decide)]; exact q5⟩, by rw [e11]; exact q6, by rw [e17]; exact q7, fun k hk => by rw [mX 6 (by decide)]; exact q8 k hk⟩
  · refine Or.inr (Or.inl ⟨by rw [c5]; exact q1, by rw [e13]; exact q2, TX_Gz (TX_fr2 cX (fun k _ => by rw [c0]) mX (by rw [m0]) q3), by rw [e11]; exact q6, by rw [e17]; exact q7⟩)
  · refine Or.inr (Or.inr ⟨F, W, B, a, b, b1, ?_, Nob_ag k1 b3 (fun a ha => c1 a (by omega) (by omega) (by omega))⟩)
    obtain ⟨z1, z2, z3, z4, z5, z6, z7, z8, z9, z10, z11, z12⟩ := b2.1.2.2.1.2
    have := RUN_out (h' := h') (s2 := s2) (t2 := t2) b2 (fun a _ => by rw [c0]) (fun a q1 q2 => c1 a (by omega) (by omega) (by omega)) cX (fun k _ => by rw [c0]) (by rw [m0]) (fun a q => m1 a (by omega) (by omega)) mX (by rw [m0]) (fun k q => m2 k (by omega) (by omega) (by omega)) ⟨n3.2.1, n1.2, n2.2.1⟩ ⟨by rw [c0]; exact z1, by rw [c0]; exact z2, by rw [m0]; exact z3, by rw [c5]; exact z4, n1.1, n2.1, n2.2.2.1, n2.2.2.2, n3.1, n3.2.2.1, n3.2.2.2, kz.2.2.2.2.2.2.1⟩
    rw [Gz_Gh] at this
    exact this
/-- processors -/
theorem pc_processors (q : Int32) : pc c (fun n s => f72 n q s) (fun n s => f207 n q s) := by
  intro s t h
  by_cases w1 : q < 1
  · exact ⟨0, 0, -2, s, t, by show f72 0 q s = _; unfold f72; rw [if_pos w1], by show f207 0 q t = _; unfold f207; rw [if_pos w1], Rel_up h (Nat.le_succ _)⟩
  · by_cases w2 : (3 : Int32) < q
    · exact ⟨0, 0, -2, s, t, by show f72 0 q s = _; unfold f72; rw [if_neg w1, if_pos w2], by show f207 0 q t = _; unfold f207; rw [if_neg w1, if_pos w2], Rel_up h (Nat.le_succ _)⟩
    · have q0 : ¬ q < 0 := fun w => w1 (Int32.lt_trans w (by decide))
      obtain ⟨k, hk, rfl⟩ := nI_of q0
      have k13 : 1 ≤ k ∧ k ≤ 3 := by
        constructor
        · rcases Nat.lt_or_ge k 1 with u | u
          · exact absurd ((nltN (b := 1) hk (by decide)).mpr u) w1
          · exact u
        · rcases Nat.lt_or_ge 3 k with u | u
          · exact absurd ((nltN (a := 3) (by decide) hk).mpr u) w2
          · exact u
      have h' := h
      obtain ⟨G, x, y, C, -, ⟨-, -, -, p, ⟨p1, p2, -⟩, p3, -⟩, -⟩ := h
      refine ⟨0, 0, nI (G 23 2), sI s 1000 7 (nI k), sI t 1132 18 (nI k), ?_, ?_, Rel_up (Rel_out (h' := fun i => if i = 2 then k else G 23 i) h' rfl (fun a h1 h2 h3 => hIo h1) (hIk (by decide)) rfl (fun a h1 h2 => hIo h1) (fun k h1 h2 h3 => hIk h3) ⟨?_, ?_⟩ ⟨hIe, hIe, k13⟩ ⟨?_, ?_, p3.2.2.1, fun k hk => ?_⟩) (Nat.le_succ _)⟩
      · show f72 0 (nI k) s = _
        unfold f72
        rw [if_neg w1, if_neg w2, zlet, zlet, p1]
      · show f207 0 (nI k) t = _
        unfold f207
        rw [if_neg w1, if_neg w2, zlet, zlet, p2]
      · rw [hIk (by decide)]; exact p.1
      · rw [hIk (by decide)]; exact p.2
      · rw [hIo (by decide)]; exact p3.1
      · rw [hIk (by decide)]; exact p3.2.1
      · rw [hIo (by decide), hIo (by decide)]; exact p3.2.2.2 k hk
end ZDE
