/-! statements, both readers: a call -/
section ZPW
variable {U : Nat → Nat} {len x y n K np bl ub q dp nd cd us es na nb q2 dp2 nd2 cd2 us2 r nb0 cd0 mE na2 nb2 : Nat} {s0 t0 tz s t s2 t2 s3 t3 sS tS : zσ} {G : Nat → Nat → Nat} {c m L E : Nat → Int32} {cs : Nat → Nat}
variable {α β : Type} {pm : β → zσ} {F : Nat → Nat → α → Prop} {M : Nat → Nat → β → Prop} {Z : Nat → Prop} {B : α → β → Prop}
theorem Rs_zc {γ : Type} {v : γ} {kc : γ → Option α} {mm : Option β} (h : Rs F M Z B (kc v) mm) : Rs F M Z B (zlet v kc) mm := h
theorem Rs_zm {γ : Type} {v : γ} {cc : Option α} {km : γ → Option β} (h : Rs F M Z B cc (km v)) : Rs F M Z B cc (zlet v km) := h
theorem Hb_z {γ : Type} {v : γ} {km : γ → Option β} (h : Hb pm K np y tz (zlet v km)) : Hb pm K np y tz (km v) := h
theorem Hb_s {m2 : Option β} {m1 : Option β} (h : Hb pm K np y tz m1) (e : m1 = m2) : Hb pm K np y tz m2 := e ▸ h
def bgn (k : Int32) : Prop := k = 1 ∨ k = 2 ∨ k = 40 ∨ k = 45 ∨ k = 142 ∨ k = 143 ∨ k = 144
theorem c_65 (h : ER U len x y s0 t0 K np tz G bl ub q dp nd cd us s t) : (bgn (tkKind U len q) → f65 n (s.1 1001 4) s = some (1, s)) ∧ (¬ bgn (tkKind U len q) → f65 n (s.1 1001 4) s = some (0, s)) := by
  obtain ⟨hq, hU, -⟩ := ER_q h
  rw [ER_k h]
  constructor
  · intro hb
    rcases hb with e | e | e | e | e | e | e <;> (rw [e]; rfl)
  · intro hb
    obtain ⟨k, k1, k2, k3⟩ := tk_num hU hq
    unfold bgn at hb
    rw [k3] at hb ⊢
    have e1 : ∀ j, j < 256 → ¬ nI k = nI j → k ≠ j := fun j hj h e => h (by rw [e])
    have b1 : ¬ nI k = (1 : Int32) := fun e => hb (Or.inl e)
    have b2 : ¬ nI k = (2 : Int32) := fun e => hb (Or.inr (Or.inl e))
    have b3 : ¬ nI k = (40 : Int32) := fun e => hb (Or.inr (Or.inr (Or.inl e)))
    have b4 : ¬ nI k = (45 : Int32) := fun e => hb (Or.inr (Or.inr (Or.inr (Or.inl e))))
    have c1 := e1 142 (by omega) (fun e => hb (Or.inr (Or.inr (Or.inr (Or.inr (Or.inl e))))))
    have c2 := e1 143 (by omega) (fun e => hb (Or.inr (Or.inr (Or.inr (Or.inr (Or.inr (Or.inl e)))))))
    have c3 := e1 144 (by omega) (fun e => hb (Or.inr (Or.inr (Or.inr (Or.inr (Or.inr (Or.inr e)))))))
    unfold f65
    rw [if_neg b1, if_neg b2, if_neg b3, if_neg b4]
    by_cases hlt : k < 142
    · rw [if_pos (show nI k < 142 from nI_lt (b := 142) hlt (by decide))]
    · rw [if_neg (show ¬ nI k < 142 from nI_nlt (b := 142) (by omega) (by omega)), if_pos (show 144 < nI k from nI_lt (a := 144) (by omega) (by omega))]
theorem m_200 (hn : 5000 ≤ n) (h : ER U len x y s0 t0 K np tz G bl ub q dp nd cd us s t) : (bgn (tkKind U len q) → f200 n t = some (1, t)) ∧ (¬ bgn (tkKind U len q) → f200 n t = some (0, t)) := by
  have hM := h.2.1.2
  have k2 := (tm_kind hM.1).2.1
  have nm := tm_name hn hM.1
  have w45 : f170 n 45 t = some (zone (decide (tkKind U len q = 142)), t) := tm_word (w := 14) hn hM.1 (by decide) (by decide) (by decide +kernel)
  have w46 : f170 n 46 t = some (zone (decide (tkKind U len q = 144)), t) := tm_word (w := 16) hn hM.1 (by decide) (by decide) (by decide +kernel)
  have w47 : f170 n 47 t = some (zone (decide (tkKind U len q = 143)), t) := tm_word (w := 15) hn hM.1 (by decide) (by decide) (by decide +kernel)
  have s45 : f177 n 45 t = some (zone (decide (tkKind U len q = 45)), t) := tm_sign (c := 45) hM.1 (by decide) (by decide)
  have s40 : f177 n 40 t = some (zone (decide (tkKind U len q = 40)), t) := tm_sign (c := 40) hM.1 (by decide) (by decide)
  unfold f200 f200_63
  by_cases e2 : tkKind U len q = 2
  · rw [if_pos (k2.mpr e2)]
    exact ⟨fun _ => rfl, fun h => absurd (Or.inr (Or.inl e2)) h⟩
  rw [if_neg (fun e => e2 (k2.mp e)), nm, yb1_s]
  by_cases e1 : tkKind U len q = 1
  · rw [zone_1 e1, if_neg (by decide)]
    exact ⟨fun _ => rfl, fun h => absurd (Or.inl e1) h⟩
  rw [zone_0 e1, if_pos rfl, w45, yb1_s]
  by_cases e142 : tkKind U len q = 142
  · rw [zone_1 e142, if_neg (by decide)]
    exact ⟨fun _ => rfl, fun h => absurd (Or.inr (Or.inr (Or.inr (Or.inr (Or.inl e142))))) h⟩
  rw [zone_0 e142, if_pos rfl, w46, yb1_s]
  by_cases e144 : tkKind U len q = 144
  · rw [zone_1 e144, if_neg (by decide)]
    exact ⟨fun _ => rfl, fun h => absurd (Or.inr (Or.inr (Or.inr (Or.inr (Or.inr (Or.inr e144)))))) h⟩
  rw [zone_0 e144, if_pos rfl, w47, yb1_s]
  by_cases e143 : tkKind U len q = 143
  · rw [zone_1 e143, if_neg (by decide)]
    exact ⟨fun _ => rfl, fun h => absurd (Or.inr (Or.inr (Or.inr (Or.inr (Or.inr (Or.inl e143)))))) h⟩
  rw [zone_0 e143, if_pos rfl, s45, yb1_s]
  by_cases e45 : tkKind U len q = 45
  · rw [zone_1 e45, if_neg (by decide)]
    exact ⟨fun _ => rfl, fun h => absurd (Or.inr (Or.inr (Or.inr (Or.inl e45)))) h⟩
  rw [zone_0 e45, if_pos rfl, s40, yb1_s]
  by_cases e40 : tkKind U len q = 40
  · rw [zone_1 e40, if_neg (by decide)]
    exact ⟨fun _ => rfl, fun h => absurd (Or.inr (Or.inr (Or.inl e40))) h⟩
  rw [zone_0 e40, if_pos rfl]
  refine ⟨fun h => ?_, fun _ => rfl⟩
  rcases h with e | e | e | e | e | e | e <;> contradiction
/-- the class at what begins no expression -/
theorem nb_expr (hn : 5000 ≤ n) (hS : S0 U len x y s0 t0) (h : ER U len x y s0 t0 K np tz G bl ub q dp nd cd us s t) (hb : ¬ bgn (tkKind U len q)) : fw (FC len x s0 (zft U len q 2) q) (f49 n (f52 n 20) s) := by
  obtain ⟨s2, x1, g1⟩ := er_ref (n := n) (f := 2) hS h
  have e : f52 n 20 s = some s2 := by
    show f52b n (f52 n 19) s = _
    unfold f52b
    show (if s.1 1001 4 = (40 : Int32) then _ else _) = _
    rw [ER_k h, if_neg (fun e => hb (Or.inr (Or.inr (Or.inl e)))), if_neg (fun e => hb (Or.inr (Or.inr (Or.inr (Or.inl e))))), if_neg (fun e => hb (Or.inl e)), if_neg (fun e => hb (Or.inr (Or.inl e))), if_neg (fun e => hb (Or.inr (Or.inr (Or.inr (Or.inr (Or.inr (Or.inl e))))))), if_neg (fun e => hb (Or.inr (Or.inr (Or.inr (Or.inr (Or.inl e)))))), if_neg (fun e => hb (Or.inr (Or.inr (Or.inr (Or.inr (Or.inr (Or.inr e))))))), show f32 n 2 s = _ from x1]
    rfl
  obtain ⟨n, rfl⟩ : ∃ n0, n = n0 + 1 := ⟨n - 1, by omega⟩
  have hx := hS.1
  refine fw_y0 (fw_y0 (fw_y0 ⟨s2, e, g1⟩ (fun u hu => lf51 hu)) (fun u hu => lf50 hu)) (fun u hu => ?_)
  repeat' (first | (with_reducible assumption) | (with_reducible refine fw_some ?_) | (with_reducible exact ⟨rfl, by assumption⟩) | (with_reducible refine fcs_r5 hS (by assumption) ?_) | (with_reducible refine fcs_r6 hS (by assumption) ?_) | (with_reducible refine fcs_r4 hS (by assumption) ?_) | (with_reducible refine fcs_32 (by assumption) ?_) | (with_reducible refine fcs_26 (by assumption) ?_) | (with_reducible refine fcs_37 (by assumption) ?_ ?_) | (with_reducible refine fcs_39 (by assumption) ?_ ?_) | (with_reducible refine fcs_41 (by assumption) ?_ ?_) | (with_reducible refine fcs_57 (by assumption) ?_) | (with_reducible refine fcs_58 hS (by assumption) ?_) | (with_reducible refine fcs_53 hS (by assumption) (fun _ _ => ?_)) | (with_reducible refine fcs_54 hx (by assumption) (fun _ _ => ?_)) | (with_reducible refine fcs_I (by assumption) hx ?_ ?_ ?_ (fun _ => ?_)) | (with_reducible refine fw_z ?_) | (with_reducible refine fw_i1 rfl ?_) | (with_reducible refine fw_i1 (by assumption) ?_) | (with_reducible refine fw_i0 (by assumption) ?_) | (with_reducible refine fw_i0 (fc_k (by assumption) ?_) ?_) | (with_reducible refine fcs_k (by assumption) ?_) | (refine fw_i0 (by decide) ?_) | (refine fw_i1 (by decide) ?_) | (omega) | (decide))
theorem st_acc {k : Nat} (hn : 5000 ≤ n) (hS : S0 U len x y s0 t0) (hk : zsg k = true) (hk2 : k < 126) (h : ER U len x y s0 t0 K np tz G bl ub q dp nd cd us s t) : f39 n (nI k) s = (if tkKind U len q = nI k then yb0 (f26 n s) fun u => some (1, u) else some (0, s)) ∧ f177 n (nI k) t = some (zone (decide (tkKind U len q = nI k)), t) := by
  refine ⟨?_, tm_sign h.2.1.2.1 hk hk2⟩
  unfold f39
  rw [ER_k h]
/-- the end of a call: what is given is told of its use -/
theorem ST_mis {uu i p : Nat} {v3 : Int32} (hQ : HQ n U len x y s0 t0 K tz G ub) (h : ST U len x y s0 t0 K np tz G bl r nb0 cd0 sS tS ub q dp nd cd us es nb c m L E mE cs s t) (hu : uu < us) (hi : i ≤ 3) (ha : t.1 (y + 35) uu = -1) (hb : ∀ u, uu < u → u < us → t.1 (y + 35) u = -1) (s' : zσ) (hs : K = 0 ∧ s' = s ∨ K = 1 ∧ p < G 6 7 ∧ v3 = nI p ∧ (zso tz y uu).2 = nI p ∧ (¬ s.1 1004 12 = -1 ∧ s' = s ∨ s.1 1004 12 = -1 ∧ nI i = s.1 (x + 18) p ∧ s' = s ∨ s.1 1004 12 = -1 ∧ ¬ nI i = s.1 (x + 18) p ∧ ∃ z, z < 2 ^ 31 ∧ tz.1 (y + 30) uu = nI z ∧ s' = sI s 1004 12 (nI z))) : ST U len x y s0 t0 K np tz G bl r nb0 cd0 sS tS ub q dp nd cd us es nb c m L E mE cs s' (sI t (y + 35) uu (nI i)) ∧ (K = 1 → s'.1 1004 12 = -1 → tz.1 (y + 11) p = nI i) := by
  obtain ⟨hn, hS, hub, h13, hN, hK01, h67⟩ := id hQ
  have hx := hS.1
  have hy := hS.2.1
  obtain ⟨hR, hF, ⟨h3, h4, h5, h6⟩, h7⟩ := id h
  have hf1 := hR.2.2.2.2.2.2
  have hMI := hR.2.2.2.2.2.1
  have g35 : ∀ u, u ≠ uu → (sI t (y + 35) uu (nI i)).1 (y + 35) u = t.1 (y + 35) u := fun u hu => hIk hu
  have fitO : ∀ u, u ≠ uu → (fit y tz (sI t (y + 35) uu (nI i)) u ↔ fit y tz t u) := fun u hu => by
    unfold fit
    rw [g35 u hu]
  have hfu : fit y tz t uu := Or.inl ha
  have hfa : ∀ u, uu < u → u < us → fit y tz t u := fun u h1 h2 => Or.inl (hb u h1 h2)
  have hER : ER U len x y s0 t0 K np tz G bl ub q dp nd cd us s (sI t (y + 35) uu (nI i)) := by
    obtain ⟨a1, ⟨a2, a2'⟩, a3, ⟨d1, d2, d3⟩, ⟨n1, n2, n3⟩, ⟨k1, k2, k3⟩, ⟨u1, u2⟩, a8⟩ := hR.1
    refine ⟨a1, ⟨⟨GFm_I (by omega) hy a2.1, ?_⟩, MG_I (by omega) (by omega) a2'⟩, a3, ⟨d1, by rw [hIo (by omega)]; exact d2, d3⟩, ⟨n1, by rw [hIo (by omega)]; exact n2, n3⟩, ⟨k1, by rw [hIo (by omega)]; exact k2, k3⟩, ⟨by rw [hIo (by omega)]; exact u1, u2⟩, fun hK => ⟨Lt_I (by omega) (by omega) (by omega) (by omega) (a8 hK).1, (a8 hK).2.1, (a8 hK).2.2.1, (a8 hK).2.2.2.1, ?_⟩⟩
    · rw [hIo (by omega)]; exact a2.2
    · rw [hIo (by omega)]; exact (a8 hK).2.2.2.2
  have hSF : SF x y r c m L E s (sI t (y + 35) uu (nI i)) := ⟨hF.1, fun j a b d => by rw [hIo (by omega)]; exact hF.2.1 j a b d, fun k hk => by rw [hIo (by omega), hIo (by omega)]; exact hF.2.2 k hk⟩
  have hLM : LM y r nb0 tS (sI t (y + 35) uu (nI i)) := LM_tr h4 (LM_w (na := r) (nb := nb0) hy (by omega)) (by omega) (by omega)
  have hmk : MI K y us tz s (sI t (y + 35) uu (nI i)) → ST U len x y s0 t0 K np tz G bl r nb0 cd0 sS tS ub q dp nd cd us es nb c m L E mE cs s (sI t (y + 35) uu (nI i)) := fun hMI2 => by
    obtain ⟨-, ⟨a1, a2, a3⟩, ⟨b1, b2, b3⟩, ⟨c1, c2⟩, d1, e1, f1⟩ := hR
    exact ⟨⟨hER, ⟨a1, by rw [hIo (by omega)]; exact a2, a3⟩, ⟨b1, by rw [hIo (by omega)]; exact b2, b3⟩, ⟨by rw [hIo (by omega)]; exact c1, c2⟩, by rw [hIo (by omega)]; exact d1, hMI2, f1⟩, hSF, ⟨h3, hLM, h5, h6⟩, h7⟩
  rcases hs with ⟨k0, rfl⟩ | ⟨k1, hp, rfl, hz, hs⟩
  · exact ⟨hmk ⟨hMI.1, fun e => by omega⟩, fun e => by omega⟩
  have hp6 : p < 6 := by have := h67 k1; omega
  rcases hs with ⟨hm, rfl⟩ | ⟨hm, he, rfl⟩ | ⟨hm, he, z, hz2, hz3, rfl⟩
  · refine ⟨hmk ⟨fun e => by omega, fun _ => ?_⟩, fun _ e => absurd e hm⟩
    rcases hMI.2 k1 with ⟨a1, -⟩ | ⟨a1, u, a2, a3, a4, a5⟩
    · exact absurd a1 hm
    · have hne : u ≠ uu := fun e => a4 (e ▸ hfu)
      have hlt : u < uu := by
        rcases Nat.lt_or_ge u uu with e | e
        · exact e
        · exact absurd (hfa u (by omega) a2) a4
      exact Or.inr ⟨a1, u, a2, a3, fun e => a4 ((fitO u hne).mp e), fun v hv => (fitO v (by omega)).mpr (a5 v hv)⟩
  · refine ⟨hmk ⟨fun e => by omega, fun _ => Or.inl ⟨hm, fun u hu2 => ?_⟩⟩, fun _ _ => ?_⟩
    · by_cases e : u = uu
      · subst e
        exact Or.inr ⟨p, hp6, hz, by rw [hIe, he]; exact hf1 k1 p hp⟩
      · rcases hMI.2 k1 with ⟨-, a2⟩ | ⟨a1, -⟩
        · exact (fitO u e).mpr (a2 u hu2)
        · exact absurd hm a1
    · rw [he]; exact (hf1 k1 p hp).symm
  · have hne : ¬ nI z = -1 := fun e => (neqM hz2).mp e
    have hX := hR.1.2.2.2.2.2.2.2
    have hfitall : ∀ u, u < us → fit y tz t u := by
      rcases hMI.2 k1 with ⟨-, a2⟩ | ⟨a1, -⟩
      · exact a2
      · exact absurd hm a1
    refine ⟨⟨⟨?_, ?_⟩, ?_, ⟨?_, hLM, h5, h6⟩, fun hK => ⟨(h7 hK).1, (h7 hK).2.1, XE_fr (h7 hK).2.2 (fun p hp => ⟨hIx (by omega), hIx (by omega)⟩)⟩⟩, fun _ e => absurd (hIe.symm.trans e) hne⟩
    · obtain ⟨⟨a1, a1'⟩, a2, a3, ⟨d1, d2, d3⟩, ⟨n1, n2, n3⟩, ⟨k1, k2, k3⟩, a7, a8⟩ := hER
      refine ⟨⟨BC_I hx (by omega) (by omega) a1, CG_I (by omega) (by omega) (by omega) a1'⟩, a2, by rw [hIk (by decide)]; exact a3, ⟨by rw [hIk (by decide)]; exact d1, d2, d3⟩, ⟨by rw [hIo (by omega)]; exact n1, n2, n3⟩, ⟨by rw [hIo (by omega)]; exact k1, k2, k3⟩, a7, fun hK => ⟨(a8 hK).1, (a8 hK).2.1, ?_, (a8 hK).2.2.2.1, ?_⟩⟩
      · rw [hIo (by omega)]; exact (a8 hK).2.2.1
      · rw [hIk (by decide)]; exact (a8 hK).2.2.2.2
    · obtain ⟨-, ⟨a1, a2, a3⟩, ⟨b1, b2, b3⟩, ⟨c1, c2⟩, d1, e1, f1⟩ := hR
      refine ⟨⟨by rw [hIo (by omega)]; exact a1, by rw [hIo (by omega)]; exact a2, a3⟩, ⟨by rw [hIo (by omega)]; exact b1, by rw [hIo (by omega)]; exact b2, b3⟩, ⟨by rw [hIo (by omega)]; exact c1, c2⟩, by rw [hIk (by decide), hIo (b := 1132) (by omega)]; exact d1, ⟨fun e => by omega, fun _ => ?_⟩, fun hK p hp => by rw [hIo (by omega)]; exact f1 hK p hp⟩
      refine Or.inr ⟨by rw [hIe]; exact hne, uu, hu, ⟨by rw [hIe, hz3], p, hp6, hz⟩, fun hft => ?_, fun v hv => (fitO v (by omega)).mpr (hfitall v (by omega))⟩
      rcases hft with e | ⟨p2, e1, e2, e3⟩
      · rw [hIe] at e
        exact (neqM (by omega)).mp e
      · rw [hIe] at e3
        have : p2 = p := (nI_eq (by omega) (by omega)).mp (e2.symm.trans hz)
        subst this
        exact he (e3.trans (f1 k1 p2 hp).symm)
    · exact ⟨fun j hj => by rw [hIo (by omega)]; exact hSF.1 j hj, hSF.2⟩
    · refine LC_tr h3 (na2 := r) (nb2 := nb0) (cd2 := cd0) ⟨fun b _ b2 d => hIo b2, fun _ _ => rfl, rfl, fun k _ _ _ b => hIk b, fun e => absurd (hIe.symm.trans e) hne, fun b r c d e => hIx (by omega), fun b r c d e => hIx (by omega), fun _ p hp => ⟨hIx (by omega), hIx (by omega)⟩⟩ (by omega) (by omega) (by omega)
end ZPW
