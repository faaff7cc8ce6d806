/-! declarations, both readers: one thing -/
section ZRE
variable {U : Nat → Nat} {len x y n K np bl ub q dp nd cd us es na nb q2 N N2 c : Nat} {s0 t0 tz s t s2 t2 s3 t3 : zσ} {G : Nat → Nat → Nat} {cnt cnt2 : Nat → Nat}
theorem ER_wV {a k : Nat} {v : Int32} (hS : S0 U len x y s0 t0) (ha : a = x + 12 ∨ a = x + 13 ∨ a = x + 14 ∨ a = x + 15 ∨ a = x + 16 ∨ a = x + 17 ∨ a = x + 18) (h : ER U len x y s0 t0 K np tz G bl ub q dp nd cd us s t) : ER U len x y s0 t0 K np tz G bl ub q dp nd cd us (sI s a k v) t := by
  have hx := hS.1
  obtain ⟨⟨a1, a1'⟩, a2, a3, ⟨d1, d2, d3⟩, ⟨n1, n2, n3⟩, ⟨k1, k2, k3⟩, a7, a8⟩ := h
  refine ⟨⟨BC_I hx (by omega) (by omega) a1, CG_I (by omega) (by omega) (by omega) a1'⟩, a2, by rw [hIo (by omega)]; exact a3, ⟨by rw [hIo (by omega)]; exact d1, d2, d3⟩, ⟨by rw [hIo (by omega)]; exact n1, n2, n3⟩, ⟨by rw [hIo (by omega)]; exact k1, k2, k3⟩, a7, fun hK => ⟨(a8 hK).1, (a8 hK).2.1, ?_, (a8 hK).2.2.2.1, ?_⟩⟩
  · rw [hIo (by omega)]; exact (a8 hK).2.2.1
  · rw [hIo (by omega)]; exact (a8 hK).2.2.2.2
theorem ER_wW {a k : Nat} {v : Int32} (hS : S0 U len x y s0 t0) (ha : a = y + 5 ∨ a = y + 6 ∧ (∃ u, u < 2 ^ 31 ∧ v = nI u) ∨ a = y + 7 ∨ a = y + 8 ∨ a = y + 9 ∨ a = y + 10) (h : ER U len x y s0 t0 K np tz G bl ub q dp nd cd us s t) : ER U len x y s0 t0 K np tz G bl ub q dp nd cd us s (sI t a k v) := by
  have hy := hS.2.1
  have hab : y + 5 ≤ a ∧ a ≤ y + 10 := by rcases ha with e | ⟨e, -⟩ | e | e | e | e <;> omega
  obtain ⟨a1, ⟨a2, a2'⟩, a3, ⟨d1, d2, d3⟩, ⟨n1, n2, n3⟩, ⟨k1, k2, k3⟩, ⟨u1, u2⟩, a8⟩ := h
  have hG : GFm y t0 (sI t a k v) := by
    refine ⟨fun b b1 b2 => by rw [hIo (by omega)]; exact a2.1.1 b b1 b2, a2.1.2.1, a2.1.2.2.1, fun j hj => by rw [hIx (by omega)]; exact a2.1.2.2.2.1 j hj, fun j hj => ?_⟩
    rw [gI]
    split
    · rename_i e
      rcases ha with e2 | ⟨-, e2⟩ | e2 | e2 | e2 | e2
      · omega
      · exact e2
      · omega
      · omega
      · omega
      · omega
    · exact a2.1.2.2.2.2 j hj
  clear ha
  refine ⟨a1, ⟨⟨hG, ?_⟩, MG_I (by omega) (by omega) a2'⟩, a3, ⟨d1, by rw [hIo (by omega)]; exact d2, d3⟩, ⟨n1, by rw [hIo (by omega)]; exact n2, n3⟩, ⟨k1, by rw [hIo (by omega)]; exact k2, k3⟩, ⟨by rw [hIo (by omega)]; exact u1, u2⟩, fun hK => ⟨Lt_I (by omega) (by omega) (by omega) (by omega) (a8 hK).1, (a8 hK).2.1, (a8 hK).2.2.1, (a8 hK).2.2.2.1, ?_⟩⟩
  · rw [hIo (by omega)]; exact a2.2
  · rw [hIo (by omega)]; exact (a8 hK).2.2.2.2
theorem FM_6 {f z k v : Nat} (hS : S0 U len x y s0 t0) (hv : v < 2 ^ 31) (h : FM len y t0 f z t) : FM len y t0 f z (sI t (y + 6) k (nI v)) := by
  have hy := hS.2.1
  obtain ⟨⟨⟨g1, g2, g3, g4, g5⟩, p, hp, h2⟩, h3, h4, h5⟩ := h
  refine ⟨⟨⟨fun b b1 b2 => by rw [hIo (by omega)]; exact g1 b b1 b2, g2, g3, fun j hj => by rw [hIo (by omega)]; exact g4 j hj, fun j hj => ?_⟩, p, hp, by rw [hIo (by omega)]; exact h2⟩, by rw [hIo (by omega)]; exact h3, by rw [hIo (by omega)]; exact h4, h5⟩
  rw [gI]
  split
  · exact ⟨v, hv, rfl⟩
  · exact g5 j hj
/-- the ; at the end -/
theorem ev_end (hn : 5000 ≤ n) (hS : S0 U len x y s0 t0) (h : ER U len x y s0 t0 K np tz G bl ub q dp nd cd us s t) (H : Hb (fun u => u) K np y tz (yb0 (f179 n 59 t) fun u1 => some u1)) : Rs (FC len x s0) (FM len y t0) (ZB K y tz) (fun a b => q + 1 ≤ tkNx U len q ∧ ER U len x y s0 t0 K np tz G bl ub (tkNx U len q) dp nd cd us a b ∧ zof s a 1001 ∧ frN t b) (f68_119 n s) (yb0 (f179 n 59 t) fun u1 => some u1) := by
  unfold f68_119
  rw [y0s] at H ⊢
  rw [y0s]
  obtain ⟨hq, hU, -⟩ := ER_q h
  by_cases e : tkKind U len q = nI 59
  · obtain ⟨s2, e1, c1, o1⟩ := c_adv hn h.1.2
    obtain ⟨t2, e2, c2, o2⟩ := m_next hn h.2.1.2
    have e1' : f37 n 59 s = some s2 := by unfold f37; rw [ER_k h, if_pos (show tkKind U len q = 59 from e), e1]; rfl
    have e2' : f179 n 59 t = some t2 := by
      unfold f179
      rw [m_goes h.2.1.2.2, yb1_s, if_neg n10, show f177 n 59 t = _ from tm_sign (c := 59) h.2.1.2.1 (by decide) (by decide), yb1_s, zone_1 e, if_neg n10, e2]; rfl
    have hql := ((tk_byte hU hq (c := 59) (by decide) (by decide)).mp e).1
    exact Rs_A e1' e2' ⟨tkNx_gt hql, (er_tok hS h c1 o1 c2 (frT_N o2) (Hb_L H e2')).2, o1, o2⟩
  · refine Rs_w (er_want (c := 59) hn hS (by decide) (by decide) h H) (fun a b _ _ hab => absurd hab.1.2 e)
theorem fc_119 {f z : Nat} (h : FC len x s0 f z s) : fw (FC len x s0 f z) (f68_119 n s) := by
  unfold f68_119
  exact fcs_37 h (by decide) (fw_some h)
theorem fc_59 {f z : Nat} {v x4 y0 : Int32} (hS : S0 U len x y s0 t0) (hv : v = -1 ∨ zin? v 8 = true) (h : FC len x s0 f z s) : fw (FC len x s0 f z) (f68_59 n v x4 y0 s) := by
  have hx := hS.1
  unfold f68_59 f68_88 f68_87 f68_88
  refine fw_i (fun _ => fc_119 h) (fun hne => fcs_r4 hS h ?_)
  have hv : zin? v 8 = true := by
    rcases hv with e | e
    · exact absurd e hne
    · exact e
  exact fw_i (fun _ => fw_i1 hv (fcs_I h hx (by omega) (by omega) (by omega) (fun h2 => fc_119 h2))) (fun _ => fw_i1 hv (fcs_I h hx (by omega) (by omega) (by omega) (fun h2 => fc_119 h2)))
theorem fc_68r {f z : Nat} (hS : S0 U len x y s0 t0) (hc : c < 9) (h : FC len x s0 f z s) : fw (FC len x s0 f z) (if nI c = (0 : Int32) then yb1 (f39 n (61 : Int32) s) fun v9 u8 => if v9 = (0 : Int32) then f68_41 n (-1) v9 u8 else yb1 (f39 n (45 : Int32) u8) fun v11 u10 => if v11 = (0 : Int32) then f68_41 n (-1) v9 u10 else f68_42 n (-1) v9 (1 : Int32) u10 else if nI c = (2 : Int32) then yb1 (f67 n (0 : Int32) (9 : Int32) s) fun v5 u4 => if (-1 : Int32) = (-1 : Int32) then f68_119 n u4 else zrd 9 (u4.2.2 1004 4) fun a6 => if zin? (-1 : Int32) 4 = true then zlet (sI u4 (a6 + 13) (nx (-1 : Int32)) v5) fun u7 => f68_119 n u7 else none else f68_119 n s) := by
  refine fw_i (fun _ => fcs_39 h (by decide) (fw_i1 rfl ?_)) (fun _ => fw_i (fun _ => fcs_67 h (fw_i1 rfl (fc_119 h))) (fun _ => fc_119 h))
  unfold f68_41 f68_42
  rw [if_pos rfl]
  exact fc_59 hS (Or.inl rfl) h
end ZRE
