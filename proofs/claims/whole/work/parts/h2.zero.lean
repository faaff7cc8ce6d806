/-! the relation of the two new objects -/
section ZSD
def z0b (s : zσ) : Bool := decide (s.2.2 1000 3 = some 1060) && decide (s.2.2 1000 4 = some 1096) && decide (s.2.2 1132 11 = some 1134) && decide (s.2.2 1132 12 = some 1170) && decide (s.1 1000 6 = -1) && decide (s.1 1132 2 = -1) && decide (s.1 1000 7 = 1) && decide (s.1 1132 18 = 1) && decide (s.1 1001 2 = 0) && decide (s.1 1132 1 = 0) && (List.range 47).all (fun i => decide (s.2.1 1003 i = zWd i)) && (List.range 9).all (fun k => decide (s.1 1206 k = zmost.getD k 0) && decide (s.2.2 1061 k = some (1062 + k)) && decide (s.2.2 1097 k = some (1098 + k))) && (List.range 4).all (fun k => decide (s.1 1176 k = 0) && decide (s.1 1140 k = 0)) && (List.range 8).all (fun i => decide (s.2.2 1008 i = some (1036 + 3 * i)) && decide (s.1 (1036 + 3 * i) 0 = nI i)) && decide (s.1 1030 4 = s.1 1132 29) && decide (s.1 1009 4 = 0) && decide (s.1 1132 28 = 0) && decide (s.1 1132 30 = 0) && decide (s.1 1000 5 = 0) && decide (s.1 1132 13 = 0) && (List.range 9).all (fun k => decide (s.1 1071 k = 0)) && decide (s.1 1079 9 = 0) && decide (s.1 1079 10 = 0) && decide (s.1 1007 11 = 0) && decide (s.1 1132 17 = 0)
set_option maxRecDepth 1000000 in
set_option maxHeartbeats 0 in
theorem z0_ok : z0b zs0 = true := by decide +kernel
theorem Rel_0 : Rel 0 zs0 zs0 := by
  have h := z0_ok
  unfold z0b at h
  simp only [Bool.and_eq_true, decide_eq_true_eq, List.all_eq_true, List.mem_range] at h
  generalize zs0 = s at h ⊢
  obtain ⟨⟨⟨⟨⟨⟨⟨⟨⟨⟨⟨⟨⟨⟨⟨⟨⟨⟨⟨⟨⟨⟨⟨⟨h1, h2⟩, h3⟩, h4⟩, h5⟩, h6⟩, h7⟩, h8⟩, h9⟩, h10⟩, h11⟩, h12⟩, h13⟩, h14⟩, h15⟩, h16⟩, h17⟩, h18⟩, h19⟩, h20⟩, h21⟩, h22⟩, h23⟩, h24⟩, h25⟩ := h
  refine ⟨fun a k => if a = 23 then (if k = 0 then 0 else if k = 1 then 4294967295 else 1) else 0, 1060, 1134, 0, Nat.zero_le _, ⟨Or.inl rfl, Or.inl rfl, ⟨h1, h2, h3, h4⟩, ⟨h5.trans (by decide), h6.trans (by decide)⟩, ⟨h7.trans (by decide), h8.trans (by decide), by decide, by decide⟩, ⟨h9.trans (by decide), h10.trans (by decide), Nat.zero_le _, fun k hk => absurd hk (Nat.not_lt_zero k)⟩, ⟨h11, fun k hk => ⟨(h12 k hk).1.1, (h12 k hk).1.2, (h12 k hk).2⟩, fun k hk => ⟨0, by decide, (h13 k hk).1.trans (by decide)⟩⟩, fun i hi => h14 i hi, ⟨h15, ⟨0, by decide, h16.trans (by decide), h17.trans (by decide)⟩, 0, Nat.le_refl _, h18.trans (by decide)⟩⟩, Or.inl ⟨h19, h20, ⟨h21, h22, h23⟩, h24, h25, fun k hk => ⟨0, by decide, (h13 k hk).2.trans (by decide)⟩⟩⟩
end ZSD
