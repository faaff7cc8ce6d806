/-- the walk of the law, out of a run of my machine -/
theorem zret_1 {ins : Instr} {st : List Value} (h : zret (some .boolean) ins st = some (some (.int 1))) : ins = .ireturn ∧ st = [.int 1] := by
  cases ins with
  | ireturn =>
    simp only [zret] at h
    split at h
    · split at h
      · cases h; exact ⟨rfl, rfl⟩
      · cases h
    · cases h
  | lreturn =>
    simp only [zret] at h
    split at h
    · cases h
    · cases h
  | return_ =>
    simp only [zret] at h
    split at h
    · cases h
    · cases h
  | _ => have h2 : (none : Option (Option Value)) = some (some (.int 1)) := h; cases h2
set_option maxHeartbeats 4000000 in
theorem whole_of_pure (hpure : zPure 2048) {p : Program} {e : Env} {s : State} {m : MethodId} {below : List Frame} {meth : Method} {c : Code} (l : Launch) {b L : Nat} {xs : Nat → Int32} (hL : L ≤ 2048) (C0 : lw_At p s m meth c b L xs) : W p l e room_1 s m #[Value.ref b] below meth c s.heap [] 0 0 (lw_Z below #[Value.ref b] s) (entryFrame m ([Value.ref b] : List Value).toArray 4) := by
  obtain ⟨hx, hb, hr, hml, hown, hts, hX, hbl, hlocks, hgv⟩ := C0
  obtain ⟨ρ, cy, D, fz, hρ, h62, hK⟩ := zKX_start hts hgv hX hbl
  obtain ⟨n, hp', c', z', hrun, hc, hz⟩ := hpure fz L xs hL
  have hl := lv_entry ([Value.ref b]) (n := 4) (Nat.le_of_ble_eq_true rfl)
  rw [lg_entry_eq]
  have hl' : lv_has ((lg_sl [Value.ref b] ++ List.replicate (4 - (lg_sl [Value.ref b]).length) Slot.unset).toArray) 4 (plv ρ [(0, .ref 62)]) := by
    show lv_has _ 4 [(0, .ref (ρ 62))]
    rw [h62]
    exact hl
  refine zrun_ok (zKX_ok hρ) zX_ok n 2048 zLaw 0 _ [] [] 0 0 _ hp' c' z' hrun p e room_1 s m _ below meth c s.heap [] _ _ ⟨rfl, by decide⟩ hc hz hx hb hml hown (fun w h => hts w (List.mem_filter.mp h).1) (fun h => by cases h) hK (Nat.le_refl _) rfl (fun k q h => by simp [pw] at h) va_S.rf hl' (fun H1 locs1 ls1 pc1 ins1 st1 hd1 hr1 h1 h2 => ?_)
  obtain ⟨rfl, rfl⟩ := zret_1 hr1
  refine va_forget (fun q hq => h2.2.2 q hq) ?_
  refine W.widen hc hz ?_
  exact lw_ret hx hb hr hlocks hd1
