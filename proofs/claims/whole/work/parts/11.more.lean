/-! Part 5: arrays of arrays, Object's constructor, arraycopy -/
section ZM4
variable {p : Program} {l : Launch} {e : Env} {R : Room} {s : State} {m : MethodId} {args : Array Value} {below : List Frame} {meth : Method} {c : Code} {H : Heap} {locs : List Loc} {cells slots : Nat} {Q : State → Prop}
variable {cc : ByteArray} {pc : Nat} {ls : Array Slot} {ρ : Nat → Nat} {cy : Nat → ClassId} {base : Nat} {D : va_G}
/-- the heap is no smaller than the places -/
theorem zlow {hp : List PE} (hP : va_P D vwCl (pw ρ cy base hp) H) (hbs : base ≤ H.size) : base + hp.length ≤ H.size := by
  rcases Nat.eq_zero_or_pos hp.length with h0 | h0
  · omega
  · have hi : hp.length - 1 < hp.length := by omega
    have hx : (pw ρ cy base hp)[hp.length - 1]? = some (base + (hp.length - 1), pe ρ cy hp[hp.length - 1]) := by
      rw [pw_get, List.getElem?_eq_getElem hi]
      rfl
    have h1 : base + (hp.length - 1) < H.size := (hP _ _ hx).lt
    omega
theorem sOb_ok {d : Nat} (hR : R.frames = d ∧ 41 * d ≤ R.locals) (hd1 : 1 ≤ d) (hρ : ∀ a, zE ≤ a → ρ a = base + (a - zE)) (hx : p.tables.exec = Jvm.exec) (hb : c.code = cc) (hts : ∀ w ∈ zWS, w.before args s = true) {cn : Nat} (hown : s.vm.findClass (Rn cn) = some m.cls)
    (hml : ls.size = c.maxLocals) (hcl : cells ≤ R.cells) (hsl : slots ≤ R.slots) (hK : va_K D vwCl (zTys cy) s) {hp hp' : List PE} (hP : va_P D vwCl (pw ρ cy base hp) H) (hS : va_S (fun q => base ≤ q) s.heap H locs)
    {ins : Instr} {st st' : List Value} (hd : decode cc pc = .ok (ins, 3)) (h : sOb cn ins st hp = some (st', hp'))
    (k : ∀ (H1 : Heap) (locs1 : List Loc), va_P D vwCl (pw ρ cy base hp') H1 → va_S (fun q => base ≤ q) s.heap H1 locs1 → W p l e R s m args below meth c H1 locs1 cells slots Q (F0 m (pc + 3) ls (st'.map (pv ρ)))) : W p l e R s m args below meth c H locs cells slots Q (F0 m pc ls (st.map (pv ρ))) := by
  have hDD := pw_D (ρ := ρ) (cy := cy) (base := base) hp
  obtain ⟨hR1, hR2⟩ := hR
  cases ins with
  | invokespecial idx =>
    simp only [sOb] at h
    split at h
    · next a r =>
      split at h
      · next hc =>
        cases h
        have h8 : ((st'.map (pv ρ)).map fun v => v.category).sum ≤ 8 := by rw [pv_cats]; exact hc.2
        refine W.objInit hx hb hown (hts _ (zobj_ok hc.1)) (hts _ zoi_inst) (hts _ zoi_code) rfl hml rfl hd (by omega) ?_ (k H locs hP hS)
        have h9 := lv_room (m := m) (pc := pc) (ls := ls) (rest := st'.map (pv ρ)) h8
        show 2 * (F0 m pc ls (.ref (ρ a) :: st'.map (pv ρ))).monitorRoom + ((st'.map (pv ρ)).map fun v => v.category).sum + 12 ≤ R.locals
        have h10 : (F0 m pc ls (.ref (ρ a) :: st'.map (pv ρ))).monitorRoom = (F0 m pc ls (st'.map (pv ρ))).monitorRoom := rfl
        rw [h10]
        omega
      · cases h
    · cases h
  | invokestatic idx =>
    simp only [sOb] at h
    split at h
    · next n dp a sp a0 r =>
      split at h
      · next hc =>
        split at h
        · next n0 f n1 g hg0 hg1 =>
          split at h
          · cases h
          · next hneg =>
            split at h
            · next hle =>
              cases h
              have h8 : ((st'.map (pv ρ)).map fun v => v.category).sum ≤ 8 := by rw [pv_cats]; exact hc.2
              refine va_copyi (D := D) (ty := .int) hx hb hml.symm hown (hts _ (zcp_ok hc.1)) (hts _ zcp_native) (hts _ zcp_static) (hts _ zcp_init) hK hP hDD hS (a0 - zE) (a - zE) 0 0 (hget_pw (cy := cy) hρ hg0) (hget_pw (cy := cy) hρ hg1) rfl rfl rfl (fun q => hneg (Or.inr (Or.inr q))) (fun q => hneg (Or.inr (Or.inl q))) (fun q => hneg (Or.inl q)) hle.1 hle.2 (fun i _ => rfl) (by omega) ?_ hd (fun H1 locs1 h1 _ h3 => k H1 locs1 ?_ h3)
              · have : nativeFrameWords "java/lang/System" "arraycopy" 5 = 7 := by decide +kernel
                omega
              · rw [← hset_pw (cy := cy) hρ hg1]
                exact h1
            · cases h
        · cases h
      · cases h
    · next y x r _ =>
      split at h
      · next hw =>
        have h8 : ((r.map (pv ρ)).map fun v => v.category).sum ≤ 8 := by rw [pv_cats]; exact hw
        split at h
        · next hc =>
          obtain ⟨rfl, rfl⟩ := hc
          cases h
          exact va_mmax hx hb hml.symm hown (hts _ zMx_l) (hts _ zMx_s) (hts _ zMa_i) (hts _ zMx_c) (by omega) (by omega) hcl hsl hd (k H locs hP hS)
        · split at h
          · next hc =>
            obtain ⟨rfl, rfl⟩ := hc
            cases h
            exact va_mmin hx hb hml.symm hown (hts _ zMn_l) (hts _ zMn_s) (hts _ zMa_i) (hts _ zMn_c) (by omega) (by omega) hcl hsl hd (k H locs hP hS)
          · cases h
      · cases h
    · cases h
  | _ => have h2 : (none : Option (List Value × List PE)) = some (st', hp') := h; cases h2
theorem zouter (c9 : ClassId) (N h0 : Nat) : ∀ i : Nat, Jvm.Free.Multi.outerC c9 N h0 i = arrV c9 N (fun j => va_rf (if j < i then some (h0 + 1 + j) else none))
  | 0 => by
    show ({ cls := c9, slots := Array.replicate N .null, vm := .none } : Cell) = _
    rw [arrV_new]
    refine congrArg (arrV c9 N) (funext fun j => ?_)
    simp [va_rf]
  | i + 1 => by
    show (Jvm.Free.Multi.outerC c9 N h0 i).setSlot i (.ref (h0 + 1 + i)) = _
    rw [zouter c9 N h0 i, arrV_store]
    refine congrArg (arrV c9 N) (funext fun j => ?_)
    by_cases ej : j = i
    · subst ej
      simp [updV, va_rf]
    · by_cases h : j < i
      · simp [updV, ej, h, Nat.lt_succ_of_lt h]
      · simp [updV, ej, h, show ¬ j < i + 1 by omega]
end ZM4
