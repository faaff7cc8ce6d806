/-! Part 6: new long[n][k] -/
section ZM5
variable {p : Program} {l : Launch} {e : Env} {R : Room} {s : State} {m : MethodId} {args : Array Value} {below : List Frame} {meth : Method} {c : Code} {H : Heap} {locs : List Loc} {cells slots : Nat} {Q : State → Prop}
variable {cc : ByteArray} {pc : Nat} {ls : Array Slot} {ρ : Nat → Nat} {cy : Nat → ClassId} {base : Nat} {D : va_G}
set_option maxHeartbeats 8000000 in
theorem zmn_ok (hρ : ∀ a, zE ≤ a → ρ a = base + (a - zE)) (hx : p.tables.exec = Jvm.exec) (hb : c.code = cc) (hts : ∀ w ∈ zWS, w.before args s = true) {cn : Nat} (hown : s.vm.findClass (Rn cn) = some m.cls)
    (hK : va_K D vwCl (zTys cy) s) (hover : (Cond.arrayOver (.array .long)).before args s = true) {hp hp' : List PE} (hP : va_P D vwCl (pw ρ cy base hp) H) (hS : va_S (fun q => base ≤ q) s.heap H locs) (hbs : base ≤ s.heap.size) (hsz : s.heap.size + cells = base + hp.length)
    {idx dim n9 dc dz : Nat} {st st' : List Value} (hd : decode cc pc = .ok (.multianewarray idx dim, n9)) (h : zmn cn idx dim st hp = some (n9, st', hp', dc, dz)) (hcells : cells + dc ≤ R.cells) (hslots : slots + dz ≤ R.slots)
    (kk : ∀ (H1 : Heap), va_P D vwCl (pw ρ cy base hp') H1 → va_S (fun q => base ≤ q) s.heap H1 locs → W p l e R s m args below meth c H1 locs (cells + dc) (slots + dz) Q (F0 m (pc + n9) ls (st'.map (pv ρ)))) : W p l e R s m args below meth c H locs cells slots Q (F0 m pc ls (st.map (pv ρ))) := by
  obtain ⟨n, k, r, rfl, rfl, rfl, rfl, hn, hk, hb1, hb2, rfl, rfl, hp'e, rfl, rfl⟩ := zmn_s h
  intro T hT Xs
  have hHs : H.size = base + hp.length := by
    have h1 := Xs.heapSize
    have h2 := zlow hP (Nat.le_trans hbs hS.1)
    rw [hT] at h1
    omega
  obtain ⟨vm₁, cA, comp, -, fA, fC, hO, -, X', step⟩ := Xs.multianewarray2F (ty := .long) hx hown (hts _ zmn_link) hover (hts _ zac_long) (g := F0 m pc ls (.int k :: .int n :: r.map (pv ρ))) rfl (by rw [hb]; exact hd) rfl hn hk (by omega) (by simp only [componentBytes]; omega) (by omega) rfl rfl hcells hslots
  have e3 : va_RA s (cy 3) .long := (hK.2 3 _ rfl).2
  have e5 : va_RA s (cy 5) (.array .long) := (hK.2 5 _ rfl).2
  have hc3 : comp = cy 3 := Option.some.inj (fC.symm.trans e3)
  have hc5 : cA = cy 5 := Option.some.inj (fA.symm.trans e5)
  subst hc3
  subst hc5
  generalize hF : Jvm.Free.Multi.fill (T.setVm vm₁) (cy 5) (cy 3) n.toNatClampNeg k.toNatClampNeg (defaultValue .long) n.toNatClampNeg = F at X' step
  have hTh : (T.setVm vm₁).heap = H := hT
  obtain ⟨f1, f2, -, -⟩ := Jvm.Free.Multi.fill_facts (T.setVm vm₁) (cy 5) (cy 3) n.toNatClampNeg k.toNatClampNeg (defaultValue .long) n.toNatClampNeg
  rw [hF, hTh] at f1 f2
  have hold : ∀ x : Nat, x < H.size → F.heap[x]? = H[x]? := fun x hx => by
    have := Jvm.Free.Multi.fill_old (T.setVm vm₁) (cy 5) (cy 3) n.toNatClampNeg k.toNatClampNeg (defaultValue .long) (a := x) (by rw [hTh]; exact hx) n.toNatClampNeg
    rw [hF, hTh] at this
    exact this
  have hrow : ∀ j : Nat, j < n.toNatClampNeg → F.heap[H.size + 1 + j]? = some (vp_cell (cy 3) (k.toNatClampNeg, .inr (.inl (fun _ => 0)))) := fun j hj => by
    have := Jvm.Free.Multi.fill_inner (T.setVm vm₁) (cy 5) (cy 3) n.toNatClampNeg k.toNatClampNeg (defaultValue .long) n.toNatClampNeg j hj
    rw [hF, hTh] at this
    rw [this]
    show some ({ cls := cy 3, slots := Array.replicate k.toNatClampNeg (defaultValue .long), vm := .none } : Cell) = some (arrV (cy 3) k.toNatClampNeg (fun _ => .long 0))
    rw [arrV_new]
    rfl
  rw [zouter, hHs] at f2
  have hP1 : va_P D vwCl (pw ρ cy base hp') F.heap := by
    intro i q hq
    have hi := hq
    rw [pw_get, hp'e] at hi
    by_cases h1 : i < hp.length
    · rw [List.getElem?_append_left h1] at hi
      have h3 : (pw ρ cy base hp)[i]? = some q := by rw [pw_get]; exact hi
      have h4 := hP i q h3
      have hlt := h4.lt
      have h5 := hold q.1 hlt
      obtain ⟨a, e9⟩ := q
      cases e9 with
      | inl z => exact h5.trans h4
      | inr o =>
        obtain ⟨r9, hr9, cell, g1, g2⟩ := h4
        exact ⟨r9, hr9, cell, h5.trans g1, g2⟩
    · rw [List.getElem?_append_right (by omega)] at hi
      by_cases h2 : i = hp.length
      · subst h2
        rw [Nat.sub_self] at hi
        cases hi
        show F.heap[base + hp.length]? = some (arrV (cy 5) n.toNatClampNeg (fun j => va_rf ((if j < n.toNatClampNeg then some (zE + hp.length + 1 + j) else none).map ρ)))
        rw [f2]
        congr 2
        funext j
        show va_rf (if j < n.toNatClampNeg then some (base + hp.length + 1 + j) else none) = va_rf ((if j < n.toNatClampNeg then some (zE + hp.length + 1 + j) else none).map ρ)
        split
        · show Value.ref (base + hp.length + 1 + j) = Value.ref (ρ (zE + hp.length + 1 + j))
          rw [show zE + hp.length + 1 + j = zE + (hp.length + 1 + j) by omega, hρ_new hρ]
          have e9 : (base + hp.length + 1 + j : Nat) = base + (hp.length + 1 + j) := by omega
          rw [e9]
        · rfl
      · rw [show i - hp.length = (i - hp.length - 1) + 1 by omega, List.getElem?_cons_succ, List.getElem?_replicate] at hi
        split at hi
        · next hlt =>
          cases hi
          show F.heap[base + i]? = some (vp_cell (cy 3) _)
          have h7 := hrow (i - hp.length - 1) hlt
          rw [hHs, show base + hp.length + 1 + (i - hp.length - 1) = base + i by omega] at h7
          exact h7
        · cases hi
  have hS1 : va_S (fun q => base ≤ q) s.heap F.heap locs := ⟨by rw [f1]; exact Nat.le_trans hS.1 (by omega), fun x h1 h2 => (hold x (Nat.lt_of_lt_of_le h1 hS.1)).trans (hS.2.1 x h1 h2), hS.2.2⟩
  have k2 := kk F.heap hP1 hS1
  rw [List.map_cons, show pv ρ (.ref (zE + hp.length)) = .ref (base + hp.length) from congrArg Value.ref (hρ_new hρ hp.length)] at k2
  obtain ⟨t, a1, b1⟩ := k2 F rfl (by
    have e1 : cells + (1 + n.toNatClampNeg) = cells + 1 + n.toNatClampNeg := by omega
    have e2 : slots + (n.toNatClampNeg + n.toNatClampNeg * k.toNatClampNeg) = slots + n.toNatClampNeg + n.toNatClampNeg * k.toNatClampNeg := by omega
    rw [e1, e2]
    exact X')
  refine ⟨t, step t ?_, b1⟩
  have e0 : T.heap.size = base + hp.length := by rw [hT]; exact hHs
  rw [e0]
  exact a1
end ZM5
