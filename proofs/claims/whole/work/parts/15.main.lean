/-! Part 9: calls, and the whole -/
/-- what the tables give of a method -/
theorem zmOK_s {q : zMI} (h : zmOK q) : Cond.code q.2.1 q.2.2.1 q.2.2.2.1 q.2.2.2.2.1 ∈ zWS ∧ Cond.initialized q.2.1.cls ∈ zWS ∧ q.2.1.cls = Rn q.1 ∧ plainName q.2.1.cls = true ∧ (q.2.1.cls ≠ "java/lang/invoke/MethodHandle" ∧ q.2.1.cls ≠ "java/lang/invoke/VarHandle" ∧ (parseMethodDescriptor q.2.1.desc).map (fun d => d.parameters.length) = some q.2.2.2.2.2.1) ∧ q.2.2.2.1 ≤ 22 ∧
    (q.2.2.2.2.2.2 = 0 → Cond.instanceMethod q.2.1 ∈ zWS ∧ Cond.selects q.2.1.cls q.2.1 q.2.1 ∈ zWS) ∧ (q.2.2.2.2.2.2 = 1 → Cond.instanceMethod q.2.1 ∈ zWS ∧ q.2.1.name = "<init>" ∧ q.2.2.2.2.1 = none) ∧ (q.2.2.2.2.2.2 = 2 → Cond.static q.2.1 ∈ zWS) := by
  obtain ⟨w, h1, h2⟩ := h
  unfold zmC at h1
  simp only [Bool.and_eq_true, decide_eq_true_eq] at h1
  obtain ⟨⟨⟨⟨⟨⟨⟨a1, a2⟩, a3⟩, a4⟩, a5⟩, a6⟩, a7⟩, a8⟩ := h1
  refine ⟨zin _ h2 rfl, zin _ a2 rfl, a3, a4, ⟨a5, a6, a7⟩, a8, fun e => ?_, fun e => ?_, fun e => ?_⟩
  · rw [e] at a1
    simp only [Bool.and_eq_true, decide_eq_true_eq] at a1
    exact ⟨zin _ a1.1.1 rfl, zin _ a1.1.2 rfl⟩
  · rw [e] at a1
    simp only [Bool.and_eq_true, decide_eq_true_eq] at a1
    exact ⟨zin _ a1.1.1 rfl, a1.1.2, a1.2⟩
  · rw [e] at a1
    simp only [decide_eq_true_eq] at a1
    exact zin _ a1 rfl
theorem zmth_ok {cn idx : Nat} {q : zMI} (h : zmth cn idx = some q) : zmOK q ∧ Cond.methodLink (Rn cn) idx q.2.1 ∈ zWS := by
  unfold zmth at h
  split at h
  · next e9 he =>
    have h1 := List.all_eq_true.mp (zmthC_all cn) e9 (List.mem_of_find?_eq_some he)
    have h2 : e9.1 = idx := by simpa using List.find?_some he
    unfold zmthC at h1
    rw [h] at h1
    obtain ⟨q1, q2, q3⟩ := q
    simp only [decide_eq_true_eq] at h1
    rw [h2] at h1
    exact ⟨zmi_ok h, zin _ h1 rfl⟩
  · cases h
theorem zGw {ws : List Cond} (h : ∀ w ∈ ws, w ∈ zWS) : GoodIn zWS ws := fun w hw => ⟨h w hw, good_of_word (List.mem_filter.mp (h w hw)).2⟩
theorem zInitT : zmOK (12, yX12_init, cX12_init, 1, none, 0, 1) := by
  have h : ∃ j, zmi j = some (12, yX12_init, cX12_init, 1, none, 0, 1) := ⟨161, rfl⟩
  obtain ⟨j, hj⟩ := h
  exact zmi_ok hj
section ZM8
variable {l : Launch} {ρ : Nat → Nat} {cy : Nat → ClassId} {base : Nat} {D : va_G} {KX : State → Prop} {X : zXT}
/-- the walk of a frame -/
def zWalk (l : Launch) (ρ : Nat → Nat) (cy : Nat → ClassId) (base : Nat) (D : va_G) (KX : State → Prop) (d : Nat) (q : zMI) (pc : Nat) (lv : List (Nat × Value)) (st : List Value) (hp : List PE) (c0 z0 : Nat) (rv : Option Value) (hp' : List PE) (c' z' : Nat) : Prop :=
  ∀ (p : Program) (e : Env) (R : Room) (s : State) (m : MethodId) (args : Array Value) (below : List Frame) (meth : Method) (c : Code) (H : Heap) (locs : List Loc) (ls : Array Slot) (Q : State → Prop), (R.frames = d ∧ 41 * d ≤ R.locals) → c' ≤ R.cells → z' ≤ R.slots → p.tables.exec = Jvm.exec → c.code = q.2.2.1 → c.maxLocals = q.2.2.2.1 → s.vm.findClass (Rn q.1) = some m.cls → (∀ w ∈ zWS, w.before args s = true) → ((q.2.2.2.2.2.2 == 1) = true → meth.name = "<init>") → KX s → base ≤ s.heap.size → s.heap.size + c0 = base + hp.length →
    va_P D vwCl (pw ρ cy base hp) H → va_S (fun q => base ≤ q) s.heap H locs → lv_has ls q.2.2.2.1 (plv ρ lv) →
    (∀ (H1 : Heap) (locs1 : List Loc) (ls1 : Array Slot) (pc1 : Nat) (ins1 : Instr) (st1 : List Value), decode q.2.2.1 pc1 = .ok (ins1, 1) → zret q.2.2.2.2.1 ins1 st1 = some rv → va_P D vwCl (pw ρ cy base hp') H1 → va_S (fun q => base ≤ q) s.heap H1 locs1 → W p l e R s m args below meth c H1 locs1 c' z' Q (F0 m pc1 ls1 (st1.map (pv ρ)))) →
    W p l e R s m args below meth c H locs c0 z0 Q (F0 m pc ls (st.map (pv ρ)))
theorem zmet_of {d : Nat} {q : zMI} {as : List Value} {hp : List PE} {rv : Option Value} {hp' : List PE} {c' z' : Nat} (hq : zmOK q) (hlen : (lg_sl as).length ≤ q.2.2.2.1) (hw : zWalk l ρ cy base D KX d q 0 (lv_args 0 as) [] hp 0 0 rv hp' c' z') : zMet l ρ cy base D KX d q as hp rv hp' c' z' := by
  obtain ⟨-, -, hcl, hpl, -, -, -, hi1, -⟩ := zmOK_s hq
  refine Met.ofW (cc := q.2.2.1) (maxL := q.2.2.2.1) (ret := q.2.2.2.2.1) hpl rfl ?_
  intro p e s m args below meth c s₁ B hml hv
  obtain ⟨rfl, hsz, hP, hKx⟩ := hv
  have hts := atoms_spec (ws := Cond.code q.2.1 q.2.2.1 q.2.2.2.1 q.2.2.2.2.1 :: zWS) B.pre
  have hown : s.vm.findClass (Rn q.1) = some m.cls := by rw [← hcl]; exact findClass_of_methodNamed B.named
  have hl := lv_entry (as.map (pv ρ)) (n := q.2.2.2.1) (by rw [lg_sl_pv]; exact hlen)
  rw [lv_args_pv] at hl
  rw [lg_entry_eq]
  have hlocks := B.notSynchronized
  exact hw p e _ s m _ below meth c s.heap [] _ _ ⟨rfl, Nat.le_refl _⟩ (Nat.le_refl _) (Nat.le_refl _) B.exec B.bytes hml hown (fun w h => hts w (List.mem_cons_of_mem _ h)) (fun h => by
    have h1 : q.2.2.2.2.2.2 = 1 := by simpa using h
    rw [(name_of_methodNamed B.named B.method).1]
    exact (hi1 h1).2.1) hKx (by omega) (by omega) hP va_S.rf hl (fun H1 locs1 ls1 pc1 ins1 st1 hd1 hr1 h1 h2 => zret_ok B.exec B.bytes B.returns hlocks h1 h2 hd1 hr1)
theorem zfitA_s {q : zMI} {as rest : List Value} (h : zfitA q as rest = true) : zwd rest ≤ 8 ∧ (lg_sl as).length ≤ q.2.2.2.1 := by
  unfold zfitA at h
  simp only [Bool.and_eq_true, decide_eq_true_eq] at h
  exact h
theorem zcV_s {q q' : zMI} {st as rest : List Value} {hp : List PE} (h : zcV q st hp = some (q', as, rest)) : ∃ b As, q' = q ∧ st = As.reverse ++ .ref b :: rest ∧ as = .ref b :: As ∧ As.length = q.2.2.2.2.2.1 ∧ zrcv q.1 hp b = true ∧ q.2.2.2.2.2.2 = 0 ∧ zwd rest ≤ 8 ∧ (lg_sl as).length ≤ q.2.2.2.1 := by
  unfold zcV at h
  split at h
  · next b rest0 hdr =>
    split at h
    · next hc =>
      cases h
      obtain ⟨h1, h2, h3, h4⟩ := hc
      obtain ⟨h5, h6⟩ := zfitA_s h4
      exact ⟨b, _, rfl, by rw [List.reverse_reverse, ← hdr, List.take_append_drop], rfl, by rw [List.length_reverse]; exact h3, h2, h1, h5, h6⟩
    · cases h
  · cases h
theorem zcI_s {q q' : zMI} {st as rest : List Value} (h : zcI q st = some (q', as, rest)) : ∃ b As, q' = q ∧ st = As.reverse ++ .ref b :: rest ∧ as = .ref b :: As ∧ As.length = q.2.2.2.2.2.1 ∧ q.2.2.2.2.2.2 = 1 ∧ zwd rest ≤ 8 ∧ (lg_sl as).length ≤ q.2.2.2.1 := by
  unfold zcI at h
  split at h
  · next b rest0 hdr =>
    split at h
    · next hc =>
      cases h
      obtain ⟨h1, h3, h4⟩ := hc
      obtain ⟨h5, h6⟩ := zfitA_s h4
      exact ⟨b, _, rfl, by rw [List.reverse_reverse, ← hdr, List.take_append_drop], rfl, by rw [List.length_reverse]; exact h3, h1, h5, h6⟩
    · cases h
  · cases h
theorem zcS_s {q q' : zMI} {st as rest : List Value} (h : zcS q st = some (q', as, rest)) : q' = q ∧ st = as.reverse ++ rest ∧ as.length = q.2.2.2.2.2.1 ∧ q.2.2.2.2.2.2 = 2 ∧ zwd rest ≤ 8 ∧ (lg_sl as).length ≤ q.2.2.2.1 := by
  unfold zcS at h
  split at h
  · next hc =>
    cases h
    obtain ⟨h1, h3, h4⟩ := hc
    obtain ⟨h5, h6⟩ := zfitA_s h4
    exact ⟨rfl, by rw [List.reverse_reverse, List.take_append_drop], by rw [List.length_reverse]; exact h3, h1, h5, h6⟩
  · cases h
set_option maxHeartbeats 8000000 in
/-- a call: the callee's contract, and the walk behind it -/
theorem zcal_ok (hKO : zKOK ρ cy base D KX) {p : Program} {e : Env} {R : Room} {s : State} {m : MethodId} {args : Array Value} {below : List Frame} {meth : Method} {c : Code} {H : Heap} {locs : List Loc} {Q : State → Prop} {cc : ByteArray} {pc nL cn d' c0 z0 c1 z1 : Nat} {ls : Array Slot}
    (hR : R.frames = d' + 1 ∧ 41 * (d' + 1) ≤ R.locals) (hx : p.tables.exec = Jvm.exec) (hb : c.code = cc) (hml : c.maxLocals = nL) (hls : ls.size = nL) (hts : ∀ w ∈ zWS, w.before args s = true) (hown : s.vm.findClass (Rn cn) = some m.cls) (hKs : KX s) {hp hp1 : List PE} (hP : va_P D vwCl (pw ρ cy base hp) H) (hS : va_S (fun q => base ≤ q) s.heap H locs) (hbs : base ≤ s.heap.size) (hsz : s.heap.size + c0 = base + hp.length)
    {ins : Instr} {q' : zMI} {st as rest : List Value} {rv : Option Value} (hd : decode cc pc = .ok (ins, 3)) (h : zcal cn ins st hp = some (q', as, rest)) (hM : zmOK q' → (lg_sl as).length ≤ q'.2.2.2.1 → zMet l ρ cy base D KX d' q' as hp rv hp1 c1 z1) (hc : c0 + c1 ≤ R.cells) (hz : z0 + z1 ≤ R.slots)
    (k : ∀ (H1 : Heap) (locs1 : List Loc), va_P D vwCl (pw ρ cy base hp1) H1 → va_S (fun q => base ≤ q) s.heap H1 locs1 → W p l e R s m args below meth c H1 locs1 (c0 + c1) (z0 + z1) Q (F0 m (pc + 3) ls ((rv.toList ++ rest).map (pv ρ)))) : W p l e R s m args below meth c H locs c0 z0 Q (F0 m pc ls (st.map (pv ρ))) := by
  obtain ⟨hρ, k1, k2, k3, k4, k5, k6, k7⟩ := hKO
  intro T hT Xs
  have hHs : H.size = base + hp.length := by
    have h1 := Xs.heapSize
    have h2 := zlow hP (Nat.le_trans hbs hS.1)
    rw [hT] at h1
    omega
  have hblind : FrameBlind (zPc ρ cy base D KX as hp) := fun a U g mk h => ⟨h.1, h.2.1, h.2.2.1, k6 U g mk a h.2.2.2⟩
  have hpre : ∀ U : State, U.heap = H → s.WarmedH U.vm → zPc ρ cy base D KX as hp (as.map (pv ρ)).toArray U := fun U hU hW => ⟨rfl, by rw [hU]; exact hHs, by rw [hU]; exact hP, k5 s U hKs hW (by rw [hU]; exact hS.1) (fun q h1 h2 => by rw [hU]; exact hS.2.1 q h1 h2)⟩
  have fin : ∀ (as9 : Array Value), va_Run p l e R s m args below meth c H locs c0 z0 c1 z1 (F0 m pc ls (st.map (pv ρ))) (rest.map (pv ρ)) (zQc ρ cy base D rv hp1 as9) (fun q => base ≤ q) → ∃ t, Steps p.tables e below (T.setTop (F0 m pc ls (st.map (pv ρ)))) t ∧ Q t := by
    intro as9 hr
    obtain ⟨v, st₀, t, T', L, h0, X', hL, e1, e2, ⟨⟨hv, hP1⟩, hz1, hk1⟩, goes⟩ := hr T hT Xs
    cases hv
    rw [h0] at hz1 hk1
    have k9 := k T'.heap (locs ++ L) (by rw [e1]; exact hP1) ⟨Nat.le_trans hS.1 (by rw [e1]; exact hz1), fun q h1 h2 => by rw [e1, hk1 q (Nat.lt_of_lt_of_le h1 hS.1) h2]; exact hS.2.1 q h1 h2, fun q hq => by
      rcases List.mem_append.mp hq with h | h
      · exact hS.2.2 q h
      · exact hL q h⟩
    have hst : (rv.toList ++ rest).map (pv ρ) = (rv.map (pv ρ)).toList ++ rest.map (pv ρ) := by cases rv <;> rfl
    rw [hst] at k9
    obtain ⟨t2, a1, b1⟩ := k9 T' rfl X'
    exact ⟨t2, goes t2 a1, b1⟩
  have hroom : ∀ q9 : zMI, q9.2.2.2.1 ≤ 22 → ({ frames := d', cells := c1, slots := z1, locals := 41 * d' } : Room).frames + 1 ≤ R.frames ∧ 8 + (q9.2.2.2.1 + 11) + ({ frames := d', cells := c1, slots := z1, locals := 41 * d' } : Room).locals ≤ R.locals := fun q9 h9 => ⟨by rw [hR.1]; exact Nat.le_refl _, by have h7 := hR.2; show 8 + (q9.2.2.2.1 + 11) + 41 * d' ≤ R.locals; omega⟩
  have hfix : CallFix p m c cc nL s args zWS (Rn cn) := ⟨hx, hb, hml, hown, hts⟩
  have hrest : zwd rest ≤ 8 → 2 * (F0 m pc ls (st.map (pv ρ))).monitorRoom + ((rest.map (pv ρ)).map fun v => v.category).sum ≤ 8 := fun h8 => lv_room (by rw [pv_cats]; exact h8)
  cases ins with
  | invokevirtual idx =>
    simp only [zcal] at h
    split at h
    · next q hq =>
      obtain ⟨hq1, hlink⟩ := zmth_ok hq
      obtain ⟨b, As, rfl, hst, rfl, hn, hg, hk0, h8, hlen⟩ := zcV_s h
      obtain ⟨w1, w2, w3, w4, w5, w6, w7, -, -⟩ := zmOK_s hq1
      obtain ⟨w8, w9⟩ := w7 hk0
      have hM' := hM hq1 hlen
      refine fin _ (va_runV (As := As.map (pv ρ)) (b := ρ b) (C := q'.2.1.cls) hfix hM' (cwV q'.2.2.2.2.2.1 hts (zGw ?_) rfl rfl rfl ⟨rfl, w5⟩ (hroom q' w6)) ⟨hblind, ?_, hpre⟩ rfl (by rw [List.length_map]; exact hn) hls (by show st.map (pv ρ) = _; rw [hst, List.map_append, List.map_reverse]; rfl) (hrest h8) hd ⟨hc, hz⟩)
      · intro w hw
        simp only [wsV, List.cons_append, List.nil_append, List.mem_cons] at hw
        rcases hw with rfl | rfl | rfl | rfl | rfl | hw
        · exact hlink
        · exact w8
        · exact w9
        · exact w2
        · exact w1
        · exact hw
      · rw [w3]
        unfold zrcv at hg
        split at hg
        · next ci fs hgg =>
          simp only [Bool.and_eq_true, decide_eq_true_eq] at hg
          obtain ⟨rfl, h14⟩ := hg
          exact va_recv (k1 s hKs) hP (zcl h14).1 (hget_pw (cy := cy) hρ hgg)
        · simp only [Bool.and_eq_true, decide_eq_true_eq] at hg
          rw [hg.1]
          exact k7 s H locs b hKs hS hg.2
    · cases h
  | invokespecial idx =>
    simp only [zcal] at h
    split at h
    · next q hq =>
      obtain ⟨hq1, hlink⟩ := zmth_ok hq
      obtain ⟨b, As, rfl, hst, rfl, hn, hk0, h8, hlen⟩ := zcI_s h
      obtain ⟨w1, w2, w3, w4, w5, w6, -, w7, -⟩ := zmOK_s hq1
      obtain ⟨w8, w9, w10⟩ := w7 hk0
      have hM' := hM hq1 hlen
      unfold zMet at hM'
      rw [w10] at hM' w1
      exact fin _ (va_runI (As := As.map (pv ρ)) (b := ρ b) hfix hM' (cwI q'.2.2.2.2.2.1 hts (zGw (fun w hw => (List.mem_cons.mp hw).elim (fun e9 => e9 ▸ w1) id)) rfl rfl rfl (hts _ w2) (hts _ hlink) (hts _ w8) w9 w5 (hroom q' w6)) ⟨hblind, hpre⟩ rfl (by rw [List.length_map]; exact hn) hls (by show st.map (pv ρ) = _; rw [hst, List.map_append, List.map_reverse]; rfl) (hrest h8) hd ⟨hc, hz⟩)
    · split at h
      · next hcn =>
        obtain ⟨rfl, rfl⟩ := hcn
        obtain ⟨b, As, rfl, hst, rfl, hn, hk0, h8, hlen⟩ := zcI_s h
        obtain ⟨w1, w2, w3, w4, w5, w6, -, w7, -⟩ := zmOK_s zInitT
        obtain ⟨w8, w9, w10⟩ := w7 hk0
        have hM' := hM zInitT hlen
        have hnl := k2 s hKs _ zmN_link rfl
        exact fin _ (va_runIN (As := As.map (pv ρ)) (b := ρ b) hfix hM' ⟨va_cnB 0 hts (zGw (fun w hw => (List.mem_cons.mp hw).elim (fun e9 => e9 ▸ w1) id)) rfl rfl rfl hnl (hts _ w2) w5 (hroom _ w6), w9, hts _ w8⟩ ⟨hblind, hpre⟩ rfl (by rw [List.length_map]; exact hn) hls (by show st.map (pv ρ) = _; rw [hst, List.map_append, List.map_reverse]; rfl) (hrest h8) hd ⟨hc, hz⟩)
      · cases h
  | invokestatic idx =>
    simp only [zcal] at h
    split at h
    · next q hq =>
      obtain ⟨hq1, hlink⟩ := zmth_ok hq
      obtain ⟨rfl, hst, hn, hk0, h8, hlen⟩ := zcS_s h
      obtain ⟨w1, w2, w3, w4, w5, w6, -, -, w7⟩ := zmOK_s hq1
      have w8 := w7 hk0
      have hM' := hM hq1 hlen
      refine fin _ (va_runS (As := as.map (pv ρ)) hfix hM' (va_cwS q'.2.2.2.2.2.1 hts (zGw ?_) rfl rfl rfl w5 (hroom q' w6)) ⟨hblind, hpre⟩ rfl (by rw [List.length_map]; exact hn) hls (by show st.map (pv ρ) = _; rw [hst, List.map_append, List.map_reverse]) (hrest h8) hd ⟨hc, hz⟩)
      intro w hw
      simp only [va_wsS, List.cons_append, List.nil_append, List.mem_cons] at hw
      rcases hw with rfl | rfl | rfl | rfl | hw
      · exact hlink
      · exact w8
      · exact w2
      · exact w1
      · exact hw
    · cases h
  | _ => have h2 : (none : Option (zMI × List Value × List Value)) = some (q', as, rest) := h; cases h2
set_option maxHeartbeats 8000000 in
/-- the given machine follows every run of mine -/
theorem zrun_ok (hKO : zKOK ρ cy base D KX) (hXO : zXOK X l ρ base KX) : ∀ (n d : Nat) (q : zMI) (pc : Nat) (lv : List (Nat × Value)) (st : List Value) (hp : List PE) (c0 z0 : Nat) (rv : Option Value) (hp' : List PE) (c' z' : Nat), zrun X n d q (pc, lv, st, hp, c0, z0) = some (rv, hp', c', z') → zWalk l ρ cy base D KX d q pc lv st hp c0 z0 rv hp' c' z' := by
  intro n
  induction n with
  | zero => intro d q pc lv st hp c0 z0 rv hp' c' z' h; cases h
  | succ n ih =>
    intro d q pc lv st hp c0 z0 rv hp' c' z' h
    intro p e R s m args below meth c H locs ls Q hR hRc hRz hx hb hml hown hts hini hKs hbs hsz hP hS hl hret
    rw [zrun_s] at h
    simp only [zbody] at h
    split at h
    · next ins len hd =>
      split at h
      · next x' hs =>
        obtain ⟨pc1, lv1, st1, hp1, c1, z1⟩ := x'
        have hcn := zrun_cnt X _ _ _ _ _ _ _ _ _ _ _ _ _ h
        have hcs := zstep_cnt hs
        refine zstep_ok hKO hXO (q := q) hR hx hb hts hown hml hini hKs hP hS hbs hsz hl hd hs (Nat.le_trans hcn.2.1 hRc) (Nat.le_trans hcn.2.2 hRz) (fun ls' H1 locs1 hl' h1 h2 => ?_)
        exact ih _ _ _ _ _ _ _ _ _ _ _ _ h p e R s m args below meth c H1 locs1 ls' Q hR hRc hRz hx hb hml hown hts hini hKs hbs (by have := hcs.1; omega) h1 h2 hl' hret
      · split at h
        · next rv9 hrv =>
          split at h
          · next hlen =>
            cases h
            subst hlen
            exact hret H locs ls pc ins st hd hrv hP hS
          · cases h
        · split at h
          · cases h
          · next d' =>
            split at h
            · next q' as rest hcl =>
              split at h
              · next hlen =>
                subst hlen
                split at h
                · next rv1 hp1 c1 z1 hcr =>
                  have hcn := zrun_cnt X _ _ _ _ _ _ _ _ _ _ _ _ _ h
                  have hcc := zrun_cnt X _ _ _ _ _ _ _ _ _ _ _ _ _ hcr
                  refine zcal_ok (rv := rv1) (hp1 := hp1) (c1 := c1) (z1 := z1) hKO hR hx hb hml hl.1 hts hown hKs hP hS hbs hsz hd hcl (fun hq hlen => zmet_of hq hlen (ih _ _ _ _ _ _ _ _ _ _ _ _ hcr)) (Nat.le_trans hcn.2.1 hRc) (Nat.le_trans hcn.2.2 hRz) (fun H1 locs1 h1 h2 => ?_)
                  exact ih _ _ _ _ _ _ _ _ _ _ _ _ h p e R s m args below meth c H1 locs1 ls Q hR hRc hRz hx hb hml hown hts hini hKs hbs (by have := hcc.1; omega) h1 h2 hl hret
                · cases h
              · cases h
            · cases h
    · cases h
end ZM8
