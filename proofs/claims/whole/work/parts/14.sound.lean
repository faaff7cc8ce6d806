/-! Part 8: the given machine follows mine -/
def zKOK (ρ : Nat → Nat) (cy : Nat → ClassId) (base : Nat) (D : va_G) (KX : State → Prop) : Prop :=
  (∀ a, zE ≤ a → ρ a = base + (a - zE)) ∧ (∀ s, KX s → va_K D vwCl (zTys cy) s) ∧ (∀ s, KX s → zNest s) ∧ (∀ s, KX s → va_AO RX8 s) ∧ (∀ (s : State) (a : Array Value), KX s → (Cond.arrayOver (.array .long)).before a s = true) ∧
  (∀ s U : State, KX s → s.WarmedH U.vm → s.heap.size ≤ U.heap.size → (∀ q : Nat, q < s.heap.size → ¬ base ≤ q → U.heap[q]? = s.heap[q]?) → KX U) ∧ (∀ (U : State) (g : JFrame) (mk : MethodId) (a : Array Value), KX U → KX (U.calling g mk a)) ∧
  (∀ (s : State) (H : Heap) (locs : List Loc) (b : Nat), KX s → va_S (fun q => base ≤ q) s.heap H locs → b < 51 → ∃ cell : Cell, H[ρ b]? = some cell ∧ cell.vm.isStatics = false ∧ s.vm.findClass (Rn 20) = some cell.cls)
def zXOK (X : zXT) (l : Launch) (ρ : Nat → Nat) (base : Nat) (KX : State → Prop) : Prop :=
  ∀ (p : Program) (e : Env) (R : Room) (s : State) (m : MethodId) (args : Array Value) (below : List Frame) (meth : Method) (c : Code) (H : Heap) (locs : List Loc) (cells slots : Nat) (Q : State → Prop) (cc : ByteArray) (pc : Nat) (ls : Array Slot) (d cn n : Nat) (ins : Instr) (st st' : List Value),
    X d cn ins st = some (n, st') → (R.frames = d ∧ 41 * d ≤ R.locals) → cells ≤ R.cells → slots ≤ R.slots → p.tables.exec = Jvm.exec → c.code = cc → (∀ w ∈ zWS, w.before args s = true) → s.vm.findClass (Rn cn) = some m.cls → ls.size = c.maxLocals → KX s → va_S (fun q => base ≤ q) s.heap H locs → decode cc pc = .ok (ins, n) →
    W p l e R s m args below meth c H locs cells slots Q (F0 m (pc + n) ls (st'.map (pv ρ))) → W p l e R s m args below meth c H locs cells slots Q (F0 m pc ls (st.map (pv ρ)))
def zPc (ρ : Nat → Nat) (cy : Nat → ClassId) (base : Nat) (D : va_G) (KX : State → Prop) (as : List Value) (hp : List PE) : Array Value → State → Prop := va_Pc (as.map (pv ρ)) (fun U => U.heap.size = base + hp.length ∧ va_P D vwCl (pw ρ cy base hp) U.heap ∧ KX U)
def zQc (ρ : Nat → Nat) (cy : Nat → ClassId) (base : Nat) (D : va_G) (rv : Option Value) (hp' : List PE) : Array Value → State → Outcome → State → Prop := fun _ st o t => (o = .returned (rv.map (pv ρ)) ∧ va_P D vwCl (pw ρ cy base hp') t.heap) ∧ va_F (fun q => base ≤ q) st t
/-- a method's contract, out of a run of mine -/
def zMet (l : Launch) (ρ : Nat → Nat) (cy : Nat → ClassId) (base : Nat) (D : va_G) (KX : State → Prop) (d : Nat) (q : zMI) (as : List Value) (hp : List PE) (rv : Option Value) (hp' : List PE) (c' z' : Nat) : Prop :=
  Met l q.2.1 (Cond.code q.2.1 q.2.2.1 q.2.2.2.1 q.2.2.2.2.1 :: zWS) { frames := d, cells := c', slots := z', locals := 41 * d } (zPc ρ cy base D KX as hp) (zQc ρ cy base D rv hp') c' z' (fun q => base ≤ q)
theorem lv_args_pv (ρ : Nat → Nat) : ∀ (vs : List Value) (i : Nat), lv_args i (vs.map (pv ρ)) = plv ρ (lv_args i vs)
  | [], i => rfl
  | v :: vs, i => by
    show (i, pv ρ v) :: lv_args (if (pv ρ v).category = 2 then i + 2 else i + 1) (vs.map (pv ρ)) = (i, pv ρ v) :: plv ρ (lv_args (if v.category = 2 then i + 2 else i + 1) vs)
    rw [pv_cat, lv_args_pv ρ vs]
theorem lg_sl_pv (ρ : Nat → Nat) (vs : List Value) : (lg_sl (vs.map (pv ρ))).length = (lg_sl vs).length := by
  induction vs with
  | nil => rfl
  | cons v vs ih =>
    unfold lg_sl at ih ⊢
    simp only [List.map_cons, List.flatMap_cons, List.length_append, pv_cat, ih]
    congr 1
    split <;> rfl
section ZM7
variable {p : Program} {l : Launch} {e : Env} {R : Room} {s : State} {m : MethodId} {args : Array Value} {below : List Frame} {meth : Method} {c : Code} {H : Heap} {locs : List Loc} {Q : State → Prop}
variable {ls : Array Slot} {ρ : Nat → Nat} {cy : Nat → ClassId} {base : Nat} {D : va_G} {KX : State → Prop} {X : zXT}
set_option maxHeartbeats 8000000 in
theorem zstep_ok (hKO : zKOK ρ cy base D KX) (hXO : zXOK X l ρ base KX) {d : Nat} {q : zMI} (hR : R.frames = d ∧ 41 * d ≤ R.locals) (hx : p.tables.exec = Jvm.exec) (hb : c.code = q.2.2.1) (hts : ∀ w ∈ zWS, w.before args s = true) (hown : s.vm.findClass (Rn q.1) = some m.cls) (hml : c.maxLocals = q.2.2.2.1)
    (hini : (q.2.2.2.2.2.2 == 1) = true → meth.name = "<init>") (hKs : KX s) {pc pc' c0 z0 c1 z1 len : Nat} {lv lv' : List (Nat × Value)} {st st' : List Value} {hp hp' : List PE} (hP : va_P D vwCl (pw ρ cy base hp) H) (hS : va_S (fun q => base ≤ q) s.heap H locs) (hbs : base ≤ s.heap.size) (hsz : s.heap.size + c0 = base + hp.length)
    (hl : lv_has ls q.2.2.2.1 (plv ρ lv)) {ins : Instr} (hd : decode q.2.2.1 pc = .ok (ins, len)) (h : zstep X d q ins len (pc, lv, st, hp, c0, z0) = some (pc', lv', st', hp', c1, z1)) (hc : c1 ≤ R.cells) (hz : z1 ≤ R.slots)
    (k : ∀ (ls' : Array Slot) (H1 : Heap) (locs1 : List Loc), lv_has ls' q.2.2.2.1 (plv ρ lv') → va_P D vwCl (pw ρ cy base hp') H1 → va_S (fun q => base ≤ q) s.heap H1 locs1 → W p l e R s m args below meth c H1 locs1 c1 z1 Q (F0 m pc' ls' (st'.map (pv ρ)))) : W p l e R s m args below meth c H locs c0 z0 Q (F0 m pc ls (st.map (pv ρ))) := by
  obtain ⟨hρ, k1, k2, k3, k4, k5, k6, k7⟩ := hKO
  simp only [zstep] at h
  split at h
  · next hh => obtain ⟨rfl, e9⟩ := zk_s h; cases e9; exact sStk_ok hx hb hd hh (k ls H locs hl hP hS)
  · split at h
    · next hh => obtain ⟨rfl, e9⟩ := zk_s h; cases e9; exact sLd_ok hx hb hl hd hh (k ls H locs hl hP hS)
    · split at h
      · next hh => obtain ⟨rfl, e9⟩ := zk_s h; cases e9; exact sSv_ok hx hb hl hd hh (fun ls' hl' => k ls' H locs hl' hP hS)
      · split at h
        · next hh => cases h; exact sBr_ok (base := base) hρ hx hb hd hh (k ls H locs hl hP hS)
        · split at h
          · next hh => obtain ⟨rfl, e9⟩ := zk_s h; cases e9; exact sHp_ok hρ hx hb hts hown hini (k1 s hKs) (k2 s hKs) hP hS hd hh (fun H1 locs1 h1 h2 => k ls H1 locs1 hl h1 h2)
          · split at h
            · next hh => obtain ⟨rfl, e9⟩ := zk_s h; cases e9; exact sCo_ok hx hb hts hown hd hh (k ls H locs hl hP hS)
            · split at h
              · next hh =>
                obtain ⟨rfl, e9⟩ := zk_s h
                cases e9
                by_cases hm : ∃ i dd, ins = .multianewarray i dd
                · obtain ⟨i, dd, rfl⟩ := hm
                  exact zmn_ok hρ hx hb hts hown (k1 s hKs) (k4 s args hKs) hP hS hbs hsz hd hh hc hz (fun H1 h1 h2 => k ls H1 locs hl h1 h2)
                · exact sNw_ok hρ hx hb hts hown (k1 s hKs) (k3 s hKs) hP hS hbs hsz hd (fun i dd q => hm ⟨i, dd, q⟩) hh hc hz (fun H1 h1 h2 => k ls H1 locs hl h1 h2)
              · split at h
                · next hh =>
                  split at h
                  · next hd1 =>
                    obtain ⟨rfl, e9⟩ := zk_s h
                    cases e9
                    exact sOb_ok hR hd1 hρ hx hb hts hown (hl.1.trans hml.symm) hc hz (k1 s hKs) hP hS hd hh (fun H1 locs1 h1 h2 => k ls H1 locs1 hl h1 h2)
                  · cases h
                · split at h
                  · next hh =>
                    obtain ⟨rfl, e9⟩ := zk_s h
                    cases e9
                    exact hXO p e R s m args below meth c H locs _ _ Q q.2.2.1 pc ls d q.1 _ ins st _ hh hR hc hz hx hb hts hown (hl.1.trans hml.symm) hKs hS hd (k ls H locs hl hP hS)
                  · cases h
theorem zret_ok {cc : ByteArray} (hx : p.tables.exec = Jvm.exec) (hb : c.code = cc) {ret : Option FieldType} (hr : meth.sig.returnType = ret) (hlocks : meth.locks = false) {hp : List PE} (hP : va_P D vwCl (pw ρ cy base hp) H) (hS : va_S (fun q => base ≤ q) s.heap H locs) {ins : Instr} {pc c0 z0 : Nat} {st : List Value} {rv : Option Value} (hd : decode cc pc = .ok (ins, 1)) (h : zret ret ins st = some rv) :
    W p l e R s m args below meth c H locs c0 z0 (MQ below (zQc ρ cy base D rv hp) args s c0 z0 (fun q => base ≤ q)) (F0 m pc ls (st.map (pv ρ))) := by
  have hq : ∀ t : State, t.heap = H → s.WarmedH t.vm → zQc ρ cy base D rv hp args s (.returned (rv.map (pv ρ))) t := fun t ht hW => ⟨⟨rfl, by rw [ht]; exact hP⟩, hS.F ht⟩
  cases ins with
  | ireturn =>
    simp only [zret] at h
    split at h
    · split at h
      · cases h; exact W.iret hx hb hr hq hS.2.2 hd
      · split at h
        · next hv =>
          cases h
          refine W.zret hx hb hr ?_ hq hS.2.2 hd
          rcases hv with rfl | rfl <;> rfl
        · cases h
      · split at h
        · next hv => cases h; exact W.zret hx hb hr (congrArg Value.int hv) hq hS.2.2 hd
        · cases h
      · split at h
        · next hv => cases h; exact W.zret hx hb hr (congrArg Value.int hv) hq hS.2.2 hd
        · cases h
      · cases h
    · cases h
  | lreturn =>
    simp only [zret] at h
    split at h
    · split at h
      · cases h; exact W.lret hx hb hr hq hS.2.2 hd
      · cases h
    · cases h
  | return_ =>
    simp only [zret] at h
    split at h
    · split at h
      · cases h; exact W.vret hx hb hr hq hS.2.2 hd
      · cases h
    · cases h
  | _ => have h2 : (none : Option (Option Value)) = some rv := h; cases h2
end ZM7
