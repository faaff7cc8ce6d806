/-! whole, out of a relation of the two states that each pair of calls keeps with one answer -/
def zI (Rel : zσ → zσ → Prop) (hp : List PE) : Prop := ∃ s t, hp = zmk s t ∧ Rel s t
/-- the pair of a call: both models end, with one answer, in states of the relation -/
def zPair (Rel : zσ → zσ → Prop) (fc fm : Nat → zσ → Option (Int32 × zσ)) : Prop := ∀ s t, Rel s t → ∃ n m v s2 t2, fc n s = some (v, s2) ∧ fm m t = some (v, t2) ∧ Rel s2 t2
theorem zk_feed {Rel : zσ → zσ → Prop} (h : ∀ (a : Int64), ∀ (b : Int32), zPair Rel (fun n s => f19 n a b s) (fun n s => f162 n a b s)) : zK_feed (zI Rel) (zI Rel) := by
  intro a b hp hI
  obtain ⟨s, t, rfl, hR⟩ := hI
  obtain ⟨n, m, v, s2, t2, h1, h2, h3⟩ := h a b s t hR
  exact ⟨zmk s2 t2, ⟨s2, t2, rfl, h3⟩, v, zmk s2 t, rcv_m rfl rfl (by decide), fun fz L xs => ⟨f19_ok (by omega) h1, f162_ok (by omega) h2⟩⟩
theorem zk_module {Rel : zσ → zσ → Prop} (h : zPair Rel (fun n s => f20 n s) (fun n s => f163 n s)) : zK_module (zI Rel) (zI Rel) := by
  intro hp hI
  obtain ⟨s, t, rfl, hR⟩ := hI
  obtain ⟨n, m, v, s2, t2, h1, h2, h3⟩ := h s t hR
  exact ⟨zmk s2 t2, ⟨s2, t2, rfl, h3⟩, v, zmk s2 t, rcv_m rfl rfl (by decide), fun fz L xs => ⟨f20_ok (by omega) h1, f163_ok (by omega) h2⟩⟩
theorem zk_place {Rel : zσ → zσ → Prop} (h : zPair Rel (fun n s => f69 n s) (fun n s => f204 n s)) : zK_place (zI Rel) (zI Rel) := by
  intro hp hI
  obtain ⟨s, t, rfl, hR⟩ := hI
  obtain ⟨n, m, v, s2, t2, h1, h2, h3⟩ := h s t hR
  exact ⟨zmk s2 t2, ⟨s2, t2, rfl, h3⟩, v, zmk s2 t, rcv_m rfl rfl (by decide), fun fz L xs => ⟨f69_ok (by omega) h1, f204_ok (by omega) h2⟩⟩
theorem zk_declared {Rel : zσ → zσ → Prop} (h : ∀ (a : Int32), zPair Rel (fun n s => f70 n a s) (fun n s => f205 n a s)) : zK_declared (zI Rel) (zI Rel) := by
  intro a hp hI
  obtain ⟨s, t, rfl, hR⟩ := hI
  obtain ⟨n, m, v, s2, t2, h1, h2, h3⟩ := h a s t hR
  exact ⟨zmk s2 t2, ⟨s2, t2, rfl, h3⟩, v, zmk s2 t, rcv_m rfl rfl (by decide), fun fz L xs => ⟨f70_ok (by omega) h1, f205_ok (by omega) h2⟩⟩
theorem zk_find {Rel : zσ → zσ → Prop} (h : ∀ (a : Int32), ∀ (b : Int64), zPair Rel (fun n s => f71 n a b s) (fun n s => f206 n a b s)) : zK_find (zI Rel) (zI Rel) := by
  intro a b hp hI
  obtain ⟨s, t, rfl, hR⟩ := hI
  obtain ⟨n, m, v, s2, t2, h1, h2, h3⟩ := h a b s t hR
  exact ⟨zmk s2 t2, ⟨s2, t2, rfl, h3⟩, v, zmk s2 t, rcv_m rfl rfl (by decide), fun fz L xs => ⟨f71_ok (by omega) h1, f206_ok (by omega) h2⟩⟩
theorem zk_processors {Rel : zσ → zσ → Prop} (h : ∀ (a : Int32), zPair Rel (fun n s => f72 n a s) (fun n s => f207 n a s)) : zK_processors (zI Rel) (zI Rel) := by
  intro a hp hI
  obtain ⟨s, t, rfl, hR⟩ := hI
  obtain ⟨n, m, v, s2, t2, h1, h2, h3⟩ := h a s t hR
  exact ⟨zmk s2 t2, ⟨s2, t2, rfl, h3⟩, v, zmk s2 t, rcv_m rfl rfl (by decide), fun fz L xs => ⟨f72_ok (by omega) h1, f207_ok (by omega) h2⟩⟩
theorem zk_begin {Rel : zσ → zσ → Prop} (h : zPair Rel (fun n s => f73 n s) (fun n s => f208 n s)) : zK_begin (zI Rel) (zI Rel) := by
  intro hp hI
  obtain ⟨s, t, rfl, hR⟩ := hI
  obtain ⟨n, m, v, s2, t2, h1, h2, h3⟩ := h s t hR
  exact ⟨zmk s2 t2, ⟨s2, t2, rfl, h3⟩, v, zmk s2 t, rcv_m rfl rfl (by decide), fun fz L xs => ⟨f73_ok (by omega) h1, f208_ok (by omega) h2⟩⟩
theorem zk_run {Rel : zσ → zσ → Prop} (h : ∀ (a : Int32), zPair Rel (fun n s => f82 n a s) (fun n s => f221 n a s)) : zK_run (zI Rel) (zI Rel) := by
  intro a hp hI
  obtain ⟨s, t, rfl, hR⟩ := hI
  obtain ⟨n, m, v, s2, t2, h1, h2, h3⟩ := h a s t hR
  exact ⟨zmk s2 t2, ⟨s2, t2, rfl, h3⟩, v, zmk s2 t, rcv_m rfl rfl (by decide), fun fz L xs => ⟨f82_ok (by omega) h1, f221_ok (by omega) h2⟩⟩
theorem zk_trigger {Rel : zσ → zσ → Prop} (h : ∀ (a : Int32), zPair Rel (fun n s => f133 n a s) (fun n s => f267 n a s)) : zK_trigger (zI Rel) (zI Rel) := by
  intro a hp hI
  obtain ⟨s, t, rfl, hR⟩ := hI
  obtain ⟨n, m, v, s2, t2, h1, h2, h3⟩ := h a s t hR
  exact ⟨zmk s2 t2, ⟨s2, t2, rfl, h3⟩, v, zmk s2 t, rcv_m rfl rfl (by decide), fun fz L xs => ⟨f133_ok (by omega) h1, f267_ok (by omega) h2⟩⟩
theorem zk_send {Rel : zσ → zσ → Prop} (h : ∀ (a : Int32), ∀ (b : Int32), zPair Rel (fun n s => f135 n a b s) (fun n s => f268 n a b s)) : zK_send (zI Rel) (zI Rel) := by
  intro a b hp hI
  obtain ⟨s, t, rfl, hR⟩ := hI
  obtain ⟨n, m, v, s2, t2, h1, h2, h3⟩ := h a b s t hR
  exact ⟨zmk s2 t2, ⟨s2, t2, rfl, h3⟩, v, zmk s2 t, rcv_m rfl rfl (by decide), fun fz L xs => ⟨f135_ok (by omega) h1, f268_ok (by omega) h2⟩⟩
theorem zk_task {Rel : zσ → zσ → Prop} (h : ∀ (a : Int32), ∀ (b : Int32), zPair Rel (fun n s => f137 n a b s) (fun n s => f269 n a b s)) : zK_task (zI Rel) (zI Rel) := by
  intro a b hp hI
  obtain ⟨s, t, rfl, hR⟩ := hI
  obtain ⟨n, m, v, s2, t2, h1, h2, h3⟩ := h a b s t hR
  exact ⟨zmk s2 t2, ⟨s2, t2, rfl, h3⟩, v, zmk s2 t, rcv_m rfl rfl (by decide), fun fz L xs => ⟨f137_ok (by omega) h1, f269_ok (by omega) h2⟩⟩
theorem zk_value {Rel : zσ → zσ → Prop} (h : ∀ (a : Int32), zPair Rel (fun n s => f139 n a s) (fun n s => f271 n a s)) : zK_value (zI Rel) (zI Rel) := by
  intro a hp hI
  obtain ⟨s, t, rfl, hR⟩ := hI
  obtain ⟨n, m, v, s2, t2, h1, h2, h3⟩ := h a s t hR
  exact ⟨zmk s2 t2, ⟨s2, t2, rfl, h3⟩, v, zmk s2 t, rcv_m rfl rfl (by decide), fun fz L xs => ⟨f139_ok (by omega) h1, f271_ok (by omega) h2⟩⟩
theorem zk_item {Rel : zσ → zσ → Prop} (h : ∀ (a : Int32), ∀ (b : Int32), zPair Rel (fun n s => f140 n a b s) (fun n s => f272 n a b s)) : zK_item (zI Rel) (zI Rel) := by
  intro a b hp hI
  obtain ⟨s, t, rfl, hR⟩ := hI
  obtain ⟨n, m, v, s2, t2, h1, h2, h3⟩ := h a b s t hR
  exact ⟨zmk s2 t2, ⟨s2, t2, rfl, h3⟩, v, zmk s2 t, rcv_m rfl rfl (by decide), fun fz L xs => ⟨f140_ok (by omega) h1, f272_ok (by omega) h2⟩⟩
theorem zk_one {Rel : zσ → zσ → Prop} (h : ∀ (a : Int32), ∀ (b : Int32), zPair Rel (fun n s => f141 n a b s) (fun n s => f273 n a b s)) : zK_one (zI Rel) (zI Rel) := by
  intro a b hp hI
  obtain ⟨s, t, rfl, hR⟩ := hI
  obtain ⟨n, m, v, s2, t2, h1, h2, h3⟩ := h a b s t hR
  exact ⟨zmk s2 t2, ⟨s2, t2, rfl, h3⟩, v, zmk s2 t, rcv_m rfl rfl (by decide), fun fz L xs => ⟨f141_ok (by omega) h1, f273_ok (by omega) h2⟩⟩
theorem zk_sema {Rel : zσ → zσ → Prop} (h : ∀ (a : Int32), zPair Rel (fun n s => f142 n a s) (fun n s => f274 n a s)) : zK_sema (zI Rel) (zI Rel) := by
  intro a hp hI
  obtain ⟨s, t, rfl, hR⟩ := hI
  obtain ⟨n, m, v, s2, t2, h1, h2, h3⟩ := h a s t hR
  exact ⟨zmk s2 t2, ⟨s2, t2, rfl, h3⟩, v, zmk s2 t, rcv_m rfl rfl (by decide), fun fz L xs => ⟨f142_ok (by omega) h1, f274_ok (by omega) h2⟩⟩
theorem zk_bolt {Rel : zσ → zσ → Prop} (h : ∀ (a : Int32), ∀ (b : Int32), zPair Rel (fun n s => f143 n a b s) (fun n s => f275 n a b s)) : zK_bolt (zI Rel) (zI Rel) := by
  intro a b hp hI
  obtain ⟨s, t, rfl, hR⟩ := hI
  obtain ⟨n, m, v, s2, t2, h1, h2, h3⟩ := h a b s t hR
  exact ⟨zmk s2 t2, ⟨s2, t2, rfl, h3⟩, v, zmk s2 t, rcv_m rfl rfl (by decide), fun fz L xs => ⟨f143_ok (by omega) h1, f275_ok (by omega) h2⟩⟩
theorem zk_irpt {Rel : zσ → zσ → Prop} (h : ∀ (a : Int32), ∀ (b : Int32), zPair Rel (fun n s => f144 n a b s) (fun n s => f276 n a b s)) : zK_irpt (zI Rel) (zI Rel) := by
  intro a b hp hI
  obtain ⟨s, t, rfl, hR⟩ := hI
  obtain ⟨n, m, v, s2, t2, h1, h2, h3⟩ := h a b s t hR
  exact ⟨zmk s2 t2, ⟨s2, t2, rfl, h3⟩, v, zmk s2 t, rcv_m rfl rfl (by decide), fun fz L xs => ⟨f144_ok (by omega) h1, f276_ok (by omega) h2⟩⟩
theorem zk_sent {Rel : zσ → zσ → Prop} (h : ∀ (a : Int32), ∀ (b : Int32), zPair Rel (fun n s => f145 n a b s) (fun n s => f277 n a b s)) : zK_sent (zI Rel) (zI Rel) := by
  intro a b hp hI
  obtain ⟨s, t, rfl, hR⟩ := hI
  obtain ⟨n, m, v, s2, t2, h1, h2, h3⟩ := h a b s t hR
  exact ⟨zmk s2 t2, ⟨s2, t2, rfl, h3⟩, v, zmk s2 t, rcv_m rfl rfl (by decide), fun fz L xs => ⟨f145_ok (by omega) h1, f277_ok (by omega) h2⟩⟩
theorem zk_waits {Rel : zσ → zσ → Prop} (h : ∀ (a : Int32), ∀ (b : Int32), ∀ (c : Int32), zPair Rel (fun n s => f146 n a b c s) (fun n s => f278 n a b c s)) : zK_waits (zI Rel) (zI Rel) := by
  intro a b c hp hI
  obtain ⟨s, t, rfl, hR⟩ := hI
  obtain ⟨n, m, v, s2, t2, h1, h2, h3⟩ := h a b c s t hR
  exact ⟨zmk s2 t2, ⟨s2, t2, rfl, h3⟩, v, zmk s2 t, rcv_m rfl rfl (by decide), fun fz L xs => ⟨f146_ok (by omega) h1, f278_ok (by omega) h2⟩⟩
theorem zk_schedule {Rel : zσ → zσ → Prop} (h : ∀ (a : Int32), ∀ (b : Int32), ∀ (c : Int32), zPair Rel (fun n s => f149 n a b c s) (fun n s => f280 n a b c s)) : zK_schedule (zI Rel) (zI Rel) := by
  intro a b c hp hI
  obtain ⟨s, t, rfl, hR⟩ := hI
  obtain ⟨n, m, v, s2, t2, h1, h2, h3⟩ := h a b c s t hR
  exact ⟨zmk s2 t2, ⟨s2, t2, rfl, h3⟩, v, zmk s2 t, rcv_m rfl rfl (by decide), fun fz L xs => ⟨f149_ok (by omega) h1, f280_ok (by omega) h2⟩⟩
theorem zk_ring {Rel : zσ → zσ → Prop} (h : ∀ (a : Int32), zPair Rel (fun n s => f151 n a s) (fun n s => f281 n a s)) : zK_ring (zI Rel) (zI Rel) := by
  intro a hp hI
  obtain ⟨s, t, rfl, hR⟩ := hI
  obtain ⟨n, m, v, s2, t2, h1, h2, h3⟩ := h a s t hR
  exact ⟨zmk s2 t2, ⟨s2, t2, rfl, h3⟩, v, zmk s2 t, rcv_m rfl rfl (by decide), fun fz L xs => ⟨f151_ok (by omega) h1, f281_ok (by omega) h2⟩⟩
theorem zk_logged {Rel : zσ → zσ → Prop} (h : ∀ (a : Int32), zPair Rel (fun n s => f154 n a s) (fun n s => f283 n a s)) : zK_logged (zI Rel) (zI Rel) := by
  intro a hp hI
  obtain ⟨s, t, rfl, hR⟩ := hI
  obtain ⟨n, m, v, s2, t2, h1, h2, h3⟩ := h a s t hR
  exact ⟨zmk s2 t2, ⟨s2, t2, rfl, h3⟩, v, zmk s2 t, rcv_m rfl rfl (by decide), fun fz L xs => ⟨f154_ok (by omega) h1, f283_ok (by omega) h2⟩⟩
theorem zk_induced {Rel : zσ → zσ → Prop} (h : ∀ (a : Int32), ∀ (b : Int32), zPair Rel (fun n s => f156 n a b s) (fun n s => f284 n a b s)) : zK_induced (zI Rel) (zI Rel) := by
  intro a b hp hI
  obtain ⟨s, t, rfl, hR⟩ := hI
  obtain ⟨n, m, v, s2, t2, h1, h2, h3⟩ := h a b s t hR
  exact ⟨zmk s2 t2, ⟨s2, t2, rfl, h3⟩, v, zmk s2 t, rcv_m rfl rfl (by decide), fun fz L xs => ⟨f156_ok (by omega) h1, f284_ok (by omega) h2⟩⟩
theorem zk_count {Rel : zσ → zσ → Prop} (h : ∀ (a : Int32), zPair Rel (fun n s => f158 n a s) (fun n s => f285 n a s)) : zK_count (zI Rel) (zI Rel) := by
  intro a hp hI
  obtain ⟨s, t, rfl, hR⟩ := hI
  obtain ⟨n, m, v, s2, t2, h1, h2, h3⟩ := h a s t hR
  exact ⟨zmk s2 t2, ⟨s2, t2, rfl, h3⟩, v, zmk s2 t, rcv_m rfl rfl (by decide), fun fz L xs => ⟨f158_ok (by omega) h1, f285_ok (by omega) h2⟩⟩
/-- all pairs -/
def zPairs (Rel : zσ → zσ → Prop) : Prop := (∀ (a : Int64), ∀ (b : Int32), zPair Rel (fun n s => f19 n a b s) (fun n s => f162 n a b s)) ∧ (zPair Rel (fun n s => f20 n s) (fun n s => f163 n s)) ∧ (zPair Rel (fun n s => f69 n s) (fun n s => f204 n s)) ∧ (∀ (a : Int32), zPair Rel (fun n s => f70 n a s) (fun n s => f205 n a s)) ∧ (∀ (a : Int32), ∀ (b : Int64), zPair Rel (fun n s => f71 n a b s) (fun n s => f206 n a b s)) ∧ (∀ (a : Int32), zPair Rel (fun n s => f72 n a s) (fun n s => f207 n a s)) ∧ (zPair Rel (fun n s => f73 n s) (fun n s => f208 n s)) ∧ (∀ (a : Int32), zPair Rel (fun n s => f82 n a s) (fun n s => f221 n a s)) ∧ (∀ (a : Int32), zPair Rel (fun n s => f133 n a s) (fun n s => f267 n a s)) ∧ (∀ (a : Int32), ∀ (b : Int32), zPair Rel (fun n s => f135 n a b s) (fun n s => f268 n a b s)) ∧ (∀ (a : Int32), ∀ (b : Int32), zPair Rel (fun n s => f137 n a b s) (fun n s => f269 n a b s)) ∧ (∀ (a : Int32), zPair Rel (fun n s => f139 n a s) (fun n s => f271 n a s)) ∧ (∀ (a : Int32), ∀ (b : Int32), zPair Rel (fun n s => f140 n a b s) (fun n s => f272 n a b s)) ∧ (∀ (a : Int32), ∀ (b : Int32), zPair Rel (fun n s => f141 n a b s) (fun n s => f273 n a b s)) ∧ (∀ (a : Int32), zPair Rel (fun n s => f142 n a s) (fun n s => f274 n a s)) ∧ (∀ (a : Int32), ∀ (b : Int32), zPair Rel (fun n s => f143 n a b s) (fun n s => f275 n a b s)) ∧ (∀ (a : Int32), ∀ (b : Int32), zPair Rel (fun n s => f144 n a b s) (fun n s => f276 n a b s)) ∧ (∀ (a : Int32), ∀ (b : Int32), zPair Rel (fun n s => f145 n a b s) (fun n s => f277 n a b s)) ∧ (∀ (a : Int32), ∀ (b : Int32), ∀ (c : Int32), zPair Rel (fun n s => f146 n a b c s) (fun n s => f278 n a b c s)) ∧ (∀ (a : Int32), ∀ (b : Int32), ∀ (c : Int32), zPair Rel (fun n s => f149 n a b c s) (fun n s => f280 n a b c s)) ∧ (∀ (a : Int32), zPair Rel (fun n s => f151 n a s) (fun n s => f281 n a s)) ∧ (∀ (a : Int32), zPair Rel (fun n s => f154 n a s) (fun n s => f283 n a s)) ∧ (∀ (a : Int32), ∀ (b : Int32), zPair Rel (fun n s => f156 n a b s) (fun n s => f284 n a b s)) ∧ (∀ (a : Int32), zPair Rel (fun n s => f158 n a s) (fun n s => f285 n a s))
theorem zall_of {Rel : zσ → zσ → Prop} (h : zPairs Rel) : zAll (zI Rel) (zI Rel) := by
  obtain ⟨h0, h1, h2, h3, h4, h5, h6, h7, h8, h9, h10, h11, h12, h13, h14, h15, h16, h17, h18, h19, h20, h21, h22, h23⟩ := h
  refine ⟨?_, fun hp h => h, zk_feed h0, zk_module h1, zk_place h2, zk_declared h3, zk_find h4, zk_processors h5, zk_begin h6, zk_run h7, zk_trigger h8, zk_send h9, zk_task h10, zk_value h11, zk_item h12, zk_one h13, zk_sema h14, zk_bolt h15, zk_irpt h16, zk_sent h17, zk_waits h18, zk_schedule h19, zk_ring h20, zk_logged h21, zk_induced h22, zk_count h23⟩
  intro hp hI
  obtain ⟨s, t, rfl, -⟩ := hI
  exact rcv_c rfl rfl (by decide)
/-! the state of a heap that has the shapes -/
def zst (hp : List PE) : zσ := (fun a k => match hget hp a with
    | some (.inl (_, (_, .inl f))) => f k
    | some (.inr (_, fs)) => (match fs[k]? with
      | some (.int v) => v
      | _ => 0)
    | _ => 0, fun a k => match hget hp a with
    | some (.inl (_, (_, .inr (.inl f)))) => f k
    | some (.inr (_, fs)) => (match fs[k]? with
      | some (.long v) => v
      | _ => 0)
    | _ => 0, fun a k => match hget hp a with
    | some (.inl (_, (_, .inr (.inr (.inr (.inr f)))))) => f k
    | some (.inr (_, fs)) => (match fs[k]? with
      | some (.ref v) => some v
      | _ => none)
    | _ => none)
def zfv (a t k : Nat) (v : Value) : Bool := match t, v with
  | 0, .int _ => true
  | 1, .long _ => true
  | 2, .ref b => decide (b = zR0 a k)
  | 3, .ref _ => true
  | 3, .null => true
  | _, _ => false
def zfp (a : Nat) (x : PE) : Bool := match zsh a, x with
  | (0, ci, _), .inr (cj, fs) => decide (cj = ci) && decide (fs.length = (zTg ci).length) && (List.range fs.length).all (fun k => match (zTg ci)[k]?, fs[k]? with
    | some t, some v => zfv a t k v
    | _, _ => false)
  | (1, t, n), .inl (u, (m, .inl _)) => decide (u = t) && decide (m = n)
  | (2, t, n), .inl (u, (m, .inr (.inl _))) => decide (u = t) && decide (m = n)
  | (3, t, n), .inl (u, (m, .inr (.inr (.inr (.inr _))))) => decide (u = t) && decide (m = n)
  | _, _ => false
theorem zfp_ok {hp : List PE} {a : Nat} {x : PE} (hg : hget hp a = some x) (h : zfp a x = true) : x = zcell a (zsh a) ((zst hp).1 a) ((zst hp).2.1 a) ((zst hp).2.2 a) := by
  unfold zfp at h
  split at h
  · next e1 =>
    rename_i ci n cj fs
    simp only [Bool.and_eq_true, decide_eq_true_eq, List.all_eq_true, List.mem_range] at h
    obtain ⟨⟨rfl, hl⟩, hk⟩ := h
    rw [e1]
    refine congrArg (fun x => (Sum.inr (cj, x) : PE)) (show fs = zvals a ((zst hp).1 a) ((zst hp).2.1 a) ((zst hp).2.2 a) (zTg cj) 0 from ?_)
    apply List.ext_getElem?
    intro k
    rw [zvals_get, Nat.zero_add]
    by_cases hlt : k < fs.length
    · have h2 := hk k hlt
      split at h2
      · next t v ht hv =>
        rw [hv, ht]
        simp only [Option.map_some]
        refine congrArg some ?_
        unfold zfv at h2
        split at h2
        · next x => exact congrArg Value.int (show x = (zst hp).1 a k by simp only [zst, hg, hv])
        · next x => exact congrArg Value.long (show x = (zst hp).2.1 a k by simp only [zst, hg, hv])
        · exact congrArg Value.ref (of_decide_eq_true h2)
        · show _ = va_rf _; simp only [zst, hg, hv]; rfl
        · show _ = va_rf _; simp only [zst, hg, hv]; rfl
        · cases h2
      · cases h2
    · rw [List.getElem?_eq_none (by omega), List.getElem?_eq_none (by omega)]
      rfl
  · next e1 =>
    simp only [Bool.and_eq_true, decide_eq_true_eq] at h
    obtain ⟨rfl, rfl⟩ := h
    rw [e1]
    simp only [zcell, zst, hg]
  · next e1 =>
    simp only [Bool.and_eq_true, decide_eq_true_eq] at h
    obtain ⟨rfl, rfl⟩ := h
    rw [e1]
    simp only [zcell, zst, hg]
  · next e1 =>
    simp only [Bool.and_eq_true, decide_eq_true_eq] at h
    obtain ⟨rfl, rfl⟩ := h
    rw [e1]
    simp only [zcell, zst, hg]
  · cases h
def zfps (hp : List PE) : Bool := decide (hp.length = 249) && (List.range 249).all (fun p => match hp[p]? with
  | some x => zfp (1000 + p) x
  | none => false)
theorem zmk_of {hp : List PE} (h : zfps hp = true) : hp = zmk (zst hp) (zst hp) := by
  unfold zfps at h
  simp only [Bool.and_eq_true, decide_eq_true_eq, List.all_eq_true, List.mem_range] at h
  obtain ⟨hl, h⟩ := h
  apply List.ext_getElem?
  intro p
  by_cases hp9 : p < 249
  · have h2 := h p hp9
    split at h2
    · next x hx =>
      rw [zmk_get hp9, hx]
      have hg : hget hp (1000 + p) = some x := by
        unfold hget
        rw [if_neg (show ¬ 1000 + p < zE by unfold zE; omega), show 1000 + p - zE = p by unfold zE; omega, hx]
      have h3 := zfp_ok hg h2
      unfold zcel
      split <;> rw [← h3]
    · cases h2
  · rw [List.getElem?_eq_none (by omega), List.getElem?_eq_none (by simp [zmk]; omega)]
/-- the states of the two new objects -/
def zs0 : zσ := zst pH2
set_option maxRecDepth 1000000 in
set_option maxHeartbeats 0 in
theorem pH2_fps : zfps pH2 = true := by decide +kernel
theorem pH2_mk : pH2 = zmk zs0 zs0 := zmk_of pH2_fps
/-- WHAT IS LEFT OF WHOLE -/
theorem pure_of_rel {Rel : zσ → zσ → Prop} (h0 : Rel zs0 zs0) (h : zPairs Rel) : zPure 2048 := pure_of_inv ⟨zs0, zs0, pH2_mk, h0⟩ (zall_of h)
