/-! whole, out of a relation with an index over the calls -/
section ZSC
def zPq (R R2 : zσ → zσ → Prop) (fc fm : Nat → zσ → Option (Int32 × zσ)) : Prop := ∀ s t, R s t → ∃ n m v s2 t2, fc n s = some (v, s2) ∧ fm m t = some (v, t2) ∧ R2 s2 t2
theorem zj_feed {R R2 : zσ → zσ → Prop} (h : ∀ (a : Int64), ∀ (b : Int32), zPq R R2 (fun n s => f19 n a b s) (fun n s => f162 n a b s)) : zK_feed (zI R) (zI R2) := by
  intro a b hp hI
  obtain ⟨s, t, rfl, hR⟩ := hI
  obtain ⟨n, m, v, s2, t2, h1, h2, h3⟩ := h a b s t hR
  exact ⟨zmk s2 t2, ⟨s2, t2, rfl, h3⟩, v, zmk s2 t, rcv_m rfl rfl (by decide), fun fz L xs => ⟨f19_ok (by omega) h1, f162_ok (by omega) h2⟩⟩
theorem zj_module {R R2 : zσ → zσ → Prop} (h : zPq R R2 (fun n s => f20 n s) (fun n s => f163 n s)) : zK_module (zI R) (zI R2) := by
  intro hp hI
  obtain ⟨s, t, rfl, hR⟩ := hI
  obtain ⟨n, m, v, s2, t2, h1, h2, h3⟩ := h s t hR
  exact ⟨zmk s2 t2, ⟨s2, t2, rfl, h3⟩, v, zmk s2 t, rcv_m rfl rfl (by decide), fun fz L xs => ⟨f20_ok (by omega) h1, f163_ok (by omega) h2⟩⟩
theorem zj_place {R R2 : zσ → zσ → Prop} (h : zPq R R2 (fun n s => f69 n s) (fun n s => f204 n s)) : zK_place (zI R) (zI R2) := by
  intro hp hI
  obtain ⟨s, t, rfl, hR⟩ := hI
  obtain ⟨n, m, v, s2, t2, h1, h2, h3⟩ := h s t hR
  exact ⟨zmk s2 t2, ⟨s2, t2, rfl, h3⟩, v, zmk s2 t, rcv_m rfl rfl (by decide), fun fz L xs => ⟨f69_ok (by omega) h1, f204_ok (by omega) h2⟩⟩
theorem zj_declared {R R2 : zσ → zσ → Prop} (h : ∀ (a : Int32), zPq R R2 (fun n s => f70 n a s) (fun n s => f205 n a s)) : zK_declared (zI R) (zI R2) := by
  intro a hp hI
  obtain ⟨s, t, rfl, hR⟩ := hI
  obtain ⟨n, m, v, s2, t2, h1, h2, h3⟩ := h a s t hR
  exact ⟨zmk s2 t2, ⟨s2, t2, rfl, h3⟩, v, zmk s2 t, rcv_m rfl rfl (by decide), fun fz L xs => ⟨f70_ok (by omega) h1, f205_ok (by omega) h2⟩⟩
theorem zj_find {R R2 : zσ → zσ → Prop} (h : ∀ (a : Int32), ∀ (b : Int64), zPq R R2 (fun n s => f71 n a b s) (fun n s => f206 n a b s)) : zK_find (zI R) (zI R2) := by
  intro a b hp hI
  obtain ⟨s, t, rfl, hR⟩ := hI
  obtain ⟨n, m, v, s2, t2, h1, h2, h3⟩ := h a b s t hR
  exact ⟨zmk s2 t2, ⟨s2, t2, rfl, h3⟩, v, zmk s2 t, rcv_m rfl rfl (by decide), fun fz L xs => ⟨f71_ok (by omega) h1, f206_ok (by omega) h2⟩⟩
theorem zj_processors {R R2 : zσ → zσ → Prop} (h : ∀ (a : Int32), zPq R R2 (fun n s => f72 n a s) (fun n s => f207 n a s)) : zK_processors (zI R) (zI R2) := by
  intro a hp hI
  obtain ⟨s, t, rfl, hR⟩ := hI
  obtain ⟨n, m, v, s2, t2, h1, h2, h3⟩ := h a s t hR
  exact ⟨zmk s2 t2, ⟨s2, t2, rfl, h3⟩, v, zmk s2 t, rcv_m rfl rfl (by decide), fun fz L xs => ⟨f72_ok (by omega) h1, f207_ok (by omega) h2⟩⟩
theorem zj_begin {R R2 : zσ → zσ → Prop} (h : zPq R R2 (fun n s => f73 n s) (fun n s => f208 n s)) : zK_begin (zI R) (zI R2) := by
  intro hp hI
  obtain ⟨s, t, rfl, hR⟩ := hI
  obtain ⟨n, m, v, s2, t2, h1, h2, h3⟩ := h s t hR
  exact ⟨zmk s2 t2, ⟨s2, t2, rfl, h3⟩, v, zmk s2 t, rcv_m rfl rfl (by decide), fun fz L xs => ⟨f73_ok (by omega) h1, f208_ok (by omega) h2⟩⟩
theorem zj_run {R R2 : zσ → zσ → Prop} (h : ∀ (a : Int32), zPq R R2 (fun n s => f82 n a s) (fun n s => f221 n a s)) : zK_run (zI R) (zI R2) := by
  intro a hp hI
  obtain ⟨s, t, rfl, hR⟩ := hI
  obtain ⟨n, m, v, s2, t2, h1, h2, h3⟩ := h a s t hR
  exact ⟨zmk s2 t2, ⟨s2, t2, rfl, h3⟩, v, zmk s2 t, rcv_m rfl rfl (by decide), fun fz L xs => ⟨f82_ok (by omega) h1, f221_ok (by omega) h2⟩⟩
theorem zj_trigger {R R2 : zσ → zσ → Prop} (h : ∀ (a : Int32), zPq R R2 (fun n s => f133 n a s) (fun n s => f267 n a s)) : zK_trigger (zI R) (zI R2) := by
  intro a hp hI
  obtain ⟨s, t, rfl, hR⟩ := hI
  obtain ⟨n, m, v, s2, t2, h1, h2, h3⟩ := h a s t hR
  exact ⟨zmk s2 t2, ⟨s2, t2, rfl, h3⟩, v, zmk s2 t, rcv_m rfl rfl (by decide), fun fz L xs => ⟨f133_ok (by omega) h1, f267_ok (by omega) h2⟩⟩
theorem zj_send {R R2 : zσ → zσ → Prop} (h : ∀ (a : Int32), ∀ (b : Int32), zPq R R2 (fun n s => f135 n a b s) (fun n s => f268 n a b s)) : zK_send (zI R) (zI R2) := by
  intro a b hp hI
  obtain ⟨s, t, rfl, hR⟩ := hI
  obtain ⟨n, m, v, s2, t2, h1, h2, h3⟩ := h a b s t hR
  exact ⟨zmk s2 t2, ⟨s2, t2, rfl, h3⟩, v, zmk s2 t, rcv_m rfl rfl (by decide), fun fz L xs => ⟨f135_ok (by omega) h1, f268_ok (by omega) h2⟩⟩
theorem zj_task {R R2 : zσ → zσ → Prop} (h : ∀ (a : Int32), ∀ (b : Int32), zPq R R2 (fun n s => f137 n a b s) (fun n s => f269 n a b s)) : zK_task (zI R) (zI R2) := by
  intro a b hp hI
  obtain ⟨s, t, rfl, hR⟩ := hI
  obtain ⟨n, m, v, s2, t2, h1, h2, h3⟩ := h a b s t hR
  exact ⟨zmk s2 t2, ⟨s2, t2, rfl, h3⟩, v, zmk s2 t, rcv_m rfl rfl (by decide), fun fz L xs => ⟨f137_ok (by omega) h1, f269_ok (by omega) h2⟩⟩
theorem zj_value {R R2 : zσ → zσ → Prop} (h : ∀ (a : Int32), zPq R R2 (fun n s => f139 n a s) (fun n s => f271 n a s)) : zK_value (zI R) (zI R2) := by
  intro a hp hI
  obtain ⟨s, t, rfl, hR⟩ := hI
  obtain ⟨n, m, v, s2, t2, h1, h2, h3⟩ := h a s t hR
  exact ⟨zmk s2 t2, ⟨s2, t2, rfl, h3⟩, v, zmk s2 t, rcv_m rfl rfl (by decide), fun fz L xs => ⟨f139_ok (by omega) h1, f271_ok (by omega) h2⟩⟩
theorem zj_item {R R2 : zσ → zσ → Prop} (h : ∀ (a : Int32), ∀ (b : Int32), zPq R R2 (fun n s => f140 n a b s) (fun n s => f272 n a b s)) : zK_item (zI R) (zI R2) := by
  intro a b hp hI
  obtain ⟨s, t, rfl, hR⟩ := hI
  obtain ⟨n, m, v, s2, t2, h1, h2, h3⟩ := h a b s t hR
  exact ⟨zmk s2 t2, ⟨s2, t2, rfl, h3⟩, v, zmk s2 t, rcv_m rfl rfl (by decide), fun fz L xs => ⟨f140_ok (by omega) h1, f272_ok (by omega) h2⟩⟩
theorem zj_one {R R2 : zσ → zσ → Prop} (h : ∀ (a : Int32), ∀ (b : Int32), zPq R R2 (fun n s => f141 n a b s) (fun n s => f273 n a b s)) : zK_one (zI R) (zI R2) := by
  intro a b hp hI
  obtain ⟨s, t, rfl, hR⟩ := hI
  obtain ⟨n, m, v, s2, t2, h1, h2, h3⟩ := h a b s t hR
  exact ⟨zmk s2 t2, ⟨s2, t2, rfl, h3⟩, v, zmk s2 t, rcv_m rfl rfl (by decide), fun fz L xs => ⟨f141_ok (by omega) h1, f273_ok (by omega) h2⟩⟩
theorem zj_sema {R R2 : zσ → zσ → Prop} (h : ∀ (a : Int32), zPq R R2 (fun n s => f142 n a s) (fun n s => f274 n a s)) : zK_sema (zI R) (zI R2) := by
  intro a hp hI
  obtain ⟨s, t, rfl, hR⟩ := hI
  obtain ⟨n, m, v, s2, t2, h1, h2, h3⟩ := h a s t hR
  exact ⟨zmk s2 t2, ⟨s2, t2, rfl, h3⟩, v, zmk s2 t, rcv_m rfl rfl (by decide), fun fz L xs => ⟨f142_ok (by omega) h1, f274_ok (by omega) h2⟩⟩
theorem zj_bolt {R R2 : zσ → zσ → Prop} (h : ∀ (a : Int32), ∀ (b : Int32), zPq R R2 (fun n s => f143 n a b s) (fun n s => f275 n a b s)) : zK_bolt (zI R) (zI R2) := by
  intro a b hp hI
  obtain ⟨s, t, rfl, hR⟩ := hI
  obtain ⟨n, m, v, s2, t2, h1, h2, h3⟩ := h a b s t hR
  exact ⟨zmk s2 t2, ⟨s2, t2, rfl, h3⟩, v, zmk s2 t, rcv_m rfl rfl (by decide), fun fz L xs => ⟨f143_ok (by omega) h1, f275_ok (by omega) h2⟩⟩
theorem zj_irpt {R R2 : zσ → zσ → Prop} (h : ∀ (a : Int32), ∀ (b : Int32), zPq R R2 (fun n s => f144 n a b s) (fun n s => f276 n a b s)) : zK_irpt (zI R) (zI R2) := by
  intro a b hp hI
  obtain ⟨s, t, rfl, hR⟩ := hI
  obtain ⟨n, m, v, s2, t2, h1, h2, h3⟩ := h a b s t hR
  exact ⟨zmk s2 t2, ⟨s2, t2, rfl, h3⟩, v, zmk s2 t, rcv_m rfl rfl (by decide), fun fz L xs => ⟨f144_ok (by omega) h1, f276_ok (by omega) h2⟩⟩
theorem zj_sent {R R2 : zσ → zσ → Prop} (h : ∀ (a : Int32), ∀ (b : Int32), zPq R R2 (fun n s => f145 n a b s) (fun n s => f277 n a b s)) : zK_sent (zI R) (zI R2) := by
  intro a b hp hI
  obtain ⟨s, t, rfl, hR⟩ := hI
  obtain ⟨n, m, v, s2, t2, h1, h2, h3⟩ := h a b s t hR
  exact ⟨zmk s2 t2, ⟨s2, t2, rfl, h3⟩, v, zmk s2 t, rcv_m rfl rfl (by decide), fun fz L xs => ⟨f145_ok (by omega) h1, f277_ok (by omega) h2⟩⟩
theorem zj_waits {R R2 : zσ → zσ → Prop} (h : ∀ (a : Int32), ∀ (b : Int32), ∀ (c : Int32), zPq R R2 (fun n s => f146 n a b c s) (fun n s => f278 n a b c s)) : zK_waits (zI R) (zI R2) := by
  intro a b c hp hI
  obtain ⟨s, t, rfl, hR⟩ := hI
  obtain ⟨n, m, v, s2, t2, h1, h2, h3⟩ := h a b c s t hR
  exact ⟨zmk s2 t2, ⟨s2, t2, rfl, h3⟩, v, zmk s2 t, rcv_m rfl rfl (by decide), fun fz L xs => ⟨f146_ok (by omega) h1, f278_ok (by omega) h2⟩⟩
theorem zj_schedule {R R2 : zσ → zσ → Prop} (h : ∀ (a : Int32), ∀ (b : Int32), ∀ (c : Int32), zPq R R2 (fun n s => f149 n a b c s) (fun n s => f280 n a b c s)) : zK_schedule (zI R) (zI R2) := by
  intro a b c hp hI
  obtain ⟨s, t, rfl, hR⟩ := hI
  obtain ⟨n, m, v, s2, t2, h1, h2, h3⟩ := h a b c s t hR
  exact ⟨zmk s2 t2, ⟨s2, t2, rfl, h3⟩, v, zmk s2 t, rcv_m rfl rfl (by decide), fun fz L xs => ⟨f149_ok (by omega) h1, f280_ok (by omega) h2⟩⟩
theorem zj_ring {R R2 : zσ → zσ → Prop} (h : ∀ (a : Int32), zPq R R2 (fun n s => f151 n a s) (fun n s => f281 n a s)) : zK_ring (zI R) (zI R2) := by
  intro a hp hI
  obtain ⟨s, t, rfl, hR⟩ := hI
  obtain ⟨n, m, v, s2, t2, h1, h2, h3⟩ := h a s t hR
  exact ⟨zmk s2 t2, ⟨s2, t2, rfl, h3⟩, v, zmk s2 t, rcv_m rfl rfl (by decide), fun fz L xs => ⟨f151_ok (by omega) h1, f281_ok (by omega) h2⟩⟩
theorem zj_logged {R R2 : zσ → zσ → Prop} (h : ∀ (a : Int32), zPq R R2 (fun n s => f154 n a s) (fun n s => f283 n a s)) : zK_logged (zI R) (zI R2) := by
  intro a hp hI
  obtain ⟨s, t, rfl, hR⟩ := hI
  obtain ⟨n, m, v, s2, t2, h1, h2, h3⟩ := h a s t hR
  exact ⟨zmk s2 t2, ⟨s2, t2, rfl, h3⟩, v, zmk s2 t, rcv_m rfl rfl (by decide), fun fz L xs => ⟨f154_ok (by omega) h1, f283_ok (by omega) h2⟩⟩
theorem zj_induced {R R2 : zσ → zσ → Prop} (h : ∀ (a : Int32), ∀ (b : Int32), zPq R R2 (fun n s => f156 n a b s) (fun n s => f284 n a b s)) : zK_induced (zI R) (zI R2) := by
  intro a b hp hI
  obtain ⟨s, t, rfl, hR⟩ := hI
  obtain ⟨n, m, v, s2, t2, h1, h2, h3⟩ := h a b s t hR
  exact ⟨zmk s2 t2, ⟨s2, t2, rfl, h3⟩, v, zmk s2 t, rcv_m rfl rfl (by decide), fun fz L xs => ⟨f156_ok (by omega) h1, f284_ok (by omega) h2⟩⟩
theorem zj_count {R R2 : zσ → zσ → Prop} (h : ∀ (a : Int32), zPq R R2 (fun n s => f158 n a s) (fun n s => f285 n a s)) : zK_count (zI R) (zI R2) := by
  intro a hp hI
  obtain ⟨s, t, rfl, hR⟩ := hI
  obtain ⟨n, m, v, s2, t2, h1, h2, h3⟩ := h a s t hR
  exact ⟨zmk s2 t2, ⟨s2, t2, rfl, h3⟩, v, zmk s2 t, rcv_m rfl rfl (by decide), fun fz L xs => ⟨f158_ok (by omega) h1, f285_ok (by omega) h2⟩⟩
theorem zall_c {c : Nat} (hc : c ≤ 2000) : zAll (zI (Rel c)) (zI (Rel (c + 1))) := by
  refine ⟨?_, fun hp h => ?_, zj_feed (fun a b => pc_feed a b), zj_module (pc_module), zj_place (pc_place), zj_declared (fun a => pc_declared a), zj_find (fun a b => pc_find a b), zj_processors (fun a => pc_processors a), zj_begin (pc_begin (by omega)), zj_run (fun a => pc_run (by omega) a), zj_trigger (fun a => pc_trigger (by omega) a), zj_send (fun a b => pc_send (by omega) a b), zj_task (fun a b => pc_task (by omega) a b), zj_value (fun a => pc_value (by omega) a), zj_item (fun a b => pc_item (by omega) a b), zj_one (fun a b => pc_one (by omega) a b), zj_sema (fun a => pc_sema (by omega) a), zj_bolt (fun a b => pc_bolt (by omega) a b), zj_irpt (fun a b => pc_irpt (by omega) a b), zj_sent (fun a b => pc_sent (by omega) a b), zj_waits (fun a b d => pc_waits (by omega) a b d), zj_schedule (fun a b d => pc_schedule (by omega) a b d), zj_ring (fun a => pc_ring (by omega) a), zj_logged (fun a => pc_logged (by omega) a), zj_induced (fun a b => pc_induced (by omega) a b), zj_count (fun a => pc_count (by omega) a)⟩
  · intro hp hI
    obtain ⟨s, t, rfl, -⟩ := hI
    exact rcv_c rfl rfl (by decide)
  · obtain ⟨s, t, e, hR⟩ := h
    exact ⟨s, t, e, Rel_up hR (Nat.le_succ _)⟩
theorem law_allc {I : Nat → List PE → Prop} (hA : ∀ c, c ≤ 2000 → zAll (I c) (I (c + 1))) {fz : Bool} {L : Nat} {xs : Nat → Int32} (hL : L ≤ 2048) : ∀ (n c : Nat) (hp : List PE), L - 4 * c ≤ n → c ≤ 2000 → I c hp → ∃ hp2, zGo (zX fz L xs) 2048 zLaw (18, [(0, .ref 62), (1, .ref 1000), (2, .ref 1132), (3, .int (nI (4 * c)))], [], hp, 249, 146839) (some (.int 1), hp2, 249, 146839) := by
  intro n
  induction n with
  | zero => intro c hp h1 h2 hI; exact ⟨hp, law_cond (by omega) (by omega) (fun _ => law_end) (fun h => by omega)⟩
  | succ n ih =>
    intro c hp h1 h2 hI
    rcases Nat.lt_or_ge L (4 * c + 4) with h | h
    · exact ⟨hp, law_cond (by omega) (by omega) (fun _ => law_end) (fun h => by omega)⟩
    · obtain ⟨hp2, hJ, f⟩ := law_round (c := 249) (z := 146839) (hA c h2) (fz := fz) (xs := xs) hI (show 4 * c + 3 < L by omega) (show L < 2 ^ 30 by omega)
      obtain ⟨hp3, h3⟩ := ih (c + 1) hp2 (by omega) (by omega) hJ
      exact ⟨hp3, law_cond (by omega) (by omega) (fun h => by omega) (fun _ => f _ (by rw [show 4 * c + 4 = 4 * (c + 1) from by omega]; exact h3))⟩
/-- whole's pure statement, out of an invariant with an index -/
theorem pure_of_invc {I : Nat → List PE → Prop} (h0 : I 0 pH2) (hA : ∀ c, c ≤ 2000 → zAll (I c) (I (c + 1))) : zPure 2048 := by
  intro fz L xs hL
  obtain ⟨hp2, n, h⟩ := law_allc hA (fz := fz) (xs := xs) hL L 0 pH2 (by omega) (by omega) h0 |>.imp (fun hp2 h => law_start0 h)
  exact ⟨n, hp2, 249, 146839, h, by decide, by decide⟩
end ZSC
