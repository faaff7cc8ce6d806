/-! WHAT IS LEFT OF WHOLE: an invariant of the heap that every pair of calls keeps, with one answer -/
/-- a call of the class and the same call of the reference behind it: one answer, nothing new is made, the heap is hp2 then -/
def zOp (hp hp2 : List PE) (qx qm : zMI) (as : List Value) : Prop := ∃ (v : Int32) (hp1 : List PE), zrcv 13 hp1 1132 = true ∧ ∀ (fz : Bool) (L : Nat) (xs : Nat → Int32), zGo (zX fz L xs) 2047 qx (0, lv_args 0 (.ref 1000 :: as), [], hp, 0, 0) (some (.int v), hp1, 0, 0) ∧ zGo (zX fz L xs) 2047 qm (0, lv_args 0 (.ref 1132 :: as), [], hp1, 0, 0) (some (.int v), hp2, 0, 0)
/-- I is kept by every operation: from a heap of I to one of J -/
def zKeeps (I J : List PE → Prop) (qx qm : zMI) (as : List Value) : Prop := ∀ hp, I hp → ∃ hp2, J hp2 ∧ zOp hp hp2 qx qm as
def zK_feed (I J : List PE → Prop) : Prop := ∀ (a : Int64), ∀ (b : Int32), zKeeps I J (11, yX11_feed, cX11_feed, 5, some .int, 2, 0) (13, yX13_feed, cX13_feed, 5, some .int, 2, 0) [.long a, .int b]
def zK_module (I J : List PE → Prop) : Prop := zKeeps I J (11, yX11_module, cX11_module, 3, some .int, 0, 0) (13, yX13_module, cX13_module, 3, some .int, 0, 0) []
def zK_place (I J : List PE → Prop) : Prop := zKeeps I J (11, yX11_place, cX11_place, 1, some .int, 0, 0) (13, yX13_place, cX13_place, 1, some .int, 0, 0) []
def zK_declared (I J : List PE → Prop) : Prop := ∀ (a : Int32), zKeeps I J (11, yX11_declared, cX11_declared, 2, some .int, 1, 0) (13, yX13_declared, cX13_declared, 2, some .int, 1, 0) [.int a]
def zK_find (I J : List PE → Prop) : Prop := ∀ (a : Int32), ∀ (b : Int64), zKeeps I J (11, yX11_find, cX11_find, 4, some .int, 2, 0) (13, yX13_find, cX13_find, 5, some .int, 2, 0) [.int a, .long b]
def zK_processors (I J : List PE → Prop) : Prop := ∀ (a : Int32), zKeeps I J (11, yX11_processors, cX11_processors, 3, some .int, 1, 0) (13, yX13_processors, cX13_processors, 3, some .int, 1, 0) [.int a]
def zK_begin (I J : List PE → Prop) : Prop := zKeeps I J (11, yX11_begin, cX11_begin, 1, some .int, 0, 0) (13, yX13_begin, cX13_begin, 2, some .int, 0, 0) []
def zK_run (I J : List PE → Prop) : Prop := ∀ (a : Int32), zKeeps I J (11, yX11_run, cX11_run, 4, some .int, 1, 0) (13, yX13_run, cX13_run, 5, some .int, 1, 0) [.int a]
def zK_trigger (I J : List PE → Prop) : Prop := ∀ (a : Int32), zKeeps I J (11, yX11_trigger, cX11_trigger, 2, some .int, 1, 0) (13, yX13_trigger, cX13_trigger, 3, some .int, 1, 0) [.int a]
def zK_send (I J : List PE → Prop) : Prop := ∀ (a : Int32), ∀ (b : Int32), zKeeps I J (11, yX11_send, cX11_send, 3, some .int, 2, 0) (13, yX13_send, cX13_send, 3, some .int, 2, 0) [.int a, .int b]
def zK_task (I J : List PE → Prop) : Prop := ∀ (a : Int32), ∀ (b : Int32), zKeeps I J (11, yX11_task, cX11_task, 3, some .int, 2, 0) (13, yX13_task, cX13_task, 3, some .int, 2, 0) [.int a, .int b]
def zK_value (I J : List PE → Prop) : Prop := ∀ (a : Int32), zKeeps I J (11, yX11_value, cX11_value, 2, some .int, 1, 0) (13, yX13_value, cX13_value, 2, some .int, 1, 0) [.int a]
def zK_item (I J : List PE → Prop) : Prop := ∀ (a : Int32), ∀ (b : Int32), zKeeps I J (11, yX11_item, cX11_item, 4, some .int, 2, 0) (13, yX13_item, cX13_item, 4, some .int, 2, 0) [.int a, .int b]
def zK_one (I J : List PE → Prop) : Prop := ∀ (a : Int32), ∀ (b : Int32), zKeeps I J (11, yX11_one, cX11_one, 3, some .int, 2, 0) (13, yX13_one, cX13_one, 3, some .int, 2, 0) [.int a, .int b]
def zK_sema (I J : List PE → Prop) : Prop := ∀ (a : Int32), zKeeps I J (11, yX11_sema, cX11_sema, 2, some .int, 1, 0) (13, yX13_sema, cX13_sema, 2, some .int, 1, 0) [.int a]
def zK_bolt (I J : List PE → Prop) : Prop := ∀ (a : Int32), ∀ (b : Int32), zKeeps I J (11, yX11_bolt, cX11_bolt, 3, some .int, 2, 0) (13, yX13_bolt, cX13_bolt, 3, some .int, 2, 0) [.int a, .int b]
def zK_irpt (I J : List PE → Prop) : Prop := ∀ (a : Int32), ∀ (b : Int32), zKeeps I J (11, yX11_irpt, cX11_irpt, 3, some .int, 2, 0) (13, yX13_irpt, cX13_irpt, 3, some .int, 2, 0) [.int a, .int b]
def zK_sent (I J : List PE → Prop) : Prop := ∀ (a : Int32), ∀ (b : Int32), zKeeps I J (11, yX11_sent, cX11_sent, 4, some .int, 2, 0) (13, yX13_sent, cX13_sent, 4, some .int, 2, 0) [.int a, .int b]
def zK_waits (I J : List PE → Prop) : Prop := ∀ (a : Int32), ∀ (b : Int32), ∀ (c : Int32), zKeeps I J (11, yX11_waits, cX11_waits, 4, some .int, 3, 0) (13, yX13_waits, cX13_waits, 6, some .int, 3, 0) [.int a, .int b, .int c]
def zK_schedule (I J : List PE → Prop) : Prop := ∀ (a : Int32), ∀ (b : Int32), ∀ (c : Int32), zKeeps I J (11, yX11_schedule, cX11_schedule, 4, some .int, 3, 0) (13, yX13_schedule, cX13_schedule, 5, some .int, 3, 0) [.int a, .int b, .int c]
def zK_ring (I J : List PE → Prop) : Prop := ∀ (a : Int32), zKeeps I J (11, yX11_ring, cX11_ring, 2, some .int, 1, 0) (13, yX13_ring, cX13_ring, 7, some .int, 1, 0) [.int a]
def zK_logged (I J : List PE → Prop) : Prop := ∀ (a : Int32), zKeeps I J (11, yX11_logged, cX11_logged, 2, some .int, 1, 0) (13, yX13_logged, cX13_logged, 2, some .int, 1, 0) [.int a]
def zK_induced (I J : List PE → Prop) : Prop := ∀ (a : Int32), ∀ (b : Int32), zKeeps I J (11, yX11_induced, cX11_induced, 3, some .int, 2, 0) (13, yX13_induced, cX13_induced, 3, some .int, 2, 0) [.int a, .int b]
def zK_count (I J : List PE → Prop) : Prop := ∀ (a : Int32), zKeeps I J (11, yX11_count, cX11_count, 2, some .int, 1, 0) (13, yX13_count, cX13_count, 2, some .int, 1, 0) [.int a]
def zAll (I J : List PE → Prop) : Prop := (∀ hp, I hp → zrcv 11 hp 1000 = true) ∧ (∀ hp, I hp → J hp) ∧ zK_feed I J ∧ zK_module I J ∧ zK_place I J ∧ zK_declared I J ∧ zK_find I J ∧ zK_processors I J ∧ zK_begin I J ∧ zK_run I J ∧ zK_trigger I J ∧ zK_send I J ∧ zK_task I J ∧ zK_value I J ∧ zK_item I J ∧ zK_one I J ∧ zK_sema I J ∧ zK_bolt I J ∧ zK_irpt I J ∧ zK_sent I J ∧ zK_waits I J ∧ zK_schedule I J ∧ zK_ring I J ∧ zK_logged I J ∧ zK_induced I J ∧ zK_count I J
set_option maxHeartbeats 4000000 in
/-- one round of the loop -/
theorem law_round {I J : List PE → Prop} (hA : zAll I J) {fz : Bool} {L : Nat} {xs : Nat → Int32} {i c z : Nat} {hp : List PE} (hI : I hp) (hi : i + 3 < L) (hL : L < 2 ^ 30) : ∃ hp2, J hp2 ∧ ∀ r, zGo (zX fz L xs) 2048 zLaw (18, [(0, .ref 62), (1, .ref 1000), (2, .ref 1132), (3, .int (nI (i + 4)))], [], hp2, c, z) r → zGo (zX fz L xs) 2048 zLaw (26, [(0, .ref 62), (1, .ref 1000), (2, .ref 1132), (3, .int (nI i))], [], hp, c, z) r := by
  obtain ⟨hr, hJ, o_0, o_1, o_2, o_3, o_4, o_5, o_6, o_7, o_8, o_9, o_10, o_11, o_12, o_13, o_14, o_15, o_16, o_17, o_18, o_19, o_20, o_21, o_22, o_23⟩ := hA
  have hrx := hr hp hI
  obtain ⟨k, hk, e⟩ := pk_andE (xs i) (m := 31) 5 (by decide)
  have hone : ∀ k2, k2 < 32 → xs i &&& 31 = nI k2 → k2 = k := fun k2 h2 e2 => (nI_eq (by omega) (by omega)).mp (e2.symm.trans e)
  have go : ∀ (hp2 : List PE), J hp2 → (∀ r, zGo (zX fz L xs) 2048 zLaw (866, [(0, .ref 62), (1, .ref 1000), (2, .ref 1132), (3, .int (nI i))], [], hp2, c, z) r → zGo (zX fz L xs) 2048 zLaw (ltg.getD k 866, [(0, .ref 62), (1, .ref 1000), (2, .ref 1132), (3, .int (nI i))], [], hp, c, z) r) → ∃ hp2, J hp2 ∧ ∀ r, zGo (zX fz L xs) 2048 zLaw (18, [(0, .ref 62), (1, .ref 1000), (2, .ref 1132), (3, .int (nI (i + 4)))], [], hp2, c, z) r → zGo (zX fz L xs) 2048 zLaw (26, [(0, .ref 62), (1, .ref 1000), (2, .ref 1132), (3, .int (nI i))], [], hp, c, z) r := fun hp2 h2 f => ⟨hp2, h2, fun r hn => law_switch (by omega) hL (fun k2 hk2 e2 => by rw [hone k2 hk2 e2]; exact f r (law_next hn))⟩
  clear hone e
  match k, hk, go with
  | 0, _, go =>
    obtain ⟨hp2, j2, v, hp1, hrm, ho⟩ := o_0 (zlong (xs (i + 1)) (xs (i + 2))) (xs (i + 3)) hp hI
    exact go hp2 j2 (fun r hn => law_feed hi hL hrx hrm (ho fz L xs).1 (ho fz L xs).2 hn)
  | 1, _, go =>
    obtain ⟨hp2, j2, v, hp1, hrm, ho⟩ := o_1  hp hI
    exact go hp2 j2 (fun r hn => law_module hi hL hrx hrm (ho fz L xs).1 (ho fz L xs).2 hn)
  | 2, _, go =>
    obtain ⟨hp2, j2, v, hp1, hrm, ho⟩ := o_2  hp hI
    exact go hp2 j2 (fun r hn => law_place hi hL hrx hrm (ho fz L xs).1 (ho fz L xs).2 hn)
  | 3, _, go =>
    obtain ⟨hp2, j2, v, hp1, hrm, ho⟩ := o_3 (xs (i + 1)) hp hI
    exact go hp2 j2 (fun r hn => law_declared hi hL hrx hrm (ho fz L xs).1 (ho fz L xs).2 hn)
  | 4, _, go =>
    obtain ⟨hp2, j2, v, hp1, hrm, ho⟩ := o_4 (xs (i + 1)) (zlong (xs (i + 2)) (xs (i + 3))) hp hI
    exact go hp2 j2 (fun r hn => law_find hi hL hrx hrm (ho fz L xs).1 (ho fz L xs).2 hn)
  | 5, _, go =>
    obtain ⟨hp2, j2, v, hp1, hrm, ho⟩ := o_5 (xs (i + 1)) hp hI
    exact go hp2 j2 (fun r hn => law_processors hi hL hrx hrm (ho fz L xs).1 (ho fz L xs).2 hn)
  | 6, _, go =>
    obtain ⟨hp2, j2, v, hp1, hrm, ho⟩ := o_6  hp hI
    exact go hp2 j2 (fun r hn => law_begin hi hL hrx hrm (ho fz L xs).1 (ho fz L xs).2 hn)
  | 7, _, go =>
    obtain ⟨hp2, j2, v, hp1, hrm, ho⟩ := o_7 (xs (i + 1)) hp hI
    exact go hp2 j2 (fun r hn => law_run hi hL hrx hrm (ho fz L xs).1 (ho fz L xs).2 hn)
  | 8, _, go =>
    obtain ⟨hp2, j2, v, hp1, hrm, ho⟩ := o_8 (xs (i + 1)) hp hI
    exact go hp2 j2 (fun r hn => law_trigger hi hL hrx hrm (ho fz L xs).1 (ho fz L xs).2 hn)
  | 9, _, go =>
    obtain ⟨hp2, j2, v, hp1, hrm, ho⟩ := o_9 (xs (i + 1)) (xs (i + 2)) hp hI
    exact go hp2 j2 (fun r hn => law_send hi hL hrx hrm (ho fz L xs).1 (ho fz L xs).2 hn)
  | 10, _, go =>
    obtain ⟨hp2, j2, v, hp1, hrm, ho⟩ := o_10 (xs (i + 1)) (xs (i + 2)) hp hI
    exact go hp2 j2 (fun r hn => law_task hi hL hrx hrm (ho fz L xs).1 (ho fz L xs).2 hn)
  | 11, _, go =>
    obtain ⟨hp2, j2, v, hp1, hrm, ho⟩ := o_11 (xs (i + 1)) hp hI
    exact go hp2 j2 (fun r hn => law_value hi hL hrx hrm (ho fz L xs).1 (ho fz L xs).2 hn)
  | 12, _, go =>
    obtain ⟨hp2, j2, v, hp1, hrm, ho⟩ := o_12 (xs (i + 1)) (xs (i + 2)) hp hI
    exact go hp2 j2 (fun r hn => law_item hi hL hrx hrm (ho fz L xs).1 (ho fz L xs).2 hn)
  | 13, _, go =>
    obtain ⟨hp2, j2, v, hp1, hrm, ho⟩ := o_13 (xs (i + 1)) (xs (i + 2)) hp hI
    exact go hp2 j2 (fun r hn => law_one hi hL hrx hrm (ho fz L xs).1 (ho fz L xs).2 hn)
  | 14, _, go =>
    obtain ⟨hp2, j2, v, hp1, hrm, ho⟩ := o_14 (xs (i + 1)) hp hI
    exact go hp2 j2 (fun r hn => law_sema hi hL hrx hrm (ho fz L xs).1 (ho fz L xs).2 hn)
  | 15, _, go =>
    obtain ⟨hp2, j2, v, hp1, hrm, ho⟩ := o_15 (xs (i + 1)) (xs (i + 2)) hp hI
    exact go hp2 j2 (fun r hn => law_bolt hi hL hrx hrm (ho fz L xs).1 (ho fz L xs).2 hn)
  | 16, _, go =>
    obtain ⟨hp2, j2, v, hp1, hrm, ho⟩ := o_16 (xs (i + 1)) (xs (i + 2)) hp hI
    exact go hp2 j2 (fun r hn => law_irpt hi hL hrx hrm (ho fz L xs).1 (ho fz L xs).2 hn)
  | 17, _, go =>
    obtain ⟨hp2, j2, v, hp1, hrm, ho⟩ := o_17 (xs (i + 1)) (xs (i + 2)) hp hI
    exact go hp2 j2 (fun r hn => law_sent hi hL hrx hrm (ho fz L xs).1 (ho fz L xs).2 hn)
  | 18, _, go =>
    obtain ⟨hp2, j2, v, hp1, hrm, ho⟩ := o_18 (xs (i + 1)) (xs (i + 2)) (xs (i + 3)) hp hI
    exact go hp2 j2 (fun r hn => law_waits hi hL hrx hrm (ho fz L xs).1 (ho fz L xs).2 hn)
  | 19, _, go =>
    obtain ⟨hp2, j2, v, hp1, hrm, ho⟩ := o_19 (xs (i + 1)) (xs (i + 2)) (xs (i + 3)) hp hI
    exact go hp2 j2 (fun r hn => law_schedule hi hL hrx hrm (ho fz L xs).1 (ho fz L xs).2 hn)
  | 20, _, go =>
    obtain ⟨hp2, j2, v, hp1, hrm, ho⟩ := o_20 (xs (i + 1)) hp hI
    exact go hp2 j2 (fun r hn => law_ring hi hL hrx hrm (ho fz L xs).1 (ho fz L xs).2 hn)
  | 21, _, go =>
    obtain ⟨hp2, j2, v, hp1, hrm, ho⟩ := o_21 (xs (i + 1)) hp hI
    exact go hp2 j2 (fun r hn => law_logged hi hL hrx hrm (ho fz L xs).1 (ho fz L xs).2 hn)
  | 22, _, go =>
    obtain ⟨hp2, j2, v, hp1, hrm, ho⟩ := o_22 (xs (i + 1)) (xs (i + 2)) hp hI
    exact go hp2 j2 (fun r hn => law_induced hi hL hrx hrm (ho fz L xs).1 (ho fz L xs).2 hn)
  | 23, _, go =>
    obtain ⟨hp2, j2, v, hp1, hrm, ho⟩ := o_23 (xs (i + 1)) hp hI
    exact go hp2 j2 (fun r hn => law_count hi hL hrx hrm (ho fz L xs).1 (ho fz L xs).2 hn)
  | 24, _, go => exact go hp (hJ hp hI) (fun r hn => hn)
  | 25, _, go => exact go hp (hJ hp hI) (fun r hn => hn)
  | 26, _, go => exact go hp (hJ hp hI) (fun r hn => hn)
  | 27, _, go => exact go hp (hJ hp hI) (fun r hn => hn)
  | 28, _, go => exact go hp (hJ hp hI) (fun r hn => hn)
  | 29, _, go => exact go hp (hJ hp hI) (fun r hn => hn)
  | 30, _, go => exact go hp (hJ hp hI) (fun r hn => hn)
  | 31, _, go => exact go hp (hJ hp hI) (fun r hn => hn)
  | n + 32, hk, _ => omega
theorem law_all {I : List PE → Prop} (hA : zAll I I) {fz : Bool} {L : Nat} {xs : Nat → Int32} (hL : L < 2 ^ 30) : ∀ (n i : Nat) (hp : List PE), L - i ≤ n → i < 2 ^ 30 → I hp → ∃ hp2, zGo (zX fz L xs) 2048 zLaw (18, [(0, .ref 62), (1, .ref 1000), (2, .ref 1132), (3, .int (nI i))], [], hp, 249, 146839) (some (.int 1), hp2, 249, 146839) := by
  intro n
  induction n with
  | zero => intro i hp h1 h2 hI; exact ⟨hp, law_cond hL h2 (fun _ => law_end) (fun h => by omega)⟩
  | succ n ih =>
    intro i hp h1 h2 hI
    rcases Nat.lt_or_ge L (i + 4) with h | h
    · exact ⟨hp, law_cond hL h2 (fun _ => law_end) (fun h => by omega)⟩
    · obtain ⟨hp2, hJ, f⟩ := law_round (c := 249) (z := 146839) hA (fz := fz) (xs := xs) hI (show i + 3 < L by omega) hL
      obtain ⟨hp3, h3⟩ := ih (i + 4) hp2 (by omega) (by omega) hJ
      exact ⟨hp3, law_cond hL h2 (fun h => by omega) (fun _ => f _ h3)⟩
/-- whole's pure statement, out of an invariant -/
theorem pure_of_inv {I : List PE → Prop} (h0 : I pH2) (hA : zAll I I) : zPure 2048 := by
  intro fz L xs hL
  obtain ⟨hp2, n, h⟩ := law_all hA (fz := fz) (xs := xs) (show L < 2 ^ 30 by omega) L 0 pH2 (Nat.le_of_eq (Nat.sub_zero L)) (by decide) h0 |>.imp (fun hp2 h => law_start0 h)
  exact ⟨n, hp2, 249, 146839, h, by decide, by decide⟩
/-- one call on new objects: scripts of at most 4 ints -/
theorem pure4_of {I : List PE → Prop} (h0 : I pH2) (hA : zAll I (fun _ => True)) : zPure 4 := by
  intro fz L xs hL
  have key : ∃ hp2, zGo (zX fz L xs) 2048 zLaw (18, [(0, .ref 62), (1, .ref 1000), (2, .ref 1132), (3, .int (nI 0))], [], pH2, 249, 146839) (some (.int 1), hp2, 249, 146839) := by
    rcases Nat.lt_or_ge L 4 with h | h
    · exact ⟨pH2, law_cond (by omega) (by decide) (fun _ => law_end) (fun h => by omega)⟩
    · obtain ⟨hp2, -, f⟩ := law_round (c := 249) (z := 146839) (i := 0) hA (fz := fz) (xs := xs) h0 (show 0 + 3 < L by omega) (show L < 2 ^ 30 by omega)
      exact ⟨hp2, law_cond (by omega) (by decide) (fun h => by omega) (fun _ => f _ (law_cond (by omega) (by decide) (fun _ => law_end) (fun h => by omega)))⟩
  obtain ⟨hp2, h⟩ := key
  obtain ⟨n, h⟩ := law_start0 h
  exact ⟨n, hp2, 249, 146839, h, by decide, by decide⟩
