/-! what lies outside the pool: the texts (0 ..), their bytes (100 ..), the static array (60), the formatter (61), the script (62) -/
def zstx : List String := ["var row sema bolt irpt in out proc task main on any else until size time state at after all when do return if while end make same lose log induce ask give reserve free enter leave take put start go hold prior prevent pull enable disable", "(){}[],;=<>+-*/%", "(){}[],;=<>+-*/%", "var", "row", "sema", "bolt", "irpt", "in", "out", "proc", "task", " var row sema bolt irpt in out proc task main on any do return if else while make same lose ask give reserve free enter leave start go end hold prior prevent induce take put pull enable disable log at after all until when size time state ", "on", "any", "at", "after", "all", "when", "do", "return", "if", "while", "make", "same", "lose", "ask", "give", "reserve", "free", "enter", "leave", "start", "go", "end", "hold", "prior", "prevent", "induce", "take", "put", "pull", "enable", "disable", "log", "size", "state", "time", "until", "else", "main"]
def zbyt : List (List Int32) := [[118, 97, 114, 32, 114, 111, 119, 32, 115, 101, 109, 97, 32, 98, 111, 108, 116, 32, 105, 114, 112, 116, 32, 105, 110, 32, 111, 117, 116, 32, 112, 114, 111, 99, 32, 116, 97, 115, 107, 32, 109, 97, 105, 110, 32, 111, 110, 32, 97, 110, 121, 32, 101, 108, 115, 101, 32, 117, 110, 116, 105, 108, 32, 115, 105, 122, 101, 32, 116, 105, 109, 101, 32, 115, 116, 97, 116, 101, 32, 97, 116, 32, 97, 102, 116, 101, 114, 32, 97, 108, 108, 32, 119, 104, 101, 110, 32, 100, 111, 32, 114, 101, 116, 117, 114, 110, 32, 105, 102, 32, 119, 104, 105, 108, 101, 32, 101, 110, 100, 32, 109, 97, 107, 101, 32, 115, 97, 109, 101, 32, 108, 111, 115, 101, 32, 108, 111, 103, 32, 105, 110, 100, 117, 99, 101, 32, 97, 115, 107, 32, 103, 105, 118, 101, 32, 114, 101, 115, 101, 114, 118, 101, 32, 102, 114, 101, 101, 32, 101, 110, 116, 101, 114, 32, 108, 101, 97, 118, 101, 32, 116, 97, 107, 101, 32, 112, 117, 116, 32, 115, 116, 97, 114, 116, 32, 103, 111, 32, 104, 111, 108, 100, 32, 112, 114, 105, 111, 114, 32, 112, 114, 101, 118, 101, 110, 116, 32, 112, 117, 108, 108, 32, 101, 110, 97, 98, 108, 101, 32, 100, 105, 115, 97, 98, 108, 101], [40, 41, 123, 125, 91, 93, 44, 59, 61, 60, 62, 43, 45, 42, 47, 37], [40, 41, 123, 125, 91, 93, 44, 59, 61, 60, 62, 43, 45, 42, 47, 37], [118, 97, 114], [114, 111, 119], [115, 101, 109, 97], [98, 111, 108, 116], [105, 114, 112, 116], [105, 110], [111, 117, 116], [112, 114, 111, 99], [116, 97, 115, 107], [32, 118, 97, 114, 32, 114, 111, 119, 32, 115, 101, 109, 97, 32, 98, 111, 108, 116, 32, 105, 114, 112, 116, 32, 105, 110, 32, 111, 117, 116, 32, 112, 114, 111, 99, 32, 116, 97, 115, 107, 32, 109, 97, 105, 110, 32, 111, 110, 32, 97, 110, 121, 32, 100, 111, 32, 114, 101, 116, 117, 114, 110, 32, 105, 102, 32, 101, 108, 115, 101, 32, 119, 104, 105, 108, 101, 32, 109, 97, 107, 101, 32, 115, 97, 109, 101, 32, 108, 111, 115, 101, 32, 97, 115, 107, 32, 103, 105, 118, 101, 32, 114, 101, 115, 101, 114, 118, 101, 32, 102, 114, 101, 101, 32, 101, 110, 116, 101, 114, 32, 108, 101, 97, 118, 101, 32, 115, 116, 97, 114, 116, 32, 103, 111, 32, 101, 110, 100, 32, 104, 111, 108, 100, 32, 112, 114, 105, 111, 114, 32, 112, 114, 101, 118, 101, 110, 116, 32, 105, 110, 100, 117, 99, 101, 32, 116, 97, 107, 101, 32, 112, 117, 116, 32, 112, 117, 108, 108, 32, 101, 110, 97, 98, 108, 101, 32, 100, 105, 115, 97, 98, 108, 101, 32, 108, 111, 103, 32, 97, 116, 32, 97, 102, 116, 101, 114, 32, 97, 108, 108, 32, 117, 110, 116, 105, 108, 32, 119, 104, 101, 110, 32, 115, 105, 122, 101, 32, 116, 105, 109, 101, 32, 115, 116, 97, 116, 101, 32], [111, 110], [97, 110, 121], [97, 116], [97, 102, 116, 101, 114], [97, 108, 108], [119, 104, 101, 110], [100, 111], [114, 101, 116, 117, 114, 110], [105, 102], [119, 104, 105, 108, 101], [109, 97, 107, 101], [115, 97, 109, 101], [108, 111, 115, 101], [97, 115, 107], [103, 105, 118, 101], [114, 101, 115, 101, 114, 118, 101], [102, 114, 101, 101], [101, 110, 116, 101, 114], [108, 101, 97, 118, 101], [115, 116, 97, 114, 116], [103, 111], [101, 110, 100], [104, 111, 108, 100], [112, 114, 105, 111, 114], [112, 114, 101, 118, 101, 110, 116], [105, 110, 100, 117, 99, 101], [116, 97, 107, 101], [112, 117, 116], [112, 117, 108, 108], [101, 110, 97, 98, 108, 101], [100, 105, 115, 97, 98, 108, 101], [108, 111, 103], [115, 105, 122, 101], [115, 116, 97, 116, 101], [116, 105, 109, 101], [117, 110, 116, 105, 108], [101, 108, 115, 101], [109, 97, 105, 110]]
def zlen : List Nat := [236, 16, 16, 3, 3, 4, 4, 4, 2, 3, 4, 4, 238, 2, 3, 2, 5, 3, 4, 2, 6, 2, 5, 4, 4, 4, 3, 4, 7, 4, 5, 5, 5, 2, 3, 4, 5, 7, 6, 4, 3, 4, 6, 7, 3, 4, 5, 4, 5, 4, 4]
def zmost : List Int32 := [8, 4, 4, 4, 4, 4, 4, 6, 8]
set_option maxRecDepth 100000 in
theorem zstr_w : (List.range 51).all (fun k => decide ((zstrT[k]?).bind (fun q => lw_tbl[q.2.2]?) = ((zstrT[k]?).bind (fun q => (zstx[k]?).map (fun t => Cond.stringRef (Rn q.1) q.2.1 t))))) = true := by decide +kernel
set_option maxRecDepth 100000 in
theorem zfl_val : Cond.fieldLink (Rn 20) 9 "java/lang/String" "value" "[B" ∈ zWS := zin 2346 (by decide +kernel) rfl
set_option maxRecDepth 100000 in
theorem zfl_cod : Cond.fieldLink (Rn 20) 15 "java/lang/String" "coder" "B" ∈ zWS := zin 2347 (by decide +kernel) rfl
set_option maxRecDepth 100000 in
theorem zfl_com : Cond.fieldLink (Rn 20) 38 "java/lang/String" "COMPACT_STRINGS" "Z" ∈ zWS := zin 194 (by decide +kernel) rfl
set_option maxRecDepth 100000 in
theorem zfl_sio : Cond.fieldLink (Rn 20) 1053 "jdk/internal/util/Preconditions" "SIOOBE_FORMATTER" "Ljava/util/function/BiFunction;" ∈ zWS := zin 210 (by decide +kernel) rfl
set_option maxRecDepth 100000 in
theorem zfl_mos : Cond.fieldLinkNest (Rn 4) 150 "PearlHouse" "MOST_OF_SORT" "[I" "PearlHouse" ∈ lw_tbl := List.mem_of_getElem? (i := 881) (by decide +kernel)
def zls (n cn idx : Nat) (st : List Value) : Option (Nat × List Value) := match zstrT.findIdx? (fun q => q.1 == cn && q.2.1 == idx) with
  | some k => some (n, .ref k :: st)
  | none => none
def zgs (fz : Bool) (cn idx : Nat) (st : List Value) : Option (Nat × List Value) := if cn = 4 ∧ idx = 150 then some (3, .ref 60 :: st) else if cn = 20 ∧ idx = 38 then some (3, .int 1 :: st) else if cn = 20 ∧ idx = 1053 then some (3, (if fz = true then .null else .ref 61) :: st) else none
def zgx (cn idx : Nat) (st : List Value) : Option (Nat × List Value) := match st with
  | .ref k :: r => if cn = 20 ∧ k < 51 then (if idx = 9 then some (3, .ref (100 + k) :: r) else if idx = 15 then some (3, .int 0 :: r) else none) else none
  | _ => none
def zxl (L : Nat) (st : List Value) : Option (Nat × List Value) := match st with
  | .ref a :: r => if a = 62 then some (1, .int (Int32.ofNat L) :: r) else if 100 ≤ a ∧ a < 151 then some (1, .int (Int32.ofNat (zlen.getD (a - 100) 0)) :: r) else none
  | _ => none
def zxb (st : List Value) : Option (Nat × List Value) := match st with
  | .int i :: .ref a :: r => if 100 ≤ a ∧ a < 151 ∧ zin? i (zlen.getD (a - 100) 0) = true then some (1, .int ((zbyt.getD (a - 100) []).getD i.toNatClampNeg 0) :: r) else none
  | _ => none
def zxi (L : Nat) (xs : Nat → Int32) (st : List Value) : Option (Nat × List Value) := match st with
  | .int i :: .ref a :: r => if a = 62 then (if zin? i L = true then some (1, .int (xs i.toNatClampNeg) :: r) else none) else if a = 60 then (if zin? i 9 = true then some (1, .int (zmost.getD i.toNatClampNeg 0) :: r) else none) else none
  | _ => none
def zX (fz : Bool) (L : Nat) (xs : Nat → Int32) : zXT := fun _ cn ins st => match ins with
  | .ldc idx => zls 2 cn idx st
  | .ldc_w idx => zls 3 cn idx st
  | .getstatic idx => zgs fz cn idx st
  | .getfield idx => zgx cn idx st
  | .arraylength => zxl L st
  | .baload => zxb st
  | .iaload => zxi L xs st
  | _ => none
/-- what is known of the outside, in every state that a method begins in -/
def zKX (ρ : Nat → Nat) (cy : Nat → ClassId) (base : Nat) (D : va_G) (fz : Bool) (L : Nat) (xs : Nat → Int32) (s : State) : Prop :=
  va_K D vwCl (zTys cy) s ∧ zNest s ∧ va_AO RX8 s ∧ (Cond.arrayOver (.array .long)).before #[] s = true ∧
  (∀ k, k < 51 → vk_S 1 [zlen.getD k 0] [zbyt.getD k []] (fun _ => ρ k) (fun _ => ρ (100 + k)) (fun q => base ≤ q) s s.heap ∧ ∀ q t, zstrT[k]? = some q → zstx[k]? = some t → vk_R (Rn q.1) q.2.1 t (ρ k) s) ∧
  va_Z "PearlHouse" "MOST_OF_SORT" "[I" (.ref (ρ 60)) (fun q => base ≤ q) s s.heap ∧ va_T .int (ρ 60) 9 (fun j => .int (zmost.getD j 0)) (fun q => base ≤ q) s s.heap ∧
  va_Z "java/lang/String" "COMPACT_STRINGS" "Z" (.int 1) (fun q => base ≤ q) s s.heap ∧
  va_Z "jdk/internal/util/Preconditions" "SIOOBE_FORMATTER" "Ljava/util/function/BiFunction;" (pv ρ (if fz = true then .null else .ref 61)) (fun q => base ≤ q) s s.heap ∧
  va_T .int (ρ 62) L (fun j => .int (xs j)) (fun q => base ≤ q) s s.heap
theorem zNest_warm {s U : State} (hW : s.WarmedH U.vm) (h : zNest s) : zNest U := by
  intro w hw hg
  have h1 := h w hw hg
  cases w with
  | fieldLinkNest a i b n d h => exact va_Nw.warmF hW h1
  | methodLinkNest a i x h => exact va_Nw.warmM hW h1
  | _ => have h2 : false = true := hg; cases h2
theorem zNw_on {w : Cond} (h : zNw w = true) : w.onTables = true := by
  cases w with
  | fieldLinkNest a i b n d h => rfl
  | methodLinkNest a i x h => rfl
  | _ => have h2 : false = true := h; cases h2
theorem zNest_call {U : State} {g : JFrame} {mk : MethodId} {a : Array Value} (h : zNest U) : zNest (U.calling g mk a) := fun w hw hg => va_Nw.same (u := U) (U := U.calling g mk a) (zNw_on hg) rfl (h w hw hg)
theorem zAO_warm {s U : State} (hW : s.WarmedH U.vm) {ty : FieldType} (h : (Cond.arrayOver ty).before #[] s = true) : (Cond.arrayOver ty).before #[] U = true := by
  have h1 := Cond.arrayOver_setVmC (args := #[]) hW.alike ty
  rw [h] at h1
  exact h1
theorem zKX_warm {ρ : Nat → Nat} {cy : Nat → ClassId} {base : Nat} {D : va_G} {fz : Bool} {L : Nat} {xs : Nat → Int32} {s U : State} (h : zKX ρ cy base D fz L xs s) (hW : s.WarmedH U.vm) (hq : ∀ q : Nat, q < s.heap.size → ¬ base ≤ q → U.heap[q]? = s.heap[q]?) : zKX ρ cy base D fz L xs U := by
  obtain ⟨a1, a2, a3, a4, a5, a6, a7, a8, a9, a10⟩ := h
  have al := hW.alike
  exact ⟨va_K.moved al a1, zNest_warm hW a2, va_AO.moved al a3, zAO_warm hW a4, fun k hk => ⟨((a5 k hk).1.moved al).kept hq, fun q t h1 h2 => ((a5 k hk).2 q t h1 h2).warm hW⟩, (a6.moved al).kept hq, (a7.moved al).kept hq, (a8.moved al).kept hq, (a9.moved al).kept hq, (a10.moved al).kept hq⟩
theorem zKX_ok {ρ : Nat → Nat} {cy : Nat → ClassId} {base : Nat} {D : va_G} {fz : Bool} {L : Nat} {xs : Nat → Int32} (hρ : ∀ a, zE ≤ a → ρ a = base + (a - zE)) : zKOK ρ cy base D (zKX ρ cy base D fz L xs) := by
  refine ⟨hρ, fun s h => h.1, fun s h => h.2.1, fun s h => h.2.2.1, fun s a h => h.2.2.2.1, fun s U h hW _ hq => zKX_warm h hW hq, fun U g mk a h => ?_, fun s H locs b h hS hb => vk_recv (i := 0) (adK := fun _ => ρ b) (h.2.2.2.2.1 b hb).1 (Nat.lt_succ_self 0) hS⟩
  obtain ⟨a1, a2, a3, a4, a5, a6, a7, a8, a9, a10⟩ := h
  have al : U.vm.Alike (U.calling g mk a).vm := Vm.Alike.refl U.vm
  exact ⟨va_K.moved al a1, zNest_call a2, va_AO.moved al a3, a4, fun k hk => ⟨(a5 k hk).1.moved al, fun q t h1 h2 => vk_R.same (u := U) rfl ((a5 k hk).2 q t h1 h2)⟩, a6.moved al, a7.moved al, a8.moved al, a9.moved al, a10.moved al⟩
section ZM9
variable {p : Program} {l : Launch} {e : Env} {R : Room} {s : State} {m : MethodId} {args : Array Value} {below : List Frame} {meth : Method} {c : Code} {H : Heap} {locs : List Loc} {cells slots : Nat} {Q : State → Prop}
variable {cc : ByteArray} {pc : Nat} {ls : Array Slot}
theorem zldcwS (hexec : p.tables.exec = Jvm.exec) (hb : c.code = cc) {own tx : String} {index q : Nat} {rest : List Value} (hown : s.vm.findClass own = some m.cls) (hZ : vk_R own index tx q s) (hdg : decode cc pc = .ok (.ldc_w index, 3))
    (k : W p l e R s m args below meth c H locs cells slots Q (F0 m (pc + 3) ls (.ref q :: rest))) : W p l e R s m args below meth c H locs cells slots Q (F0 m pc ls rest) := by
  intro T hT X
  obtain ⟨t, a1, b1⟩ := k T hT X
  refine ⟨t, ?_, b1⟩
  obtain ⟨kc, cf, i, a', hk, hcf, hcp, -, hr, hev'⟩ := Cond.stringRef_spec hown hZ.1
  cases hZ.2.symm.trans hev'
  obtain ⟨k', hk', he⟩ := X.warmed.alike.2.2 _ _ hk
  have hr' : k'.resolved[index]? = some (some (.string q)) := by
    rcases X.warmed.entry hk hk' index with h | ⟨h, -⟩
    · rw [h]; exact hr
    · rw [hr] at h; cases h
  subst hb
  jvm_step X.here [hexec, hdg, ldc_w.wp_string (e := e) (s := T) (f := F0 m pc ls rest) X.here.top hk' (by rw [he]; exact hcf) hcp hr']
  exact a1
end ZM9
theorem zls_s {n n' cn idx : Nat} {st st' : List Value} (h : zls n cn idx st = some (n', st')) : ∃ k q t, k < 51 ∧ zstrT[k]? = some q ∧ zstx[k]? = some t ∧ q.1 = cn ∧ q.2.1 = idx ∧ n' = n ∧ st' = .ref k :: st := by
  unfold zls at h
  split at h
  · next k hk =>
    cases h
    obtain ⟨hlt, hp, -⟩ := List.findIdx?_eq_some_iff_getElem.mp hk
    have h51 : k < 51 := hlt
    have hst : k < zstx.length := h51
    simp only [Bool.and_eq_true, beq_iff_eq] at hp
    exact ⟨k, zstrT[k], zstx[k], h51, List.getElem?_eq_getElem hlt, List.getElem?_eq_getElem hst, hp.1, hp.2, rfl, rfl⟩
  · cases h
set_option maxHeartbeats 8000000 in
theorem zX_ok {l : Launch} {ρ : Nat → Nat} {cy : Nat → ClassId} {base : Nat} {D : va_G} {fz : Bool} {L : Nat} {xs : Nat → Int32} : zXOK (zX fz L xs) l ρ base (zKX ρ cy base D fz L xs) := by
  intro p e R s m args below meth c H locs cells slots Q cc pc ls d cn n ins st st' h hR hc hz hx hb hts hown hls hKs hS hd k
  obtain ⟨a1, a2, a3, a4, a5, a6, a7, a8, a9, a10⟩ := hKs
  cases ins with
  | ldc idx =>
    obtain ⟨kk, q, t, h51, hq, ht, rfl, rfl, rfl, rfl⟩ := zls_s h
    exact va_ldcS hx hb hown ((a5 kk h51).2 q t hq ht) hd k
  | ldc_w idx =>
    obtain ⟨kk, q, t, h51, hq, ht, rfl, rfl, rfl, rfl⟩ := zls_s h
    exact zldcwS hx hb hown ((a5 kk h51).2 q t hq ht) hd k
  | getstatic idx =>
    replace h : zgs fz cn idx st = some (n, st') := h
    unfold zgs at h
    split at h
    · next hcn =>
      obtain ⟨rfl, rfl⟩ := hcn
      cases h
      exact va_getsN hx hb a6 hS hown ((a2 _ zfl_mos rfl).use rfl) (fun x hx => hx) hd k
    · split at h
      · next hcn =>
        obtain ⟨rfl, rfl⟩ := hcn
        cases h
        exact va_gets hx hb a8 hS hown (hts _ zfl_com) (fun x hx => hx) hd k
      · split at h
        · next hcn =>
          obtain ⟨rfl, rfl⟩ := hcn
          cases h
          exact va_gets hx hb a9 hS hown (hts _ zfl_sio) (fun x hx => hx) hd k
        · cases h
  | getfield idx =>
    replace h : zgx cn idx st = some (n, st') := h
    unfold zgx at h
    split at h
    · next kk r =>
      split at h
      · next hcn =>
        obtain ⟨rfl, h51⟩ := hcn
        have hk := (a5 kk h51).1.1 0 (Nat.lt_succ_self 0)
        split at h
        · next hi => subst hi; cases h; exact vk_getf hx hb hk.2.2.1 hS hown (hts _ zfl_val) (fun x hx => hx) hd k
        · split at h
          · next hi => subst hi; cases h; exact vk_getf hx hb hk.2.1 hS hown (hts _ zfl_cod) (fun x hx => hx) hd k
          · cases h
      · cases h
    · cases h
  | arraylength =>
    replace h : zxl L st = some (n, st') := h
    unfold zxl at h
    split at h
    · next a r =>
      split at h
      · next ha => subst ha; cases h; exact va_tlen hx hb a10 hS rfl hd k
      · split at h
        · next ha =>
          cases h
          have ha1 : @LE.le Nat _ 100 a := ha.1
          have ha2 : @LT.lt Nat _ a 151 := ha.2
          have hk := (a5 (a - 100) (by omega)).1.1 0 (Nat.lt_succ_self 0)
          have e9 : @Eq Nat (100 + (a - 100)) a := Nat.add_sub_cancel' ha1
          have hk4 := hk.2.2.2
          rw [e9] at hk4
          exact va_tlen hx hb hk4 hS rfl hd k
        · cases h
    · cases h
  | baload =>
    replace h : zxb st = some (n, st') := h
    unfold zxb at h
    split at h
    · next i a r =>
      split at h
      · next ha =>
        cases h
        have ha1 : @LE.le Nat _ 100 a := ha.1
        have ha2 : @LT.lt Nat _ a 151 := ha.2.1
        have hk := (a5 (a - 100) (by omega)).1.1 0 (Nat.lt_succ_self 0)
        have e9 : @Eq Nat (100 + (a - 100)) a := Nat.add_sub_cancel' ha1
        have hk4 := hk.2.2.2
        rw [e9] at hk4
        exact va_tb hx hb hk4 hS (zin?_s ha.2.2) rfl hd k
      · cases h
    · cases h
  | iaload =>
    replace h : zxi L xs st = some (n, st') := h
    unfold zxi at h
    split at h
    · next i a r =>
      split at h
      · next ha =>
        subst ha
        split at h
        · next hi => cases h; exact va_ti hx hb a10 hS (zin?_s hi) rfl hd k
        · cases h
      · split at h
        · next ha =>
          subst ha
          split at h
          · next hi => cases h; exact va_ti hx hb a7 hS (zin?_s hi) rfl hd k
          · cases h
        · cases h
    · cases h
  | _ => have h2 : (none : Option (Nat × List Value)) = some (n, st') := h; cases h2
