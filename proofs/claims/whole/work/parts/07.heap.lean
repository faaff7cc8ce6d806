/-! Part 2 of the machine: branches, fields, arrays -/
def zjmp (pc : Nat) (off : Int) : Option Nat := if 0 ≤ (pc : Int) + off then some ((pc : Int) + off).toNat else none
theorem zjmp_s {pc t : Nat} {off : Int} (h : zjmp pc off = some t) : (pc : Int) + off = (t : Int) := by
  unfold zjmp at h
  split at h
  · cases h; omega
  · cases h
def zcnd (cd : Jvm.ClassFile.Cond) (x y : Int32) : Bool := match cd with
  | .eq => decide (x = y)
  | .ne => !decide (x = y)
  | .lt => decide (x < y)
  | .ge => decide (y ≤ x)
  | .gt => decide (y < x)
  | .le => decide (x ≤ y)
def zacnd (cd : ACond) (x y : Nat) : Bool := match cd with
  | .eq => decide (x = y)
  | .ne => !decide (x = y)
def zif (b : Bool) (len pc : Nat) (off : Int) (r : List Value) : Option (Nat × List Value) := if len = 3 then (match zjmp pc off with
  | some t => some (if b = true then t else pc + 3, r)
  | none => none) else none
theorem zif_s {b : Bool} {len pc pc' : Nat} {off : Int} {r st' : List Value} (h : zif b len pc off r = some (pc', st')) : ∃ t : Nat, len = 3 ∧ (pc : Int) + off = (t : Int) ∧ st' = r ∧ pc' = if b = true then t else pc + 3 := by
  unfold zif at h
  split at h
  · split at h
    · next ht => cases h; exact ⟨_, by assumption, zjmp_s ht, rfl, rfl⟩
    · cases h
  · cases h
def zsw (pc : Nat) (off : Option Int) (r : List Value) : Option (Nat × List Value) := match off with
  | some o => (match zjmp pc o with
    | some t => some (t, r)
    | none => none)
  | none => none
theorem zsw_s {pc pc' : Nat} {off : Option Int} {r st' : List Value} (h : zsw pc off r = some (pc', st')) : ∃ o, off = some o ∧ (pc : Int) + o = (pc' : Int) ∧ st' = r := by
  unfold zsw at h
  split at h
  · split at h
    · next ht => cases h; exact ⟨_, rfl, zjmp_s ht, rfl⟩
    · cases h
  · cases h
def ztoff (dflt lo hi : Int) (offs : Array Int) (x : Int) : Option Int := if x < lo ∨ hi < x then some dflt else offs[(x - lo).toNat]?
def zloff (dflt : Int) (ps : Array (Int × Int)) (x : Int) : Option Int := if (ps.toList.zip (ps.toList.drop 1)).all (fun (a, next) => a.1 < next.1) = true then some (Op.lookupswitch.offset ps.toList dflt x) else none
def sBr (ins : Instr) (len pc : Nat) (st : List Value) : Option (Nat × List Value) := match ins with
  | .if_icmp cd off => (match st with
    | .int y :: .int x :: r => zif (zcnd cd x y) len pc off r
    | _ => none)
  | .ifCond cd off => (match st with
    | .int x :: r => zif (zcnd cd x 0) len pc off r
    | _ => none)
  | .goto off => zif true len pc off st
  | .ifnull off => (match st with
    | .null :: r => zif true len pc off r
    | .ref _ :: r => zif false len pc off r
    | _ => none)
  | .ifnonnull off => (match st with
    | .null :: r => zif false len pc off r
    | .ref _ :: r => zif true len pc off r
    | _ => none)
  | .if_acmp cd off => (match st with
    | .ref y :: .ref x :: r => if zE ≤ x ∧ zE ≤ y then zif (zacnd cd x y) len pc off r else none
    | _ => none)
  | .tableswitch dflt lo hi offs => (match st with
    | .int x :: r => zsw pc (ztoff dflt lo hi offs x.toInt) r
    | _ => none)
  | .lookupswitch dflt ps => (match st with
    | .int x :: r => zsw pc (zloff dflt ps x.toInt) r
    | _ => none)
  | _ => none
/-- the heap -/
def hget (hp : List PE) (a : Nat) : Option PE := if a < zE then none else hp[a - zE]?
def zin? (i : Int32) (n : Nat) : Bool := !(decide (i < 0) || decide (n ≤ i.toNatClampNeg))
theorem zin?_s {i : Int32} {n : Nat} (h : zin? i n = true) : vp_in i n := by
  unfold zin? at h
  unfold vp_in
  simp only [Bool.not_eq_true', Bool.or_eq_false_iff, decide_eq_false_iff_not] at h
  exact fun q => q.elim h.1 h.2
def zfit (ty : FieldType) (v : Value) : Bool := match ty, v with
  | .int, .int _ => true
  | .long, .long _ => true
  | .boolean, .int x => decide (x = 0) || decide (x = 1)
  | .object _, .ref _ => true
  | .object _, .null => true
  | .array _, .ref _ => true
  | .array _, .null => true
  | _, _ => false
theorem zfit_s (ρ : Nat → Nat) {ty : FieldType} {v : Value} (h : zfit ty v = true) : narrow ty (pv ρ v) = pv ρ v ∧ fits ty (pv ρ v) = true := by
  unfold zfit at h
  split at h
  · exact ⟨rfl, rfl⟩
  · exact ⟨rfl, rfl⟩
  · next x =>
    simp only [Bool.or_eq_true, decide_eq_true_eq] at h
    rcases h with rfl | rfl <;> exact ⟨rfl, rfl⟩
  · exact ⟨rfl, rfl⟩
  · exact ⟨rfl, rfl⟩
  · exact ⟨rfl, rfl⟩
  · exact ⟨rfl, rfl⟩
  · cases h
def zgf (cn idx : Nat) (st : List Value) (hp : List PE) : Option (Nat × List Value × List PE) := match st with
  | .ref a :: r => (match zfl cn idx with
    | some (_, ci, k) => (match hget hp a with
      | some (.inr (cj, fs)) => if cj = ci then (match fs[k]? with
        | some v => some (3, v :: r, hp)
        | none => none) else none
      | _ => none)
    | none => none)
  | _ => none
theorem zgf_s {cn idx n : Nat} {st st' : List Value} {hp hp' : List PE} (h : zgf cn idx st hp = some (n, st', hp')) : ∃ a r b ci k fs v, st = .ref a :: r ∧ zfl cn idx = some (b, ci, k) ∧ hget hp a = some (.inr (ci, fs)) ∧ fs[k]? = some v ∧ n = 3 ∧ st' = v :: r ∧ hp' = hp := by
  unfold zgf at h
  split at h
  · split at h
    · next hz =>
      split at h
      · next hg =>
        split at h
        · next e =>
          split at h
          · next hv => cases h; subst e; exact ⟨_, _, _, _, _, _, _, rfl, hz, hg, hv, rfl, rfl, rfl⟩
          · cases h
        · cases h
      · cases h
    · cases h
  · cases h
/-- may the field be put here: it isn't final, or this is its class's constructor -/
def zfin (cn : Nat) (ini : Bool) (b : Bool) (ci k : Nat) : Bool := match (zTf ci k).2.2.2 with
  | false => true
  | true => ini && !b && decide (ci = cn)
def zpf (cn : Nat) (ini : Bool) (idx : Nat) (st : List Value) (hp : List PE) : Option (Nat × List Value × List PE) := match st with
  | v :: .ref a :: r => (match zfl cn idx with
    | some (b, ci, k) => (match hget hp a with
      | some (.inr (cj, fs)) => if cj = ci then (if k < fs.length then (if zfit (zty ci k) v = true then (if zfin cn ini b ci k = true then some (3, r, hp.set (a - zE) (.inr (ci, fs.set k v))) else none) else none) else none) else none
      | _ => none)
    | none => none)
  | _ => none
theorem zpf_s {cn idx n : Nat} {ini : Bool} {st st' : List Value} {hp hp' : List PE} (h : zpf cn ini idx st hp = some (n, st', hp')) : ∃ v a b ci k fs, st = v :: .ref a :: st' ∧ zfl cn idx = some (b, ci, k) ∧ hget hp a = some (.inr (ci, fs)) ∧ k < fs.length ∧ zfit (zty ci k) v = true ∧ zfin cn ini b ci k = true ∧ n = 3 ∧ hp' = hp.set (a - zE) (.inr (ci, fs.set k v)) := by
  unfold zpf at h
  split at h
  · split at h
    · next hz =>
      split at h
      · next hg =>
        split at h
        · next e =>
          split at h
          · next h1 =>
            split at h
            · next h2 =>
              split at h
              · next h3 => cases h; subst e; exact ⟨_, _, _, _, _, _, rfl, hz, hg, h1, h2, h3, rfl, rfl⟩
              · cases h
            · cases h
          · cases h
        · cases h
      · cases h
    · cases h
  · cases h
/-- arrays: the kinds 0 int, 1 byte, 2 boolean, 3 long, 4 tasks, 5 rows of longs -/
def zTys (cy : Nat → ClassId) : List (ClassId × FieldType) := [(cy 0, .int), (cy 1, .byte), (cy 2, .boolean), (cy 3, .long), (cy 4, .object RX8), (cy 5, .array .long)]
def zaI (t : Nat → Bool) (st : List Value) (hp : List PE) : Option (Nat × List Value × List PE) := match st with
  | .int i :: .ref a :: r => (match hget hp a with
    | some (.inl (t0, (n, .inl f))) => if t t0 = true then (if zin? i n = true then some (1, .int (f i.toNatClampNeg) :: r, hp) else none) else none
    | _ => none)
  | _ => none
theorem zaI_s {t : Nat → Bool} {n : Nat} {st st' : List Value} {hp hp' : List PE} (h : zaI t st hp = some (n, st', hp')) : ∃ i a r t0 k f, st = .int i :: .ref a :: r ∧ hget hp a = some (.inl (t0, (k, .inl f))) ∧ t t0 = true ∧ vp_in i k ∧ n = 1 ∧ st' = .int (f i.toNatClampNeg) :: r ∧ hp' = hp := by
  unfold zaI at h
  split at h
  · split at h
    · next hg =>
      split at h
      · next h1 =>
        split at h
        · next h2 => cases h; exact ⟨_, _, _, _, _, _, rfl, hg, h1, zin?_s h2, rfl, rfl, rfl⟩
        · cases h
      · cases h
    · cases h
  · cases h
def zaJ (st : List Value) (hp : List PE) : Option (Nat × List Value × List PE) := match st with
  | .int i :: .ref a :: r => (match hget hp a with
    | some (.inl (3, (n, .inr (.inl f)))) => if zin? i n = true then some (1, .long (f i.toNatClampNeg) :: r, hp) else none
    | _ => none)
  | _ => none
theorem zaJ_s {n : Nat} {st st' : List Value} {hp hp' : List PE} (h : zaJ st hp = some (n, st', hp')) : ∃ i a r k f, st = .int i :: .ref a :: r ∧ hget hp a = some (.inl (3, (k, .inr (.inl f)))) ∧ vp_in i k ∧ n = 1 ∧ st' = .long (f i.toNatClampNeg) :: r ∧ hp' = hp := by
  unfold zaJ at h
  split at h
  · split at h
    · next hg =>
      split at h
      · next h2 => cases h; exact ⟨_, _, _, _, _, rfl, hg, zin?_s h2, rfl, rfl, rfl⟩
      · cases h
    · cases h
  · cases h
def zaA (st : List Value) (hp : List PE) : Option (Nat × List Value × List PE) := match st with
  | .int i :: .ref a :: r => (match hget hp a with
    | some (.inl (t0, (n, .inr (.inr (.inr (.inr f)))))) => if t0 = 4 ∨ t0 = 5 then (if zin? i n = true then some (1, va_rf (f i.toNatClampNeg) :: r, hp) else none) else none
    | _ => none)
  | _ => none
theorem zaA_s {n : Nat} {st st' : List Value} {hp hp' : List PE} (h : zaA st hp = some (n, st', hp')) : ∃ i a r t0 k f, st = .int i :: .ref a :: r ∧ hget hp a = some (.inl (t0, (k, .inr (.inr (.inr (.inr f)))))) ∧ (t0 = 4 ∨ t0 = 5) ∧ vp_in i k ∧ n = 1 ∧ st' = va_rf (f i.toNatClampNeg) :: r ∧ hp' = hp := by
  unfold zaA at h
  split at h
  · split at h
    · next hg =>
      split at h
      · next h1 =>
        split at h
        · next h2 => cases h; exact ⟨_, _, _, _, _, _, rfl, hg, h1, zin?_s h2, rfl, rfl, rfl⟩
        · cases h
      · cases h
    · cases h
  · cases h
def zaL (st : List Value) (hp : List PE) : Option (Nat × List Value × List PE) := match st with
  | .ref a :: r => (match hget hp a with
    | some (.inl (t0, x)) => if t0 < 6 then some (1, .int (Int32.ofNat x.1) :: r, hp) else none
    | _ => none)
  | _ => none
theorem zaL_s {n : Nat} {st st' : List Value} {hp hp' : List PE} (h : zaL st hp = some (n, st', hp')) : ∃ a r t0 x, st = .ref a :: r ∧ hget hp a = some (.inl (t0, x)) ∧ t0 < 6 ∧ n = 1 ∧ st' = .int (Int32.ofNat x.1) :: r ∧ hp' = hp := by
  unfold zaL at h
  split at h
  · split at h
    · next hg =>
      split at h
      · next h1 => cases h; exact ⟨_, _, _, _, rfl, hg, h1, rfl, rfl, rfl⟩
      · cases h
    · cases h
  · cases h
def zasI (t : Nat → Option (Int32 → Int32)) (st : List Value) (hp : List PE) : Option (Nat × List Value × List PE) := match st with
  | .int x :: .int i :: .ref a :: r => (match hget hp a with
    | some (.inl (t0, (n, .inl f))) => (match t t0 with
      | some g => if zin? i n = true then some (1, r, hp.set (a - zE) (.inl (t0, (n, .inl (upd f i.toNatClampNeg (g x)))))) else none
      | none => none)
    | _ => none)
  | _ => none
theorem zasI_s {t : Nat → Option (Int32 → Int32)} {n : Nat} {st st' : List Value} {hp hp' : List PE} (h : zasI t st hp = some (n, st', hp')) : ∃ x i a t0 k f g, st = .int x :: .int i :: .ref a :: st' ∧ hget hp a = some (.inl (t0, (k, .inl f))) ∧ t t0 = some g ∧ vp_in i k ∧ n = 1 ∧ hp' = hp.set (a - zE) (.inl (t0, (k, .inl (upd f i.toNatClampNeg (g x))))) := by
  unfold zasI at h
  split at h
  · split at h
    · next hg =>
      split at h
      · next h1 =>
        split at h
        · next h2 => cases h; exact ⟨_, _, _, _, _, _, _, rfl, hg, h1, zin?_s h2, rfl, rfl⟩
        · cases h
      · cases h
    · cases h
  · cases h
def zasJ (st : List Value) (hp : List PE) : Option (Nat × List Value × List PE) := match st with
  | .long x :: .int i :: .ref a :: r => (match hget hp a with
    | some (.inl (3, (n, .inr (.inl f)))) => if zin? i n = true then some (1, r, hp.set (a - zE) (.inl (3, (n, .inr (.inl (vp_updL f i.toNatClampNeg x)))))) else none
    | _ => none)
  | _ => none
theorem zasJ_s {n : Nat} {st st' : List Value} {hp hp' : List PE} (h : zasJ st hp = some (n, st', hp')) : ∃ x i a k f, st = .long x :: .int i :: .ref a :: st' ∧ hget hp a = some (.inl (3, (k, .inr (.inl f)))) ∧ vp_in i k ∧ n = 1 ∧ hp' = hp.set (a - zE) (.inl (3, (k, .inr (.inl (vp_updL f i.toNatClampNeg x))))) := by
  unfold zasJ at h
  split at h
  · split at h
    · next hg =>
      split at h
      · next h2 => cases h; exact ⟨_, _, _, _, _, rfl, hg, zin?_s h2, rfl, rfl⟩
      · cases h
    · cases h
  · cases h
def zasA (st : List Value) (hp : List PE) : Option (Nat × List Value × List PE) := match st with
  | .ref v :: .int i :: .ref a :: r => (match hget hp a with
    | some (.inl (4, (n, .inr (.inr (.inr (.inr f)))))) => (match hget hp v with
      | some (.inr (8, _)) => if zin? i n = true then some (1, r, hp.set (a - zE) (.inl (4, (n, .inr (.inr (.inr (.inr (va_up f i.toNatClampNeg (some v))))))))) else none
      | _ => none)
    | _ => none)
  | _ => none
theorem zasA_s {n : Nat} {st st' : List Value} {hp hp' : List PE} (h : zasA st hp = some (n, st', hp')) : ∃ v i a k f fs, st = .ref v :: .int i :: .ref a :: st' ∧ hget hp a = some (.inl (4, (k, .inr (.inr (.inr (.inr f)))))) ∧ hget hp v = some (.inr (8, fs)) ∧ vp_in i k ∧ n = 1 ∧ hp' = hp.set (a - zE) (.inl (4, (k, .inr (.inr (.inr (.inr (va_up f i.toNatClampNeg (some v)))))))) := by
  unfold zasA at h
  split at h
  · split at h
    · next hg =>
      split at h
      · next hv =>
        split at h
        · next h2 => cases h; exact ⟨_, _, _, _, _, _, rfl, hg, hv, zin?_s h2, rfl, rfl⟩
        · cases h
      · cases h
    · cases h
  · cases h
def zbk (t : Nat) : Option (Int32 → Int32) := match t with
  | 1 => some (vp_nar .byte)
  | 2 => some (vp_nar .boolean)
  | _ => none
def zik (t : Nat) : Option (Int32 → Int32) := match t with
  | 0 => some (fun x => x)
  | _ => none
def sHp (cn : Nat) (ini : Bool) (ins : Instr) (st : List Value) (hp : List PE) : Option (Nat × List Value × List PE) := match ins with
  | .getfield idx => zgf cn idx st hp
  | .putfield idx => zpf cn ini idx st hp
  | .iaload => zaI (fun t => t == 0) st hp
  | .baload => zaI (fun t => t == 1 || t == 2) st hp
  | .laload => zaJ st hp
  | .aaload => zaA st hp
  | .arraylength => zaL st hp
  | .iastore => zasI zik st hp
  | .bastore => zasI zbk st hp
  | .lastore => zasJ st hp
  | .aastore => zasA st hp
  | _ => none
