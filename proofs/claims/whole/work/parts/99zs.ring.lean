/-! rings -/
section ZCZ
def bt (m : Int32) (i : Nat) : Prop := ((m >>> (nI i &&& 31)) &&& (1 : Int32)) = 1
theorem sh_val : ∀ i : Fin 8, (nI i.1 &&& 31) = nI i.1 ∧ ((nI i.1).toBitVec.smod 32).toNat = i.1 := by decide
theorem bt_iff {m : Int32} {i : Nat} (hi : i < 8) : bt m i ↔ m.toBitVec.getLsbD i = true := by
  obtain ⟨e1, e2⟩ := sh_val ⟨i, hi⟩
  simp only at e1 e2
  unfold bt
  rw [e1, ← Int32.toBitVec_inj, Int32.toBitVec_and, Int32.toBitVec_shiftRight]
  rw [BitVec.sshiftRight', e2]
  show (m.toBitVec.sshiftRight i &&& 1#32) = 1#32 ↔ _
  constructor
  · intro h
    have h2 := congrArg (fun z : BitVec 32 => z.getLsbD 0) h
    simp only [BitVec.getLsbD_and, BitVec.getLsbD_sshiftRight] at h2
    simpa [show i < 32 by omega] using h2
  · intro h
    apply BitVec.eq_of_getLsbD_eq
    intro k hk
    rw [BitVec.getLsbD_and, BitVec.getLsbD_sshiftRight]
    by_cases k0 : k = 0
    · subst k0
      simp [show i < 32 by omega, h]
    · simp [BitVec.getLsbD_one, k0]
theorem bt_or {a b : Int32} {i : Nat} (hi : i < 8) : bt (a ||| b) i ↔ bt a i ∨ bt b i := by
  rw [bt_iff hi, bt_iff hi, bt_iff hi, Int32.toBitVec_or, BitVec.getLsbD_or, Bool.or_eq_true]
end ZCZ
