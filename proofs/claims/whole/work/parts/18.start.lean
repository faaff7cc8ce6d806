/-! the claim out of a run of my machine -/
def zρ (base : Nat) (ad : Nat → Nat × Nat) (tM tF b : Nat) (a : Nat) : Nat := if zE ≤ a then base + (a - zE) else if a < 51 then (ad a).1 else if 100 ≤ a ∧ a < 151 then (ad (a - 100)).2 else if a = 60 then tM else if a = 61 then tF else if a = 62 then b else 0
theorem zρ_s {base tM tF b k : Nat} {ad : Nat → Nat × Nat} (h : k < 51) : zρ base ad tM tF b k = (ad k).1 := by
  unfold zρ
  rw [if_neg (by unfold zE; omega), if_pos h]
theorem zρ_v {base tM tF b k : Nat} {ad : Nat → Nat × Nat} (h : k < 51) : zρ base ad tM tF b (100 + k) = (ad k).2 := by
  unfold zρ
  rw [if_neg (by unfold zE; omega), if_neg (by omega), if_pos (by omega), show 100 + k - 100 = k by omega]
theorem zρ_60 {base tM tF b : Nat} {ad : Nat → Nat × Nat} : zρ base ad tM tF b 60 = tM := by
  unfold zρ
  rw [if_neg (by unfold zE; omega), if_neg (by omega), if_neg (by omega), if_pos rfl]
theorem zρ_61 {base tM tF b : Nat} {ad : Nat → Nat × Nat} : zρ base ad tM tF b 61 = tF := by
  unfold zρ
  rw [if_neg (by unfold zE; omega), if_neg (by omega), if_neg (by omega), if_neg (by omega), if_pos rfl]
theorem zρ_62 {base tM tF b : Nat} {ad : Nat → Nat × Nat} : zρ base ad tM tF b 62 = b := by
  unfold zρ
  rw [if_neg (by unfold zE; omega), if_neg (by omega), if_neg (by omega), if_neg (by omega), if_neg (by omega), if_pos rfl]
set_option maxHeartbeats 8000000 in
theorem zKX_start {s : State} {b L : Nat} {xs : Nat → Int32} (hts : ∀ w ∈ lw_tbl, w.before #[Value.ref b] s = true) (hgv : (Jvm.Cond.and given_1 narrow_1).before #[Value.ref b] s = true) (hX : va_X b L xs s s.heap) (hbl : b < s.heap.size) :
    ∃ (ρ : Nat → Nat) (cy : Nat → ClassId) (D : va_G) (fz : Bool), (∀ a, zE ≤ a → ρ a = s.heap.size + (a - zE)) ∧ ρ 62 = b ∧ zKX ρ cy s.heap.size D fz L xs s := by
  have hA : ∀ a : Nat, a < s.heap.size → ¬ s.heap.size ≤ a := fun a h => by omega
  have hs := flat_of_before _ hgv
  have hw : ∀ w ∈ zWS, w.before #[Value.ref b] s = true := fun w h => hts w (List.mem_filter.mp h).1
  have mm : ∀ {i : Nat} {w : Cond}, zFl[i]? = some w → w.before #[Value.ref b] s = true := fun h => hs _ (List.mem_of_getElem? h)
  have hstr : ∀ k : Nat, ∃ a : Nat × Nat, k < 51 → (vk_S 1 [zlen.getD k 0] [zbyt.getD k []] (fun _ => a.1) (fun _ => a.2) (fun q => s.heap.size ≤ q) s s.heap ∧ (zstm k).eval #[Value.ref b] s none [] s = some (.ref a.1)) := by
    intro k
    by_cases hk : k < 51
    · have hc := zsC_all hk
      unfold zsC at hc
      split at hc
      · next p hp =>
        simp only [Bool.and_eq_true, decide_eq_true_eq, List.all_eq_true, List.mem_range] at hc
        obtain ⟨⟨⟨⟨c1, c2⟩, c3⟩, c4⟩, c5⟩ := hc
        have i0 : ∀ {i : Nat}, i < 1 → i = 0 := fun h => by omega
        obtain ⟨aK, aV, h1, h2⟩ := vk_Sof (args := #[Value.ref b]) (s := s) (N := 1) (tm := fun _ => zstm k) (len := [zlen.getD k 0]) (byt := [zbyt.getD k []]) (A := fun q => s.heap.size ≤ q) (fun i hi => by rw [i0 hi]; exact zsLen hk) (fun i hi => mm c1) (fun i hi => mm c2) (fun i hi => mm c3) (fun i hi => by rw [i0 hi]; exact mm c4) (fun i hi j hj => by rw [i0 hi] at hj ⊢; exact mm (c5 j hj)) (fun i j hi hj hne => absurd ((i0 hi).trans (i0 hj).symm) hne) hA
        refine ⟨(aK 0, aV 0), fun _ => ⟨⟨fun i hi => ?_, fun i j hi hj _ => (i0 hi).trans (i0 hj).symm⟩, h2 0 (Nat.lt_succ_self 0)⟩⟩
        rw [i0 hi]
        exact h1.1 0 (Nat.lt_succ_self 0)
      · cases hc
    · exact ⟨(0, 0), fun h => absurd h hk⟩
  obtain ⟨ad, had⟩ := Classical.axiomOfChoice hstr
  have hcl : ∀ k : Nat, ∃ q : ClassId × (Nat → Nat), k < 14 → u_Kn s (Rn k) (zTf k) (zNf k) q.1 q.2 := by
    intro k
    by_cases hk : k < 14
    · obtain ⟨cC, iS, h⟩ := u_known hw (zcl hk).2.1 (hw _ (zii hk).1)
      exact ⟨(cC, iS), fun _ => h⟩
    · exact ⟨(0, fun _ => 0), fun h => absurd h hk⟩
  obtain ⟨cd, hcd⟩ := Classical.axiomOfChoice hcl
  obtain ⟨c0, k0, m0, f0, g0, h0⟩ := Cond.arrayClass_spec (hw _ zac_int)
  obtain ⟨c1, k1, m1, f1, g1, h1⟩ := Cond.arrayClass_spec (hw _ zac_byte)
  obtain ⟨c2, k2, m2, f2, g2, h2⟩ := Cond.arrayClass_spec (hw _ zac_boolean)
  obtain ⟨c3, k3, m3, f3, g3, h3⟩ := Cond.arrayClass_spec (hw _ zac_long)
  obtain ⟨m4, c4, k4, e4, -, g4, h4, f4⟩ := Cond.arrayOver_spec (hts _ zlw_ao)
  obtain ⟨m5, c5, k5, e5, g5, h5, f5⟩ := Cond.arrayOver_specA (hts _ zlw_al)
  have hK : va_K (fun k => (cd k).1, fun k => (cd k).2) vwCl (zTys (fun t => match t with | 0 => c0 | 1 => c1 | 2 => c2 | 3 => c3 | 4 => c4 | _ => c5)) s := by
    refine ⟨fun k q hq => ?_, fun k q hq => ?_⟩
    · have hk : k < 14 := (List.getElem?_eq_some_iff.mp hq).1
      have e9 := (zcl hk).1
      rw [hq] at e9
      cases e9
      exact hcd k hk
    · match k, hq with
      | 0, hq => cases hq; exact ⟨fun n z => ⟨(fun q hq => by cases hq), k0, g0, m0, h0⟩, f0⟩
      | 1, hq => cases hq; exact ⟨fun n z => ⟨(fun q hq => by cases hq), k1, g1, m1, h1⟩, f1⟩
      | 2, hq => cases hq; exact ⟨fun n z => ⟨(fun q hq => by cases hq), k2, g2, m2, h2⟩, f2⟩
      | 3, hq => cases hq; exact ⟨fun n z => ⟨(fun q hq => by cases hq), k3, g3, m3, h3⟩, f3⟩
      | 4, hq => cases hq; exact ⟨fun n z => ⟨(fun q hq => by cases hq), k4, g4, m4, h4⟩, k4, m4, g4, h4, e4, f4⟩
      | 5, hq => cases hq; exact ⟨fun n z => ⟨(fun q hq => by cases hq), k5, g5, m5, h5⟩, f5⟩
      | n + 6, hq => simp [zTys] at hq
  have hM := zfM
  simp only [Bool.and_eq_true, decide_eq_true_eq, List.all_eq_true, List.mem_range] at hM
  obtain ⟨⟨n1, n2⟩, n3⟩ := hM
  obtain ⟨tM, hM1, hM2⟩ := va_Tof (args := #[Value.ref b]) (s := s) (tm := .static "PearlHouse" "MOST_OF_SORT" "[I") (ty := .int) (N := 9) (f := fun j => .int (zmost.getD j 0)) (A := fun q => s.heap.size ≤ q) (by decide) (mm n1) (va_eqt (mm n2)) (fun j hj => va_eqt (mm (n3 j hj))) hA
  have hZM := va_Zof (A := fun q => s.heap.size ≤ q) (hts _ zlw_ms) (hts _ zlw_ip) hM1 hA
  have hZC := va_Zof (A := fun q => s.heap.size ≤ q) (hts _ zlw_cs) (hts _ zlw_is) (va_eqi (mm zfC)) hA
  have hZS := va_Zqof (A := fun q => s.heap.size ≤ q) (hts _ zlw_sf) (hts _ zlw_if) (mm zfS) hA
  obtain ⟨fz, tF, hZF⟩ : ∃ (fz : Bool) (tF : Nat), va_Z "jdk/internal/util/Preconditions" "SIOOBE_FORMATTER" "Ljava/util/function/BiFunction;" (if fz = true then .null else .ref tF) (fun q => s.heap.size ≤ q) s s.heap := by
    rcases hZS with h | ⟨t, h⟩
    · exact ⟨true, 0, h⟩
    · exact ⟨false, t, h⟩
  obtain ⟨scr, x1, x2, x3, x4, x5⟩ := hX
  have hT : va_T .int b L (fun j => .int (xs j)) (fun q => s.heap.size ≤ q) s s.heap := ⟨scr, x1, x2, x3, Nat.le_of_eq x4.symm, by rw [x4], x5, hA b hbl⟩
  refine ⟨zρ s.heap.size ad tM tF b, _, _, fz, fun a h => if_pos h, zρ_62, hK, fun w hw9 hg => va_Nw.of (zNw_on hg) (hts w hw9), va_AO.of (hts _ zlw_ao), hts _ zlw_al, fun k hk => ?_, ?_, ?_, hZC, ?_, ?_⟩
  · rw [zρ_s hk, zρ_v hk]
    refine ⟨(had k hk).1, fun q t hq ht => ?_⟩
    have hr : (Cond.stringRef (Rn q.1) q.2.1 t) ∈ lw_tbl := by
      have h9 := List.all_eq_true.mp zstr_w k (List.mem_range.mpr hk)
      have h8 := of_decide_eq_true h9
      rw [hq, ht] at h8
      exact List.mem_of_getElem? h8
    have he := (had k hk).2
    unfold zstm at he
    rw [hq] at he
    exact vk_R.of (hts _ hr) he
  · rw [zρ_60]; exact hZM
  · rw [zρ_60]; exact hM2
  · cases fz with
    | true => exact hZF
    | false =>
      show va_Z _ _ _ (Value.ref (zρ s.heap.size ad tM tF b 61)) _ s s.heap
      rw [zρ_61]
      exact hZF
  · rw [zρ_62]; exact hT
def zLaw : zMI := (14, x, code, 4, some .boolean, 1, 2)
/-- WHAT IS LEFT: on every script of at most N ints my machine runs the law to its end, with true, within the room -/
def zPure (N : Nat) : Prop := ∀ (fz : Bool) (L : Nat) (xs : Nat → Int32), L ≤ N → ∃ (n : Nat) (hp' : List PE) (c' z' : Nat), zrun (zX fz L xs) n 2048 zLaw (0, [(0, .ref 62)], [], [], 0, 0) = some (some (.int 1), hp', c', z') ∧ c' ≤ 600000 ∧ z' ≤ 7302250
