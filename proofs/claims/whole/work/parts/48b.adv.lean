section ZAE
variable {U : Nat → Nat} {len n : Nat}
theorem znm_1 (q : Nat) : znm U q 1 = (nI (U q)).toInt64 := by simp [znm]
theorem znb_1 (q : Nat) : znb U q 1 = nI (U q) - 48 := by simp [znb]
theorem nIlt {u : Nat} {k : Nat} (hu : u < 256) (hk : k < 256) : nI u < nI k ↔ u < k := nI_ltI (by omega) (by omega)
/-- Scanner.advance -/
theorem adv_ok {s : zσ} {p : Nat} (hn : 5000 ≤ n) (hT : txC U len s) (hw : wdC s) (hk : ¬ s.1 1001 4 = 4) (h3 : s.1 1001 3 = nI p) (hp : p ≤ len) : ∃ s2, f26 n s = some s2 ∧ zof s s2 1001 ∧ s2.1 1001 2 = s.1 1001 2 ∧ s2.1 1001 5 = nI (zsk U len p) ∧ s2.1 1001 3 = nI (tkEnd U len (zsk U len p)) ∧ s2.1 1001 4 = tkKind U len (zsk U len p) ∧ (zsk U len p < len → zltU (U (zsk U len p)) = true → s2.2.1 1001 7 = znm U (zsk U len p) (tkEnd U len (zsk U len p) - zsk U len p)) ∧ (zsk U len p < len → zfgU (U (zsk U len p)) = true → s2.1 1001 6 = znb U (zsk U len p) (tkEnd U len (zsk U len p) - zsk U len p)) := by
  have hl := hT.1
  unfold f26
  rw [if_neg hk, adv_skip (len - p) p n s rfl hp (by omega) hT h3]
  have hq : zsk U len p ≤ len := zsk_le hp
  generalize zsk U len p = q at hq ⊢
  have a1 : (sI s 1001 3 (nI q)).1 1001 3 = nI q := rIe
  have a2 : (sI (sI s 1001 3 (nI q)) 1001 5 (nI q)).1 1001 3 = nI q := (rIk (by decide)).trans a1
  have a3 : (sI (sI s 1001 3 (nI q)) 1001 5 (nI q)).1 1001 2 = nI len := (rIk (by decide)).trans ((rIk (by decide)).trans hT.2.1)
  by_cases hlt : q < len
  · obtain ⟨hu, hb⟩ := hT.2.2 q hlt
    obtain ⟨b1, -, -, -, -, -, -, -, b9⟩ := sb_f hu
    have hin : zin? (nI q) 4000 = true := zin_nI (by omega) (by decide)
    have a4 : (sI (sI (sI s 1001 3 (nI q)) 1001 5 (nI q)) 1001 3 (nI (q + 1))).1 1002 q = sb (U q) := by
      rw [rIo (by decide), rIo (by decide), rIo (by decide), hb]
    have hne : ¬ q = len := by omega
    -- the state behind the first byte
    have hu2 : ∃ u2, u2 = sI (sI (sI s 1001 3 (nI q)) 1001 5 (nI q)) 1001 3 (nI (q + 1)) := ⟨_, rfl⟩
    obtain ⟨u2, eu⟩ := hu2
    have o2 : zof s u2 1001 := by rw [eu]; exact zof_tr (zof_tr zof_I zof_I) zof_I
    have t2 : u2.1 1001 2 = s.1 1001 2 := by rw [eu, rIk (by decide), rIk (by decide), rIk (by decide)]
    have t3 : u2.1 1001 3 = nI (q + 1) := by rw [eu, rIe]
    have t5 : u2.1 1001 5 = nI q := by rw [eu, rIk (by decide), rIe]
    have e61 : f26_61 n (sI s 1001 3 (nI q)) = (if nI (U q) < 97 then f26_123 n (nI (U q)) u2 else if (122 : Int32) < nI (U q) then f26_123 n (nI (U q)) u2 else f26_124 n (nI (U q)) 1 u2) := by
      simp only [f26_61, zlet, a1, a2, a3]
      rw [if_pos (nI_lt hlt (by omega)), if_pos hin, nI_1, nx_nI (show q < 2 ^ 31 by omega), a4, b1, ← eu]
    rw [e61]
    -- a name or number
    have hname : ∀ b : Bool, f26_161 n (nI (U q)) (bI b) u2 = f26_175 n n (bI b) (sI (sJ u2 1001 7 (nI (U q)).toInt64) 1001 6 (nI (U q) - 48)) := fun b => rfl
    have hrun : ∀ b : Bool, ∃ s2, f26_161 n (nI (U q)) (bI b) u2 = some s2 ∧ zof s s2 1001 ∧ s2.1 1001 2 = s.1 1001 2 ∧ s2.1 1001 5 = nI q ∧ s2.1 1001 3 = nI (zrn U b len (q + 1)) ∧ s2.1 1001 4 = (if (if b = true then 8 else 9) < zrn U b len (q + 1) - q then 0 else if b = true then zkwf (znm U q (zrn U b len (q + 1) - q)) 47 0 1 else 2) ∧ s2.2.1 1001 7 = znm U q (zrn U b len (q + 1) - q) ∧ s2.1 1001 6 = znb U q (zrn U b len (q + 1) - q) := by
      intro b
      have hT2 : txC U len (sI (sJ u2 1001 7 (nI (U q)).toInt64) 1001 6 (nI (U q) - 48)) := txC_sI (txC_sJ (txC_off hT o2 t2)) (by decide)
      obtain ⟨s3, e, o, r3, r7, r6, r2, r5⟩ := adv_run (n := n) (b := b) (q := q) (len - (q + 1)) (q + 1) n _ rfl (by omega) (by omega) (by omega) hT2 (by rw [rIk (by decide), rJ1, t3]) (by rw [rI2, rJe, show q + 1 - q = 1 by omega, znm_1]) (by rw [rIe, show q + 1 - q = 1 by omega, znb_1])
      have o3 : zof s s3 1001 := zof_tr o2 (zof_tr (zof_tr zof_J zof_I) o)
      have r5' : s3.1 1001 5 = nI q := by rw [r5, rIk (by decide), rJ1, t5]
      obtain ⟨s4, e4, o4, k4, k2, kk⟩ := adv_end (n := n) (b := b) (q := q) (e := zrn U b len (q + 1)) (s := s3) (by omega) (Nat.le_trans (Nat.le_succ q) zrn_ge) (Nat.le_trans (zrn_le (by omega)) hl) (wdC_off hw o3) r3 r5'
      refine ⟨s4, ?_, zof_tr o3 o4, ?_, ?_, ?_, ?_, ?_, ?_⟩
      · rw [hname, e, e4]
      · rw [kk 2 (by decide), r2, hT.2.1]
      · rw [kk 5 (by decide), r5']
      · rw [kk 3 (by decide), r3]
      · rw [k4, r7]
      · rw [k2, r7]
      · rw [kk 6 (by decide), r6]
    by_cases hlet : zltU (U q) = true
    · have h97 : 97 ≤ U q ∧ U q ≤ 122 := by simpa [zltU] using hlet
      rw [if_neg (fun e => by have := (nIlt hu (k := 97) (by decide)).mp e; omega), if_neg (fun e => by have := (nIlt (u := 122) (by decide) hu).mp e; omega)]
      have e124 : f26_124 n (nI (U q)) 1 u2 = f26_161 n (nI (U q)) (bI true) u2 := by
        unfold f26_124
        rw [if_neg (by decide)]
        rfl
      obtain ⟨s2, e, o, r2, r5, r3, r4, r7, r6⟩ := hrun true
      have eE : tkEnd U len q = zrn U true len (q + 1) := by unfold tkEnd; rw [if_neg hne, if_pos hlet]
      refine ⟨s2, by rw [e124, e], o, r2, r5, by rw [eE, r3], ?_, fun _ _ => by rw [eE, r7], fun _ hf => ?_⟩
      · unfold tkKind
        rw [if_neg hne, if_pos hlet, eE, r4]
        simp
      · exfalso
        have : 48 ≤ U q ∧ U q ≤ 57 := by simpa [zfgU] using hf
        omega
    · have hnl : ¬ (97 ≤ U q ∧ U q ≤ 122) := by simpa [zltU] using hlet
      have e123 : (if nI (U q) < 97 then f26_123 n (nI (U q)) u2 else if (122 : Int32) < nI (U q) then f26_123 n (nI (U q)) u2 else f26_124 n (nI (U q)) 1 u2) = f26_123 n (nI (U q)) u2 := by
        by_cases h1 : nI (U q) < 97
        · rw [if_pos h1]
        · rw [if_neg h1, if_pos (show (122 : Int32) < nI (U q) from (nIlt (u := 122) (by decide) hu).mpr (by have := mt (nIlt hu (k := 97) (by decide)).mpr h1; omega))]
      rw [e123]
      by_cases hfig : zfgU (U q) = true
      · have h48 : 48 ≤ U q ∧ U q ≤ 57 := by simpa [zfgU] using hfig
        have e124 : f26_123 n (nI (U q)) u2 = f26_161 n (nI (U q)) (bI false) u2 := by
          show f26_124 n (nI (U q)) 0 u2 = _
          unfold f26_124
          rw [if_pos rfl, if_neg (fun e => by have := (nIlt hu (k := 48) (by decide)).mp e; omega), if_neg (fun e => by have := (nIlt (u := 57) (by decide) hu).mp e; omega)]
          rfl
        obtain ⟨s2, e, o, r2, r5, r3, r4, r7, r6⟩ := hrun false
        have eE : tkEnd U len q = zrn U false len (q + 1) := by unfold tkEnd; rw [if_neg hne, if_neg hlet, if_pos hfig]
        refine ⟨s2, by rw [e124, e], o, r2, r5, by rw [eE, r3], ?_, fun _ hf => absurd hf hlet, fun _ _ => by rw [eE, r6]⟩
        unfold tkKind
        rw [if_neg hne, if_neg hlet, if_pos hfig, eE, r4]
        simp
      · have hnf : ¬ (48 ≤ U q ∧ U q ≤ 57) := by simpa [zfgU] using hfig
        have e141 : f26_123 n (nI (U q)) u2 = some (sI u2 1001 4 (if zidx 1 (nI (U q)) < 0 then 0 else nI (U q))) := by
          show f26_124 n (nI (U q)) 0 u2 = _
          unfold f26_124
          rw [if_pos rfl]
          have e1 : (if nI (U q) < 48 then f26_141 n (nI (U q)) u2 else if (57 : Int32) < nI (U q) then f26_141 n (nI (U q)) u2 else f26_161 n (nI (U q)) 0 u2) = f26_141 n (nI (U q)) u2 := by
            by_cases h1 : nI (U q) < 48
            · rw [if_pos h1]
            · rw [if_neg h1, if_pos (show (57 : Int32) < nI (U q) from (nIlt (u := 57) (by decide) hu).mpr (by have := mt (nIlt hu (k := 48) (by decide)).mpr h1; omega))]
          rw [e1]
          unfold f26_141
          rw [b9]
          by_cases hz : zidx 1 (nI (U q)) < 0
          · rw [if_pos hz, if_pos hz]; rfl
          · rw [if_neg hz, if_neg hz]; rfl
        have eE : tkEnd U len q = q + 1 := by unfold tkEnd; rw [if_neg hne, if_neg hlet, if_neg hfig]
        refine ⟨_, e141, zof_tr o2 zof_I, by rw [rIk (by decide), t2], by rw [rIk (by decide), t5], by rw [rIk (by decide), t3, eE], ?_, fun _ hf => absurd hf hlet, fun _ hf => absurd hf hfig⟩
        unfold tkKind
        rw [if_neg hne, if_neg hlet, if_neg hfig, rIe]
  · have e : q = len := by omega
    subst e
    have e61 : f26_61 n (sI s 1001 3 (nI q)) = some (sI (sI (sI s 1001 3 (nI q)) 1001 5 (nI q)) 1001 4 3) := by
      simp only [f26_61, zlet, a1, a2, a3]
      rw [if_neg Int32.lt_irrefl]
    refine ⟨_, e61, zof_tr (zof_tr zof_I zof_I) zof_I, by rw [rIk (by decide), rIk (by decide), rIk (by decide)], by rw [rIk (by decide), rIe], ?_, ?_, fun h => absurd h (by omega), fun h => absurd h (by omega)⟩
    · rw [rIk (by decide), rIk (by decide), rIe]; unfold tkEnd; rw [if_pos rfl]
    · rw [rIe]; unfold tkKind; rw [if_pos rfl]
end ZAE
