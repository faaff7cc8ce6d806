/-! the class's Scanner.advance: what it does to a text -/
def zWL : List Int64 := [7758194, 7499639, 1936026977, 1651469428, 1769107572, 26990, 7304564, 1886547811, 1952543595, 1835100526, 28526, 6385273, 1701606245, 504364296556, 1936292453, 1953066341, 495873782885, 24948, 418330731890, 6384748, 2003330414, 25711, 125780071117422, 26982, 512852847717, 6647396, 1835101029, 1935764837, 1819243365, 7106407, 115922852733797, 6386539, 1734964837, 32199693642659429, 1718773093, 435644818802, 465557354085, 1952541541, 7370100, 495873782388, 26479, 1752132708, 482955849586, 31650977495215732, 1886743660, 111524754648165, 28263441947061349]
def zWd (i : Nat) : Int64 := zWL.getD i 0
def wdC (s : zσ) : Prop := ∀ i, i < 47 → s.2.1 1003 i = zWd i
theorem wdC_off {s s2 : zσ} (h : wdC s) (ho : zof s s2 1001) : wdC s2 := fun i hi => by rw [(ho.1 1003 (by decide)).2.1]; exact h i hi
/-- the kind of a name: the last of the words that is it -/
def zkwf (nm : Int64) : Nat → Nat → Int32 → Int32
  | 0, _, kd => kd
  | m + 1, i, kd => zkwf nm m (i + 1) (if zWd i = nm then nI (128 + i) else kd)
def bI (b : Bool) : Int32 := if b = true then 1 else 0
def tkEnd (U : Nat → Nat) (len q : Nat) : Nat := if q = len then q else if zltU (U q) = true then zrn U true len (q + 1) else if zfgU (U q) = true then zrn U false len (q + 1) else q + 1
def tkKind (U : Nat → Nat) (len q : Nat) : Int32 := if q = len then 3 else if zltU (U q) = true then (if 8 < tkEnd U len q - q then 0 else zkwf (znm U q (tkEnd U len q - q)) 47 0 1) else if zfgU (U q) = true then (if 9 < tkEnd U len q - q then 0 else 2) else if zidx 1 (nI (U q)) < 0 then 0 else nI (U q)
section ZAD
variable {U : Nat → Nat} {len n : Nat}
theorem adv_skip : ∀ (m p j : Nat) (s : zσ), len - p = m → p ≤ len → m < j → txC U len s → s.1 1001 3 = nI p → f26_9 n j s = f26_61 n (sI s 1001 3 (nI (zsk U len p))) := by
  intro m
  induction m with
  | zero =>
    intro p j s hm hp hj hT hn
    obtain ⟨j, rfl⟩ : ∃ j0, j = j0 + 1 := ⟨j - 1, by omega⟩
    have e : p = len := by omega
    subst e
    rw [f26_9, hn, hT.2.1, if_neg Int32.lt_irrefl, zsk_l, sI_id hn]
  | succ m ih =>
    intro p j s hm hp hj hT hn
    obtain ⟨j, rfl⟩ : ∃ j0, j = j0 + 1 := ⟨j - 1, by omega⟩
    have hlt : p < len := by omega
    have hl := hT.1
    obtain ⟨hu, hb⟩ := hT.2.2 p hlt
    obtain ⟨-, b2, b3, -⟩ := sb_f hu
    have hin : zin? (nI p) 4000 = true := zin_nI (by omega) (by decide)
    have hih := ih (p + 1) j (sI s 1001 3 (nI (p + 1))) (by omega) (by omega) (by omega) (txC_sI hT (by decide)) rIe
    rw [sI_sI] at hih
    have h48 : f26_48 n (f26_9 n j) s = f26_9 n j (sI s 1001 3 (nI (p + 1))) := by
      show f26_9 n j (sI s 1001 3 (s.1 1001 3 + 1)) = _
      rw [hn, nI_1]
    rw [f26_9, hn, hT.2.1, if_pos (nI_lt hlt (by omega)), if_pos hin, nx_nI (show p < 2 ^ 31 by omega), hb]
    by_cases h1 : U p = 32
    · rw [if_pos (b2.mpr h1), zsk_s hlt (by simp [zblU, h1]), h48]
      exact hih
    · rw [if_neg (fun q => h1 (b2.mp q)), if_pos hin]
      by_cases h2 : U p = 10
      · rw [if_pos (b3.mpr h2), zsk_s hlt (by simp [zblU, h2]), h48]
        exact hih
      · rw [if_neg (fun q => h2 (b3.mp q)), zsk_n (by simp [zblU, h1, h2]), sI_id hn]
/-- the figures and letters of a name or number -/
theorem adv_run {b : Bool} {q : Nat} : ∀ (m p j : Nat) (s : zσ), len - p = m → p ≤ len → m < j → q ≤ p → txC U len s → s.1 1001 3 = nI p → s.2.1 1001 7 = znm U q (p - q) → s.1 1001 6 = znb U q (p - q) → ∃ s2, f26_175 n j (bI b) s = f26_305 n (bI b) s2 ∧ zof s s2 1001 ∧ s2.1 1001 3 = nI (zrn U b len p) ∧ s2.2.1 1001 7 = znm U q (zrn U b len p - q) ∧ s2.1 1001 6 = znb U q (zrn U b len p - q) ∧ s2.1 1001 2 = nI len ∧ s2.1 1001 5 = s.1 1001 5 := by
  intro m
  induction m with
  | zero =>
    intro p j s hm hp hj hq hT hn h7 h6
    obtain ⟨j, rfl⟩ : ∃ j0, j = j0 + 1 := ⟨j - 1, by omega⟩
    have e : p = len := by omega
    subst e
    refine ⟨s, ?_, zof_rf, ?_, ?_, ?_, hT.2.1, rfl⟩
    · rw [f26_175, hn, hT.2.1, if_neg Int32.lt_irrefl]
    · rw [zrn_l]; exact hn
    · rw [zrn_l]; exact h7
    · rw [zrn_l]; exact h6
  | succ m ih =>
    intro p j s hm hp hj hq hT hn h7 h6
    obtain ⟨j, rfl⟩ : ∃ j0, j = j0 + 1 := ⟨j - 1, by omega⟩
    have hlt : p < len := by omega
    have hl := hT.1
    obtain ⟨hu, hb⟩ := hT.2.2 p hlt
    obtain ⟨-, -, -, b4, b5, b6, b7, b8, -⟩ := sb_f hu
    have hin : zin? (nI p) 4000 = true := zin_nI (by omega) (by decide)
    have hnx : nx (nI p) = p := nx_nI (by omega)
    -- one more byte
    have hgo : U p < 128 → ∃ s2, f26_246 n (f26_175 n j) (bI b) s = f26_305 n (bI b) s2 ∧ zof s s2 1001 ∧ s2.1 1001 3 = nI (zrn U b len (p + 1)) ∧ s2.2.1 1001 7 = znm U q (zrn U b len (p + 1) - q) ∧ s2.1 1001 6 = znb U q (zrn U b len (p + 1) - q) ∧ s2.1 1001 2 = nI len ∧ s2.1 1001 5 = s.1 1001 5 := by
      intro h128
      have hm1 : p + 1 - q = (p - q) + 1 := by omega
      have hm2 : q + (p - q) = p := by omega
      obtain ⟨s2, e, o, r3, r7, r6, r2, r5⟩ := ih (p + 1) j (sI (sI (sJ s 1001 7 (znm U q (p + 1 - q))) 1001 6 (znb U q (p + 1 - q))) 1001 3 (nI (p + 1))) (by omega) (by omega) (by omega) (by omega) (txC_sI (txC_sI (txC_sJ hT) (by decide)) (by decide)) rIe (by rw [rI2, rI2, rJe]) (by rw [rIk (by decide), rIe])
      refine ⟨s2, ?_, zof_tr (zof_tr (zof_tr zof_J zof_I) zof_I) o, r3, r7, r6, r2, ?_⟩
      · rw [← e]
        show (if zin? (s.1 1001 3) 4000 = true then _ else none) = _
        rw [hn, if_pos hin]
        show (if zin? ((sJ s 1001 7 _).1 1001 3) 4000 = true then _ else none) = _
        rw [rJ1, hn, if_pos hin]
        show f26_175 n j (bI b) (sI (sI (sJ s 1001 7 _) 1001 6 _) 1001 3 ((sI (sJ s 1001 7 _) 1001 6 _).1 1001 3 + 1)) = _
        rw [rIk (by decide), rJ1, hn, nI_1, hnx, hb, h7, h6, b8 h128, hm1]
        show _ = f26_175 n j (bI b) (sI (sI (sJ s 1001 7 ((znm U q (p - q) <<< ((8 : Int32).toInt64 &&& 63)) ||| (nI (U (q + (p - q)))).toInt64)) 1001 6 (((znb U q (p - q) * 10) + nI (U (q + (p - q)))) - 48)) 1001 3 (nI (p + 1)))
        rw [hm2]
      · rw [r5, rIk (by decide), rIk (by decide), rJ1]
    have hstop : (zfgU (U p) || b && zltU (U p)) = false → ∃ s2, f26_305 n (bI b) s = f26_305 n (bI b) s2 ∧ zof s s2 1001 ∧ s2.1 1001 3 = nI (zrn U b len p) ∧ s2.2.1 1001 7 = znm U q (zrn U b len p - q) ∧ s2.1 1001 6 = znb U q (zrn U b len p - q) ∧ s2.1 1001 2 = nI len ∧ s2.1 1001 5 = s.1 1001 5 := by
      intro h0
      rw [zrn_n (by rw [h0]; decide)]
      exact ⟨s, rfl, zof_rf, hn, h7, h6, hT.2.1, rfl⟩
    rw [f26_175, hn, hT.2.1, if_pos (nI_lt hlt (by omega)), if_pos hin, hnx, hb]
    have h214 : zfgU (U p) = false → ∃ s2, f26_214 n (f26_175 n j) (bI b) s = f26_305 n (bI b) s2 ∧ zof s s2 1001 ∧ s2.1 1001 3 = nI (zrn U b len p) ∧ s2.2.1 1001 7 = znm U q (zrn U b len p - q) ∧ s2.1 1001 6 = znb U q (zrn U b len p - q) ∧ s2.1 1001 2 = nI len ∧ s2.1 1001 5 = s.1 1001 5 := by
      intro hf
      unfold f26_214
      cases b with
      | false =>
        rw [if_pos (show bI false = 0 from rfl)]
        exact hstop (by rw [hf]; rfl)
      | true =>
        rw [if_neg (show ¬ bI true = 0 by decide), hn, if_pos hin, hnx, hb]
        by_cases h6' : U p < 97 ∨ 128 ≤ U p
        · rw [if_pos (b6.mpr h6')]
          exact hstop (by rw [hf]; simp [zltU]; omega)
        · rw [if_neg (fun e => h6' (b6.mp e)), if_pos hin]
          by_cases h7' : 122 < U p ∧ U p < 128
          · rw [if_pos (b7.mpr h7')]
            exact hstop (by rw [hf]; simp [zltU]; omega)
          · rw [if_neg (fun e => h7' (b7.mp e)), zrn_s hlt (by rw [hf]; simp [zltU]; omega)]
            exact hgo (by omega)
    by_cases h4 : U p < 48 ∨ 128 ≤ U p
    · rw [if_pos (b4.mpr h4)]
      exact h214 (by simp [zfgU]; omega)
    · rw [if_neg (fun e => h4 (b4.mp e)), if_pos hin]
      by_cases h5 : 57 < U p ∧ U p < 128
      · rw [if_pos (b5.mpr h5)]
        exact h214 (by simp [zfgU]; omega)
      · rw [if_neg (fun e => h5 (b5.mp e)), zrn_s hlt (by simp [zfgU]; omega)]
        exact hgo (by omega)
/-- the words -/
theorem adv_word {nm : Int64} : ∀ (m i j : Nat) (s : zσ), i + m = 47 → m < j → wdC s → s.2.1 1001 7 = nm → ∃ s2, f26_349 n j 1 (nI i) s = some s2 ∧ zof s s2 1001 ∧ s2.1 1001 4 = zkwf nm m i (s.1 1001 4) ∧ s2.2 = s.2 ∧ (∀ k, k ≠ 4 → s2.1 1001 k = s.1 1001 k) := by
  intro m
  induction m with
  | zero =>
    intro i j s hm hj hw h7
    obtain ⟨j, rfl⟩ : ∃ j0, j = j0 + 1 := ⟨j - 1, by omega⟩
    have e : i = 47 := by omega
    subst e
    refine ⟨s, ?_, zof_rf, rfl, rfl, fun _ _ => rfl⟩
    rw [f26_349, if_neg (by decide), if_neg (by decide)]
  | succ m ih =>
    intro i j s hm hj hw h7
    obtain ⟨j, rfl⟩ : ∃ j0, j = j0 + 1 := ⟨j - 1, by omega⟩
    have hin : zin? (nI i) 47 = true := zin_nI (by omega) (by decide)
    have hlt : nI i < 47 := nI_lt (b := 47) (by omega) (by decide)
    rw [f26_349, if_neg (by decide), if_pos hlt, if_pos hin, nx_nI (show i < 2 ^ 31 by omega), hw i (by omega), h7]
    by_cases hc : zWd i = nm
    · rw [if_pos hc]
      obtain ⟨s2, e, o, r4, r2, rk⟩ := ih (i + 1) j (sI s 1001 4 ((128 : Int32) + nI i)) (by omega) (by omega) (wdC_off hw zof_I) h7
      refine ⟨s2, ?_, zof_tr zof_I o, ?_, r2, fun k hk => ?_⟩
      · show f26_349 n j 1 (nI i + 1) (sI s 1001 4 ((128 : Int32) + nI i)) = _
        rw [nI_1]
        exact e
      · rw [r4, rIe]
        show _ = zkwf nm m (i + 1) (if zWd i = nm then nI (128 + i) else s.1 1001 4)
        rw [if_pos hc, ← nI_add]
        rfl
      · rw [rk k hk, rIk hk]
    · rw [if_neg hc]
      obtain ⟨s2, e, o, r4, r2, rk⟩ := ih (i + 1) j s (by omega) (by omega) hw h7
      refine ⟨s2, ?_, o, ?_, r2, rk⟩
      · show f26_349 n j 1 (nI i + 1) s = _
        rw [nI_1]
        exact e
      · rw [r4]
        show _ = zkwf nm m (i + 1) (if zWd i = nm then nI (128 + i) else s.1 1001 4)
        rw [if_neg hc]
theorem nI_sub {a b : Nat} (h : b ≤ a) : nI a - nI b = nI (a - b) := by
  have h1 : nI a = nI (a - b) + nI b := by rw [nI_add]; congr 1; omega
  rw [h1, Int32.add_sub_cancel]
/-- behind a name or number -/
theorem adv_end {b : Bool} {q e : Nat} {s : zσ} (hn : 100 ≤ n) (hq : q ≤ e) (he : e ≤ 4000) (hw : wdC s) (h3 : s.1 1001 3 = nI e) (h5 : s.1 1001 5 = nI q) : ∃ s2, f26_305 n (bI b) s = some s2 ∧ zof s s2 1001 ∧ s2.1 1001 4 = (if (if b = true then 8 else 9) < e - q then 0 else if b = true then zkwf (s.2.1 1001 7) 47 0 1 else 2) ∧ s2.2 = s.2 ∧ (∀ k, k ≠ 4 → s2.1 1001 k = s.1 1001 k) := by
  unfold f26_305
  rw [h3, h5, nI_sub hq]
  cases b with
  | false =>
    rw [if_pos (show bI false = 0 from rfl)]
    unfold f26_325
    by_cases hc : 9 < e - q
    · rw [if_pos (show (9 : Int32) < nI (e - q) from nI_lt (a := 9) hc (by omega))]
      refine ⟨sI s 1001 4 0, rfl, zof_I, ?_, rfl, fun k hk => rIk hk⟩
      rw [rIe]
      simp [hc]
    · rw [if_neg (show ¬ (9 : Int32) < nI (e - q) from nI_nlt (b := e - q) (a := 9) (by omega) (by decide)), if_pos (show bI false = 0 from rfl)]
      obtain ⟨n, rfl⟩ : ∃ n0, n = n0 + 1 := ⟨n - 1, by omega⟩
      refine ⟨sI s 1001 4 2, ?_, zof_I, ?_, rfl, fun k hk => rIk hk⟩
      · show f26_349 (n + 1) (n + 1) (bI false) 0 (sI s 1001 4 2) = _
        rw [f26_349, if_pos (show bI false = 0 from rfl)]
      · rw [rIe]
        simp [hc]
  | true =>
    rw [if_neg (show ¬ bI true = 0 by decide)]
    unfold f26_325
    by_cases hc : 8 < e - q
    · rw [if_pos (show (8 : Int32) < nI (e - q) from nI_lt (a := 8) hc (by omega))]
      refine ⟨sI s 1001 4 0, rfl, zof_I, ?_, rfl, fun k hk => rIk hk⟩
      rw [rIe]
      simp [hc]
    · rw [if_neg (show ¬ (8 : Int32) < nI (e - q) from nI_nlt (b := e - q) (a := 8) (by omega) (by decide)), if_neg (show ¬ bI true = 0 by decide)]
      obtain ⟨s2, e1, o, r4, r2, rk⟩ := adv_word (n := n) (nm := s.2.1 1001 7) 47 0 n (sI s 1001 4 1) (by omega) (by omega) (wdC_off hw zof_I) rfl
      refine ⟨s2, e1, zof_tr zof_I o, ?_, r2, fun k hk => ?_⟩
      · rw [r4, rIe]
        simp [hc]
      · rw [rk k hk, rIk hk]
end ZAD
