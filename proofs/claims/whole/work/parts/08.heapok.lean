/-! Part 3: that the given machine follows branches, fields, arrays -/
section ZM2
variable {p : Program} {l : Launch} {e : Env} {R : Room} {s : State} {m : MethodId} {args : Array Value} {below : List Frame} {meth : Method} {c : Code} {H : Heap} {locs : List Loc} {cells slots : Nat} {Q : State → Prop}
variable {cc : ByteArray} {pc : Nat} {ls : Array Slot} {ρ : Nat → Nat} {cy : Nat → ClassId} {base : Nat} {D : va_G}
theorem zsub {x y b : Nat} (hx : zE ≤ x) (hy : zE ≤ y) (h : b + (x - zE) = b + (y - zE)) : x = y := by
  unfold zE at *
  omega
theorem zrf (ρ : Nat → Nat) (r : Option Nat) : pv ρ (va_rf r) = va_rf (r.map ρ) := by cases r <;> rfl
set_option maxHeartbeats 4000000 in
theorem sBr_ok (hρ : ∀ a, zE ≤ a → ρ a = base + (a - zE)) (hx : p.tables.exec = Jvm.exec) (hb : c.code = cc) {ins : Instr} {len pc' : Nat} {st st' : List Value} (hd : decode cc pc = .ok (ins, len)) (h : sBr ins len pc st = some (pc', st'))
    (k : W p l e R s m args below meth c H locs cells slots Q (F0 m pc' ls (st'.map (pv ρ)))) : W p l e R s m args below meth c H locs cells slots Q (F0 m pc ls (st.map (pv ρ))) := by
  cases ins with
  | if_icmp cd off =>
    simp only [sBr] at h
    split at h
    · next y x r =>
      obtain ⟨t, rfl, ht, rfl, rfl⟩ := zif_s h
      have kt : zcnd cd x y = true → W p l e R s m args below meth c H locs cells slots Q (F0 m t ls (st'.map (pv ρ))) := fun q => by rw [if_pos q] at k; exact k
      have kf : ¬ zcnd cd x y = true → W p l e R s m args below meth c H locs cells slots Q (F0 m (pc + 3) ls (st'.map (pv ρ))) := fun q => by rw [if_neg q] at k; exact k
      cases cd with
      | eq => exact lv_icmp_eq hx hb hd ht (fun q => kt (decide_eq_true q)) (fun q => kf (fun w => q (of_decide_eq_true w)))
      | ne => exact lv_icmp_ne hx hb hd ht (fun q => kt (by show (!decide (x = y)) = true; rw [decide_eq_false q]; rfl)) (fun q => kf (by show ¬ (!decide (x = y)) = true; rw [decide_eq_true q]; decide))
      | lt => exact lv_icmp_lt hx hb hd ht (fun q => kt (decide_eq_true q)) (fun q => kf (fun w => q (of_decide_eq_true w)))
      | ge => exact lv_icmp_ge hx hb hd ht (fun q => kt (decide_eq_true q)) (fun q => kf (fun w => q (of_decide_eq_true w)))
      | gt => exact lv_icmp_gt hx hb hd ht (fun q => kt (decide_eq_true q)) (fun q => kf (fun w => q (of_decide_eq_true w)))
      | le => exact lv_icmp_le hx hb hd ht (fun q => kt (decide_eq_true q)) (fun q => kf (fun w => q (of_decide_eq_true w)))
    · cases h
  | ifCond cd off =>
    simp only [sBr] at h
    split at h
    · next x r =>
      obtain ⟨t, rfl, ht, rfl, rfl⟩ := zif_s h
      have kt : zcnd cd x 0 = true → W p l e R s m args below meth c H locs cells slots Q (F0 m t ls (st'.map (pv ρ))) := fun q => by rw [if_pos q] at k; exact k
      have kf : ¬ zcnd cd x 0 = true → W p l e R s m args below meth c H locs cells slots Q (F0 m (pc + 3) ls (st'.map (pv ρ))) := fun q => by rw [if_neg q] at k; exact k
      cases cd with
      | eq => exact lv_if_eq hx hb hd ht (fun q => kt (decide_eq_true q)) (fun q => kf (fun w => q (of_decide_eq_true w)))
      | ne => exact lv_if_ne hx hb hd ht (fun q => kt (by show (!decide (x = 0)) = true; rw [decide_eq_false q]; rfl)) (fun q => kf (by show ¬ (!decide (x = 0)) = true; rw [decide_eq_true q]; decide))
      | lt => exact lv_if_lt hx hb hd ht (fun q => kt (decide_eq_true q)) (fun q => kf (fun w => q (of_decide_eq_true w)))
      | ge => exact lv_if_ge hx hb hd ht (fun q => kt (decide_eq_true q)) (fun q => kf (fun w => q (of_decide_eq_true w)))
      | gt => exact lv_if_gt hx hb hd ht (fun q => kt (decide_eq_true q)) (fun q => kf (fun w => q (of_decide_eq_true w)))
      | le => exact lv_if_le hx hb hd ht (fun q => kt (decide_eq_true q)) (fun q => kf (fun w => q (of_decide_eq_true w)))
    · cases h
  | goto off => obtain ⟨t, rfl, ht, rfl, rfl⟩ := zif_s h; exact lv_goto hx hb hd ht k
  | ifnull off =>
    simp only [sBr] at h
    split at h
    · obtain ⟨t, rfl, ht, rfl, rfl⟩ := zif_s h; exact lv_ifnullN hx hb hd ht k
    · obtain ⟨t, rfl, ht, rfl, rfl⟩ := zif_s h; exact lv_ifnull hx hb hd k
    · cases h
  | ifnonnull off =>
    simp only [sBr] at h
    split at h
    · obtain ⟨t, rfl, ht, rfl, rfl⟩ := zif_s h; exact lv_ifnonnullN hx hb hd k
    · obtain ⟨t, rfl, ht, rfl, rfl⟩ := zif_s h; exact lv_ifnonnull hx hb hd ht k
    · cases h
  | if_acmp cd off =>
    simp only [sBr] at h
    split at h
    · next y x r =>
      split at h
      · next hxy =>
        obtain ⟨t, rfl, ht, rfl, rfl⟩ := zif_s h
        have hinj : ((some x).map ρ = (some y).map ρ) ↔ x = y := by
          constructor
          · intro q
            have q1 : ρ x = ρ y := Option.some.inj q
            have e1 := hρ x hxy.1
            have e2 := hρ y hxy.2
            exact zsub hxy.1 hxy.2 (e1.symm.trans (q1.trans e2))
          · intro q; rw [q]
        have kt : zacnd cd x y = true → W p l e R s m args below meth c H locs cells slots Q (F0 m t ls (st'.map (pv ρ))) := fun q => by rw [if_pos q] at k; exact k
        have kf : ¬ zacnd cd x y = true → W p l e R s m args below meth c H locs cells slots Q (F0 m (pc + 3) ls (st'.map (pv ρ))) := fun q => by rw [if_neg q] at k; exact k
        cases cd with
        | eq => exact lv_acmp_eq (rx := (some x).map ρ) (ry := (some y).map ρ) hx hb hd ht (fun q => kt (decide_eq_true (hinj.mp q))) (fun q => kf (fun w => q (hinj.mpr (of_decide_eq_true w))))
        | ne => exact lv_acmp_ne (rx := (some x).map ρ) (ry := (some y).map ρ) hx hb hd ht (fun q => kt (by show (!decide (x = y)) = true; rw [decide_eq_false (fun w => q (hinj.mpr w))]; rfl)) (fun q => kf (by show ¬ (!decide (x = y)) = true; rw [decide_eq_true (hinj.mp q)]; decide))
      · cases h
    · cases h
  | tableswitch dflt lo hi offs =>
    simp only [sBr] at h
    split at h
    · next x r =>
      obtain ⟨o, ho, ht, rfl⟩ := zsw_s h
      unfold ztoff at ho
      split at ho
      · next hc => cases ho; exact lv_tableOut hx hb hd hc ht k
      · next hc => exact lv_tableIn hx hb hd (fun q => hc (Or.inl q)) (fun q => hc (Or.inr q)) ho ht k
    · cases h
  | lookupswitch dflt ps =>
    simp only [sBr] at h
    split at h
    · next x r =>
      obtain ⟨o, ho, ht, rfl⟩ := zsw_s h
      unfold zloff at ho
      split at ho
      · next hc => cases ho; exact lv_lookup hx hb hd hc rfl ht k
      · cases ho
    · cases h
  | _ => have h2 : (none : Option (Nat × List Value)) = some (pc', st') := h; cases h2
theorem pw_at {hp : List PE} {i : Nat} {q : Nat × va_E} (hq : (pw ρ cy base hp)[i]? = some q) : q.1 = base + i ∧ i < hp.length := by
  rw [pw_get] at hq
  cases hx : hp[i]? with
  | none => rw [hx] at hq; cases hq
  | some x =>
    rw [hx] at hq
    cases hq
    exact ⟨rfl, (List.getElem?_eq_some_iff.mp hx).1⟩
theorem pw_D (hp : List PE) : va_D (fun q => base ≤ q) (pw ρ cy base hp) := by
  refine ⟨fun i j p q hi hj hpq => ?_, fun k q hk => ?_⟩
  · have h1 := (pw_at hi).1
    have h2 := (pw_at hj).1
    omega
  · have h1 := (pw_at hk).1
    show base ≤ q.1
    omega
theorem hget_pw (hρ : ∀ a, zE ≤ a → ρ a = base + (a - zE)) {hp : List PE} {a : Nat} {x : PE} (h : hget hp a = some x) : (pw ρ cy base hp)[a - zE]? = some (ρ a, pe ρ cy x) := by
  unfold hget at h
  split at h
  · cases h
  · next ha => rw [pw_get, h, hρ a (by omega)]; rfl
theorem hset_pw (hρ : ∀ a, zE ≤ a → ρ a = base + (a - zE)) {hp : List PE} {a : Nat} {x : PE} (h : hget hp a = some x) (y : PE) : (pw ρ cy base hp).set (a - zE) (ρ a, pe ρ cy y) = pw ρ cy base (hp.set (a - zE) y) := by
  unfold hget at h
  split at h
  · cases h
  · next ha => rw [hρ a (by omega)]; exact pw_set hp base (a - zE) y
/-- what the walk of a method knows and keeps: the nest mates' links -/
def zNw (w : Cond) : Bool := match w with
  | .fieldLinkNest .. => true
  | .methodLinkNest .. => true
  | _ => false
def zNest (s : State) : Prop := ∀ w ∈ lw_tbl, zNw w = true → va_Nw w s
set_option maxHeartbeats 8000000 in
theorem sHp_ok (hρ : ∀ a, zE ≤ a → ρ a = base + (a - zE)) (hx : p.tables.exec = Jvm.exec) (hb : c.code = cc) (hts : ∀ w ∈ zWS, w.before args s = true) {cn : Nat} {ini : Bool} (hown : s.vm.findClass (Rn cn) = some m.cls) (hini : ini = true → meth.name = "<init>")
    (hK : va_K D vwCl (zTys cy) s) (hN : zNest s) {hp hp' : List PE} (hP : va_P D vwCl (pw ρ cy base hp) H) (hS : va_S (fun q => base ≤ q) s.heap H locs)
    {ins : Instr} {n : Nat} {st st' : List Value} (hd : decode cc pc = .ok (ins, n)) (h : sHp cn ini ins st hp = some (n, st', hp'))
    (k : ∀ (H1 : Heap) (locs1 : List Loc), va_P D vwCl (pw ρ cy base hp') H1 → va_S (fun q => base ≤ q) s.heap H1 locs1 → W p l e R s m args below meth c H1 locs1 cells slots Q (F0 m (pc + n) ls (st'.map (pv ρ)))) : W p l e R s m args below meth c H locs cells slots Q (F0 m pc ls (st.map (pv ρ))) := by
  have hDD := pw_D (ρ := ρ) (cy := cy) (base := base) hp
  cases ins with
  | getfield idx =>
    obtain ⟨a, r, b, ci, kk, fs, v, rfl, hz, hg, hv, rfl, rfl, rfl⟩ := zgf_s h
    obtain ⟨h14, hkN, hT1, hw⟩ := zfl_ok hz
    obtain ⟨c1, c2, c3, c4⟩ := zcl h14
    have he := hget_pw (cy := cy) hρ hg
    have hv' : (fs.map (pv ρ))[kk]? = some (pv ρ v) := by rw [List.getElem?_map, hv]; rfl
    have k' := k H locs hP hS
    rcases hw with ⟨rfl, hw⟩ | ⟨rfl, rfl, hw⟩
    · exact va_get (D := D) hx hb hts c2 hown hK hP (a - zE) he c1 kk hkN (hts _ hw) (fun x hx => by rw [hT1] at hx; exact hx) hv' hd k'
    · exact va_getN (D := D) hx hb hts c2 hown hK hP (a - zE) he c1 kk hkN ((hN _ hw rfl).use rfl) (fun x hx => by rw [hT1] at hx; exact hx) hv' hd k'
  | putfield idx =>
    obtain ⟨v, a, b, ci, kk, fs, rfl, hz, hg, hlen, hfi, hfn, rfl, rfl⟩ := zpf_s h
    obtain ⟨h14, hkN, hT1, hw⟩ := zfl_ok hz
    obtain ⟨c1, c2, c3, c4⟩ := zcl h14
    have he := hget_pw (cy := cy) hρ hg
    obtain ⟨hnar, hfits⟩ := zfit_s ρ hfi
    have hset := hset_pw (cy := cy) hρ hg (.inr (ci, fs.set kk v))
    have hpe : pe ρ cy (.inr (ci, fs.set kk v)) = .inr (ci, (fs.map (pv ρ)).set kk (pv ρ v)) := by
      show (.inr (ci, (fs.set kk v).map (pv ρ)) : va_E) = _
      rw [List.map_set]
    rw [hpe] at hset
    have kp : ∀ (H1 : Heap) (locs1 : List Loc), va_P D vwCl ((pw ρ cy base hp).set (a - zE) (ρ a, .inr (ci, (fs.map (pv ρ)).set kk (pv ρ v)))) H1 → va_D (fun q => base ≤ q) ((pw ρ cy base hp).set (a - zE) (ρ a, .inr (ci, (fs.map (pv ρ)).set kk (pv ρ v)))) → va_S (fun q => base ≤ q) s.heap H1 locs1 → W p l e R s m args below meth c H1 locs1 cells slots Q (F0 m (pc + 3) ls (st'.map (pv ρ))) := by
      intro H1 locs1 h1 _ h3
      rw [hset] at h1
      exact k H1 locs1 h1 h3
    have hl' : kk < (fs.map (pv ρ)).length := by rw [List.length_map]; exact hlen
    unfold zfin at hfn
    split at hfn
    · next hf =>
      rcases hw with ⟨rfl, hw⟩ | ⟨rfl, rfl, hw⟩
      · exact va_put (D := D) hx hb hts c2 (zty ci) c3 c4 hown hK hP hDD hS (a - zE) he c1 kk hkN (hts _ hw) (fun x hx => by rw [hT1] at hx; exact hx) hf (c3 kk hkN) hnar hfits hl' hd kp
      · exact va_putN (D := D) hx hb hts c2 (zty ci) c3 c4 hown hK hP hDD hS (a - zE) he c1 kk hkN ((hN _ hw rfl).use rfl) (fun x hx => by rw [hT1] at hx; exact hx) hf (c3 kk hkN) hnar hfits hl' hd kp
    · next hf =>
      simp only [Bool.and_eq_true, Bool.not_eq_true', decide_eq_true_eq] at hfn
      obtain ⟨⟨hi, hb0⟩, rfl⟩ := hfn
      rcases hw with ⟨rfl, hw⟩ | ⟨rfl, rfl, hw⟩
      · exact va_putF (D := D) hx hb hts c2 (zty ci) c3 c4 hown hK hP hDD hS (a - zE) he c1 kk hkN (hts _ hw) (fun x hx => by rw [hT1] at hx; exact hx) hf (hini hi) hT1 (c3 kk hkN) hnar hfits hl' hd kp
      · cases hb0
  | iaload =>
    obtain ⟨i, a, r, t0, kk, f, rfl, hg, ht, hin, rfl, rfl, rfl⟩ := zaI_s h
    have ht : t0 = 0 := by simpa using ht
    subst ht
    exact va_iald (D := D) hx hb hK hP (a - zE) 0 (hget_pw (cy := cy) hρ hg) rfl hin hd (k H locs hP hS)
  | baload =>
    obtain ⟨i, a, r, t0, kk, f, rfl, hg, ht, hin, rfl, rfl, rfl⟩ := zaI_s h
    have ht : t0 = 1 ∨ t0 = 2 := by simpa using ht
    rcases ht with rfl | rfl
    · exact va_bald (D := D) hx hb hK hP (a - zE) 1 (hget_pw (cy := cy) hρ hg) rfl hin hd (k H locs hP hS)
    · exact va_zald (D := D) hx hb hK hP (a - zE) 2 (hget_pw (cy := cy) hρ hg) rfl hin hd (k H locs hP hS)
  | laload =>
    obtain ⟨i, a, r, kk, f, rfl, hg, hin, rfl, rfl, rfl⟩ := zaJ_s h
    exact va_lald (D := D) hx hb hK hP (a - zE) 3 (hget_pw (cy := cy) hρ hg) rfl hin hd (k H locs hP hS)
  | aaload =>
    obtain ⟨i, a, r, t0, kk, f, rfl, hg, ht, hin, rfl, rfl, rfl⟩ := zaA_s h
    have k' := k H locs hP hS
    rw [List.map_cons, zrf] at k'
    have hlt : i.toNatClampNeg < kk := Nat.not_le.mp fun q => hin (Or.inr q)
    rcases ht with rfl | rfl
    · exact va_aldq (D := D) (C := RX8) (f := fun j => (f j).map ρ) hx hb hK hP (a - zE) 4 (hget_pw (cy := cy) hρ hg) rfl hin hd k'
    · exact W.aald (v := va_rf ((f i.toNatClampNeg).map ρ)) (ty := .array .long) hx hb (hP (a - zE) _ (hget_pw (cy := cy) hρ hg)) ((hK.2 5 _ rfl).1 kk (fun j => va_rf ((f j).map ρ))) rfl (fun q => by cases q) (by show ¬ (i < 0 ∨ (arrV _ _ _).slots.size ≤ _); rw [arrV_size]; exact hin) (by show (arrV (cy 5) kk (fun j => va_rf ((f j).map ρ))).slots[i.toNatClampNeg]? = some (va_rf ((f i.toNatClampNeg).map ρ)); rw [arrV_read _ _ hlt]) rfl rfl hd k'
  | arraylength =>
    obtain ⟨a, r, t0, x, rfl, hg, ht, rfl, rfl, rfl⟩ := zaL_s h
    have he : (zTys cy)[t0]? = some (cy t0, ((zTys cy)[t0]?.getD (0, .int)).2) := by
      match t0, ht with
      | 0, _ => rfl
      | 1, _ => rfl
      | 2, _ => rfl
      | 3, _ => rfl
      | 4, _ => rfl
      | 5, _ => rfl
      | n + 6, h => omega
    exact va_alen (D := D) hx hb hK hP (a - zE) t0 (hget_pw (cy := cy) hρ hg) he rfl hd (k H locs hP hS)
  | iastore =>
    obtain ⟨x, i, a, t0, kk, f, g, rfl, hg, ht, hin, rfl, rfl⟩ := zasI_s h
    unfold zik at ht
    split at ht
    · cases ht
      refine va_iast (D := D) hx hb hK hP hDD hS (a - zE) 0 (hget_pw (cy := cy) hρ hg) rfl hin hd (fun H1 locs1 h1 _ h3 => k H1 locs1 ?_ h3)
      rw [← hset_pw (cy := cy) hρ hg]
      exact h1
    · cases ht
  | bastore =>
    obtain ⟨x, i, a, t0, kk, f, g, rfl, hg, ht, hin, rfl, rfl⟩ := zasI_s h
    unfold zbk at ht
    split at ht
    · cases ht
      refine va_bast (D := D) hx hb hK hP hDD hS (a - zE) 1 (hget_pw (cy := cy) hρ hg) rfl hin hd (fun H1 locs1 h1 _ h3 => k H1 locs1 ?_ h3)
      rw [← hset_pw (cy := cy) hρ hg]
      exact h1
    · cases ht
      refine va_zast (D := D) hx hb hK hP hDD hS (a - zE) 2 (hget_pw (cy := cy) hρ hg) rfl hin hd (fun H1 locs1 h1 _ h3 => k H1 locs1 ?_ h3)
      rw [← hset_pw (cy := cy) hρ hg]
      exact h1
    · cases ht
  | lastore =>
    obtain ⟨x, i, a, kk, f, rfl, hg, hin, rfl, rfl⟩ := zasJ_s h
    refine va_last (D := D) hx hb hK hP hDD hS (a - zE) 3 (hget_pw (cy := cy) hρ hg) rfl hin hd (fun H1 locs1 h1 _ h3 => k H1 locs1 ?_ h3)
    rw [← hset_pw (cy := cy) hρ hg]
    exact h1
  | aastore =>
    obtain ⟨v, i, a, kk, f, fs, rfl, hg, hv, hin, rfl, rfl⟩ := zasA_s h
    refine va_astq (D := D) (r := (RX8, TX8, 13)) hx hb hK hP hDD hS (a - zE) 4 (v - zE) 8 (hget_pw (cy := cy) hρ hg) rfl (hget_pw (cy := cy) hρ hv) rfl hin hd (fun H1 locs1 h1 _ h3 => k H1 locs1 ?_ h3)
    rw [← hset_pw (cy := cy) hρ hg]
    have hfe : (fun j => (va_up f i.toNatClampNeg (some v) j).map ρ) = va_up (fun j => (f j).map ρ) i.toNatClampNeg (some (ρ v)) := by
      funext j
      by_cases hj : j = i.toNatClampNeg
      · simp [va_up, hj]
      · simp [va_up, hj]
    have hpe : pe ρ cy (.inl (4, (kk, .inr (.inr (.inr (.inr (va_up f i.toNatClampNeg (some v)))))))) = .inl (cy 4, kk, .inr (.inr (.inr (.inr (va_up (fun j => (f j).map ρ) i.toNatClampNeg (some (ρ v))))))) := by
      show (.inl (cy 4, (kk, .inr (.inr (.inr (.inr (fun j => (va_up f i.toNatClampNeg (some v) j).map ρ)))))) : va_E) = _
      rw [hfe]
    rw [hpe]
    exact h1
  | _ => have h2 : (none : Option (Nat × List Value × List PE)) = some (n, st', hp') := h; cases h2
end ZM2
