/-! statements, both readers: lists of semas -/
section ZQA
theorem zpk_app (l : List Nat) (v : Nat) : zpk (l ++ [v]) = zpk l + 16 ^ l.length * (v + 1) := by
  induction l with
  | nil => simp [zpk]
  | cons a l ih =>
    show (a + 1) + 16 * zpk (l ++ [v]) = (a + 1 + 16 * zpk l) + 16 ^ (l.length + 1) * (v + 1)
    rw [ih, Nat.pow_succ, Nat.mul_add, Nat.mul_comm (16 ^ l.length) 16, Nat.mul_assoc]
    omega
theorem zpk_lt : ∀ l : List Nat, (∀ v, v ∈ l → v < 8) → zpk l < 16 ^ l.length
  | [], _ => by decide
  | a :: l, h => by
    have h1 := zpk_lt l (fun v hv => h v (List.mem_cons_of_mem _ hv))
    have h2 := h a (List.mem_cons_self)
    show (a + 1) + 16 * zpk l < 16 ^ (l.length + 1)
    rw [Nat.pow_succ]
    omega
theorem shl_k : ∀ i : Fin 4, ∀ v : Fin 8, (nI v.1 + 1) <<< (((4 : Int32) * nI i.1) &&& 31) = nI (16 ^ i.1 * (v.1 + 1)) := by decide +kernel
theorem or_k {a i w : Nat} (h : a < 16 ^ i) (hi : i < 4) (hw : w ≤ 8) : nI a ||| nI (16 ^ i * w) = nI (a + 16 ^ i * w) := by
  have e : a + 16 ^ i * w = a ||| 16 ^ i * w := by
    rw [Nat.or_comm, show (16 : Nat) ^ i = 2 ^ (4 * i) by rw [Nat.pow_mul], ← Nat.two_pow_add_eq_or_of_lt (by rw [Nat.pow_mul]; exact h)]
    omega
  rw [e]
  generalize 16 ^ i * w = b
  apply Int32.toBitVec_inj.mp
  simp [nI, BitVec.ofNat_or]
variable {U : Nat → Nat} {len x y n K np bl ub q dp nd cd us es na nb q2 dp2 nd2 cd2 us2 r nb0 cd0 mE na2 nb2 : Nat} {s0 t0 tz s t s2 t2 s3 t3 sS tS : zσ} {G : Nat → Nat → Nat} {c m L E : Nat → Int32} {cs : Nat → Nat}
theorem lb202 (hn : 5000 ≤ n) (hy : y = 1134 ∨ y = 1170) {v : Int32} : ∀ (j : Nat) (a b : Int32) (t : zσ), bk (fun u => u) (LR np y tz) (f202_10 n j v y a b t) t
  | 0, _, _, _ => bk_none
  | j + 1, a, b, t => by
    unfold f202_10 f202_82 f202_83
    repeat' (first | (with_reducible exact lb202 hn hy j _ _ _) | (with_reducible refine b173 hy ?_) | (with_reducible exact b195 hy) | (with_reducible exact b164 hy) | (with_reducible exact b196 hy) | (with_reducible exact b182 hy) | (with_reducible exact b179 hy) | (with_reducible exact b172 hy) | (with_reducible exact b173 hy (by decide)) | (with_reducible exact b189 hn hy) | (with_reducible exact b190 hn hy _) | (with_reducible exact b178 hy) | (with_reducible exact bk_none) | (with_reducible exact bk_some LR_rf) | (with_reducible refine bk_ite (fun _ => ?_) (fun _ => ?_)) | (with_reducible refine bk_rdL ?_) | (with_reducible refine bk_zS LR_tr (LR_I ?_ ?_ ?_ ?_) ?_) | (with_reducible refine bk_zS LR_tr (LR_J ?_ ?_) ?_) | (with_reducible refine bk_zV ?_) | (with_reducible refine bk_y0 LR_tr ?_ (fun _ => ?_)) | (with_reducible refine bk_y1 LR_tr ?_ (fun _ _ => ?_)) | (with_reducible exact bk_pu pu_167 _) | (with_reducible exact bk_pu pu_177 _) | (with_reducible refine bk_pu (pu_170 hn ?_) _) | (with_reducible exact bk_pu (pu_175 hn) _) | (omega) | (decide))
theorem lm202 {f z j : Nat} {a : Int32} (hn : 5000 ≤ n) (hS : S0 U len x y s0 t0) (hz : zin? (nI r) 200 = true) (h : FM len y t0 f z t) : fw (FM len y t0 f z) (f202_10 n (j + 1) (nI r) y a 0 t) := by
  have hy := hS.2.1
  unfold f202_10
  repeat' (first | (with_reducible assumption) | (with_reducible refine fw_some ?_) | (with_reducible exact ⟨rfl, by assumption⟩) | (with_reducible refine fms_rd hS (by assumption) ?_) | (with_reducible refine fms_167 (by assumption) ?_) | (with_reducible refine fms_173 (by assumption) ?_) | (with_reducible refine fms_172 (by assumption) ?_) | (with_reducible refine fms_179 (by assumption) ?_) | (with_reducible refine fms_164 hn hS (by assumption) (fun _ _ => ?_)) | (with_reducible refine fms_196 (by assumption) ?_) | (with_reducible refine fms_195 hS (by assumption) ?_) | (with_reducible refine fms_182 hS (by assumption) (fun _ _ => ?_)) | (with_reducible refine fms_189 (by assumption) ?_) | (with_reducible refine fms_190 (by assumption) ?_) | (with_reducible refine fms_178 (by assumption) ?_) | (with_reducible refine fms_I (by assumption) hy ?_ (fun _ => ?_)) | (with_reducible refine fw_z ?_) | (with_reducible refine fw_i1 rfl ?_) | (with_reducible refine fw_i1 (by assumption) ?_) | (with_reducible refine fw_i0 (by assumption) ?_) | (refine fw_i0 (by decide) ?_) | (refine fw_i1 (by decide) ?_) | (omega) | (decide))
/-- the list so far -/
def LI (G : Nat → Nat → Nat) (y : Nat) (tz : zσ) (L : Nat → Int32) (i : Nat) (pk : Int32) : Prop := ∃ l : List Nat, l.length = i ∧ (∀ v, v ∈ l → v < G 6 2) ∧ pk = nI (zpk l) ∧ (∀ k, k < l.length → ∃ u, u < 1400 ∧ L k = nI u ∧ (tzMp tz y).1 (y + 33) u = nI (l.getD k 0))
theorem LI_add {i us : Nat} {pk v : Int32} (h8 : G 6 2 ≤ 8) (hi : i < 4) (h : LI G y tz L i pk) (hu : uA G y 2 (tzMp tz y) v (nI us)) : LI G y tz (uf L i (nI us)) (i + 1) (pk ||| ((v + (1 : Int32)) <<< (((4 : Int32) * nI i) &&& 31))) := by
  obtain ⟨l, h1, h2, h3, h4⟩ := h
  obtain ⟨u, w, b1, b2, b3, b4, b5⟩ := hu
  have hl8 : ∀ v, v ∈ l → v < 8 := fun v hv => by have := h2 v hv; omega
  have hlt := zpk_lt l hl8
  rw [h1] at hlt
  refine ⟨l ++ [w], by simp [h1], fun v hv => ?_, ?_, fun k hk => ?_⟩
  · rcases List.mem_append.mp hv with e | e
    · exact h2 v e
    · rw [List.mem_singleton.mp e]; exact b2
  · rw [h3, b5, shl_k ⟨i, hi⟩ ⟨w, by omega⟩, or_k hlt hi (by omega), zpk_app, h1]
  · simp only [List.length_append, List.length_cons, List.length_nil] at hk
    by_cases e : k < l.length
    · obtain ⟨u1, c1, c2, c3⟩ := h4 k e
      refine ⟨u1, c1, ?_, ?_⟩
      · unfold uf; rw [if_neg (by omega)]; exact c2
      · rw [c3]; simp [List.getD, List.getElem?_append_left e]
    · have : k = l.length := by omega
      subst this
      refine ⟨u, b1, ?_, ?_⟩
      · unfold uf; rw [if_pos h1]; exact b3
      · rw [b4]; simp [List.getD]
theorem list_L (hQ : HQ n U len x y s0 t0 K tz G ub) (hr : r < 200) (hc0 : cd0 = cd) (ho : ∀ j, j < 7 → j ≠ 1 → c j = c0F (c 0) cd bl j) (hm : ∀ j, j < 10 → j ≠ 5 → m j = m0F (m 0) j) {kk : Nat} (hkk : (kk = 10 ∨ kk = 11) ∧ c 0 = nI (zkd kk) ∧ m 0 = nI kk) (hck : ¬ c 0 = 149) : ∀ (d i q us j j2 : Nat) (L : Nat → Int32) (s t : zσ) (mo pk : Int32), i + d = 4 → d + 2 < j → d + 2 < j2 → (mo = 0 ∨ mo = 1) → ST U len x y s0 t0 K np tz G bl r nb0 cd0 sS tS (4 * r + i) q dp nd cd us es nb c m L E 0 cs s t → (K = 1 → LI G y tz L i pk) → Hb (fun u => u) K np y tz (f202_10 n j2 (nI r) y (nI i) mo t) → Rs (FC len x s0) (FM len y t0) (ZB K y tz) (BO U len x y s0 t0 K np tz G bl r nb0 cd0 sS tS q dp nb) (yb0 (f61_7 n j (nI r) pk mo (nI i) s) (clF n r)) (f202_10 n j2 (nI r) y (nI i) mo t) := by
  obtain ⟨hn, hS, hub, -, hN, hK01, h67⟩ := id hQ
  have hx := hS.1
  have hy := hS.2.1
  obtain ⟨hz, hnx, -⟩ := r4 (r := r) (i := 0) hr (by omega)
  intro d
  have hend : ∀ (i q us j j2 : Nat) (L : Nat → Int32) (s t : zσ) (pk : Int32), i ≤ 4 → ST U len x y s0 t0 K np tz G bl r nb0 cd0 sS tS (4 * r + i) q dp nd cd us es nb c m L E 0 cs s t → (K = 1 → LI G y tz L i pk) → Rs (FC len x s0) (FM len y t0) (ZB K y tz) (BO U len x y s0 t0 K np tz G bl r nb0 cd0 sS tS q dp nb) (yb0 (f61_7 n (j + 1) (nI r) pk 0 (nI i) s) (clF n r)) (f202_10 n (j2 + 1) (nI r) y (nI i) 0 t) := by
    intro i q us j j2 L s t pk hi h hLI
    have h2 := ST_wM (j := 5) (v := nI i) hS (by omega) (by omega) (by omega) (ST_wC (j := 1) (v := pk) hS (by omega) h)
    have ec : f61_7 n (j + 1) (nI r) pk 0 (nI i) s = some (sI s (x + 21) r pk) := by
      rw [f61_7, if_pos rfl]
      unfold f61_68
      rw [ER_5 hS h.1.1, grd (gck9 hx).2.1, if_pos hz, hnx]; rfl
    have em : f202_10 n (j2 + 1) (nI r) y (nI i) 0 t = some (sI t (y + 20) r (nI i)) := by
      rw [f202_10, if_pos rfl, if_pos hz, hnx]; rfl
    rw [ec, em, as_0s, show clF n r (sI s (x + 21) r pk) = _ from cl_n hS h2 (show ¬ c 0 = 149 from hck)]
    refine Rs_A rfl rfl (BO_c (kk := kk) hc0 h2 ⟨by omega, by omega, by omega, by omega, by omega, by omega⟩ ⟨hkk.2.1, hkk.2.2, (ho 3 (by omega) (by omega)), (ho 5 (by omega) (by omega)), (ho 6 (by omega) (by omega)), (hm 1 (by omega) (by omega))⟩ (fun hK _ => ?_))
    obtain ⟨l, l1, l2, l3, l4⟩ := hLI hK
    refine Or.inr (Or.inr (Or.inr (Or.inr (Or.inr (Or.inr (Or.inr (Or.inl ⟨hkk.1, ⟨l, by omega, l2, l3, by rw [l1]; rfl, l4, ?_⟩, rfl⟩)))))))
    exact hm 2 (by omega) (by omega)
  induction d with
  | zero =>
    intro i q us j j2 L s t mo pk hd hj hj2 hmo h hLI H
    obtain ⟨j, rfl⟩ : ∃ j0, j = j0 + 2 := ⟨j - 2, by omega⟩
    obtain ⟨j2, rfl⟩ : ∃ j0, j2 = j0 + 2 := ⟨j2 - 2, by omega⟩
    rcases hmo with rfl | rfl
    · exact hend i q us _ _ L s t pk (by omega) h hLI
    · have : i = 4 := by omega
      subst this
      have hE := h.1.1
      have h40 : ∀ f z u (w : Int32), FC len x s0 f z u → fw (FC len x s0 f z) (yb0 (f61_40 n (f61_7 n (j + 1)) (nI r) w (nI 4) u) (clF n r)) := fun f z u w hu => by
        unfold f61_40
        simp only [as_00, as_01, as_0z]
        refine fcs_57 hu (fw_z (fcs_39 hu (by decide) ?_))
        rw [f61_7, if_pos rfl]
        unfold f61_68
        simp only [as_0r, if_pos hz, as_0z, as_0s]
        repeat' (first | (with_reducible exact fc_cl hn hS hz (by assumption)) | (with_reducible assumption) | (with_reducible refine fw_some ?_) | (with_reducible exact ⟨rfl, by assumption⟩) | (with_reducible refine fcs_r5 hS (by assumption) ?_) | (with_reducible refine fcs_r6 hS (by assumption) ?_) | (with_reducible refine fcs_r4 hS (by assumption) ?_) | (with_reducible refine fcs_32 (by assumption) ?_) | (with_reducible refine fcs_26 (by assumption) ?_) | (with_reducible refine fcs_37 (by assumption) ?_ ?_) | (with_reducible refine fcs_39 (by assumption) ?_ ?_) | (with_reducible refine fcs_41 (by assumption) ?_ ?_) | (with_reducible refine fcs_57 (by assumption) ?_) | (with_reducible refine fcs_58 hS (by assumption) ?_) | (with_reducible refine fcs_53 hS (by assumption) (fun _ _ => ?_)) | (with_reducible refine fcs_54 hx (by assumption) (fun _ _ => ?_)) | (with_reducible refine fcs_I (by assumption) hx ?_ ?_ ?_ (fun _ => ?_)) | (with_reducible refine fw_z ?_) | (with_reducible refine fw_i1 rfl ?_) | (with_reducible refine fw_i1 (by assumption) ?_) | (with_reducible refine fw_i0 (by assumption) ?_) | (with_reducible refine fw_i0 (fc_k (by assumption) ?_) ?_) | (with_reducible refine fcs_k (by assumption) ?_) | (refine fw_i0 (by decide) ?_) | (refine fw_i1 (by decide) ?_) | (omega) | (decide))
      by_cases hk : tkKind U len q = 1
      · obtain ⟨s2, e1, g1⟩ := er_ref (n := n) (f := 3) hS hE
        obtain ⟨t2, e2, g2⟩ := er_wrong (n := n) (f := 3) hS (by decide) hE
        rw [zft_3 (by rw [hk]; decide)] at g1
        refine Rs_B (f := 3) (z := q) ?_ ⟨t2, ?_, g2⟩
        · rw [f61_7, if_neg n10, if_neg (by decide), if_pos (show nI 4 = 4 from rfl), ER_k hE, if_pos hk, show f32 n 3 s = _ from e1, yb1_s]
          exact h40 _ _ _ _ g1
        · rw [f202_10, if_neg n10, if_pos (show nI 4 = 4 from rfl), tm_name hn hE.2.1.2.1, yb1_s, zone_1 hk, if_neg n10, y0s]; exact e2
      · obtain ⟨s2, t2', e1, -, g1, -⟩ := no_name (a := 2) (w := 2) hn hS hE hk
        obtain ⟨t2, e2, g2⟩ := er_cant (n := n) hS hE
        refine Rs_B (f := zft U len q 2) (z := q) ?_ ⟨t2, ?_, g2⟩
        · rw [f61_7, if_neg n10, if_neg (by decide), if_pos (show nI 4 = 4 from rfl), ER_k hE, if_neg hk]
          unfold f61_40
          rw [e1, yb1_s]
          simp only [as_00, as_01, as_0z]
          refine fw_z (fcs_39 g1 (by decide) ?_)
          rw [f61_7, if_pos rfl]
          unfold f61_68
          simp only [as_0r, if_pos hz, as_0z, as_0s]
          repeat' (first | (with_reducible exact fc_cl hn hS hz (by assumption)) | (with_reducible assumption) | (with_reducible refine fw_some ?_) | (with_reducible exact ⟨rfl, by assumption⟩) | (with_reducible refine fcs_r5 hS (by assumption) ?_) | (with_reducible refine fcs_r6 hS (by assumption) ?_) | (with_reducible refine fcs_r4 hS (by assumption) ?_) | (with_reducible refine fcs_32 (by assumption) ?_) | (with_reducible refine fcs_26 (by assumption) ?_) | (with_reducible refine fcs_37 (by assumption) ?_ ?_) | (with_reducible refine fcs_39 (by assumption) ?_ ?_) | (with_reducible refine fcs_41 (by assumption) ?_ ?_) | (with_reducible refine fcs_57 (by assumption) ?_) | (with_reducible refine fcs_58 hS (by assumption) ?_) | (with_reducible refine fcs_53 hS (by assumption) (fun _ _ => ?_)) | (with_reducible refine fcs_54 hx (by assumption) (fun _ _ => ?_)) | (with_reducible refine fcs_I (by assumption) hx ?_ ?_ ?_ (fun _ => ?_)) | (with_reducible refine fw_z ?_) | (with_reducible refine fw_i1 rfl ?_) | (with_reducible refine fw_i1 (by assumption) ?_) | (with_reducible refine fw_i0 (by assumption) ?_) | (with_reducible refine fw_i0 (fc_k (by assumption) ?_) ?_) | (with_reducible refine fcs_k (by assumption) ?_) | (refine fw_i0 (by decide) ?_) | (refine fw_i1 (by decide) ?_) | (omega) | (decide))
        · rw [f202_10, if_neg n10, if_pos (show nI 4 = 4 from rfl), tm_name hn hE.2.1.2.1, yb1_s, zone_0 hk, if_pos rfl, y0s]; exact e2
  | succ d ih =>
    intro i q us j j2 L s t mo pk hd hj hj2 hmo h hLI H
    obtain ⟨j, rfl⟩ : ∃ j0, j = j0 + 2 := ⟨j - 2, by omega⟩
    obtain ⟨j2, rfl⟩ : ∃ j0, j2 = j0 + 2 := ⟨j2 - 2, by omega⟩
    rcases hmo with rfl | rfl
    · exact hend i q us _ _ L s t pk (by omega) h hLI
    · obtain ⟨-, -, h4m, h4a, h8z, h8n⟩ := r4 (r := r) (i := i) hr (by omega)
      have hi4 : ¬ nI i = 4 := fun e => by have := (nIe (u := i) (k := 4) (by omega) (by decide)).mp e; omega
      have hi4' : ¬ (4 : Int32) < nI i := nI_nlt (a := 4) (by omega) (by omega)
      have em : f202_10 n (j2 + 2) (nI r) y (nI i) 1 t = yb1 (f189 n (2 : Int32) t) fun v3 u2 => zlet (sI u2 (y + 21) (4 * r + i) v3) fun u4 => yb1 (f167 n u4) fun v6 u5 => if v6 = (0 : Int32) then f202_10 n (j2 + 1) (nI r) y (nI (i + 1)) 0 u5 else yb1 (f177 n (44 : Int32) u5) fun v8 u7 => if v8 = (0 : Int32) then f202_10 n (j2 + 1) (nI r) y (nI (i + 1)) 0 u7 else yb0 (f164 n u7) fun u1 => f202_10 n (j2 + 1) (nI r) y (nI (i + 1)) 1 u1 := by
        rw [f202_10, if_neg n10, if_neg hi4]
        simp only [h4m, h4a, if_pos h8z, h8n, nI_1]
        rfl
      have ec : yb0 (f61_7 n (j + 2) (nI r) pk 1 (nI i) s) (clF n r) = yb1 (f57 n (2 : Int32) s) fun v2 u1 => yb1 (f39 n (44 : Int32) u1) fun v5 u4 => yb0 (f61_7 n (j + 1) (nI r) (pk ||| ((v2 + (1 : Int32)) <<< (((4 : Int32) * nI i) &&& 31))) v5 (nI (i + 1)) u4) (clF n r) := by
        rw [f61_7, if_neg n10, if_neg hi4', if_neg hi4, ← nI_1]
        unfold f61_40
        simp only [as_01, as_0z]
        rfl
      have hfl : ∀ f z u (w : Int32), FC len x s0 f z u → fw (FC len x s0 f z) (yb0 (f61_7 n (j + 1) (nI r) w 0 (nI (i + 1)) u) (clF n r)) := fun f z u w hu => by
        rw [f61_7, if_pos rfl]
        unfold f61_68
        simp only [as_0r, if_pos hz, as_0z, as_0s]
        repeat' (first | (with_reducible exact fc_cl hn hS hz (by assumption)) | (with_reducible assumption) | (with_reducible refine fw_some ?_) | (with_reducible exact ⟨rfl, by assumption⟩) | (with_reducible refine fcs_r5 hS (by assumption) ?_) | (with_reducible refine fcs_r6 hS (by assumption) ?_) | (with_reducible refine fcs_r4 hS (by assumption) ?_) | (with_reducible refine fcs_32 (by assumption) ?_) | (with_reducible refine fcs_26 (by assumption) ?_) | (with_reducible refine fcs_37 (by assumption) ?_ ?_) | (with_reducible refine fcs_39 (by assumption) ?_ ?_) | (with_reducible refine fcs_41 (by assumption) ?_ ?_) | (with_reducible refine fcs_57 (by assumption) ?_) | (with_reducible refine fcs_58 hS (by assumption) ?_) | (with_reducible refine fcs_53 hS (by assumption) (fun _ _ => ?_)) | (with_reducible refine fcs_54 hx (by assumption) (fun _ _ => ?_)) | (with_reducible refine fcs_I (by assumption) hx ?_ ?_ ?_ (fun _ => ?_)) | (with_reducible refine fw_z ?_) | (with_reducible refine fw_i1 rfl ?_) | (with_reducible refine fw_i1 (by assumption) ?_) | (with_reducible refine fw_i0 (by assumption) ?_) | (with_reducible refine fw_i0 (fc_k (by assumption) ?_) ?_) | (with_reducible refine fcs_k (by assumption) ?_) | (refine fw_i0 (by decide) ?_) | (refine fw_i1 (by decide) ?_) | (omega) | (decide))
      rw [em] at H ⊢
      rw [ec]
      refine st11 H (ER_y hS h.1.1) (b189 hn hy) (fun v u => ?_) (st_use (c0 := 2) (HQ_ub (ub2 := 4 * r + i) hQ (by omega)) (by omega) h (by omega) (Or.inl ⟨rfl, rfl⟩)) (fun f z v a hF => ?_) (fun f z w b hM => ?_) (fun v s1 w t1 hA H2 => ?_)
      · repeat' (first | (with_reducible exact lb202 hn hy _ _ _ _) | (with_reducible exact b195 hy) | (with_reducible exact b164 hy) | (with_reducible exact b196 hy) | (with_reducible exact b182 hy) | (with_reducible exact b179 hy) | (with_reducible exact b172 hy) | (with_reducible exact b173 hy (by decide)) | (with_reducible exact b189 hn hy) | (with_reducible exact b190 hn hy _) | (with_reducible exact b178 hy) | (with_reducible exact bk_none) | (with_reducible exact bk_some LR_rf) | (with_reducible refine bk_ite (fun _ => ?_) (fun _ => ?_)) | (with_reducible refine bk_rdL ?_) | (with_reducible refine bk_zS LR_tr (LR_I ?_ ?_ ?_ ?_) ?_) | (with_reducible refine bk_zS LR_tr (LR_J ?_ ?_) ?_) | (with_reducible refine bk_zV ?_) | (with_reducible refine bk_y0 LR_tr ?_ (fun _ => ?_)) | (with_reducible refine bk_y1 LR_tr ?_ (fun _ _ => ?_)) | (with_reducible exact bk_pu pu_167 _) | (with_reducible exact bk_pu pu_177 _) | (with_reducible refine bk_pu (pu_170 hn ?_) _) | (with_reducible exact bk_pu (pu_175 hn) _) | (omega) | (decide))
      · exact fcs_39 hF.2 (by decide) (hfl _ _ _ _ hF.2)
      · have hM2 : FM len y t0 f z b := hM
        repeat' (first | (with_reducible exact lm202 hn hS hz (by assumption)) | (with_reducible assumption) | (with_reducible refine fw_some ?_) | (with_reducible exact ⟨rfl, by assumption⟩) | (with_reducible refine fms_rd hS (by assumption) ?_) | (with_reducible refine fms_167 (by assumption) ?_) | (with_reducible refine fms_173 (by assumption) ?_) | (with_reducible refine fms_172 (by assumption) ?_) | (with_reducible refine fms_179 (by assumption) ?_) | (with_reducible refine fms_164 hn hS (by assumption) (fun _ _ => ?_)) | (with_reducible refine fms_196 (by assumption) ?_) | (with_reducible refine fms_195 hS (by assumption) ?_) | (with_reducible refine fms_182 hS (by assumption) (fun _ _ => ?_)) | (with_reducible refine fms_189 (by assumption) ?_) | (with_reducible refine fms_190 (by assumption) ?_) | (with_reducible refine fms_178 (by assumption) ?_) | (with_reducible refine fms_I (by assumption) hy ?_ (fun _ => ?_)) | (with_reducible refine fw_z ?_) | (with_reducible refine fw_i1 rfl ?_) | (with_reducible refine fw_i1 (by assumption) ?_) | (with_reducible refine fw_i0 (by assumption) ?_) | (refine fw_i0 (by decide) ?_) | (refine fw_i1 (by decide) ?_) | (omega) | (decide))
      obtain ⟨rfl, hk1, hA1, hSC, hv0, hR⟩ := hA
      have hgt := tkNx_gt (U := U) (tk_lt h.1.1 (by rw [hk1]; decide))
      refine Rs_zm ?_
      replace H2 := Hb_z H2
      have h2 := ST_wL (j := i) (v := nI us) hS (by omega) hA1
      have hE2 := h2.1.1
      obtain ⟨a1, -⟩ := st_acc (k := 44) hn hS (by decide) (by decide) hA1.1.1
      have a2 : f177 n 44 (sI t1 (y + 21) (4 * r + i) (nI us)) = some (zone (decide (tkKind U len (tkNx U len q) = nI 44)), sI t1 (y + 21) (4 * r + i) (nI us)) := tm_sign (c := 44) hE2.2.1.2.1 (by decide) (by decide)
      have hLI2 : K = 1 → LI G y tz (uf L i (nI us)) (i + 1) (pk ||| ((v + (1 : Int32)) <<< (((4 : Int32) * nI i) &&& 31))) := fun hK => LI_add ((hN hK).1 2 (by omega)).2 (by omega) (hLI hK) ((hR hK).1.1 2 (by omega) rfl)
      rw [m_goes (show (sI t1 (y + 21) (4 * r + i) (nI us)).1 1132 9 = 0 from hE2.2.1.2.2), yb1_s, if_neg n10, a2, yb1_s] at H2 ⊢
      by_cases h44 : tkKind U len (tkNx U len q) = nI 44
      · rw [zone_1 h44, if_neg n10] at H2 ⊢
        rw [show f39 n 44 s1 = _ from a1, if_pos h44]
        simp only [as_10]
        have hgt2 := tkNx_gt (U := U) (tk_lt hE2 (by rw [h44]; decide))
        refine st_n hn hS h2 H2 (fun u => lb202 hn hy _ _ _ _) (fun s7 t7 h7 hSC7 hq7 H7 => ?_)
        refine Rs_w (ih (i + 1) _ (us + 1) (j + 1) (j2 + 1) _ s7 t7 1 _ (by omega) (by omega) (by omega) (Or.inr rfl) h7 hLI2 H7) (fun a b _ _ hab => ?_)
        obtain ⟨kk, ub2, q9, nd9, cd9, us9, es9, c9, m9, L9, E9, mE9, cs9, b1, ⟨b2, b3⟩, b4⟩ := hab
        exact ⟨kk, ub2, q9, nd9, cd9, us9, es9, c9, m9, L9, E9, mE9, cs9, b1, ⟨by omega, b3⟩, b4⟩
      · rw [zone_0 h44, if_pos rfl] at H2 ⊢
        rw [show f39 n 44 s1 = _ from a1, if_neg h44, yb1_s]
        refine Rs_w (ih (i + 1) _ (us + 1) (j + 1) (j2 + 1) _ s1 _ 0 _ (by omega) (by omega) (by omega) (Or.inl rfl) h2 hLI2 H2) (fun a b _ _ hab => ?_)
        obtain ⟨kk, ub2, q9, nd9, cd9, us9, es9, c9, m9, L9, E9, mE9, cs9, b1, ⟨b2, b3⟩, b4⟩ := hab
        exact ⟨kk, ub2, q9, nd9, cd9, us9, es9, c9, m9, L9, E9, mE9, cs9, b1, ⟨by omega, b3⟩, b4⟩
theorem list_ok (hQ : HQ n U len x y s0 t0 K tz G ub) (hr : r < 200) (hc0 : cd0 = cd) {kk : Nat} (hkk : kk = 10 ∨ kk = 11) (h : ST U len x y s0 t0 K np tz G bl r nb0 cd0 sS tS (4 * r) q dp nd cd us es nb (c0F (nI (zkd kk)) cd bl) (m0F (nI kk)) L E 0 cs s t) (H : Hb (fun u => u) K np y tz (f202 n (nI r) t)) : Rs (FC len x s0) (FM len y t0) (ZB K y tz) (BO U len x y s0 t0 K np tz G bl r nb0 cd0 sS tS q dp nb) (yb0 (f61 n (nI r) s) (clF n r)) (f202 n (nI r) t) := by
  obtain ⟨hn, hS, -⟩ := id hQ
  have hy := hS.2.1
  have em : f202 n (nI r) t = f202_10 n n (nI r) y (nI 0) 1 t := by
    unfold f202
    rw [ER_y hS h.1.1, grd (gck12 hy)]; rfl
  rw [em] at H ⊢
  exact list_L hQ hr hc0 (fun j _ _ => rfl) (fun j _ _ => rfl) ⟨hkk, rfl, rfl⟩ (by rcases hkk with rfl | rfl <;> (show ¬ nI _ = 149; decide)) 4 0 q us n n L s t 1 0 rfl (by omega) (by omega) (Or.inr rfl) h (fun _ => ⟨[], rfl, fun v hv => absurd hv (List.not_mem_nil), rfl, fun k hk => absurd hk (Nat.not_lt_zero _)⟩) H
end ZQA
