/-! cells that no relation speaks of; a proc gives back by return -/
section ZSC
variable {G W : Nat → Nat → Nat} {F : Nat → Nat → Nat → Nat} {B C x y n i D : Nat} {s t s2 t2 s3 t3 : zσ}
def scC (s s2 : zσ) : Prop := s2.2 = s.2 ∧ ∀ a k, a ≠ 1033 → a ≠ 1035 → a ≠ 1035 → ¬ (a = 1007 ∧ (k = 16 ∨ k = 17)) → s2.1 a k = s.1 a k
def scM (t t2 : zσ) : Prop := t2.2.2 = t.2.2 ∧ (∀ a, a ≠ 1245 → t2.2.1 a = t.2.1 a) ∧ ∀ a k, a ≠ 1246 → a ≠ 1247 → a ≠ 1247 → ¬ (a = 1132 ∧ k = 69) → t2.1 a k = t.1 a k
theorem scC_rf : scC s s := ⟨rfl, fun _ _ _ _ _ _ => rfl⟩
theorem scM_rf : scM t t := ⟨rfl, fun _ _ => rfl, fun _ _ _ _ _ _ => rfl⟩
theorem scC_tr (h1 : scC s s2) (h2 : scC s2 s3) : scC s s3 := ⟨h2.1.trans h1.1, fun a k b c d e => (h2.2 a k b c d e).trans (h1.2 a k b c d e)⟩
theorem scM_tr (h1 : scM t t2) (h2 : scM t2 t3) : scM t t3 := ⟨h2.1.trans h1.1, fun a b => (h2.2.1 a b).trans (h1.2.1 a b), fun a k b c d e => (h2.2.2 a k b c d e).trans (h1.2.2 a k b c d e)⟩
theorem RUNx_sc {e : Nat} (h1 : scC s s2) (h2 : scM t t2) (h : RUNx e G F W B C x y s t) : RUNx e G F W B C x y s2 t2 := by
  obtain ⟨⟨r1, r2, ⟨r3, rz⟩, r4, r5, r6, r7⟩, hX, ⟨d1, d2, d3, d4, d5, d6, d7, d8, d9, d10, d11⟩, hE, hT, hU⟩ := h
  have c : ∀ a, a ≠ 1033 → a ≠ 1035 → a ≠ 1035 → a ≠ 1007 → s2.1 a = s.1 a := fun a q1 q2 q3 q4 => funext fun k => h1.2 a k q1 q2 q3 (by omega)
  have c7 : ∀ k, k ≠ 16 → k ≠ 17 → s2.1 1007 k = s.1 1007 k := fun k q1 q2 => h1.2 _ k (by decide) (by decide) (by decide) (by omega)
  have m : ∀ a, a ≠ 1246 → a ≠ 1247 → a ≠ 1247 → a ≠ 1132 → t2.1 a = t.1 a := fun a q1 q2 q3 q4 => funext fun k => h2.2.2 a k q1 q2 q3 (by omega)
  have m2 : ∀ k, k ≠ 69 → t2.1 1132 k = t.1 1132 k := fun k q => h2.2.2 _ k (by decide) (by decide) (by decide) (by omega)
  refine ⟨⟨r1, r2, ⟨by rw [h1.1]; exact r3, rZ_fr (fun _ _ => by rw [h1.1]) (fun a q1 q2 => c a (by omega) (by omega) (by omega) (by omega)) (by rw [h1.1]) (by rw [h2.1]) (fun a q1 q2 => m a (by omega) (by omega) (by omega) (by omega)) r2 rz⟩, by rw [h1.1]; exact r4, by rw [h1.1]; exact r5, by rw [h2.1]; exact r6, by rw [h1.1]; exact r7⟩, TX_fr (fun k => c _ (by omega) (by omega) (by omega) (by omega)) (fun k => by rw [h1.1]) (fun k hk => m _ (by omega) (by omega) (by omega) (by omega)) (h2.2.1 _ (by omega)) hX, ⟨?_, ?_, ?_, ?_, ?_, ?_, ?_, ?_, ?_, ?_, ?_⟩, ?_, fun j hj hji => ?_, fun j k hj hk hji hki => ?_⟩
  · unfold rA at d1 ⊢; rw [c7 14 (by decide) (by decide), c7 13 (by decide) (by decide), c7 12 (by decide) (by decide), c 1030 (by decide) (by decide) (by decide) (by decide), m2 20 (by decide), m2 19 (by decide), m2 21 (by decide), m2 22 (by decide), m2 25 (by decide), m2 26 (by decide), m2 27 (by decide), c 1034 (by decide) (by decide) (by decide) (by decide), m 1248 (by decide) (by decide) (by decide) (by decide), c7 11 (by decide) (by decide), m2 17 (by decide), m2 13 (by decide), m2 1 (by decide), m2 2 (by decide), m2 18 (by decide)]; exact d1
  · unfold rB at d2 ⊢; rw [c7 14 (by decide) (by decide), c 1030 (by decide) (by decide) (by decide) (by decide), c 1031 (by decide) (by decide) (by decide) (by decide), c 1032 (by decide) (by decide) (by decide) (by decide), m2 23 (by decide), m2 24 (by decide), m 1221 (by decide) (by decide) (by decide) (by decide), m 1222 (by decide) (by decide) (by decide) (by decide), m 1223 (by decide) (by decide) (by decide) (by decide), m 1224 (by decide) (by decide) (by decide) (by decide)]; exact d2
  · unfold rV at d3 ⊢; rw [c 1010 (by decide) (by decide) (by decide) (by decide), m 1207 (by decide) (by decide) (by decide) (by decide)]; exact d3
  · unfold rW at d4 ⊢; rw [c 1011 (by decide) (by decide) (by decide) (by decide), c 1012 (by decide) (by decide) (by decide) (by decide), c 1013 (by decide) (by decide) (by decide) (by decide), m 1208 (by decide) (by decide) (by decide) (by decide), m 1209 (by decide) (by decide) (by decide) (by decide), m 1210 (by decide) (by decide) (by decide) (by decide)]; exact d4
  · unfold rS at d5 ⊢; rw [c 1015 (by decide) (by decide) (by decide) (by decide), m 1211 (by decide) (by decide) (by decide) (by decide)]; exact d5
  · unfold rL at d6 ⊢; rw [c 1016 (by decide) (by decide) (by decide) (by decide), c 1017 (by decide) (by decide) (by decide) (by decide), m 1212 (by decide) (by decide) (by decide) (by decide), m 1213 (by decide) (by decide) (by decide) (by decide)]; exact d6
  · unfold rI at d7 ⊢; rw [c 1018 (by decide) (by decide) (by decide) (by decide), c 1019 (by decide) (by decide) (by decide) (by decide), m 1217 (by decide) (by decide) (by decide) (by decide), m 1218 (by decide) (by decide) (by decide) (by decide)]; exact d7
  · unfold rO at d8 ⊢; rw [c 1020 (by decide) (by decide) (by decide) (by decide), c 1021 (by decide) (by decide) (by decide) (by decide), m 1219 (by decide) (by decide) (by decide) (by decide), m 1220 (by decide) (by decide) (by decide) (by decide)]; exact d8
  · unfold rP at d9 ⊢; rw [c 1027 (by decide) (by decide) (by decide) (by decide), c 1028 (by decide) (by decide) (by decide) (by decide), c 1029 (by decide) (by decide) (by decide) (by decide), m 1214 (by decide) (by decide) (by decide) (by decide), m 1215 (by decide) (by decide) (by decide) (by decide), m 1216 (by decide) (by decide) (by decide) (by decide)]; exact d9
  · unfold rH at d10 ⊢; rw [c7 14 (by decide) (by decide), c 1023 (by decide) (by decide) (by decide) (by decide), c 1024 (by decide) (by decide) (by decide) (by decide), c 1025 (by decide) (by decide) (by decide) (by decide), c 1026 (by decide) (by decide) (by decide) (by decide), m 1240 (by decide) (by decide) (by decide) (by decide), m 1241 (by decide) (by decide) (by decide) (by decide), m 1242 (by decide) (by decide) (by decide) (by decide), m 1243 (by decide) (by decide) (by decide) (by decide), m 1244 (by decide) (by decide) (by decide) (by decide)]; exact d10
  · unfold rC at d11 ⊢; rw [c7 15 (by decide) (by decide), m2 30 (by decide)]; exact d11
  · unfold rE at hE ⊢; rw [c 1030 (by decide) (by decide) (by decide) (by decide), c 1009 (by decide) (by decide) (by decide) (by decide), m2 29 (by decide), m2 28 (by decide), m2 30 (by decide)]; exact hE
  · exact rT_fr ⟨c _ (by omega) (by omega) (by omega) (by omega), c _ (by omega) (by omega) (by omega) (by omega), c _ (by omega) (by omega) (by omega) (by omega)⟩ ⟨fun a q1 q2 => by rw [m a (by omega) (by omega) (by omega) (by omega)], fun a d q1 q2 q3 => by rw [m a (by omega) (by omega) (by omega) (by omega)], fun k q => by rw [m 1239 (by omega) (by omega) (by omega) (by omega)]⟩ sG1_rf (c _ (by omega) (by omega) (by omega) (by omega)) (hT j hj hji)
  · have u := hU j k hj hk hji hki
    unfold rU2 at u ⊢
    rw [c (1036 + 3 * j) (by omega) (by omega) (by omega) (by omega), c (1036 + 3 * k) (by omega) (by omega) (by omega) (by omega)]
    exact u
theorem CL_sc (h1 : scC s s2) (h2 : scM t t2) (h : CL G F W B C x y i D s t) : CL G F W B C x y i D s2 t2 := by
  have hi := CL_i h
  obtain ⟨hx, ha, hb1, hu, d1, d2, d3, d4, d5, d6, d7, d8, d9, d10, d11⟩ := h
  have hxx := hx.1.1
  have c : ∀ a, a ≠ 1033 → a ≠ 1035 → a ≠ 1035 → a ≠ 1007 → s2.1 a = s.1 a := fun a q1 q2 q3 q4 => funext fun k => h1.2 a k q1 q2 q3 (by omega)
  have m : ∀ a, a ≠ 1246 → a ≠ 1247 → a ≠ 1247 → a ≠ 1132 → t2.1 a = t.1 a := fun a q1 q2 q3 q4 => funext fun k => h2.2.2 a k q1 q2 q3 (by omega)
  have cT := c (1036 + 3 * i) (by omega) (by omega) (by omega) (by omega)
  have k : kT i s s2 t t2 := ⟨fun k _ => by rw [cT], fun a q1 q2 => by rw [m a (by omega) (by omega) (by omega) (by omega)]⟩
  refine ⟨RUNx_sc h1 h2 hx, kT_a k ha, kT_1 k hb1, fun j hj hji => ?_, d1, d2, by rw [cT]; exact d3, by rw [m 1235 (by omega) (by omega) (by omega) (by omega)]; exact d4, d5, d6, by rw [cT]; exact d7, by rw [m 1234 (by omega) (by omega) (by omega) (by omega)]; exact d8, fun d hd => ?_, fun d hd => ?_, fun d hd => ?_⟩
  · have u := hu j hj hji
    unfold rU2 at u ⊢
    rw [cT, c (1036 + 3 * j) (by omega) (by omega) (by omega) (by omega)]
    exact u
  · have q := d9 d hd
    unfold rK at q ⊢
    rw [m 1236 (by omega) (by omega) (by omega) (by omega), m 1238 (by omega) (by omega) (by omega) (by omega)]
    exact q
  · have q := d10 d hd
    unfold rQ at q ⊢
    rw [m 1237 (by omega) (by omega) (by omega) (by omega), c (1036 + 3 * i + 1) (by omega) (by omega) (by omega) (by omega), c (x + 22) (by omega) (by omega) (by omega) (by omega)]
    exact q
  · have q := d11 d hd
    unfold rM at q ⊢
    rw [m 1239 (by omega) (by omega) (by omega) (by omega), c (1036 + 3 * i + 2) (by omega) (by omega) (by omega) (by omega)]
    exact q
end ZSC
