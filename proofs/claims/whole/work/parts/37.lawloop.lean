/-! the law: beginning, head of the loop, ends -/
def ltg : List Nat := [144, 207, 220, 233, 256, 319, 342, 355, 378, 401, 434, 467, 490, 523, 556, 579, 612, 645, 678, 721, 764, 787, 810, 843]
theorem zX_L {fz : Bool} {L : Nat} {xs : Nat → Int32} {d : Nat} (cn9 : Nat) (st : List Value) : zX fz L xs d cn9 .arraylength (.ref 62 :: st) = some (1, .int (nI L) :: st) := rfl
theorem nI_sub4 {L i : Nat} (hL : L < 2 ^ 30) (hi : i < 2 ^ 30) : (nI L - 4 < nI i) ↔ L < i + 4 := by
  have h1 : (nI L - nI 4).toInt = (L : Int) - 4 := pk_sub_toInt hL (by decide)
  have h2 : (nI L - 4).toInt = (L : Int) - 4 := h1
  rw [Int32.lt_iff_toInt_lt, h2, nI_toInt (by omega)]
  omega
section ZLW
variable {fz : Bool} {L : Nat} {xs : Nat → Int32} {i c z : Nat} {hp : List PE} {r : zR}
set_option maxRecDepth 40000 in
theorem law_cond (hL : L < 2 ^ 30) (hi : i < 2 ^ 30) (h1 : L < i + 4 → zGo (zX fz L xs) 2048 zLaw (872, [(0, .ref 62), (1, .ref 1000), (2, .ref 1132), (3, .int (nI i))], [], hp, c, z) r) (h2 : i + 4 ≤ L → zGo (zX fz L xs) 2048 zLaw (26, [(0, .ref 62), (1, .ref 1000), (2, .ref 1132), (3, .int (nI i))], [], hp, c, z) r) : zGo (zX fz L xs) 2048 zLaw (18, [(0, .ref 62), (1, .ref 1000), (2, .ref 1132), (3, .int (nI i))], [], hp, c, z) r := by
  refine zGo_s (pc' := 19) (st' := [.int (nI i)]) (yd (j := 1000) (ins := .iload_n 3) (len := 1) rfl rfl) rfl ?_
  refine zGo_s (pc' := 20) (st' := [.ref 62, .int (nI i)]) (yd (j := 1000) (ins := .aload_n 0) (len := 1) rfl rfl) rfl ?_
  have h5 : sHp zLaw.1 (zLaw.2.2.2.2.2.2 == 1) .arraylength [.ref 62, .int (nI i)] hp = none := by
    show zaL [.ref 62, .int (nI i)] hp = none
    simp only [zaL, hget_ext (show 62 < zE by decide)]
  refine zGo_X (yd (j := 1000) (ins := .arraylength) (len := 1) rfl rfl) rfl rfl rfl rfl h5 rfl rfl rfl (zX_L 14 [.int (nI i)]) ?_
  refine zGo_s (pc' := 22) (st' := [.int 4, .int (nI L), .int (nI i)]) (yd (j := 1000) (ins := .iconst 4) (len := 1) rfl rfl) rfl ?_
  refine zGo_s (pc' := 23) (st' := [.int (nI L - 4), .int (nI i)]) (yd (j := 1000) (ins := .isub) (len := 1) rfl rfl) rfl ?_
  refine zGo_icmp (t := 872) (yd (j := 1000) (ins := .if_icmp .gt 849) (len := 3) rfl rfl) rfl (fun h => h1 ((nI_sub4 hL hi).mp (of_decide_eq_true h))) (fun h => h2 ?_)
  have h9 : ¬ (nI L - 4 < nI i) := of_decide_eq_false h
  rw [nI_sub4 hL hi] at h9
  omega
set_option maxRecDepth 40000 in
theorem law_end : zGo (zX fz L xs) 2048 zLaw (872, [(0, .ref 62), (1, .ref 1000), (2, .ref 1132), (3, .int (nI i))], [], hp, c, z) (some (.int 1), hp, c, z) := by
  refine zGo_s (pc' := 873) (st' := [.int 1]) (yd (j := 1000) (ins := .iconst 1) (len := 1) rfl rfl) rfl ?_
  exact zGo_ret (yd (j := 1000) (ins := .ireturn) (len := 1) rfl rfl) rfl rfl
set_option maxRecDepth 40000 in
theorem law_next (h : zGo (zX fz L xs) 2048 zLaw (18, [(0, .ref 62), (1, .ref 1000), (2, .ref 1132), (3, .int (nI (i + 4)))], [], hp, c, z) r) : zGo (zX fz L xs) 2048 zLaw (866, [(0, .ref 62), (1, .ref 1000), (2, .ref 1132), (3, .int (nI i))], [], hp, c, z) r := by
  refine zGo_s (pc' := 869) (st' := []) (lv' := [(3, .int (nI i + 4)), (0, .ref 62), (1, .ref 1000), (2, .ref 1132)]) (yd (j := 1000) (ins := .iinc 3 4) (len := 3) rfl rfl) rfl ?_
  refine zGo_s (pc' := 18) (st' := []) (yd (j := 1000) (ins := .goto (-851)) (len := 3) rfl rfl) rfl ?_
  rw [show nI i + 4 = nI (i + 4) from nI_add i 4]
  exact zGo_lv ⟨by simp, by simp, fun q hq => by simp at hq ⊢; rcases hq with h | h | h | h <;> simp [h]⟩ h
set_option maxRecDepth 40000 in
set_option maxHeartbeats 4000000 in
theorem law_switch (hiL : i < L) (hL : L < 2 ^ 30) (h : ∀ k, k < 32 → xs i &&& 31 = nI k → zGo (zX fz L xs) 2048 zLaw (ltg.getD k 866, [(0, .ref 62), (1, .ref 1000), (2, .ref 1132), (3, .int (nI i))], [], hp, c, z) r) : zGo (zX fz L xs) 2048 zLaw (26, [(0, .ref 62), (1, .ref 1000), (2, .ref 1132), (3, .int (nI i))], [], hp, c, z) r := by
  refine zGo_s (pc' := 27) (st' := [.ref 62]) (yd (j := 1000) (ins := .aload_n 0) (len := 1) rfl rfl) rfl ?_
  refine zGo_s (pc' := 28) (st' := [.int (nI i), .ref 62]) (yd (j := 1000) (ins := .iload_n 3) (len := 1) rfl rfl) rfl ?_
  refine zGo_xs (yd (j := 1000) (ins := .iaload) (len := 1) rfl rfl) (zin?_nI hiL (by omega)) ?_
  rw [nI_clamp (show i < 2 ^ 31 by omega)]
  refine zGo_s (pc' := 31) (st' := [.int 31, .int (xs i)]) (yd (j := 1000) (ins := .bipush 31) (len := 2) rfl rfl) rfl ?_
  refine zGo_s (pc' := 32) (st' := [.int (xs i &&& 31)]) (yd (j := 1000) (ins := .iand) (len := 1) rfl rfl) rfl ?_
  obtain ⟨k, hk, e⟩ := pk_andE (xs i) (m := 31) 5 (by decide)
  have hz := h k hk e
  rw [e]
  match k, hk, hz with
  | 0, _, hz => exact zGo_s (pc' := 144) (st' := []) (yd (j := 1000) (ins := .tableswitch 834 0 23 #[112, 175, 188, 201, 224, 287, 310, 323, 346, 369, 402, 435, 458, 491, 524, 547, 580, 613, 646, 689, 732, 755, 778, 811]) (len := 112) rfl rfl) rfl hz
  | 1, _, hz => exact zGo_s (pc' := 207) (st' := []) (yd (j := 1000) (ins := .tableswitch 834 0 23 #[112, 175, 188, 201, 224, 287, 310, 323, 346, 369, 402, 435, 458, 491, 524, 547, 580, 613, 646, 689, 732, 755, 778, 811]) (len := 112) rfl rfl) rfl hz
  | 2, _, hz => exact zGo_s (pc' := 220) (st' := []) (yd (j := 1000) (ins := .tableswitch 834 0 23 #[112, 175, 188, 201, 224, 287, 310, 323, 346, 369, 402, 435, 458, 491, 524, 547, 580, 613, 646, 689, 732, 755, 778, 811]) (len := 112) rfl rfl) rfl hz
  | 3, _, hz => exact zGo_s (pc' := 233) (st' := []) (yd (j := 1000) (ins := .tableswitch 834 0 23 #[112, 175, 188, 201, 224, 287, 310, 323, 346, 369, 402, 435, 458, 491, 524, 547, 580, 613, 646, 689, 732, 755, 778, 811]) (len := 112) rfl rfl) rfl hz
  | 4, _, hz => exact zGo_s (pc' := 256) (st' := []) (yd (j := 1000) (ins := .tableswitch 834 0 23 #[112, 175, 188, 201, 224, 287, 310, 323, 346, 369, 402, 435, 458, 491, 524, 547, 580, 613, 646, 689, 732, 755, 778, 811]) (len := 112) rfl rfl) rfl hz
  | 5, _, hz => exact zGo_s (pc' := 319) (st' := []) (yd (j := 1000) (ins := .tableswitch 834 0 23 #[112, 175, 188, 201, 224, 287, 310, 323, 346, 369, 402, 435, 458, 491, 524, 547, 580, 613, 646, 689, 732, 755, 778, 811]) (len := 112) rfl rfl) rfl hz
  | 6, _, hz => exact zGo_s (pc' := 342) (st' := []) (yd (j := 1000) (ins := .tableswitch 834 0 23 #[112, 175, 188, 201, 224, 287, 310, 323, 346, 369, 402, 435, 458, 491, 524, 547, 580, 613, 646, 689, 732, 755, 778, 811]) (len := 112) rfl rfl) rfl hz
  | 7, _, hz => exact zGo_s (pc' := 355) (st' := []) (yd (j := 1000) (ins := .tableswitch 834 0 23 #[112, 175, 188, 201, 224, 287, 310, 323, 346, 369, 402, 435, 458, 491, 524, 547, 580, 613, 646, 689, 732, 755, 778, 811]) (len := 112) rfl rfl) rfl hz
  | 8, _, hz => exact zGo_s (pc' := 378) (st' := []) (yd (j := 1000) (ins := .tableswitch 834 0 23 #[112, 175, 188, 201, 224, 287, 310, 323, 346, 369, 402, 435, 458, 491, 524, 547, 580, 613, 646, 689, 732, 755, 778, 811]) (len := 112) rfl rfl) rfl hz
  | 9, _, hz => exact zGo_s (pc' := 401) (st' := []) (yd (j := 1000) (ins := .tableswitch 834 0 23 #[112, 175, 188, 201, 224, 287, 310, 323, 346, 369, 402, 435, 458, 491, 524, 547, 580, 613, 646, 689, 732, 755, 778, 811]) (len := 112) rfl rfl) rfl hz
  | 10, _, hz => exact zGo_s (pc' := 434) (st' := []) (yd (j := 1000) (ins := .tableswitch 834 0 23 #[112, 175, 188, 201, 224, 287, 310, 323, 346, 369, 402, 435, 458, 491, 524, 547, 580, 613, 646, 689, 732, 755, 778, 811]) (len := 112) rfl rfl) rfl hz
  | 11, _, hz => exact zGo_s (pc' := 467) (st' := []) (yd (j := 1000) (ins := .tableswitch 834 0 23 #[112, 175, 188, 201, 224, 287, 310, 323, 346, 369, 402, 435, 458, 491, 524, 547, 580, 613, 646, 689, 732, 755, 778, 811]) (len := 112) rfl rfl) rfl hz
  | 12, _, hz => exact zGo_s (pc' := 490) (st' := []) (yd (j := 1000) (ins := .tableswitch 834 0 23 #[112, 175, 188, 201, 224, 287, 310, 323, 346, 369, 402, 435, 458, 491, 524, 547, 580, 613, 646, 689, 732, 755, 778, 811]) (len := 112) rfl rfl) rfl hz
  | 13, _, hz => exact zGo_s (pc' := 523) (st' := []) (yd (j := 1000) (ins := .tableswitch 834 0 23 #[112, 175, 188, 201, 224, 287, 310, 323, 346, 369, 402, 435, 458, 491, 524, 547, 580, 613, 646, 689, 732, 755, 778, 811]) (len := 112) rfl rfl) rfl hz
  | 14, _, hz => exact zGo_s (pc' := 556) (st' := []) (yd (j := 1000) (ins := .tableswitch 834 0 23 #[112, 175, 188, 201, 224, 287, 310, 323, 346, 369, 402, 435, 458, 491, 524, 547, 580, 613, 646, 689, 732, 755, 778, 811]) (len := 112) rfl rfl) rfl hz
  | 15, _, hz => exact zGo_s (pc' := 579) (st' := []) (yd (j := 1000) (ins := .tableswitch 834 0 23 #[112, 175, 188, 201, 224, 287, 310, 323, 346, 369, 402, 435, 458, 491, 524, 547, 580, 613, 646, 689, 732, 755, 778, 811]) (len := 112) rfl rfl) rfl hz
  | 16, _, hz => exact zGo_s (pc' := 612) (st' := []) (yd (j := 1000) (ins := .tableswitch 834 0 23 #[112, 175, 188, 201, 224, 287, 310, 323, 346, 369, 402, 435, 458, 491, 524, 547, 580, 613, 646, 689, 732, 755, 778, 811]) (len := 112) rfl rfl) rfl hz
  | 17, _, hz => exact zGo_s (pc' := 645) (st' := []) (yd (j := 1000) (ins := .tableswitch 834 0 23 #[112, 175, 188, 201, 224, 287, 310, 323, 346, 369, 402, 435, 458, 491, 524, 547, 580, 613, 646, 689, 732, 755, 778, 811]) (len := 112) rfl rfl) rfl hz
  | 18, _, hz => exact zGo_s (pc' := 678) (st' := []) (yd (j := 1000) (ins := .tableswitch 834 0 23 #[112, 175, 188, 201, 224, 287, 310, 323, 346, 369, 402, 435, 458, 491, 524, 547, 580, 613, 646, 689, 732, 755, 778, 811]) (len := 112) rfl rfl) rfl hz
  | 19, _, hz => exact zGo_s (pc' := 721) (st' := []) (yd (j := 1000) (ins := .tableswitch 834 0 23 #[112, 175, 188, 201, 224, 287, 310, 323, 346, 369, 402, 435, 458, 491, 524, 547, 580, 613, 646, 689, 732, 755, 778, 811]) (len := 112) rfl rfl) rfl hz
  | 20, _, hz => exact zGo_s (pc' := 764) (st' := []) (yd (j := 1000) (ins := .tableswitch 834 0 23 #[112, 175, 188, 201, 224, 287, 310, 323, 346, 369, 402, 435, 458, 491, 524, 547, 580, 613, 646, 689, 732, 755, 778, 811]) (len := 112) rfl rfl) rfl hz
  | 21, _, hz => exact zGo_s (pc' := 787) (st' := []) (yd (j := 1000) (ins := .tableswitch 834 0 23 #[112, 175, 188, 201, 224, 287, 310, 323, 346, 369, 402, 435, 458, 491, 524, 547, 580, 613, 646, 689, 732, 755, 778, 811]) (len := 112) rfl rfl) rfl hz
  | 22, _, hz => exact zGo_s (pc' := 810) (st' := []) (yd (j := 1000) (ins := .tableswitch 834 0 23 #[112, 175, 188, 201, 224, 287, 310, 323, 346, 369, 402, 435, 458, 491, 524, 547, 580, 613, 646, 689, 732, 755, 778, 811]) (len := 112) rfl rfl) rfl hz
  | 23, _, hz => exact zGo_s (pc' := 843) (st' := []) (yd (j := 1000) (ins := .tableswitch 834 0 23 #[112, 175, 188, 201, 224, 287, 310, 323, 346, 369, 402, 435, 458, 491, 524, 547, 580, 613, 646, 689, 732, 755, 778, 811]) (len := 112) rfl rfl) rfl hz
  | 24, _, hz => exact zGo_s (pc' := 866) (st' := []) (yd (j := 1000) (ins := .tableswitch 834 0 23 #[112, 175, 188, 201, 224, 287, 310, 323, 346, 369, 402, 435, 458, 491, 524, 547, 580, 613, 646, 689, 732, 755, 778, 811]) (len := 112) rfl rfl) rfl hz
  | 25, _, hz => exact zGo_s (pc' := 866) (st' := []) (yd (j := 1000) (ins := .tableswitch 834 0 23 #[112, 175, 188, 201, 224, 287, 310, 323, 346, 369, 402, 435, 458, 491, 524, 547, 580, 613, 646, 689, 732, 755, 778, 811]) (len := 112) rfl rfl) rfl hz
  | 26, _, hz => exact zGo_s (pc' := 866) (st' := []) (yd (j := 1000) (ins := .tableswitch 834 0 23 #[112, 175, 188, 201, 224, 287, 310, 323, 346, 369, 402, 435, 458, 491, 524, 547, 580, 613, 646, 689, 732, 755, 778, 811]) (len := 112) rfl rfl) rfl hz
  | 27, _, hz => exact zGo_s (pc' := 866) (st' := []) (yd (j := 1000) (ins := .tableswitch 834 0 23 #[112, 175, 188, 201, 224, 287, 310, 323, 346, 369, 402, 435, 458, 491, 524, 547, 580, 613, 646, 689, 732, 755, 778, 811]) (len := 112) rfl rfl) rfl hz
  | 28, _, hz => exact zGo_s (pc' := 866) (st' := []) (yd (j := 1000) (ins := .tableswitch 834 0 23 #[112, 175, 188, 201, 224, 287, 310, 323, 346, 369, 402, 435, 458, 491, 524, 547, 580, 613, 646, 689, 732, 755, 778, 811]) (len := 112) rfl rfl) rfl hz
  | 29, _, hz => exact zGo_s (pc' := 866) (st' := []) (yd (j := 1000) (ins := .tableswitch 834 0 23 #[112, 175, 188, 201, 224, 287, 310, 323, 346, 369, 402, 435, 458, 491, 524, 547, 580, 613, 646, 689, 732, 755, 778, 811]) (len := 112) rfl rfl) rfl hz
  | 30, _, hz => exact zGo_s (pc' := 866) (st' := []) (yd (j := 1000) (ins := .tableswitch 834 0 23 #[112, 175, 188, 201, 224, 287, 310, 323, 346, 369, 402, 435, 458, 491, 524, 547, 580, 613, 646, 689, 732, 755, 778, 811]) (len := 112) rfl rfl) rfl hz
  | 31, _, hz => exact zGo_s (pc' := 866) (st' := []) (yd (j := 1000) (ins := .tableswitch 834 0 23 #[112, 175, 188, 201, 224, 287, 310, 323, 346, 369, 402, 435, 458, 491, 524, 547, 580, 613, 646, 689, 732, 755, 778, 811]) (len := 112) rfl rfl) rfl hz
  | n + 32, hk, _ => omega
set_option maxRecDepth 40000 in
set_option maxHeartbeats 4000000 in
/-- both new objects stand, the loop begins -/
theorem law_start0 (h : zGo (zX fz L xs) 2048 zLaw (18, [(0, .ref 62), (1, .ref 1000), (2, .ref 1132), (3, .int (nI 0))], [], pH2, 249, 146839) r) : zGo (zX fz L xs) 2048 zLaw (0, [(0, .ref 62)], [], [], 0, 0) r := by
  refine zGo_s (pc' := 3) (st' := [.ref 1000]) (hp' := [.inr (11, [.null, .null, .null, .null, .null, .int 0, .int 0, .int 0])]) (c' := 1) (z' := 8) (yd (j := 1000) (ins := .new 7) (len := 3) rfl rfl) rfl ?_
  refine zGo_s (pc' := 4) (st' := [.ref 1000, .ref 1000]) (yd (j := 1000) (ins := .dup) (len := 1) rfl rfl) rfl ?_
  refine zGo_call (d := 2047) (as := [.ref 1000]) (rest := [.ref 1000]) (rv := none) (q' := (11, yX11_init, cX11_init, 1, none, 0, 1)) (yd (j := 1000) (ins := .invokespecial 9) (len := 3) rfl rfl) rfl rfl rfl (g_house (d := 2002)) ?_
  refine zGo_s (pc' := 8) (st' := []) (lv' := [(1, .ref 1000), (0, .ref 62)]) (yd (j := 1000) (ins := .astore_n 1) (len := 1) rfl rfl) rfl ?_
  refine zGo_s (pc' := 11) (st' := [.ref (zE + pH1.length)]) (hp' := pH1 ++ [.inr (13, zdef 13)]) (c' := 133) (z' := 18785) (yd (j := 1000) (ins := .new 10) (len := 3) rfl rfl) rfl ?_
  rw [show zE + pH1.length = 1132 from by rw [pH1_len]; rfl]
  refine zGo_s (pc' := 12) (st' := [.ref 1132, .ref 1132]) (yd (j := 1000) (ins := .dup) (len := 1) rfl rfl) rfl ?_
  refine zGo_call (d := 2047) (as := [.ref 1132]) (rest := [.ref 1132]) (rv := none) (q' := (13, yX13_init, cX13_init, 1, none, 0, 1)) (yd (j := 1000) (ins := .invokespecial 12) (len := 3) rfl rfl) rfl rfl rfl (g_model (d := 2002)) ?_
  refine zGo_s (pc' := 16) (st' := []) (lv' := [(2, .ref 1132), (1, .ref 1000), (0, .ref 62)]) (yd (j := 1000) (ins := .astore_n 2) (len := 1) rfl rfl) rfl ?_
  refine zGo_s (pc' := 17) (st' := [.int 0]) (yd (j := 1000) (ins := .iconst 0) (len := 1) rfl rfl) rfl ?_
  refine zGo_s (pc' := 18) (st' := []) (lv' := [(3, .int 0), (2, .ref 1132), (1, .ref 1000), (0, .ref 62)]) (yd (j := 1000) (ins := .istore_n 3) (len := 1) rfl rfl) rfl ?_
  exact zGo_lv ⟨by simp, by simp, fun q hq => by simp at hq ⊢; rcases hq with h | h | h | h <;> simp [h, nI_0]⟩ h
end ZLW
