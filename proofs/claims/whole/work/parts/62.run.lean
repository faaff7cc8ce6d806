/-! the relation of the two runs. Ghosts: F i 0 d, F i 1 d, F i 2 d: of task i, frame d, its block, statement, level; F i 3 0 how many frames. W 0 i, W 1 i: when task i became ready, began to wait, for the class; W 2 i, W 3 i for the reference; W 4 0 the class's turn, W 4 1 the reference's clock. B bounds what has been done, C the clocks. -/
section ZRUN
def rA (G : Nat → Nat → Nat) (s t : zσ) : Prop := s.1 1007 14 = t.1 1132 20 ∧ (∃ p, 1 ≤ p ∧ p ≤ 3 ∧ s.1 1007 13 = nI p ∧ t.1 1132 19 = nI p) ∧ s.1 1030 6 = t.1 1132 21 ∧ s.1 1030 7 = t.1 1132 22 ∧ s.1 1030 5 = t.1 1132 25 ∧ s.1 1030 8 = t.1 1132 26 ∧ s.1 1030 9 = t.1 1132 27 ∧ s.1 1007 12 = nI (G 6 8) ∧ (∀ k, k < 3 → s.1 1034 k = nI (G 20 k) ∧ t.1 1248 k = nI (G 21 k)) ∧ s.1 1007 11 = 1 ∧ t.1 1132 17 = 1 ∧ t.1 1132 13 = 1 ∧ t.1 1132 1 = nI (G 23 0) ∧ t.1 1132 2 = nI (G 23 1) ∧ t.1 1132 18 = nI (G 23 2)
def rB (B : Nat) (s t : zσ) : Prop := (∃ m, m ≤ B ∧ s.1 1030 2 = nI m ∧ t.1 1132 23 = nI m ∧ ∀ i, i < m → i < 200 → s.1 1031 i = t.1 1221 i) ∧ (∃ m, m ≤ B ∧ s.1 1030 3 = nI m ∧ t.1 1132 24 = nI m ∧ ∀ i, i < m → i < 100 → s.1 1032 (3 * i) = t.1 1222 i ∧ s.1 1032 (3 * i + 1) = t.1 1223 i ∧ s.1 1032 (3 * i + 2) = t.1 1224 i) ∧ (∃ m, m ≤ 1000000000 + B ∧ s.1 1007 14 = nI m)
def rV (G : Nat → Nat → Nat) (s t : zσ) : Prop := ∀ k, k < G 6 0 → s.1 1010 k = t.1 1207 k
def rW (s t : zσ) : Prop := ∀ r, r < 4 → s.1 1011 r = t.1 1208 r ∧ (s.1 1011 r = -1 ∨ ∃ p z, p < 4 ∧ z ≤ 20 ∧ s.1 1011 r = nI p ∧ s.1 1012 p = nI z ∧ t.1 1209 p = nI z ∧ ∀ i, i < z → s.1 1013 (20 * p + i) = t.1 1210 (20 * p + i))
def rS (G : Nat → Nat → Nat) (s t : zσ) : Prop := ∀ k, k < 4 → ∃ v u, v ≤ 9 ∧ u < 2 ^ 31 ∧ s.1 1015 k = nI v ∧ t.1 1211 k = nI u ∧ (k < G 6 2 → v = u)
def rL (s t : zσ) : Prop := (∀ b, b < 4 → s.1 1016 b = t.1 1212 b ∧ (s.1 1016 b = -1 ∨ ∃ i, i < 8 ∧ s.1 1016 b = nI i)) ∧ (∀ j, j < 32 → s.1 1017 j = t.1 1213 j)
def rI (s t : zσ) : Prop := ∀ k, k < 4 → ∃ z, z ≤ 20 ∧ s.1 1019 k = nI z ∧ t.1 1218 k = nI z ∧ ∀ i, i < z → s.1 1018 (20 * k + i) = t.1 1217 (20 * k + i)
def rO (s t : zσ) : Prop := ∀ k, k < 4 → ∃ z, z ≤ 40 ∧ s.1 1021 k = nI z ∧ t.1 1220 k = nI z ∧ ∀ i, i < z → s.1 1020 (40 * k + i) = t.1 1219 (40 * k + i)
def rP (s t : zσ) : Prop := ∀ k, k < 4 → s.1 1027 k = t.1 1214 k ∧ s.1 1028 k = t.1 1215 k ∧ s.1 1029 k = t.1 1216 k ∧ (s.1 1027 k = 0 ∨ s.1 1027 k = 1) ∧ (s.1 1028 k = 0 ∨ s.1 1028 k = 1)
/-- how many of m numbers from k on -/
def zct (P : Nat → Bool) : Nat → Nat → Nat
  | 0, _ => 0
  | m + 1, k => (if P k = true then 1 else 0) + zct P m (k + 1)
/-- how many schedules stand -/
def zNH (f : Nat → Int32) : Nat := zct (fun i => decide (f i ≠ -1)) 16 0
theorem zct_le {P Q : Nat → Bool} : ∀ m k, (∀ i, k ≤ i → i < k + m → P i = true → Q i = true) → zct P m k ≤ zct Q m k
  | 0, _, _ => Nat.le_refl _
  | m + 1, k, h => by
    unfold zct
    have h1 := zct_le m (k + 1) (fun i a b => h i (by omega) (by omega))
    have h2 := h k (Nat.le_refl _) (by omega)
    by_cases q : P k = true
    · rw [if_pos q, if_pos (h2 q)]; omega
    · rw [if_neg q]; omega
theorem zNH_le {f g : Nat → Int32} (h : ∀ k, k < 16 → f k = -1 → g k = -1) : zNH g ≤ zNH f := by
  refine zct_le 16 0 (fun i _ hi q => ?_)
  simp only [decide_eq_true_eq] at q ⊢
  exact fun e => q (h i (by omega) e)
/-- schedules: one that goes by times is not before this time, or goes once -/
def rH (G : Nat → Nat → Nat) (s t : zσ) : Prop := (∀ k, k < 16 → (s.1 1023 k = -1 ∧ t.1 1240 k = 0) ∨ (t.1 1240 k = 1 ∧ k < 2 * G 6 8 ∧ s.1 1023 k = t.1 1241 k ∧ s.1 1024 k = t.1 1242 k ∧ s.1 1025 k = t.1 1243 k ∧ s.1 1026 k = t.1 1244 k ∧ ((s.1 1026 k = -1 ∧ ∃ d e, d ≤ 1000000000 ∧ e ≤ 1000000000 ∧ s.1 1023 k = nI d ∧ s.1 1024 k = nI e ∧ (e = 0 ∨ s.1 1007 14 + nI (G 22 0) ≤ nI d)) ∨ (∃ i, i < 4 ∧ s.1 1026 k = nI i ∧ s.1 1023 k = -2000000000)))) ∧ zNH (s.1 1023) ≤ 12 ∧ G 22 0 ≤ 1
/-- what is told of a task -/
def rTa (i : Nat) (s t : zσ) : Prop := s.1 (1036 + 3 * i) 0 = nI i ∧ s.1 (1036 + 3 * i) 6 = t.1 1230 i ∧ s.1 (1036 + 3 * i) 7 = t.1 1231 i ∧ s.1 (1036 + 3 * i) 8 = t.1 1232 i ∧ s.1 (1036 + 3 * i) 9 = t.1 1233 i
def rT1 (G W : Nat → Nat → Nat) (i : Nat) (s t : zσ) : Prop := ∃ a k, a ≤ 4 ∧ s.1 (1036 + 3 * i) 3 = nI a ∧ t.1 1225 i = nI a ∧ (G 6 8 ≤ i → a = 0) ∧ k ≤ 3 ∧ s.1 (1036 + 3 * i) 5 = nI k ∧ t.1 1229 i = nI k ∧ (a = 0 → k = 0 ∧ t.1 1226 i = 0) ∧ (a ≠ 0 → ∃ p, 1 ≤ p ∧ p ≤ 9 ∧ s.1 (1036 + 3 * i) 4 = nI p ∧ t.1 1226 i = nI p) ∧ (a = 1 → s.1 (1036 + 3 * i) 11 = nI (W 0 i) ∧ t.1 1227 i = nI (W 2 i) ∧ W 0 i ≤ W 4 0 ∧ W 2 i < W 4 1) ∧ (a = 3 ∨ a = 4 → s.1 (1036 + 3 * i) 12 = nI (W 1 i) ∧ t.1 1228 i = nI (W 3 i) ∧ W 1 i ≤ W 4 0 ∧ W 3 i < W 4 1)
/-- one order for both -/
def rU2 (W : Nat → Nat → Nat) (s : zσ) (i j : Nat) : Prop := i ≠ j → (s.1 (1036 + 3 * i) 3 = 1 → s.1 (1036 + 3 * j) 3 = 1 → W 0 i ≠ W 0 j ∧ (W 0 i < W 0 j ↔ W 2 i < W 2 j)) ∧ ((s.1 (1036 + 3 * i) 3 = 3 ∨ s.1 (1036 + 3 * i) 3 = 4) → (s.1 (1036 + 3 * j) 3 = 3 ∨ s.1 (1036 + 3 * j) 3 = 4) → W 1 i ≠ W 1 j ∧ (W 1 i < W 1 j ↔ W 3 i < W 3 j))
def rC (W : Nat → Nat → Nat) (C : Nat) (s t : zσ) : Prop := s.1 1007 15 = nI (W 4 0) ∧ t.1 1132 30 = nI (W 4 1) ∧ W 4 0 ≤ C ∧ W 4 1 ≤ C ∧ C < 1000000000
/-- frames of task i up to frame D (not the statement of the last) -/
def rK (G : Nat → Nat → Nat) (F : Nat → Nat → Nat → Nat) (i d : Nat) (t : zσ) : Prop := F i 0 d < G 0 1 ∧ t.1 1236 (140 * i + d) = nI (F i 0 d) ∧ d + 1 ≤ 12 * F i 2 d + G 4 (F i 0 d) ∧ F i 2 d ≤ 8 ∧ (F i 2 d = 0 ↔ G 5 (F i 0 d) < 8) ∧
  ((d = 0 ∧ F i 2 d = 0 ∧ G 2 (G 7 (F i 0 d)) = 0 ∧ G 3 (G 7 (F i 0 d)) = i ∧ t.1 1238 (140 * i + d) = 0) ∨
   (0 < d ∧ G 2 (G 7 (F i 0 d)) = 1 ∧ F i 2 d = F i 2 (d - 1) + 1 ∧ t.1 1238 (140 * i + d) = 1 ∧ G 10 (F i 1 (d - 1)) = 3) ∨
   (0 < d ∧ (G 2 (G 7 (F i 0 d)) = 2 ∨ G 2 (G 7 (F i 0 d)) = 3) ∧ F i 2 d = F i 2 (d - 1) ∧ t.1 1238 (140 * i + d) = 0 ∧ F i 1 (d - 1) = G 3 (G 7 (F i 0 d))))
/-- frame d's statement, and where the class has it -/
def rQ (G : Nat → Nat → Nat) (F : Nat → Nat → Nat → Nat) (x i d D : Nat) (s t : zσ) : Prop := F i 1 d < G 0 0 ∧ G 1 (F i 1 d) = F i 0 d ∧ t.1 1237 (140 * i + d) = nI (F i 1 d) ∧ (d + 1 = D ∨ F i 2 (d + 1) = F i 2 d + 1 → s.1 (1036 + 3 * i + 1) (F i 2 d) = nI (F i 1 d)) ∧ (d + 1 < D → F i 2 (d + 1) = F i 2 d + 1 → s.1 (x + 22) (F i 1 d) = nI (G 3 (G 7 (F i 0 (d + 1)))))
/-- what was given to the proc of frame d -/
def rM (G : Nat → Nat → Nat) (F : Nat → Nat → Nat → Nat) (i d : Nat) (s t : zσ) : Prop := G 2 (G 7 (F i 0 d)) = 1 → ∀ j, j < 3 → j < G 12 (G 3 (G 7 (F i 0 d))) → s.1 (1036 + 3 * i + 2) (3 * F i 2 d + j) = t.1 1239 (3 * (140 * i + d) + j)
/-- statements at which a task can wait -/
def zwK (G : Nat → Nat → Nat) (q : Nat) : Prop := G 10 q = 10 ∨ G 10 q = 12 ∨ G 10 q = 14 ∨ G 10 q = 23
/-- the frames of task i -/
def rF1 (G : Nat → Nat → Nat) (F : Nat → Nat → Nat → Nat) (x i : Nat) (s t : zσ) : Prop := t.1 1235 i = nI (F i 3 0) ∧ F i 3 0 ≤ 108 ∧ (s.1 (1036 + 3 * i) 3 = 0 ↔ F i 3 0 = 0) ∧ (F i 3 0 = 0 → s.1 (1036 + 3 * i) 10 = 0 ∧ t.1 1234 i = 0) ∧ (0 < F i 3 0 → G 9 (G 14 i) ≠ 0 ∧ s.1 (1036 + 3 * i) 10 = nI (F i 2 (F i 3 0 - 1)) ∧ t.1 1234 i = nI (F i 2 (F i 3 0 - 1)) ∧ (s.1 (1036 + 3 * i) 3 = 3 ∨ s.1 (1036 + 3 * i) 3 = 4 → zwK G (F i 1 (F i 3 0 - 1)))) ∧ ∀ d, d < F i 3 0 → rK G F i d t ∧ rQ G F x i d (F i 3 0) s t ∧ rM G F i d s t
/-- a character of the tape, for both -/
def zTp (u v : Int32) : Prop := ∃ w : Nat, w < 256 ∧ u = (nI w).toInt8.toInt32 ∧ v = nI w
/-- what never changes, and the semas of the reference's other text -/
def zCn (y : Nat) (s t : zσ) : Prop := (∀ i, i < 47 → s.2.1 1003 i = zWd i) ∧ (∀ k, k < 9 → t.1 1206 k = zmost.getD k 0 ∧ s.2.2 1061 k = some (1062 + k) ∧ s.2.2 1097 k = some (1098 + k)) ∧ ∀ k, k < 4 → ∃ v, v < 2 ^ 31 ∧ t.1 (2304 - y + 6) k = nI v
/-- what lies beside the machine: the texts, place, processors wanted, the tape -/
def rZ (G : Nat → Nat → Nat) (x y : Nat) (s t : zσ) : Prop := s.2.2 1000 3 = some x ∧ s.2.2 1000 4 = some (2156 - x) ∧ t.2.2 1132 12 = some (2304 - y) ∧ s.1 1000 5 = 1 ∧ s.1 1000 6 = nI (G 23 1) ∧ s.1 1000 7 = nI (G 23 2) ∧ 1 ≤ G 23 2 ∧ G 23 2 ≤ 3 ∧ s.1 1001 2 = nI (G 23 0) ∧ G 23 0 ≤ 4000 ∧ (∀ k, k < G 23 0 → zTp (s.1 1002 k) (t.1 1133 k)) ∧ zCn y s t
/-- the machine's references -/
def rR (G : Nat → Nat → Nat) (x y : Nat) (s t : zσ) : Prop := (x = 1060 ∨ x = 1096) ∧ (y = 1134 ∨ y = 1170) ∧ (s.2.2 1007 8 = some x ∧ rZ G x y s t) ∧ s.2.2 1007 9 = some (x + 19) ∧ s.2.2 1007 10 = some (x + 29) ∧ t.2.2 1132 11 = some y ∧ (∀ i, i < 8 → s.2.2 1008 i = some (1036 + 3 * i))
/-- all that is not of tasks -/
def rD0 (G W : Nat → Nat → Nat) (B C : Nat) (s t : zσ) : Prop := rA G s t ∧ rB B s t ∧ rV G s t ∧ rW s t ∧ rS G s t ∧ rL s t ∧ rI s t ∧ rO s t ∧ rP s t ∧ rH G s t ∧ rC W C s t
/-- what lives longer than a run -/
def rE (C : Nat) (s t : zσ) : Prop := s.1 1030 4 = t.1 1132 29 ∧ (∃ m, m ≤ 4000 ∧ s.1 1009 4 = nI m ∧ t.1 1132 28 = nI m) ∧ (∃ m, m ≤ C ∧ t.1 1132 30 = nI m)
/-- a task, in all -/
def rT (G W : Nat → Nat → Nat) (F : Nat → Nat → Nat → Nat) (x : Nat) (s t : zσ) (i : Nat) : Prop := rTa i s t ∧ rT1 G W i s t ∧ rF1 G F x i s t
/-- the run without task e (e = 8: with all) -/
def RUNx (e : Nat) (G : Nat → Nat → Nat) (F : Nat → Nat → Nat → Nat) (W : Nat → Nat → Nat) (B C x y : Nat) (s t : zσ) : Prop := rR G x y s t ∧ TX G x y s t ∧ rD0 G W B C s t ∧ rE C s t ∧ (∀ i, i < 8 → i ≠ e → rT G W F x s t i) ∧ (∀ i j, i < 8 → j < 8 → i ≠ e → j ≠ e → rU2 W s i j)
def RUN (G : Nat → Nat → Nat) (F : Nat → Nat → Nat → Nat) (W : Nat → Nat → Nat) (B C x y : Nat) (s t : zσ) : Prop := RUNx 8 G F W B C x y s t
end ZRUN
