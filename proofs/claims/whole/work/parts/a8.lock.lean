/-! the two readers side by side -/
section ZPK
/-- both go on (A), both have one fault, or the class alone has fault 6 (Z) -/
def Rs {α β : Type} (F : Nat → Nat → α → Prop) (M : Nat → Nat → β → Prop) (Z : Nat → Prop) (A : α → β → Prop) (c : Option α) (m : Option β) : Prop :=
  (∃ a b, c = some a ∧ m = some b ∧ A a b) ∨ (∃ a b f z, c = some a ∧ m = some b ∧ F f z a ∧ M f z b) ∨ (∃ a z, c = some a ∧ Z z ∧ F 6 z a)
/-- the reference's result, where it is known: it is there, and tz completes it -/
def Hb {β : Type} (pm : β → zσ) (K np y : Nat) (tz : zσ) (m : Option β) : Prop := K = 1 → ∃ b, m = some b ∧ Lt np y (pm b) tz
variable {α β α2 β2 : Type} {F : Nat → Nat → α → Prop} {M : Nat → Nat → β → Prop} {F2 : Nat → Nat → α2 → Prop} {M2 : Nat → Nat → β2 → Prop} {Fs Ms : Nat → Nat → zσ → Prop} {Fp Mp : Nat → Nat → Int32 × zσ → Prop} {Z : Nat → Prop} {B : α2 → β2 → Prop}
theorem Rs_A {A : α → β → Prop} {c : Option α} {m : Option β} {a : α} {b : β} (h1 : c = some a) (h2 : m = some b) (h : A a b) : Rs F M Z A c m := Or.inl ⟨a, b, h1, h2, h⟩
theorem Rs_B {A : α → β → Prop} {c : Option α} {m : Option β} {f z : Nat} (h1 : fw (F f z) c) (h2 : fw (M f z) m) : Rs F M Z A c m := by
  obtain ⟨a, e1, q1⟩ := h1
  obtain ⟨b, e2, q2⟩ := h2
  exact Or.inr (Or.inl ⟨a, b, f, z, e1, e2, q1, q2⟩)
theorem Rs_C {A : α → β → Prop} {c : Option α} {m : Option β} {z : Nat} (h1 : Z z) (h2 : fw (F 6 z) c) : Rs F M Z A c m := by
  obtain ⟨a, e1, q1⟩ := h2
  exact Or.inr (Or.inr ⟨a, z, e1, h1, q1⟩)
theorem Rs_00 {A : zσ → zσ → Prop} {c m : Option zσ} {kc : zσ → Option α2} {km : zσ → Option β2} (h : Rs Fs Ms Z A c m) (hA : ∀ a b, c = some a → m = some b → A a b → Rs F2 M2 Z B (kc a) (km b)) (hF : ∀ f z a, Fs f z a → fw (F2 f z) (kc a)) (hM : ∀ f z b, Ms f z b → fw (M2 f z) (km b)) : Rs F2 M2 Z B (yb0 c kc) (yb0 m km) := by
  rcases h with ⟨a, b, e1, e2, h⟩ | ⟨a, b, f, z, e1, e2, h1, h2⟩ | ⟨a, z, e1, h1, h2⟩
  · rw [e1, e2]; exact hA a b e1 e2 h
  · rw [e1, e2]; exact Rs_B (hF f z a h1) (hM f z b h2)
  · rw [e1]; exact Rs_C h1 (hF 6 z a h2)
theorem Rs_10 {A : Int32 × zσ → zσ → Prop} {c : Option (Int32 × zσ)} {m : Option zσ} {kc : Int32 → zσ → Option α2} {km : zσ → Option β2} (h : Rs Fp Ms Z A c m) (hA : ∀ v a b, c = some (v, a) → m = some b → A (v, a) b → Rs F2 M2 Z B (kc v a) (km b)) (hF : ∀ f z v a, Fp f z (v, a) → fw (F2 f z) (kc v a)) (hM : ∀ f z b, Ms f z b → fw (M2 f z) (km b)) : Rs F2 M2 Z B (yb1 c kc) (yb0 m km) := by
  rcases h with ⟨⟨v, a⟩, b, e1, e2, h⟩ | ⟨⟨v, a⟩, b, f, z, e1, e2, h1, h2⟩ | ⟨⟨v, a⟩, z, e1, h1, h2⟩
  · rw [e1, e2]; exact hA v a b e1 e2 h
  · rw [e1, e2]; exact Rs_B (hF f z v a h1) (hM f z b h2)
  · rw [e1]; exact Rs_C h1 (hF 6 z v a h2)
theorem Rs_01 {A : zσ → Int32 × zσ → Prop} {c : Option zσ} {m : Option (Int32 × zσ)} {kc : zσ → Option α2} {km : Int32 → zσ → Option β2} (h : Rs Fs Mp Z A c m) (hA : ∀ a w b, c = some a → m = some (w, b) → A a (w, b) → Rs F2 M2 Z B (kc a) (km w b)) (hF : ∀ f z a, Fs f z a → fw (F2 f z) (kc a)) (hM : ∀ f z w b, Mp f z (w, b) → fw (M2 f z) (km w b)) : Rs F2 M2 Z B (yb0 c kc) (yb1 m km) := by
  rcases h with ⟨a, ⟨w, b⟩, e1, e2, h⟩ | ⟨a, ⟨w, b⟩, f, z, e1, e2, h1, h2⟩ | ⟨a, z, e1, h1, h2⟩
  · rw [e1, e2]; exact hA a w b e1 e2 h
  · rw [e1, e2]; exact Rs_B (hF f z a h1) (hM f z w b h2)
  · rw [e1]; exact Rs_C h1 (hF 6 z a h2)
theorem Rs_11 {A : Int32 × zσ → Int32 × zσ → Prop} {c m : Option (Int32 × zσ)} {kc : Int32 → zσ → Option α2} {km : Int32 → zσ → Option β2} (h : Rs Fp Mp Z A c m) (hA : ∀ v a w b, c = some (v, a) → m = some (w, b) → A (v, a) (w, b) → Rs F2 M2 Z B (kc v a) (km w b)) (hF : ∀ f z v a, Fp f z (v, a) → fw (F2 f z) (kc v a)) (hM : ∀ f z w b, Mp f z (w, b) → fw (M2 f z) (km w b)) : Rs F2 M2 Z B (yb1 c kc) (yb1 m km) := by
  rcases h with ⟨⟨v, a⟩, ⟨w, b⟩, e1, e2, h⟩ | ⟨⟨v, a⟩, ⟨w, b⟩, f, z, e1, e2, h1, h2⟩ | ⟨⟨v, a⟩, z, e1, h1, h2⟩
  · rw [e1, e2]; exact hA v a w b e1 e2 h
  · rw [e1, e2]; exact Rs_B (hF f z v a h1) (hM f z w b h2)
  · rw [e1]; exact Rs_C h1 (hF 6 z v a h2)
/-- what goes on behind a part: a result that has not all that B wants -/
theorem Rs_w {A : α → β → Prop} {B : α → β → Prop} {c : Option α} {m : Option β} (h : Rs F M Z A c m) (hA : ∀ a b, c = some a → m = some b → A a b → B a b) : Rs F M Z B c m := by
  rcases h with ⟨a, b, e1, e2, h⟩ | h | h
  · exact Or.inl ⟨a, b, e1, e2, hA a b e1 e2 h⟩
  · exact Or.inr (Or.inl h)
  · exact Or.inr (Or.inr h)
/-! a part and what goes on behind it -/
variable {K np y : Nat} {tz t : zσ} {pm : β2 → zσ}
theorem H_0 {m : Option zσ} {k : zσ → Option β2} (h : Hb pm K np y tz (yb0 m k)) (hy : t.2.2 1132 12 = some y) (hm : bk (fun u => u) (LR np y tz) m t) (hk : ∀ u, bk pm (LR np y tz) (k u) u) : Hb (fun u => u) K np y tz m := by
  intro hK
  obtain ⟨b, e, hb⟩ := h hK
  cases m with
  | none => cases e
  | some u => exact ⟨u, rfl, ((hk u b e) (hm u rfl hy).1).2 hb⟩
theorem H_1 {m : Option (Int32 × zσ)} {k : Int32 → zσ → Option β2} (h : Hb pm K np y tz (yb1 m k)) (hy : t.2.2 1132 12 = some y) (hm : bk (fun u => u.2) (LR np y tz) m t) (hk : ∀ v u, bk pm (LR np y tz) (k v u) u) : Hb (fun u => u.2) K np y tz m := by
  intro hK
  obtain ⟨b, e, hb⟩ := h hK
  cases m with
  | none => cases e
  | some u => exact ⟨u, rfl, ((hk u.1 u.2 b e) (hm u rfl hy).1).2 hb⟩
theorem H_e {m m2 : Option β2} (h : Hb pm K np y tz m) (e : m = m2) : Hb pm K np y tz m2 := e ▸ h
theorem st00 {A : zσ → zσ → Prop} {c m : Option zσ} {kc : zσ → Option α2} {km : zσ → Option β2} (H : Hb pm K np y tz (yb0 m km)) (hy : t.2.2 1132 12 = some y) (hm : bk (fun u => u) (LR np y tz) m t) (hk : ∀ u, bk pm (LR np y tz) (km u) u) (h : Hb (fun u => u) K np y tz m → Rs Fs Ms Z A c m) (hF : ∀ f z a, Fs f z a → fw (F2 f z) (kc a)) (hM : ∀ f z b, Ms f z b → fw (M2 f z) (km b)) (hA : ∀ a b, A a b → Hb pm K np y tz (km b) → Rs F2 M2 Z B (kc a) (km b)) : Rs F2 M2 Z B (yb0 c kc) (yb0 m km) :=
  Rs_00 (h (H_0 H hy hm hk)) (fun a b _ e2 hab => hA a b hab (by rw [e2] at H; exact H)) hF hM
theorem st10 {A : Int32 × zσ → zσ → Prop} {c : Option (Int32 × zσ)} {m : Option zσ} {kc : Int32 → zσ → Option α2} {km : zσ → Option β2} (H : Hb pm K np y tz (yb0 m km)) (hy : t.2.2 1132 12 = some y) (hm : bk (fun u => u) (LR np y tz) m t) (hk : ∀ u, bk pm (LR np y tz) (km u) u) (h : Hb (fun u => u) K np y tz m → Rs Fp Ms Z A c m) (hF : ∀ f z v a, Fp f z (v, a) → fw (F2 f z) (kc v a)) (hM : ∀ f z b, Ms f z b → fw (M2 f z) (km b)) (hA : ∀ v a b, A (v, a) b → Hb pm K np y tz (km b) → Rs F2 M2 Z B (kc v a) (km b)) : Rs F2 M2 Z B (yb1 c kc) (yb0 m km) :=
  Rs_10 (h (H_0 H hy hm hk)) (fun v a b _ e2 hab => hA v a b hab (by rw [e2] at H; exact H)) hF hM
theorem st01 {A : zσ → Int32 × zσ → Prop} {c : Option zσ} {m : Option (Int32 × zσ)} {kc : zσ → Option α2} {km : Int32 → zσ → Option β2} (H : Hb pm K np y tz (yb1 m km)) (hy : t.2.2 1132 12 = some y) (hm : bk (fun u => u.2) (LR np y tz) m t) (hk : ∀ v u, bk pm (LR np y tz) (km v u) u) (h : Hb (fun u => u.2) K np y tz m → Rs Fs Mp Z A c m) (hF : ∀ f z a, Fs f z a → fw (F2 f z) (kc a)) (hM : ∀ f z w b, Mp f z (w, b) → fw (M2 f z) (km w b)) (hA : ∀ a w b, A a (w, b) → Hb pm K np y tz (km w b) → Rs F2 M2 Z B (kc a) (km w b)) : Rs F2 M2 Z B (yb0 c kc) (yb1 m km) :=
  Rs_01 (h (H_1 H hy hm hk)) (fun a w b _ e2 hab => hA a w b hab (by rw [e2] at H; exact H)) hF hM
theorem st11 {A : Int32 × zσ → Int32 × zσ → Prop} {c m : Option (Int32 × zσ)} {kc : Int32 → zσ → Option α2} {km : Int32 → zσ → Option β2} (H : Hb pm K np y tz (yb1 m km)) (hy : t.2.2 1132 12 = some y) (hm : bk (fun u => u.2) (LR np y tz) m t) (hk : ∀ v u, bk pm (LR np y tz) (km v u) u) (h : Hb (fun u => u.2) K np y tz m → Rs Fp Mp Z A c m) (hF : ∀ f z v a, Fp f z (v, a) → fw (F2 f z) (kc v a)) (hM : ∀ f z w b, Mp f z (w, b) → fw (M2 f z) (km w b)) (hA : ∀ v a w b, A (v, a) (w, b) → Hb pm K np y tz (km w b) → Rs F2 M2 Z B (kc v a) (km w b)) : Rs F2 M2 Z B (yb1 c kc) (yb1 m km) :=
  Rs_11 (h (H_1 H hy hm hk)) (fun v a w b _ e2 hab => hA v a w b hab (by rw [e2] at H; exact H)) hF hM
theorem y00 {β : Type} {p : Option zσ} {f : zσ → Option zσ} {k : zσ → Option β} : yb0 p (fun u => yb0 (f u) k) = yb0 (yb0 p f) k := by cases p <;> rfl
theorem y01 {β : Type} {p : Option zσ} {f : zσ → Option (Int32 × zσ)} {k : Int32 → zσ → Option β} : yb0 p (fun u => yb1 (f u) k) = yb1 (yb0 p f) k := by cases p <;> rfl
theorem y0s {p : Option zσ} : yb0 p (fun u => some u) = p := by cases p <;> rfl
theorem y1s {p : Option (Int32 × zσ)} : yb1 p (fun v u => some (v, u)) = p := by cases p <;> rfl
end ZPK
/-! what the names mean in the end -/
section ZPL
/-- the last of the told names that is nm: its sort and number -/
def nmF (tz : zσ) (y : Nat) (nm : Int64) : Nat → Int32 × Int32
  | 0 => (-1, -1)
  | m + 1 => if tz.2.1 (y + 1) m = nm then (tz.1 (y + 2) m, tz.1 (y + 3) m) else nmF tz y nm m
def paF (tz : zσ) (y p : Nat) (nm : Int64) (a : Int32 × Int32) : Nat → Int32 × Int32
  | 0 => a
  | m + 1 => if tz.2.1 (y + 12) (3 * p + m) = nm then (9, nI m) else paF tz y p nm a m
def zso (tz : zσ) (y u : Nat) : Int32 × Int32 :=
  if tz.1 (y + 32) u = -1 then nmF tz y (tz.2.1 (y + 29) u) (nx (tz.1 y 0)) else paF tz y (nx (tz.1 (y + 32) u)) (tz.2.1 (y + 29) u) (nmF tz y (tz.2.1 (y + 29) u) (nx (tz.1 y 0))) (nx (tz.1 (y + 11) (nx (tz.1 (y + 32) u))))
def isO (tz : zσ) (y u : Nat) : Prop := (tz.1 (y + 31) u = 10 → (zso tz y u).1 = 0 ∨ (zso tz y u).1 = 9) ∧ (¬ tz.1 (y + 31) u = 10 → (zso tz y u).1 = tz.1 (y + 31) u)
/-- the proc around a use -/
def ok32 (tz : zσ) (y u : Nat) : Prop := tz.1 (y + 32) u = -1 ∨ ∃ p m, p < 6 ∧ m ≤ 3 ∧ tz.1 (y + 32) u = nI p ∧ tz.1 (y + 11) p = nI m
def iO (tz : zσ) (y u : Nat) : Prop := isO tz y u ∧ ok32 tz y u
/-- tz with its meanings -/
def tzMp (tz : zσ) (y : Nat) : zσ := (fun a k => if a = y + 33 ∧ k < nx (tz.1 y 34) then (zso tz y k).2 else if a = y + 34 ∧ k < nx (tz.1 y 34) then (zso tz y k).1 else tz.1 a k, tz.2)
/-- the first use without a meaning stands at z -/
def ZB (K y : Nat) (tz : zσ) (z : Nat) : Prop := K = 1 ∧ ∃ u0, u0 < nx (tz.1 y 34) ∧ (∀ u, u < u0 → iO tz y u) ∧ (ok32 tz y u0 ∧ ¬ isO tz y u0) ∧ tz.1 (y + 30) u0 = nI z
/-- s2 is s but for the token, the fault, the depth, the nodes and codes -/
def frE (x : Nat) (s s2 : zσ) : Prop := (∀ a, a ≠ 1001 → a ≠ 1004 → a ≠ x + 19 → a ≠ x + 27 → a ≠ x + 28 → s2.1 a = s.1 a) ∧ (∀ a, a ≠ 1001 → s2.2.1 a = s.2.1 a) ∧ s2.2.2 = s.2.2 ∧ (∀ k, k ≠ 9 → k ≠ 10 → k ≠ 11 → s2.1 1004 k = s.1 1004 k) ∧ (∀ k, k ≠ 10 → k ≠ 11 → s2.1 (x + 19) k = s.1 (x + 19) k)
theorem frE_rf {x : Nat} {s : zσ} : frE x s s := ⟨fun _ _ _ _ _ _ => rfl, fun _ _ => rfl, rfl, fun _ _ _ _ => rfl, fun _ _ _ => rfl⟩
theorem frE_tr {x : Nat} {s s2 s3 : zσ} (h1 : frE x s s2) (h2 : frE x s2 s3) : frE x s s3 := ⟨fun a c d e f g => (h2.1 a c d e f g).trans (h1.1 a c d e f g), fun a c => (h2.2.1 a c).trans (h1.2.1 a c), h2.2.2.1.trans h1.2.2.1, fun k c d e => (h2.2.2.2.1 k c d e).trans (h1.2.2.2.1 k c d e), fun k c d => (h2.2.2.2.2 k c d).trans (h1.2.2.2.2 k c d)⟩
/-- t2 is t but for the token, the fault, the nesting, nodes, codes and uses -/
def frM (y : Nat) (t t2 : zσ) : Prop := (∀ a, a ≠ 1132 → a ≠ y → ¬ (y + 27 ≤ a ∧ a ≤ y + 35) → t2.1 a = t.1 a) ∧ (∀ a, a ≠ 1132 → a ≠ y + 29 → t2.2.1 a = t.2.1 a) ∧ t2.2.2 = t.2.2 ∧ (∀ k, k ≠ 3 → k ≠ 4 → k ≠ 5 → k ≠ 7 → k ≠ 8 → k ≠ 9 → k ≠ 10 → k ≠ 14 → t2.1 1132 k = t.1 1132 k) ∧ (∀ k, k ≠ 27 → k ≠ 31 → k ≠ 34 → t2.1 y k = t.1 y k)
theorem frM_rf {y : Nat} {t : zσ} : frM y t t := ⟨fun _ _ _ _ => rfl, fun _ _ _ => rfl, rfl, fun _ _ _ _ _ _ _ _ _ => rfl, fun _ _ _ _ => rfl⟩
theorem frM_tr {y : Nat} {t t2 t3 : zσ} (h1 : frM y t t2) (h2 : frM y t2 t3) : frM y t t3 := ⟨fun a b c d => (h2.1 a b c d).trans (h1.1 a b c d), fun a b c => (h2.2.1 a b c).trans (h1.2.1 a b c), h2.2.2.1.trans h1.2.2.1, fun k a b c d e f g h => (h2.2.2.2.1 k a b c d e f g h).trans (h1.2.2.2.1 k a b c d e f g h), fun k a b c => (h2.2.2.2.2 k a b c).trans (h1.2.2.2.2 k a b c)⟩
/-- the known names, the parameters, in the second pass -/
def EX (x y : Nat) (s0 : zσ) (np : Nat) (tz : zσ) (G : Nat → Nat → Nat) (bl us : Nat) (s t : zσ) : Prop := (∀ u, u < us → iO tz y u) ∧ s.1 (x + 11) = s0.1 (x + 11) ∧ (∀ c, c < 9 → s.2.1 (x + 2 + c) = s0.2.1 (x + 2 + c)) ∧ ((s.1 1004 3 = 0 ∧ t.1 1132 15 = -1) ∨ (∃ p m, p < 6 ∧ p < np ∧ m ≤ 3 ∧ s.1 1004 3 = nI m ∧ t.1 1132 15 = nI p ∧ tz.1 (y + 11) p = nI m ∧ G 5 bl = 8 + p ∧ G 12 p = m ∧ ∀ k, k < m → s.2.1 1006 k = tz.2.1 (y + 12) (3 * p + k)))
/-- class and reference stand at one token, with one depth, nodes, codes -/
def ER (U : Nat → Nat) (len x y : Nat) (s0 t0 : zσ) (K np : Nat) (tz : zσ) (G : Nat → Nat → Nat) (bl ub q dp nd cd us : Nat) (s t : zσ) : Prop := (BC len x s0 s ∧ CG U len q s) ∧ (BM len y t0 t ∧ MG U len q t) ∧ s.1 1004 7 = nI K ∧ (s.1 1004 9 = nI dp ∧ t.1 1132 14 = nI dp ∧ dp ≤ 12) ∧ (s.1 (x + 19) 10 = nI nd ∧ t.1 y 27 = nI nd ∧ nd ≤ 400) ∧ (s.1 (x + 19) 11 = nI cd ∧ t.1 y 31 = nI cd ∧ cd ≤ nd) ∧ (t.1 y 34 = nI us ∧ us ≤ nd + ub) ∧ (K = 1 → Lt np y t tz ∧ EX x y s0 np tz G bl us s t)
/-- how the pile goes at code p, no higher than hm -/
def hW (G : Nat → Nat → Nat) (hm p a b : Nat) : Prop := a ≤ hm ∧ b ≤ hm ∧ ((G 13 p = 2 ∨ G 13 p = 6) → 1 ≤ a ∧ b = a) ∧ (G 13 p = 7 → 2 ≤ a ∧ b + 1 = a) ∧ ((G 13 p = 0 ∨ G 13 p = 1 ∨ G 13 p = 3 ∨ G 13 p = 4 ∨ G 13 p = 5) → b = a + 1)
/-- the codes from i to j are an expression, for a pile of h0 -/
def sg (G : Nat → Nat → Nat) (x y bl : Nat) (s tz : zσ) (i j h0 hm : Nat) : Prop := i < j ∧ ∃ h : Nat → Nat, h i = h0 ∧ h j = h0 + 1 ∧ ∀ p, i ≤ p → p < j → hW G hm p (h p) (h (p + 1)) ∧ tC G x y bl p s tz
/-- what a part of an expression leaves: cd codes, us uses there were; us2 there are -/
def EC (x y K cd us us2 : Nat) (s t s2 t2 : zσ) : Prop := frE x s s2 ∧ frM y t t2 ∧ (K = 1 → ∀ p, p < cd → s2.1 (x + 27) p = s.1 (x + 27) p ∧ s2.1 (x + 28) p = s.1 (x + 28) p) ∧ (∀ u, u < us → t2.1 (y + 35) u = t.1 (y + 35) u) ∧ (∀ u, us ≤ u → u < us2 → t2.1 (y + 35) u = -1)
theorem EC_rf {x y K cd us : Nat} {s t : zσ} : EC x y K cd us us s t s t := ⟨frE_rf, frM_rf, fun _ _ _ => ⟨rfl, rfl⟩, fun _ _ => rfl, fun u h1 h2 => by omega⟩
theorem EC_tr {x y K cd us us2 cd2 us3 : Nat} {s t s2 t2 s3 t3 : zσ} (h1 : EC x y K cd us us2 s t s2 t2) (h2 : EC x y K cd2 us2 us3 s2 t2 s3 t3) (hc : cd ≤ cd2) (hu : us ≤ us2) : EC x y K cd us us3 s t s3 t3 := by
  obtain ⟨a1, a2, a3, a4, a5⟩ := h1
  obtain ⟨b1, b2, b3, b4, b5⟩ := h2
  refine ⟨frE_tr a1 b1, frM_tr a2 b2, fun hK p hp => ⟨((b3 hK p (by omega)).1).trans (a3 hK p hp).1, ((b3 hK p (by omega)).2).trans (a3 hK p hp).2⟩, fun u hu2 => (b4 u (by omega)).trans (a4 u hu2), fun u hu2 hu3 => ?_⟩
  by_cases h : u < us2
  · rw [b4 u h]; exact a5 u hu2 h
  · exact b5 u (by omega) hu3
def EN (U : Nat → Nat) (len x y : Nat) (s0 t0 : zσ) (K np : Nat) (tz : zσ) (G : Nat → Nat → Nat) (bl ub cd us q2 dp2 nd2 cd2 us2 : Nat) (s t s2 t2 : zσ) : Prop := EC x y K cd us us2 s t s2 t2 ∧ ER U len x y s0 t0 K np tz G bl ub q2 dp2 nd2 cd2 us2 s2 t2
/-- what has come of a pair of parts of an expression -/
def EP (U : Nat → Nat) (len x y : Nat) (s0 t0 : zσ) (K np : Nat) (tz : zσ) (G : Nat → Nat → Nat) (bl ub hm q dp nd cd us : Nat) (s t : zσ) (q2 nd2 cd2 us2 : Nat) (s2 t2 : zσ) : Prop := (q + 1 ≤ q2 ∧ (q + 2 ≤ q2 ∨ tkKind U len q = 1 ∨ tkKind U len q = 2 ∨ tkKind U len q = 142 ∨ tkKind U len q = 143 ∨ tkKind U len q = 144)) ∧ (nd + 1 ≤ nd2 ∧ cd ≤ cd2 ∧ cd2 + nd ≤ nd2 + cd ∧ us ≤ us2 ∧ us2 + nd ≤ nd2 + us) ∧ EN U len x y s0 t0 K np tz G bl ub cd us q2 dp nd2 cd2 us2 s t s2 t2 ∧ (K = 1 → sg G x y bl s2 (tzMp tz y) cd cd2 0 hm)
def EA (U : Nat → Nat) (len x y : Nat) (s0 t0 : zσ) (K np : Nat) (tz : zσ) (G : Nat → Nat → Nat) (bl ub hm q dp nd cd us : Nat) (s t s2 t2 : zσ) : Prop := ∃ q2 nd2 cd2 us2, EP U len x y s0 t0 K np tz G bl ub hm q dp nd cd us s t q2 nd2 cd2 us2 s2 t2
/-- a pair of functions, for depths no less than D -/
def EB (n : Nat) (U : Nat → Nat) (len x y : Nat) (s0 t0 : zσ) (K np : Nat) (tz : zσ) (G : Nat → Nat → Nat) (bl ub e D : Nat) (g g2 : zσ → Option zσ) : Prop := (∀ q dp nd cd us s t, D ≤ dp → ER U len x y s0 t0 K np tz G bl ub q dp nd cd us s t → Hb (fun u => u) K np y tz (g2 t) → Rs (FC len x s0) (FM len y t0) (ZB K y tz) (EA U len x y s0 t0 K np tz G bl ub (e + 3 * (12 - dp)) q dp nd cd us s t) (g s) (g2 t)) ∧ (∀ f z s, FC len x s0 f z s → fw (FC len x s0 f z) (g s)) ∧ (∀ f z t, FM len y t0 f z t → fw (FM len y t0 f z) (g2 t)) ∧ (∀ t, bk (fun u => u) (LR np y tz) (g2 t) t)
/-- the names, in the second pass -/
def nmT (G : Nat → Nat → Nat) (x y : Nat) (s t : zσ) : Prop := (∀ k, k < 9 → s.1 (x + 11) k = nI (G 6 k) ∧ G 6 k ≤ 8) ∧ (∃ N, N ≤ 60 ∧ t.1 y 0 = nI N ∧ (∀ k, k < N → ∃ c i, c < 9 ∧ i < G 6 c ∧ t.1 (y + 2) k = nI c ∧ t.1 (y + 3) k = nI i ∧ s.2.1 (x + 2 + c) i = t.2.1 (y + 1) k) ∧ (∀ c i, c < 9 → i < G 6 c → ∃ k, k < N ∧ t.1 (y + 2) k = nI c ∧ t.1 (y + 3) k = nI i ∧ s.2.1 (x + 2 + c) i = t.2.1 (y + 1) k) ∧ (∀ k j, k < N → j < N → t.2.1 (y + 1) k = t.2.1 (y + 1) j → k = j))
/-- what holds all the time -/
def HQ (n : Nat) (U : Nat → Nat) (len x y : Nat) (s0 t0 : zσ) (K : Nat) (tz : zσ) (G : Nat → Nat → Nat) (ub : Nat) : Prop := 5000 ≤ n ∧ S0 U len x y s0 t0 ∧ ub ≤ 900 ∧ (∀ p, G 13 p = nx (tz.1 (y + 27) p)) ∧ (K = 1 → nmT G x y s0 tz) ∧ K ≤ 1 ∧ (K = 1 → G 6 7 ≤ 6)
end ZPL
