/-! PHASE 2: rule, the reference's value -/
/-- only the reader's places and the rule's own stretch differ -/
def frJ (u : Nat) (m m1 : Mm) : Prop := (∀ i, ¬ (i = 1088 ∨ i = 1120 ∨ i = 1121) → m1.1 i = m.1 i) ∧ (∀ k, ¬ (k = 32 ∨ k = 33 ∨ k = 36 ∨ k = 38) → m1.1 1088 k = m.1 1088 k) ∧ ∀ k, k < 300 * u → m1.1 1120 k = m.1 1120 k ∧ m1.1 1121 k = m.1 1121 k
theorem frJ.tr {u : Nat} {a b c : Mm} (h1 : frJ u a b) (h2 : frJ u b c) : frJ u a c := ⟨fun i hi => (h2.1 i hi).trans (h1.1 i hi), fun k hk => (h2.2.1 k hk).trans (h1.2.1 k hk), fun k hk => ⟨(h2.2.2 k hk).1.trans (h1.2.2 k hk).1, (h2.2.2 k hk).2.trans (h1.2.2 k hk).2⟩⟩
theorem frJ.rf (u : Nat) (m : Mm) : frJ u m m := ⟨fun _ _ => rfl, fun _ _ => rfl, fun _ _ => ⟨rfl, rfl⟩⟩
theorem frU.j {u : Nat} {m m1 : Mm} (h : frU m m1) : frJ u m m1 := ⟨fun i hi => h.1 i (by omega), fun k hk => h.2 k (by omega) (by omega), fun k _ => by rw [h.1 1120 (by decide), h.1 1121 (by decide)]; exact ⟨rfl, rfl⟩⟩
theorem frJ.tx {u : Nat} {m m1 : Mm} {n : Nat} {t : Nat → Nat} (f : frJ u m m1) (h : TxF m n t) : TxF m1 n t := ⟨by rw [f.2.1 31 (by decide)]; exact h.1, fun k hk => by rw [f.1 1119 (by decide)]; exact h.2 k hk⟩
theorem frJ_w {u : Nat} (m : Mm) {k : Nat} {x : Int32} (h : k = 32 ∨ k = 33 ∨ k = 36 ∨ k = 38) : frJ u m (wI m 1088 k x) := ⟨fun i hi => wI_ne (by omega), fun j hj => wI_pl (by omega), fun k _ => by rw [wI_ne (by decide), wI_ne (by decide)]; exact ⟨rfl, rfl⟩⟩
theorem eF_U {m m1 : Mm} {u : Nat} {E : Es} {p : Nat} (f : frU m m1) (h : eF m u E p) : eF m1 u E p := by
  unfold eF
  rw [f.1 1120 (by decide), f.1 1121 (by decide), f.2 36 (by decide) (by decide), f.2 34 (by decide) (by decide), f.2 38 (by decide) (by decide)]
  exact h
/-- behind a fault, the place no further than B -/
def flB (B : Nat) (m : Mm) (f : Nat) : Prop := m.1 1088 33 = nI f ∧ 1 ≤ f ∧ f < 5000 ∧ ∃ j, j ≤ B ∧ m.1 1088 32 = nI j
theorem flB.mo {B C : Nat} {m : Mm} {f : Nat} (h : flB B m f) (hc : B ≤ C) : flB C m f := by
  obtain ⟨h1, h2, h3, j, j1, j2⟩ := h
  exact ⟨h1, h2, h3, j, by omega, j2⟩
theorem flB_ne {B : Nat} {m : Mm} {f : Nat} (h : flB B m f) : ¬ m.1 1088 33 = 0 := by
  rw [h.1, show (0 : Int32) = nI 0 from rfl, sN_eq (by have := h.2.2.1; omega) (by decide)]
  have := h.2.1
  omega
def jX (u B : Nat) (m : Mm) (res : Option Mm) (f : Nat) : Prop := ∃ m1, res = some m1 ∧ frJ u m m1 ∧ flB B m1 f
def jQ (u B : Nat) (m : Mm) (res : Option Mm) (p : Nat ⊕ Ps) : Prop := (∃ f, p = .inl f ∧ jX u B m res f) ∨ ∃ m1 x, p = .inr x ∧ res = some m1 ∧ frJ u m m1 ∧ m1.1 1088 32 = nI x.1 ∧ m1.1 1088 33 = 0 ∧ eF m1 u x.2.1 x.2.2
theorem jX.tr {u B : Nat} {m m1 : Mm} {res : Option Mm} {f : Nat} (h : frJ u m m1) (g : jX u B m1 res f) : jX u B m res f := by
  obtain ⟨m2, g1, g2, g3⟩ := g
  exact ⟨m2, g1, h.tr g2, g3⟩
theorem jQ.tr {u B : Nat} {m m1 : Mm} {res : Option Mm} {p : Nat ⊕ Ps} (h : frJ u m m1) (g : jQ u B m1 res p) : jQ u B m res p := by
  rcases g with ⟨f, g1, g2⟩ | ⟨m2, x, g1, g2, g3, g4⟩
  · exact Or.inl ⟨f, g1, jX.tr h g2⟩
  · exact Or.inr ⟨m2, x, g1, g2, h.tr g3, g4⟩
theorem entry_x {m : Mm} {x y : Int32} (h : ¬ m.1 1088 33 = 0) : f_X12_entry m x y = some m := by
  unfold f_X12_entry
  rw [if_neg h]
theorem counted_x {B : Nat} {m : Mm} {f : Nat} (h : flB B m f) {x : Int32} : f_X12_isCounted m x = some (wI m 1088 38 (m.1 1088 38 + 1)) ∧ flB B (wI m 1088 38 (m.1 1088 38 + 1)) f := by
  refine ⟨?_, ⟨by rw [wI_pl (by decide)]; exact h.1, h.2.1, h.2.2.1, by obtain ⟨j, j1, j2⟩ := h.2.2.2; exact ⟨j, j1, by rw [wI_pl (by decide)]; exact j2⟩⟩⟩
  unfold f_X12_isCounted f_X12_isCounted_j15
  rw [fails_x (flB_ne h), bi1_s, vl_s]
  split <;> rfl
theorem counted_f {m : Mm} {u B : Nat} {E : Es} {p i b : Nat} (hE : eF m u E p) (ha : m.1 1088 32 = nI i) (hi : i ≤ B) (hb : b ≤ 500) (h0 : m.1 1088 33 = 0) (hp : p ≤ 60) : jQ u B m (f_X12_isCounted m (nI b)) (onePart b (i, E, p)) := by
  unfold f_X12_isCounted f_X12_isCounted_j15 onePart
  rw [hE.2.2.2]
  by_cases c : p < 60
  · rw [if_pos c, if_neg (by rw [show (60 : Int32) = nI 60 from rfl, sN_eq (by omega) (by decide)]; omega), sN_a1, vl_s]
    refine Or.inr ⟨_, _, rfl, rfl, frJ_w m (by omega), by rw [wI_pl (by decide)]; exact ha, by rw [wI_pl (by decide)]; exact h0, by rw [wI_pl (by decide)]; exact hE.1, by rw [wI_pl (by decide)]; exact hE.2.1, fun k hk => by rw [wI_ne (by decide), wI_ne (by decide)]; exact hE.2.2.1 k hk, wI_at _ _ _ _⟩
  · rw [if_neg c, if_pos (by rw [show p = 60 by omega]; rfl), K3, fails_0 b 3 h0, bi1_s, vl_s, show 1 + 8 * b + 3 = 4 + 8 * b by omega]
    exact Or.inl ⟨_, rfl, _, rfl, (frJ_w m (by omega)).tr (frJ_w _ (by omega)), by rw [wI_pl (by decide), wI_at], by omega, by omega, i, hi, by rw [wI_pl (by decide), wI_pl (by decide)]; exact ha⟩
