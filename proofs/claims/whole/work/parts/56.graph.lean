/-! PHASE 2: who hangs with whom -/
abbrev Rop : Type := List (Nat × Nat × Nat)
def rp (L : Rop) (k : Nat) : Nat × Nat × Nat := L.getD k (0, 0, 0)
/-- an edge of one of the first n ropes that are not gone -/
def EdN (L : Rop) (g n : Nat) (x y : Nat) : Prop := ∃ k, k < n ∧ g.testBit k = false ∧ ((rp L k).1 = x ∧ (rp L k).2.1 = y ∨ (rp L k).2.1 = x ∧ (rp L k).1 = y)
/-- an edge of a rope of R with both ends in W -/
def EdW (L : Rop) (W R : Nat) (x y : Nat) : Prop := ∃ k, k < L.length ∧ R.testBit k = true ∧ W.testBit (rp L k).1 = true ∧ W.testBit (rp L k).2.1 = true ∧ ((rp L k).1 = x ∧ (rp L k).2.1 = y ∨ (rp L k).2.1 = x ∧ (rp L k).1 = y)
def Rch (E : Nat → Nat → Prop) (a b : Nat) : Prop := ∀ S : Nat → Prop, S a → (∀ x y, E x y → S x → S y) → S b
theorem Rch_rf {E : Nat → Nat → Prop} {a : Nat} : Rch E a a := fun _ h _ => h
theorem Rch_tr {E : Nat → Nat → Prop} {a b c : Nat} (h1 : Rch E a b) (h2 : Rch E b c) : Rch E a c := fun S hs hc => h2 S (h1 S hs hc) hc
theorem Rch_st {E : Nat → Nat → Prop} {a b : Nat} (h : E a b) : Rch E a b := fun _ hs hc => hc a b h hs
theorem Rch_mo {E F : Nat → Nat → Prop} (h : ∀ x y, E x y → F x y) {a b : Nat} (h1 : Rch E a b) : Rch F a b := fun S hs hc => h1 S hs (fun x y e => hc x y (h x y e))
theorem Rch_sy {E : Nat → Nat → Prop} (h : ∀ x y, E x y → E y x) {a b : Nat} (h1 : Rch E a b) : Rch E b a := h1 (fun z => Rch E z a) Rch_rf (fun x y e hx => Rch_tr (Rch_st (h x y e)) hx)
theorem Rch_cg {E F : Nat → Nat → Prop} (h : ∀ x y, E x y ↔ F x y) (a b : Nat) : Rch E a b ↔ Rch F a b := ⟨Rch_mo (fun x y => (h x y).mp), Rch_mo (fun x y => (h x y).mpr)⟩
theorem Rch_ad {E F : Nat → Nat → Prop} {p q : Nat} (hs : ∀ x y, E x y → E y x) (hF : ∀ x y, F x y ↔ E x y ∨ (p = x ∧ q = y ∨ q = x ∧ p = y)) (a b : Nat) : Rch F a b ↔ Rch E a b ∨ (Rch E a p ∧ Rch E q b) ∨ (Rch E a q ∧ Rch E p b) := by
  have mo : ∀ {x y}, Rch E x y → Rch F x y := fun h => Rch_mo (fun x y e => (hF x y).mpr (Or.inl e)) h
  have pq : Rch F p q := Rch_st ((hF p q).mpr (Or.inr (Or.inl ⟨rfl, rfl⟩)))
  have qp : Rch F q p := Rch_st ((hF q p).mpr (Or.inr (Or.inr ⟨rfl, rfl⟩)))
  constructor
  · intro h
    refine h (fun z => Rch E a z ∨ (Rch E a p ∧ Rch E q z) ∨ (Rch E a q ∧ Rch E p z)) (Or.inl Rch_rf) (fun x y e hx => ?_)
    rcases (hF x y).mp e with e1 | ⟨rfl, rfl⟩ | ⟨rfl, rfl⟩
    · rcases hx with hx | ⟨h1, h2⟩ | ⟨h1, h2⟩
      · exact Or.inl (Rch_tr hx (Rch_st e1))
      · exact Or.inr (Or.inl ⟨h1, Rch_tr h2 (Rch_st e1)⟩)
      · exact Or.inr (Or.inr ⟨h1, Rch_tr h2 (Rch_st e1)⟩)
    · rcases hx with hx | ⟨h1, h2⟩ | ⟨h1, h2⟩
      · exact Or.inr (Or.inl ⟨hx, Rch_rf⟩)
      · exact Or.inr (Or.inl ⟨h1, Rch_rf⟩)
      · exact Or.inl h1
    · rcases hx with hx | ⟨h1, h2⟩ | ⟨h1, h2⟩
      · exact Or.inr (Or.inr ⟨hx, Rch_rf⟩)
      · exact Or.inl h1
      · exact Or.inr (Or.inr ⟨h1, Rch_rf⟩)
  · rintro (h | ⟨h1, h2⟩ | ⟨h1, h2⟩)
    · exact mo h
    · exact Rch_tr (mo h1) (Rch_tr pq (mo h2))
    · exact Rch_tr (mo h1) (Rch_tr qp (mo h2))
theorem EdN_sy {L : Rop} {g n : Nat} (x y : Nat) (h : EdN L g n x y) : EdN L g n y x := by
  obtain ⟨k, h1, h2, h3⟩ := h
  exact ⟨k, h1, h2, h3.elim (fun z => Or.inr ⟨z.2, z.1⟩) (fun z => Or.inl ⟨z.2, z.1⟩)⟩
theorem EdW_sy {L : Rop} {W R : Nat} (x y : Nat) (h : EdW L W R x y) : EdW L W R y x := by
  obtain ⟨k, h1, h2, h4, h5, h3⟩ := h
  exact ⟨k, h1, h2, h4, h5, h3.elim (fun z => Or.inr ⟨z.2, z.1⟩) (fun z => Or.inl ⟨z.2, z.1⟩)⟩
theorem EdN_su {L : Rop} {g n : Nat} (hg : g.testBit n = false) (x y : Nat) : EdN L g (n + 1) x y ↔ EdN L g n x y ∨ ((rp L n).1 = x ∧ (rp L n).2.1 = y ∨ (rp L n).2.1 = x ∧ (rp L n).1 = y) := by
  constructor
  · rintro ⟨k, h1, h2, h3⟩
    by_cases h : k = n
    · subst h; exact Or.inr h3
    · exact Or.inl ⟨k, by omega, h2, h3⟩
  · rintro (⟨k, h1, h2, h3⟩ | h)
    · exact ⟨k, by omega, h2, h3⟩
    · exact ⟨n, by omega, hg, h⟩
theorem EdN_sk {L : Rop} {g n : Nat} (hg : g.testBit n = true) (x y : Nat) : EdN L g (n + 1) x y ↔ EdN L g n x y := by
  constructor
  · rintro ⟨k, h1, h2, h3⟩
    by_cases h : k = n
    · subst h; rw [hg] at h2; exact absurd h2 (by decide)
    · exact ⟨k, by omega, h2, h3⟩
  · rintro ⟨k, h1, h2, h3⟩
    exact ⟨k, by omega, h2, h3⟩
theorem EdN_0 {L : Rop} {g : Nat} (x y : Nat) : ¬ EdN L g 0 x y := fun ⟨k, h1, _⟩ => by omega
/-- a truth as a Bool -/
noncomputable def pb (p : Prop) : Bool := @decide p (Classical.propDecidable p)
theorem pb_t {p : Prop} (h : p) : pb p = true := @decide_eq_true p (Classical.propDecidable p) h
theorem pb_f {p : Prop} (h : ¬ p) : pb p = false := @decide_eq_false p (Classical.propDecidable p) h
theorem pb_i {p : Prop} : pb p = true ↔ p := @decide_eq_true_iff p (Classical.propDecidable p)
theorem pb_cg {p q : Prop} (h : p ↔ q) : pb p = pb q := by
  by_cases hp : p
  · rw [pb_t hp, pb_t (h.mp hp)]
  · rw [pb_f hp, pb_f (fun z => hp (h.mpr z))]
/-- the piece of a thing -/
noncomputable def pcs (E : Nat → Nat → Prop) (t : Nat) : Nat := bset (fun u => pb (Rch E t u)) 8
theorem pcs_tb (E : Nat → Nat → Prop) (t u : Nat) : (pcs E t).testBit u = true ↔ u < 8 ∧ Rch E t u := by
  unfold pcs
  rw [bset_tb, Bool.and_eq_true, decide_eq_true_iff, pb_i]
theorem pcs_lt (E : Nat → Nat → Prop) (t : Nat) : pcs E t < 256 := bset_lt _ 8
theorem pcs_cg {E F : Nat → Nat → Prop} (h : ∀ x y, E x y ↔ F x y) (t : Nat) : pcs E t = pcs F t := bset_ext (fun u _ => pb_cg (Rch_cg h t u))
theorem tb_iff {a b : Nat} (h : ∀ t, a.testBit t = true ↔ b.testBit t = true) : a = b := tb_ext (fun t => by
  have := h t
  cases ha : a.testBit t <;> cases hb : b.testBit t <;> rw [ha, hb] at this
  · exact absurd (this.mpr rfl) (by decide)
  · exact absurd (this.mp rfl) (by decide))
theorem pcs_eq {E : Nat → Nat → Prop} (hs : ∀ x y, E x y → E y x) {t u : Nat} (h : Rch E t u) : pcs E u = pcs E t := tb_iff (fun z => by
  rw [pcs_tb, pcs_tb]
  exact ⟨fun ⟨h1, h2⟩ => ⟨h1, Rch_tr h h2⟩, fun ⟨h1, h2⟩ => ⟨h1, Rch_tr (Rch_sy hs h) h2⟩⟩)
/-- the pieces behind one more rope, as the class makes them -/
theorem pcs_ad {E F : Nat → Nat → Prop} {p q : Nat} (hs : ∀ x y, E x y → E y x) (hF : ∀ x y, F x y ↔ E x y ∨ (p = x ∧ q = y ∨ q = x ∧ p = y)) (hp : p < 8) (hq : q < 8) (t : Nat) (ht : t < 8) : pcs F t = if (pcs E p ||| pcs E q).testBit t then pcs E p ||| pcs E q else pcs E t := by
  by_cases h : (pcs E p ||| pcs E q).testBit t = true
  · rw [if_pos h]
    rw [Nat.testBit_or, Bool.or_eq_true, pcs_tb, pcs_tb] at h
    refine tb_iff (fun z => ?_)
    rw [Nat.testBit_or, Bool.or_eq_true, pcs_tb, pcs_tb, pcs_tb, Rch_ad hs hF]
    rcases h with ⟨-, h⟩ | ⟨-, h⟩
    · constructor
      · rintro ⟨hz, h1 | ⟨h1, h2⟩ | ⟨h1, h2⟩⟩
        · exact Or.inl ⟨hz, Rch_tr h h1⟩
        · exact Or.inr ⟨hz, h2⟩
        · exact Or.inl ⟨hz, h2⟩
      · rintro (⟨hz, h1⟩ | ⟨hz, h1⟩)
        · exact ⟨hz, Or.inl (Rch_tr (Rch_sy hs h) h1)⟩
        · exact ⟨hz, Or.inr (Or.inl ⟨Rch_sy hs h, h1⟩)⟩
    · constructor
      · rintro ⟨hz, h1 | ⟨h1, h2⟩ | ⟨h1, h2⟩⟩
        · exact Or.inr ⟨hz, Rch_tr h h1⟩
        · exact Or.inr ⟨hz, h2⟩
        · exact Or.inl ⟨hz, h2⟩
      · rintro (⟨hz, h1⟩ | ⟨hz, h1⟩)
        · exact ⟨hz, Or.inr (Or.inr ⟨Rch_sy hs h, h1⟩)⟩
        · exact ⟨hz, Or.inl (Rch_tr (Rch_sy hs h) h1)⟩
  · rw [if_neg h]
    rw [Nat.testBit_or, Bool.or_eq_true, pcs_tb, pcs_tb] at h
    refine tb_iff (fun z => ?_)
    rw [pcs_tb, pcs_tb, Rch_ad hs hF]
    constructor
    · rintro ⟨hz, h1 | ⟨h1, h2⟩ | ⟨h1, h2⟩⟩
      · exact ⟨hz, h1⟩
      · exact absurd (Or.inl ⟨ht, Rch_sy hs h1⟩) h
      · exact absurd (Or.inr ⟨ht, Rch_sy hs h1⟩) h
    · rintro ⟨hz, h1⟩
      exact ⟨hz, Or.inl h1⟩
theorem pcs_same {E F : Nat → Nat → Prop} {p q : Nat} (hs : ∀ x y, E x y → E y x) (hF : ∀ x y, F x y ↔ E x y ∨ (p = x ∧ q = y ∨ q = x ∧ p = y)) (hpq : Rch E p q) (t : Nat) : pcs F t = pcs E t := tb_iff (fun z => by
  rw [pcs_tb, pcs_tb, Rch_ad hs hF]
  constructor
  · rintro ⟨hz, h1 | ⟨h1, h2⟩ | ⟨h1, h2⟩⟩
    · exact ⟨hz, h1⟩
    · exact ⟨hz, Rch_tr h1 (Rch_tr hpq h2)⟩
    · exact ⟨hz, Rch_tr h1 (Rch_tr (Rch_sy hs hpq) h2)⟩
  · rintro ⟨hz, h1⟩
    exact ⟨hz, Or.inl h1⟩)
theorem pcs_0 {E : Nat → Nat → Prop} (h : ∀ x y, ¬ E x y) {t : Nat} (ht : t < 8) : pcs E t = 2 ^ t := tb_iff (fun z => by
  rw [pcs_tb]
  constructor
  · rintro ⟨_, h1⟩
    have := h1 (fun w => w = t) rfl (fun x y e => absurd e (h x y))
    rw [this]
    exact Nat.testBit_two_pow_self
  · intro hz
    by_cases e : z = t
    · exact ⟨by omega, by rw [e]; exact Rch_rf⟩
    · rw [Nat.testBit_two_pow_of_ne (fun w => e w.symm)] at hz
      exact absurd hz (by decide))
