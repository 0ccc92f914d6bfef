/-! PHASE 2: rule, a value -/
/-- place, entries, parts -/
abbrev Ps : Type := Nat × Es × Nat
/-- one part more at b -/
def onePart (b : Nat) (x : Ps) : Nat ⊕ Ps := if x.2.2 < 60 then .inr (x.1, x.2.1, x.2.2 + 1) else .inl (4 + 8 * b)
def val (n : Nat) (t : Nat → Nat) (x : Ps) : Nat ⊕ Ps :=
  if bl n t x.1 < n ∧ isD (t (bl n t x.1)) = true then
    sbd (num n t x.1 0 99999) fun q => onePart (bl n t x.1) (q.2, x.2.1 ++ [(0, q.1)], x.2.2)
  else match fw n t (bl n t x.1) (wl 2) 0 with
    | none => .inl (1 + 8 * bl n t x.1)
    | some w => onePart (bl n t x.1) (lte n t (bl n t x.1), x.2.1 ++ [(1, w)], x.2.2)
/-- only the tape and the reader's rule differ -/
def frK (m m1 : Mm) : Prop := (∀ i, ¬ (i = 1 ∨ i = 19 ∨ i = 20 ∨ i = 21) → m1.1 i = m.1 i) ∧ m1.1 1 1 = m.1 1 1 ∧ ∀ k, ¬ k = 1 → m1.1 20 k = m.1 20 k
theorem frK.tr {a b c : Mm} (h1 : frK a b) (h2 : frK b c) : frK a c := ⟨fun i hi => (h2.1 i hi).trans (h1.1 i hi), h2.2.1.trans h1.2.1, fun k hk => (h2.2.2 k hk).trans (h1.2.2 k hk)⟩
theorem frK.rf (m : Mm) : frK m m := ⟨fun _ _ => rfl, rfl, fun _ _ => rfl⟩
theorem frT.k {m m1 : Mm} (h : frT m m1) : frK m m1 := ⟨fun i hi => h.1 i (by omega), h.2, fun k _ => by rw [h.1 20 (by decide)]⟩
theorem frK.tx {m m1 : Mm} {n : Nat} {t : Nat → Nat} (f : frK m m1) (h : TxC m n t) : TxC m1 n t := ⟨by rw [f.2.1]; exact h.1, fun k hk => by rw [f.1 2 (by decide)]; exact h.2 k hk⟩
theorem eC_T {m m1 : Mm} {E : Es} {p : Nat} (f : frT m m1) (h : eC m E p) : eC m1 E p := by
  unfold eC
  rw [f.1 20 (by decide), f.1 21 (by decide), f.1 19 (by decide)]
  exact h
/-- what a reading function of the class does -/
def kC (m : Mm) (res : Option (Int32 × Mm)) (p : Nat ⊕ Ps) : Prop := ∃ m1, frK m m1 ∧ ((∃ f, p = .inl f ∧ res = some (0, m1) ∧ m1.1 1 4 = nI f ∧ ∃ L, L ≤ 400 ∧ m1.1 20 1 = nI L) ∨ ∃ x, p = .inr x ∧ res = some (1, m1) ∧ atC m1 x.1 ∧ eC m1 x.2.1 x.2.2)
theorem part_c {m : Mm} {i b p : Nat} {E : Es} (ha : atC m i) (hb : m.1 1 3 = nI b) (hE : eC m E p) (hp : p ≤ 60) (hl : E.length ≤ 400) : kC m (f_X8_readValue_j83 m) (onePart b (i, E, p)) := by
  unfold f_X8_readValue_j83 f_X8_isOnePartMore onePart
  rw [hE.2.2, hb, sN_a1, vl_s, wI_at]
  have fk : frK m (wI m 19 2 (nI (p + 1))) := ⟨fun i hi => wI_ne (by omega), by rw [wI_ne (by decide)], fun k _ => by rw [wI_ne (by decide)]⟩
  by_cases c : p < 60
  · rw [if_pos (by rw [show (60 : Int32) = nI 60 from rfl, sN_le (by omega) (by decide)]; omega), bi2_s, if_neg (fun z => z.2 rfl), if_pos c]
    refine ⟨_, fk, Or.inr ⟨_, rfl, rfl, by unfold atC; rw [wI_ne (by decide)]; exact ha, ?_⟩⟩
    refine ⟨by rw [wI_ne (by decide)]; exact hE.1, fun k hk => by rw [wI_ne (by decide)]; exact hE.2.1 k hk, wI_at _ _ _ _⟩
  · rw [if_neg (by rw [show (60 : Int32) = nI 60 from rfl, sN_le (by omega) (by decide)]; omega), K3, wrong_c, bi2_s, if_pos rfl, bi2_s, if_neg (fun z => z.1 rfl), if_neg c, show 1 + 8 * b + 3 = 4 + 8 * b by omega]
    exact ⟨_, fk.tr (frT_w _ (by decide)).k, Or.inl ⟨_, rfl, rfl, wI_at _ _ _ _, E.length, hl, by rw [wI_ne (by decide), wI_ne (by decide)]; exact hE.1⟩⟩
theorem kC.tr {m m1 : Mm} {res : Option (Int32 × Mm)} {p : Nat ⊕ Ps} (h : frK m m1) (g : kC m1 res p) : kC m res p := by
  obtain ⟨m2, g1, g2⟩ := g
  exact ⟨m2, h.tr g1, g2⟩
theorem val_c {m : Mm} {n : Nat} {t : Nat → Nat} (h : TxC m n t) (ok : TxOk n t) {x : Ps} (ha : atC m x.1) (hi : x.1 ≤ n) (hE : eC m x.2.1 x.2.2) (hp : x.2.2 ≤ 60) (hl : x.2.1.length < 300) : kC m (f_X8_readValue m) (val n t x) := by
  have h4 := ok.1
  have hb := bl_le t hi
  obtain ⟨b, hbd⟩ : ∃ b, b = bl n t x.1 := ⟨_, rfl⟩
  obtain ⟨m0, hm0⟩ : ∃ m0, m0 = wI m 1 2 (nI b) := ⟨_, rfl⟩
  have f0 : frT m m0 := by rw [hm0]; exact frT_w m (by decide)
  have a0 : atC m0 b := by rw [hm0]; exact wI_at _ _ _ _
  have hid : bl n t b = b := by rw [hbd, bl_id]
  have hE0 := eC_T f0 hE
  have t0 := f0.tx h
  unfold f_X8_readValue val
  rw [next_c h ok ha (by omega), bi2_s, ← hbd, ← hm0]
  rw [← hbd] at hb
  refine kC.tr f0.k ?_
  have dig : f_X10_isDigit (sgI n t b) = if b < n ∧ isD (t b) = true then 1 else 0 := by
    unfold sgI
    by_cases q : b < n
    · rw [if_pos q, nb_dig _ (ok.2 b q)]
      unfold isD
      by_cases q2 : 48 ≤ t b ∧ t b ≤ 57
      · rw [if_pos q2, if_pos ⟨q, decide_eq_true q2⟩]
      · rw [if_neg q2, if_neg (fun z => q2 (of_decide_eq_true z.2))]
    · rw [if_neg q, if_neg (fun z => q z.1)]
      decide
  rw [dig]
  by_cases c : b < n ∧ isD (t b) = true
  · rw [if_pos c, if_neg (show ¬ (1 : Int32) = 0 by decide), if_pos c, show (99999 : Int32) = zI 99999 from rfl, show num n t x.1 0 99999 = num n t b 0 99999 by rw [hbd, num_bl]]
    obtain ⟨m1, f1, ⟨f, e1, e2, e3⟩ | ⟨v, e, e1, e2, e3, e4, e5⟩⟩ := number_c (lo := 0) (hi' := 99999) t0 ok a0 (by omega) (by decide) (by decide) (by decide) (by decide)
    · rw [show f_X10_number m0 0 (zI 99999) = some (-1, m1) from e2, bi2_s, if_pos rfl, e1]
      exact ⟨m1, f1.k, Or.inl ⟨f, rfl, rfl, e3, x.2.1.length, by omega, (eC_T f1 hE0).1⟩⟩
    · have hv := num_ok e1
      rw [show f_X10_number m0 0 (zI 99999) = some (nI v, m1) from e2, bi2_s, if_neg (nm1 (by omega)), e1]
      obtain ⟨m2, g1, g2, g3, g4⟩ := add_c (eC_T f1 hE0) hl (s := 0) (v := v) (x := 0) (by decide)
      rw [g1, bi1_s]
      have fk : frK m1 m2 := ⟨fun i hi => g2 i (by omega), by rw [g2 1 (by decide)], g3⟩
      refine kC.tr (f1.k.tr fk) ?_
      rw [hid] at e4
      exact part_c (by unfold atC; rw [g2 1 (by decide)]; exact e3) (by rw [g2 1 (by decide)]; exact e4) g4 hp (by simp; omega)
  · rw [if_neg c, if_pos rfl, if_neg c]
    obtain ⟨m1, f1, e1, e14, en', es⟩ := wordAmong_c t0 ok a0 (by omega) (k := 2) (by decide)
    rw [hid] at e1 en' es
    rw [e1, bi2_s]
    cases hf : fw n t b (wl 2) 0 with
    | none =>
      rw [show fwI none = -1 from rfl, if_pos rfl, (en' hf).1, show (0 : Int32) = nI 0 from rfl, wrong_c, bi2_s, if_neg (fun z => z.1 rfl), Nat.add_zero]
      exact ⟨_, f1.k.tr (frT_w _ (by decide)).k, Or.inl ⟨_, rfl, rfl, wI_at _ _ _ _, x.2.1.length, by omega, (eC_T (f1.tr (frT_w _ (by decide))) hE0).1⟩⟩
    | some w =>
      have hw : w < 12 := by
        have := (fw_lt _ _ _ hf).2
        have e : (wl 2).length = 12 := rfl
        omega
      obtain ⟨a1, b1⟩ := es w hf
      rw [show fwI (some w) = nI w from rfl, if_neg (nm1 (by omega))]
      obtain ⟨m2, g1, g2, g3, g4⟩ := add_c (eC_T f1 hE0) hl (s := 1) (v := w) (x := 1) (by decide)
      rw [g1, bi1_s]
      have fk : frK m1 m2 := ⟨fun i hi => g2 i (by omega), by rw [g2 1 (by decide)], g3⟩
      refine kC.tr (f1.k.tr fk) ?_
      exact part_c (by unfold atC; rw [g2 1 (by decide)]; exact a1) (by rw [g2 1 (by decide)]; exact b1) g4 hp (by simp; omega)
