/-! PHASE 2: the data of a whole state, each side by itself -/
abbrev Rf : Type := Dat × Rop × Int32
def raC (a : Nat → Nat → Int32) (V : Dat) (R : Rf) : Prop := RaA a V R.1 R.2.1 R.2.2 ∧ ∀ t, t < V 1 2 → R.1 4 t = 2 → a 5 t = nI (R.1 5 t)
def raF (b : Nat → Nat → Int32) (V : Dat) (R : Rf) : Prop := RaA b V R.1 R.2.1 R.2.2 ∧ ∀ t, t < V 1 2 → b 5 t = if R.1 4 t = 2 then nI (R.1 5 t) else -2
def rvC (c : Nat → Nat → Int32) (V : Dat) : Prop := (c 1 0 = nI (V 1 0) ∧ c 1 1 = nI (V 1 1) ∧ c 1 2 = nI (V 1 2) ∧ c 1 3 = nI (V 1 3)) ∧ (∀ o, o < V 1 1 → c 2 o = nI (V 2 o) ∧ c 3 o = nI (V 3 o)) ∧ (∀ t, t < V 1 2 → c 4 t = nI (V 4 t) ∧ c 5 t = nI (V 5 t)) ∧ ∀ m, m < 100 → c 6 m = nI (V 6 m)
def rvF (f : Nat → Nat → Int32) (V : Dat) : Prop := (f 1 0 = nI (V 1 0) ∧ f 1 2 = nI (V 1 1) ∧ f 1 3 = nI (V 1 2) ∧ f 1 5 = nI (V 1 3)) ∧ (∀ o, o < V 1 1 → f 2 o = nI (V 2 o) ∧ f 3 o = nI (V 3 o)) ∧ (∀ t, t < V 1 2 → f 6 t = nI (V 4 t) ∧ f 8 t = nI (V 5 t)) ∧ ∀ k, k < V 1 3 → f 14 k = nI (V 7 k) ∧ f 15 k = nI (V 8 k)
def RvX (V : Dat) : Prop := RvOk V ∧ V 1 3 ≤ 6 ∧ (V 1 0 = 0 → V 1 1 = 0 ∧ V 1 2 = 0 ∧ V 1 3 = 0) ∧ (∀ k, k < V 1 3 → 1 ≤ V 7 k ∧ V 7 k ≤ V 1 0 ∧ 1 ≤ V 8 k ∧ V 6 (V 7 k) = V 8 k ∧ ∀ j, j < k → ¬ V 7 j = V 7 k) ∧ ∀ m, m < 100 → (∀ k, k < V 1 3 → ¬ V 7 k = m) → V 6 m = 0
def ofC (c : Nat → Nat → Int32) (O : Dat) : Prop := c 0 5 = nI (O 0 0) ∧ ∀ k, k < O 0 0 → c 17 k = nI (O 1 k) ∧ c 18 k = nI (O 2 k) ∧ c 19 k = nI (O 3 k)
def ofF (f : Nat → Nat → Int32) (O : Dat) : Prop := f 1 7 = nI (O 0 0) ∧ ∀ k, k < O 0 0 → f 16 k = nI (O 1 k) ∧ f 17 k = nI (O 2 k) ∧ f 18 k = nI (O 3 k)
def ofOk (O : Dat) : Prop := O 0 0 ≤ 6 ∧ ∀ k, k < O 0 0 → O 1 k ≤ 50 ∧ O 2 k ≤ 99 ∧ O 3 k ≤ 9
def StC (c : Nat → Nat → Int32) (ol : Nat) (V : Dat) (R : Rf) (na : Nat) (P : Nat → Rf) (O : Dat) (x : Int32) : Prop := rvC c V ∧ ofC c O ∧ c 0 3 = nI ol ∧ c 0 4 = nI na ∧ c 0 9 = x ∧ raC (cR c 7) V R ∧ ∀ a, a < na → raC (cR c (20 + 9 * ((ol + a) % 20))) V (P a)
def StF (f : Nat → Nat → Int32) (V : Dat) (R : Rf) (na : Nat) (P : Nat → Rf) (O : Dat) (x : Int32) : Prop := rvF f V ∧ ofF f O ∧ f 0 0 = nI na ∧ f 1 8 = x ∧ raF (gR f) V R ∧ ∀ a, a < na → raF (gP f a) V (P a)
def StOk (ol : Nat) (V : Dat) (R : Rf) (na : Nat) (P : Nat → Rf) (O : Dat) (x : Int32) : Prop := RvX V ∧ ofOk O ∧ ol < 20 ∧ na ≤ 20 ∧ (V 1 0 = 0 → na = 0) ∧ 0 ≤ x ∧ RaOk V R.1 R.2.1 ∧ ∀ a, a < na → RaOk V (P a).1 (P a).2.1
theorem nI_bv (x : Int32) : nI x.toBitVec.toNat = x := by
  apply Int32.toBitVec_inj.1
  show BitVec.ofNat 32 x.toBitVec.toNat = x.toBitVec
  apply BitVec.eq_of_toNat_eq
  rw [BitVec.toNat_ofNat, Nat.mod_eq_of_lt x.toBitVec.isLt]
theorem SimR_R {a b : Nat → Nat → Int32} {V : Dat} (h : SimR (V 1 0) (V 1 1) (V 1 2) a b) (h6 : V 1 1 ≤ 6) (h8 : V 1 2 ≤ 8) : ∃ R : Rf, raC a V R ∧ raF b V R ∧ RaOk V R.1 R.2.1 := by
  obtain ⟨A, L, S, d1, d2, d3, d4⟩ := SimR_data h h6 h8 rfl rfl rfl
  refine ⟨(fun j k => if j = 5 then (a 5 k).toBitVec.toNat else A j k, L, S), ⟨d1, fun t ht h2 => ?_⟩, ⟨d2, fun t ht => ?_⟩, d3⟩
  · show a 5 t = nI (a 5 t).toBitVec.toNat
    rw [nI_bv]
  · show b 5 t = if A 4 t = 2 then nI (a 5 t).toBitVec.toNat else -2
    rw [nI_bv]
    by_cases c : A 4 t = 2
    · rw [if_pos c, (d4 t ht).1 c]
    · rw [if_neg c, (d4 t ht).2 c]
theorem R_SimR {a b : Nat → Nat → Int32} {V : Dat} {R : Rf} (h1 : raC a V R) (h2 : raF b V R) (h3 : RaOk V R.1 R.2.1) : SimR (V 1 0) (V 1 1) (V 1 2) a b := by
  refine SimR_mk h1.1 h2.1 h3 (fun t ht => ⟨fun c => ?_, fun c => ?_⟩)
  · rw [h1.2 t ht c, h2.2 t ht, if_pos c]
  · rw [h2.2 t ht, if_neg c]
theorem St_SimS {c f : Nat → Nat → Int32} {ol : Nat} {V : Dat} {R : Rf} {na : Nat} {P : Nat → Rf} {O : Dat} {x : Int32} (hc : StC c ol V R na P O x) (hf : StF f V R na P O x) (ok : StOk ol V R na P O x) : SimS c f := by
  obtain ⟨c1, c2, c3, c4, c5, c6, c7⟩ := hc
  obtain ⟨f1, f2, f3, f4, f5, f6⟩ := hf
  obtain ⟨k1, k2, k3, k4, k5, k6, k7, k8⟩ := ok
  obtain ⟨v1, v2, v3, v4, v5⟩ := k1
  refine ⟨V 1 0, V 1 1, V 1 2, V 1 3, na, ol, O 0 0, ⟨v1.1, v1.2.1, v1.2.2.1, v2, k4, k3, k2.1, fun h => ⟨(v3 h).1, (v3 h).2.1, (v3 h).2.2, k5 h⟩⟩, ⟨c1.1.1, f1.1.1, c1.1.2.1, f1.1.2.1, c1.1.2.2.1, f1.1.2.2.1, c1.1.2.2.2, f1.1.2.2.2, c4, f3, c3, c2.1, f2.1, c5.trans f4.symm, by rw [c5]; exact k6⟩, fun o ho => ?_, fun t ht => ?_, fun k hk => ?_, fun m hm h => ?_, fun k hk => ?_, R_SimR c6 f5 k7, fun a ha => R_SimR (c7 a ha) (f6 a ha) (k8 a ha)⟩
  · have h1 := v1.2.2.2.1 o ho
    exact ⟨V 2 o, V 3 o, h1.1, h1.2.1, h1.2.2, (c1.2.1 o ho).1, (f1.2.1 o ho).1, (c1.2.1 o ho).2, (f1.2.1 o ho).2⟩
  · have h1 := v1.2.2.2.2.1 t ht
    exact ⟨V 4 t, V 5 t, h1.1, h1.2, (c1.2.2.1 t ht).1, (f1.2.2.1 t ht).1, (c1.2.2.1 t ht).2, (f1.2.2.1 t ht).2⟩
  · have h1 := v4 k hk
    have h2 := f1.2.2.2 k hk
    have h9 := v1.1
    have h3 := v1.2.2.2.2.2 (V 7 k) (by omega)
    refine ⟨V 7 k, V 8 k, h1.1, h1.2.1, h1.2.2.1, by omega, h2.1, h2.2, by rw [c1.2.2.2 _ (by omega), h1.2.2.2.1], fun j hj e => ?_⟩
    have h4 := v4 j (by omega)
    rw [(f1.2.2.2 j (by omega)).1, nI_eq_iff (by omega) (by omega)] at e
    exact h1.2.2.2.2 j hj e
  · rw [c1.2.2.2 m hm, v5 m hm (fun k hk e => h k hk (by rw [(f1.2.2.2 k hk).1, e]))]
    rfl
  · have h1 := k2.2 k hk
    have h2 := c2.2 k hk
    have h3 := f2.2 k hk
    exact ⟨O 1 k, O 2 k, O 3 k, h1.1, h1.2.1, h1.2.2, h2.1, h3.1, h2.2.1, h3.2.1, h2.2.2, h3.2.2⟩
theorem SimS_St {c f : Nat → Nat → Int32} (h : SimS c f) : ∃ ol V R na P O x, StC c ol V R na P O x ∧ StF f V R na P O x ∧ StOk ol V R na P O x := by
  obtain ⟨nm, no, nt, ra, na, ol, nf, h1, h2, h3, h4, h5, h6, h7, h8, h9⟩ := h
  obtain ⟨V, hV⟩ : ∃ V : Dat, V = fun j k => if j = 1 then (if k = 0 then nm else if k = 1 then no else if k = 2 then nt else ra) else if j = 7 then (f 14 k).toNatClampNeg else if j = 8 then (f 15 k).toNatClampNeg else (c j k).toNatClampNeg := ⟨_, rfl⟩
  have v0 : V 1 0 = nm := by rw [hV]; rfl
  have v1 : V 1 1 = no := by rw [hV]; rfl
  have v2 : V 1 2 = nt := by rw [hV]; rfl
  have v3 : V 1 3 = ra := by rw [hV]; rfl
  have w2 : ∀ k, V 2 k = (c 2 k).toNatClampNeg := fun k => by rw [hV]; rfl
  have w3 : ∀ k, V 3 k = (c 3 k).toNatClampNeg := fun k => by rw [hV]; rfl
  have w4 : ∀ k, V 4 k = (c 4 k).toNatClampNeg := fun k => by rw [hV]; rfl
  have w5 : ∀ k, V 5 k = (c 5 k).toNatClampNeg := fun k => by rw [hV]; rfl
  have w6 : ∀ k, V 6 k = (c 6 k).toNatClampNeg := fun k => by rw [hV]; rfl
  have w7 : ∀ k, V 7 k = (f 14 k).toNatClampNeg := fun k => by rw [hV]; rfl
  have w8 : ∀ k, V 8 k = (f 15 k).toNatClampNeg := fun k => by rw [hV]; rfl
  clear hV
  have e3 : ∀ o, o < no → 1 ≤ V 2 o ∧ V 2 o ≤ nm ∧ V 3 o ≤ 20 ∧ c 2 o = nI (V 2 o) ∧ f 2 o = nI (V 2 o) ∧ c 3 o = nI (V 3 o) ∧ f 3 o = nI (V 3 o) := fun o ho => by
    obtain ⟨la, w, x1, x2, x3, x4, x5, x6, x7⟩ := h3 o ho
    rw [w2, w3, x4, x6, cl_ok (by omega), cl_ok (by omega)]
    exact ⟨x1, x2, x3, rfl, x5, rfl, x7⟩
  have e4 : ∀ t, t < nt → V 4 t ≤ 50 ∧ V 5 t ≤ 9 ∧ c 4 t = nI (V 4 t) ∧ f 6 t = nI (V 4 t) ∧ c 5 t = nI (V 5 t) ∧ f 8 t = nI (V 5 t) := fun t ht => by
    obtain ⟨w, s, x1, x2, x3, x4, x5, x6⟩ := h4 t ht
    rw [w4, w5, x3, x5, cl_ok (by omega), cl_ok (by omega)]
    exact ⟨x1, x2, rfl, x4, rfl, x6⟩
  have e5 : ∀ k, k < ra → 1 ≤ V 7 k ∧ V 7 k ≤ nm ∧ 1 ≤ V 8 k ∧ V 8 k ≤ 9 ∧ f 14 k = nI (V 7 k) ∧ f 15 k = nI (V 8 k) ∧ c 6 (V 7 k) = nI (V 8 k) ∧ ∀ j, j < k → ¬ f 14 j = nI (V 7 k) := fun k hk => by
    obtain ⟨m, fo, x1, x2, x3, x4, x5, x6, x7, x8⟩ := h5 k hk
    rw [w7, w8, x5, x6, cl_ok (by omega), cl_ok (by omega)]
    exact ⟨x1, x2, x3, x4, rfl, rfl, x7, x8⟩
  have e6 : ∀ m, m < 100 → V 6 m ≤ 9 ∧ c 6 m = nI (V 6 m) ∧ ((∀ k, k < ra → ¬ f 14 k = nI m) → V 6 m = 0) := fun m hm => by
    by_cases q : ∃ k, k < ra ∧ f 14 k = nI m
    · obtain ⟨k, hk, e⟩ := q
      obtain ⟨x1, x2, x3, x4, x5, x6, x7, x8⟩ := e5 k hk
      have e' := e
      rw [x5, nI_eq_iff (by omega) (by omega)] at e
      rw [e] at x7
      rw [w6, x7, cl_ok (by omega)]
      exact ⟨x4, rfl, fun h => absurd e' (h k hk)⟩
    · have : c 6 m = 0 := h6 m hm (fun k hk e => q ⟨k, hk, e⟩)
      rw [w6, this]
      exact ⟨by decide, rfl, fun _ => rfl⟩
  have e7 : ∀ k, k < ra → V 6 (V 7 k) = V 8 k := fun k hk => by
    obtain ⟨x1, x2, x3, x4, x5, x6, x7, x8⟩ := e5 k hk
    rw [w6, x7, cl_ok (by omega)]
  obtain ⟨O, hO⟩ : ∃ O : Dat, O = fun j k => if j = 0 then nf else (c (16 + j) k).toNatClampNeg := ⟨_, rfl⟩
  have o0 : O 0 0 = nf := by rw [hO]; rfl
  have oe : ∀ k, k < nf → O 1 k ≤ 50 ∧ O 2 k ≤ 99 ∧ O 3 k ≤ 9 ∧ c 17 k = nI (O 1 k) ∧ f 16 k = nI (O 1 k) ∧ c 18 k = nI (O 2 k) ∧ f 17 k = nI (O 2 k) ∧ c 19 k = nI (O 3 k) ∧ f 18 k = nI (O 3 k) := fun k hk => by
    obtain ⟨w, fl, s, x1, x2, x3, x4, x5, x6, x7, x8, x9⟩ := h7 k hk
    rw [show O 1 k = (c 17 k).toNatClampNeg by rw [hO]; rfl, show O 2 k = (c 18 k).toNatClampNeg by rw [hO]; rfl, show O 3 k = (c 19 k).toNatClampNeg by rw [hO]; rfl, x4, x6, x8, cl_ok (by omega), cl_ok (by omega), cl_ok (by omega)]
    exact ⟨x1, x2, x3, rfl, x5, rfl, x7, rfl, x9⟩
  clear hO
  rw [← v0, ← v1, ← v2] at h8 h9
  obtain ⟨R, r1, r2, r3⟩ := SimR_R h8 (by rw [v1]; exact h1.2.1) (by rw [v2]; exact h1.2.2.1)
  have hp : ∀ a, ∃ Q : Rf, a < na → raC (cR c (20 + 9 * ((ol + a) % 20))) V Q ∧ raF (gP f a) V Q ∧ RaOk V Q.1 Q.2.1 := fun a => by
    by_cases ha : a < na
    · obtain ⟨Q, q⟩ := SimR_R (h9 a ha) (by rw [v1]; exact h1.2.1) (by rw [v2]; exact h1.2.2.1)
      exact ⟨Q, fun _ => q⟩
    · exact ⟨R, fun h => absurd h ha⟩
  refine ⟨ol, V, R, na, fun a => Classical.choose (hp a), O, c 0 9, ⟨⟨⟨by rw [v0]; exact h2.1, by rw [v1]; exact h2.2.2.1, by rw [v2]; exact h2.2.2.2.2.1, by rw [v3]; exact h2.2.2.2.2.2.2.1⟩, fun o ho => ?_, fun t ht => ?_, fun m hm => (e6 m hm).2.1⟩, ⟨by rw [o0]; exact h2.2.2.2.2.2.2.2.2.2.2.2.1, fun k hk => ?_⟩, h2.2.2.2.2.2.2.2.2.2.2.1, h2.2.2.2.2.2.2.2.2.1, rfl, r1, fun a ha => (Classical.choose_spec (hp a) ha).1⟩, ⟨⟨⟨by rw [v0]; exact h2.2.1, by rw [v1]; exact h2.2.2.2.1, by rw [v2]; exact h2.2.2.2.2.2.1, by rw [v3]; exact h2.2.2.2.2.2.2.2.1⟩, fun o ho => ?_, fun t ht => ?_, fun k hk => ?_⟩, ⟨by rw [o0]; exact h2.2.2.2.2.2.2.2.2.2.2.2.2.1, fun k hk => ?_⟩, h2.2.2.2.2.2.2.2.2.2.1, h2.2.2.2.2.2.2.2.2.2.2.2.2.2.1.symm, r2, fun a ha => (Classical.choose_spec (hp a) ha).2.1⟩, ⟨⟨⟨by omega, by omega, by omega, fun o ho => ?_, fun t ht => ?_, fun m hm => (e6 m hm).1⟩, by omega, fun h => ?_, fun k hk => ?_, fun m hm h => ?_⟩, ⟨by omega, fun k hk => ?_⟩, h1.2.2.2.2.2.1, h1.2.2.2.2.1, fun h => (h1.2.2.2.2.2.2.2 (by omega)).2.2.2, h2.2.2.2.2.2.2.2.2.2.2.2.2.2.2, r3, fun a ha => (Classical.choose_spec (hp a) ha).2.2⟩⟩
  · have := e3 o (by omega)
    exact ⟨this.2.2.2.1, this.2.2.2.2.2.1⟩
  · have := e4 t (by omega)
    exact ⟨this.2.2.1, this.2.2.2.2.1⟩
  · have := oe k (by omega)
    exact ⟨this.2.2.2.1, this.2.2.2.2.2.1, this.2.2.2.2.2.2.2.1⟩
  · have := e3 o (by omega)
    exact ⟨this.2.2.2.2.1, this.2.2.2.2.2.2⟩
  · have := e4 t (by omega)
    exact ⟨this.2.2.2.1, this.2.2.2.2.2⟩
  · have := e5 k (by omega)
    exact ⟨this.2.2.2.2.1, this.2.2.2.2.2.1⟩
  · have := oe k (by omega)
    exact ⟨this.2.2.2.2.1, this.2.2.2.2.2.2.1, this.2.2.2.2.2.2.2.2⟩
  · have := e3 o (by omega)
    exact ⟨this.1, by omega, this.2.2.1⟩
  · have := e4 t (by omega)
    exact ⟨this.1, this.2.1⟩
  · have := h1.2.2.2.2.2.2.2 (by omega)
    omega
  · have g := e5 k (by omega)
    refine ⟨g.1, by omega, g.2.2.1, e7 k (by omega), fun j hj e => ?_⟩
    have g2 := e5 j (by omega)
    exact g.2.2.2.2.2.2.2 j hj (by rw [g2.2.2.2.2.1, e])
  · refine (e6 m hm).2.2 (fun k hk e => h k (by omega) ?_)
    have g := e5 k hk
    have h9 := h1.1
    rw [g.2.2.2.2.1, nI_eq_iff (by omega) (by omega)] at e
    exact e
  · have := oe k (by omega)
    exact ⟨this.1, this.2.1, this.2.2.1⟩
/-- what all calls that only ask stand on -/
theorem StC_rv {mm : Mm} {ol : Nat} {V : Dat} {R : Rf} {na : Nat} {P : Nat → Rf} {O : Dat} {x : Int32} (h : StC (cS mm 26) ol V R na P O x) : RvC mm 27 V := ⟨⟨h.1.1.1, h.1.1.2.1, h.1.1.2.2.1⟩, h.1.2.1, h.1.2.2.1, h.1.2.2.2⟩
theorem StC_ra {mm : Mm} {ol : Nat} {V : Dat} {R : Rf} {na : Nat} {P : Nat → Rf} {O : Dat} {x : Int32} (h : StC (cS mm 26) ol V R na P O x) : RaC mm 33 V R.1 R.2.1 R.2.2 := h.2.2.2.2.2.1.1
theorem rvF_RvF {mm : Mm} {V : Dat} (h : rvF (fS mm) V) (ok : RvX V) : RvF mm V := by
  refine ⟨⟨h.1.1, h.1.2.1, h.1.2.2.1⟩, h.2.1, h.2.2.1, V 1 3, ok.2.1, h.1.2.2.2, fun m hm => ?_⟩
  by_cases q : ∃ k, k < V 1 3 ∧ V 7 k = m
  · obtain ⟨k, hk, e⟩ := q
    have g := ok.2.2.2.1 k hk
    have g2 : mm.1 1102 k = nI (V 7 k) ∧ mm.1 1103 k = nI (V 8 k) := h.2.2.2 k hk
    refine Or.inl ⟨k, hk, by rw [g2.1, e], by rw [g2.2, ← g.2.2.2.1, e], fun j hj e2 => ?_⟩
    have g3 : mm.1 1102 j = nI (V 7 j) ∧ mm.1 1103 j = nI (V 8 j) := h.2.2.2 j (by omega)
    have g4 := ok.2.2.2.1 j (by omega)
    have h9 := ok.1.1
    rw [g3.1, nI_eq_iff (by omega) (by omega)] at e2
    exact g.2.2.2.2 j hj (by omega)
  · refine Or.inr ⟨ok.2.2.2.2 m hm (fun k hk e => q ⟨k, hk, e⟩), fun k hk e => ?_⟩
    have g3 : mm.1 1102 k = nI (V 7 k) ∧ mm.1 1103 k = nI (V 8 k) := h.2.2.2 k hk
    have g4 := ok.2.2.2.1 k hk
    have h9 := ok.1.1
    rw [g3.1, nI_eq_iff (by omega) (by omega)] at e
    exact q ⟨k, hk, e⟩
theorem StF_ra {mm : Mm} {V : Dat} {R : Rf} {na : Nat} {P : Nat → Rf} {O : Dat} {x : Int32} (h : StF (fS mm) V R na P O x) : RaF mm V R.1 R.2.1 R.2.2 := h.2.2.2.2.1.1
