/-! PHASE 2: what is kept to be undone -/
theorem nI_mod {a d : Nat} (ha : a < 2 ^ 31) (h0 : 0 < d) (hd : d < 2 ^ 31) : nI a - nI a / nI d * nI d = nI (a % d) := by
  rw [pk_div ha h0 hd, pk_mul, nI_sub' (Nat.div_mul_le_self a d)]
  congr 1
  have := Nat.mod_add_div a d
  rw [Nat.mul_comm d] at this
  omega
theorem cpy0 {f g : Nat → Int32} {n k : Nat} (h : k < n) : va_cpy f g 0 0 n k = f k := by
  unfold va_cpy
  rw [if_pos ⟨Nat.zero_le _, by omega⟩]
  congr 1
  omega
theorem copyR_c {mm : Mm} {r r2 v v2 : Nat} (hd : r + 9 ≤ r2 ∨ r2 + 9 ≤ r) : ∃ m1, f_X4_copyFrom mm r v r2 v2 = some m1 ∧ (∀ i, ¬ (r ≤ i ∧ i < r + 9) → m1.1 i = mm.1 i) ∧ ((m1.1 r 1 = mm.1 r2 1 ∧ m1.1 r 2 = mm.1 r2 2 ∧ m1.1 r 3 = mm.1 r2 3) ∧ (∀ k, k < 6 → m1.1 (r + 1) k = mm.1 (r2 + 1) k) ∧ (∀ k, k < 8 → m1.1 (r + 2) k = mm.1 (r2 + 2) k ∧ m1.1 (r + 3) k = mm.1 (r2 + 3) k ∧ m1.1 (r + 4) k = mm.1 (r2 + 4) k ∧ m1.1 (r + 5) k = mm.1 (r2 + 5) k) ∧ ∀ k, k < 12 → m1.1 (r + 6) k = mm.1 (r2 + 6) k ∧ m1.1 (r + 7) k = mm.1 (r2 + 7) k ∧ m1.1 (r + 8) k = mm.1 (r2 + 8) k) := by
  unfold f_X4_copyFrom
  simp only [vl_s]
  refine ⟨_, rfl, fun i hi => ?_, ⟨?_, ?_, ?_⟩, fun k hk => ?_, fun k hk => ⟨?_, ?_, ?_, ?_⟩, fun k hk => ⟨?_, ?_, ?_⟩⟩
  · simp (disch := omega) only [wA_ne, wI_ne]
  · simp (disch := omega) only [wA_ne, wI_ne, wI_pl, wI_at]
  · simp (disch := omega) only [wA_ne, wI_ne, wI_pl, wI_at]
  · simp (disch := omega) only [wA_ne, wI_ne, wI_pl, wI_at]
  · simp (disch := omega) only [wA_ne, wI_ne, wA_at, cpy0]
  · simp (disch := omega) only [wA_ne, wI_ne, wA_at, cpy0]
  · simp (disch := omega) only [wA_ne, wI_ne, wA_at, cpy0]
  · simp (disch := omega) only [wA_ne, wI_ne, wA_at, cpy0]
  · simp (disch := omega) only [wA_ne, wI_ne, wA_at, cpy0]
  · simp (disch := omega) only [wA_ne, wI_ne, wA_at, cpy0]
  · simp (disch := omega) only [wA_ne, wI_ne, wA_at, cpy0]
  · simp (disch := omega) only [wA_ne, wI_ne, wA_at, cpy0]
/-- rows that are the same as far as they are read -/
def smR (a b : Nat → Nat → Int32) : Prop := (a 0 1 = b 0 1 ∧ a 0 2 = b 0 2 ∧ a 0 3 = b 0 3) ∧ (∀ k, k < 6 → a 1 k = b 1 k) ∧ (∀ k, k < 8 → a 2 k = b 2 k ∧ a 3 k = b 3 k ∧ a 4 k = b 4 k ∧ a 5 k = b 5 k) ∧ ∀ k, k < 12 → a 6 k = b 6 k ∧ a 7 k = b 7 k ∧ a 8 k = b 8 k
theorem smR_A {a b : Nat → Nat → Int32} {V A : Dat} {L : Rop} {S : Int32} (h : smR a b) (ov : RvOk V) (hl : L.length ≤ 12) (g : RaA b V A L S) : RaA a V A L S := by
  have h6 := ov.2.1
  have h8 := ov.2.2.1
  refine ⟨h.1.1.trans g.1, h.1.2.1.trans g.2.1, ⟨h.1.2.2.trans g.2.2.1.1, fun k hk => ?_⟩, fun o ho => (h.2.1 o (by omega)).trans (g.2.2.2.1 o ho), fun t ht => ?_⟩
  · have h1 := h.2.2.2 k (by omega)
    have g1 := g.2.2.1.2 k hk
    exact ⟨h1.1.trans g1.1, h1.2.1.trans g1.2.1, h1.2.2.trans g1.2.2⟩
  · have h1 := h.2.2.1 t (by omega)
    have g1 := g.2.2.2.2 t ht
    exact ⟨h1.1.trans g1.1, h1.2.1.trans g1.2.1, h1.2.2.1.trans g1.2.2⟩
theorem smR_C {a b : Nat → Nat → Int32} {V : Dat} {R : Rf} (h : smR a b) (ov : RvOk V) (oa : RaOk V R.1 R.2.1) (g : raC b V R) : raC a V R := by
  have h8 := ov.2.2.1
  exact ⟨smR_A h ov oa.2.1 g.1, fun t ht h2 => (h.2.2.1 t (by omega)).2.2.2.trans (g.2 t ht h2)⟩
theorem smR_F {a b : Nat → Nat → Int32} {V : Dat} {R : Rf} (h : smR a b) (ov : RvOk V) (oa : RaOk V R.1 R.2.1) (g : raF b V R) : raF a V R := by
  have h8 := ov.2.2.1
  exact ⟨smR_A h ov oa.2.1 g.1, fun t ht => (h.2.2.1 t (by omega)).2.2.2.trans (g.2 t ht)⟩
theorem cR_rw (mm : Mm) (S q : Nat) : cR (cS mm S) q = rwC mm (S + q) := by
  funext j k
  show mm.1 (S + (q + j)) k = mm.1 (S + q + j) k
  rw [Nat.add_assoc]
/-- one more act -/
def remN (na : Nat) : Nat := if na < 20 then na + 1 else 20
def remP (na : Nat) (P : Nat → Rf) (R : Rf) : Nat → Rf := fun a => if na < 20 then (if a = na then R else P a) else if a = 19 then R else P (a + 1)
def remO (ol na : Nat) : Nat := if na < 20 then ol else (ol + 1) % 20
theorem StC_fr {mm m1 : Mm} {ol : Nat} {V : Dat} {R R' : Rf} {na : Nat} {P : Nat → Rf} {O : Dat} {x : Int32} (h : StC (cS mm 26) ol V R na P O x) (hf : ∀ i, 26 ≤ i → i < 226 → ¬ (33 ≤ i ∧ i < 42) → m1.1 i = mm.1 i) (hr : raC (rwC m1 33) V R') : StC (cS m1 26) ol V R' na P O x := by
  obtain ⟨h1, h2, h3, h4, h5, h6, h7⟩ := h
  have g : ∀ j, j < 7 ∨ (16 ≤ j ∧ j < 200) → cS m1 26 j = cS mm 26 j := fun j hj => by
    funext k
    show m1.1 (26 + j) k = mm.1 (26 + j) k
    rw [hf (26 + j) (by omega) (by omega) (by omega)]
  refine ⟨?_, ?_, ?_, ?_, ?_, ?_, fun a ha => ?_⟩
  · unfold rvC
    rw [g 1 (by omega), g 2 (by omega), g 3 (by omega), g 4 (by omega), g 5 (by omega), g 6 (by omega)]
    exact h1
  · unfold ofC
    rw [g 0 (by omega), g 17 (by omega), g 18 (by omega), g 19 (by omega)]
    exact h2
  · rw [g 0 (by omega)]; exact h3
  · rw [g 0 (by omega)]; exact h4
  · rw [g 0 (by omega)]; exact h5
  · rw [cR_rw]; exact hr
  · have hlt : (ol + a) % 20 < 20 := Nat.mod_lt _ (by decide)
    have e : cR (cS m1 26) (20 + 9 * ((ol + a) % 20)) = cR (cS m1 26) (20 + 9 * ((ol + a) % 20)) := rfl
    have := h7 a ha
    rw [cR_rw] at this ⊢
    exact raC_eq (fun j hj => hf _ (by omega) (by omega) (by omega)) this
theorem remember_c {mm : Mm} {ol : Nat} {V : Dat} {R : Rf} {na : Nat} {P : Nat → Rf} {O : Dat} {x : Int32} (h : StC (cS mm 26) ol V R na P O x) (ov : RvOk V) (oa : RaOk V R.1 R.2.1) (ho : ol < 20) (hn : na ≤ 20) : ∃ m1, f_X9_remember mm = some m1 ∧ StC (cS m1 26) (remO ol na) V R (remN na) (remP na P R) O x ∧ ∀ i, ¬ i = 26 → ¬ (46 ≤ i ∧ i < 226) → m1.1 i = mm.1 i := by
  obtain ⟨h1, h2, h3, h4, h5, h6, h7⟩ := id h
  have e3 : mm.1 26 3 = nI ol := h3
  have e4 : mm.1 26 4 = nI na := h4
  have hlt : (ol + na) % 20 < 20 := Nat.mod_lt _ (by decide)
  have ei : nI (ol + na) - nI (ol + na) / (20 : Int32) * (20 : Int32) = nI ((ol + na) % 20) := nI_mod (d := 20) (by omega) (by decide) (by decide)
  obtain ⟨m1, c1, c2, c3⟩ := copyR_c (mm := mm) (r := 26 + 20 + 9 * ((ol + na) % 20)) (r2 := 33) (v := 27) (v2 := 27) (by omega)
  have s1 : smR (rwC m1 (26 + 20 + 9 * ((ol + na) % 20))) (rwC mm 33) := c3
  have hR : raC (rwC m1 (26 + 20 + 9 * ((ol + na) % 20))) V R := smR_C s1 ov oa (by rw [cR_rw] at h6; exact h6)
  have q3 : m1.1 26 3 = nI ol := by rw [c2 26 (by omega)]; exact h3
  have q4 : m1.1 26 4 = nI na := by rw [c2 26 (by omega)]; exact h4
  have e5 : nI (ol + 1) - nI (ol + 1) / (20 : Int32) * (20 : Int32) = nI ((ol + 1) % 20) := nI_mod (d := 20) (by omega) (by decide) (by decide)
  have main : ∀ (m2 : Mm) (ol' na' : Nat) (P' : Nat → Rf), (∀ i, ¬ i = 26 → m2.1 i = m1.1 i) → m2.1 26 3 = nI ol' → m2.1 26 4 = nI na' → (∀ k, ¬ k = 3 → ¬ k = 4 → m2.1 26 k = m1.1 26 k) → (∀ a, a < na' → raC (rwC m2 (26 + (20 + 9 * ((ol' + a) % 20)))) V (P' a)) → StC (cS m2 26) ol' V R na' P' O x := fun m2 ol' na' P' f1 f2 f3 f4 f5 => by
    have g : ∀ j, ¬ j = 0 → j < 20 → cS m2 26 j = cS mm 26 j := fun j j0 hj => by
      funext k
      show m2.1 (26 + j) k = mm.1 (26 + j) k
      rw [f1 (26 + j) (by omega), c2 (26 + j) (by omega)]
    have g0 : ∀ k, ¬ k = 3 → ¬ k = 4 → cS m2 26 0 k = cS mm 26 0 k := fun k k3 k4 => by
      show m2.1 26 k = mm.1 26 k
      rw [f4 k k3 k4, c2 26 (by omega)]
    refine ⟨?_, ?_, f2, f3, ?_, ?_, fun a ha => ?_⟩
    · unfold rvC
      rw [g 1 (by omega) (by omega), g 2 (by omega) (by omega), g 3 (by omega) (by omega), g 4 (by omega) (by omega), g 5 (by omega) (by omega), g 6 (by omega) (by omega)]
      exact h1
    · unfold ofC
      rw [g0 5 (by decide) (by decide), g 17 (by omega) (by omega), g 18 (by omega) (by omega), g 19 (by omega) (by omega)]
      exact h2
    · rw [g0 9 (by decide) (by decide)]; exact h5
    · rw [cR_rw] at h6 ⊢
      exact raC_eq (fun j hj => by rw [f1 _ (by omega), c2 _ (by omega)]) h6
    · rw [cR_rw]; exact f5 a ha
  have hold : ∀ a, a < na → ¬ (ol + a) % 20 = (ol + na) % 20 → raC (rwC m1 (26 + (20 + 9 * ((ol + a) % 20)))) V (P a) := fun a ha hne => by
    have := h7 a ha
    have hl2 : (ol + a) % 20 < 20 := Nat.mod_lt _ (by decide)
    rw [cR_rw] at this
    exact raC_eq (fun j hj => c2 _ (by omega)) this
  by_cases c : na < 20
  · refine ⟨wI m1 26 4 (nI (na + 1)), ?_, ?_, fun i i1 i2 => by rw [wI_ne i1, c2 i (by omega)]⟩
    · unfold f_X9_remember
      rw [e3, e4, sN_ad, ei]
      simp (disch := omega) only [↓reduceIte, decide_true, decide_false, Bool.false_eq_true, eq_self, s10, s01, cont_ok, has_ok, b2i0, b2i1, reduceCtorEq, Nat.or_zero, Nat.add_zero, sN_le, sN_lt, sN_eq, sN_lt0, sN_le0, sN_0le, sN_0lt, sN_eq0, sN_cl, sN_ad, sN_a1, K2, K3, K4, K5, K6, K7, K8, K9, K12, K16, K20, false_or, or_false, if_neg, if_pos, vl_s, bi1_s, bi2_s, nx_or, nx_and, nx_sh]
      rw [c1, bi1_s, q4]
      simp (disch := omega) only [↓reduceIte, decide_true, decide_false, Bool.false_eq_true, eq_self, s10, s01, cont_ok, has_ok, b2i0, b2i1, reduceCtorEq, Nat.or_zero, Nat.add_zero, sN_le, sN_lt, sN_eq, sN_lt0, sN_le0, sN_0le, sN_0lt, sN_eq0, sN_cl, sN_ad, sN_a1, K2, K3, K4, K5, K6, K7, K8, K9, K12, K16, K20, false_or, or_false, if_neg, if_pos, vl_s, bi1_s, bi2_s, nx_or, nx_and, nx_sh]
    · unfold remO remN
      rw [if_pos c, if_pos c]
      refine main _ ol (na + 1) _ (fun i i1 => wI_ne i1) (by rw [wI_pl (by decide)]; exact q3) (wI_at _ _ _ _) (fun k k3 k4 => wI_pl k4) (fun a ha => ?_)
      refine raC_eq (m := m1) (fun j hj => wI_ne (by omega)) ?_
      unfold remP
      rw [if_pos c]
      by_cases d : a = na
      · rw [if_pos d, d]
        rw [Nat.add_assoc] at hR
        exact hR
      · rw [if_neg d]
        exact hold a (by omega) (by omega)
  · have e20 : na = 20 := by omega
    subst e20
    refine ⟨wI m1 26 3 (nI ((ol + 1) % 20)), ?_, ?_, fun i i1 i2 => by rw [wI_ne i1, c2 i (by omega)]⟩
    · unfold f_X9_remember
      rw [e3, e4, sN_ad, ei]
      simp (disch := omega) only [↓reduceIte, decide_true, decide_false, Bool.false_eq_true, eq_self, s10, s01, cont_ok, has_ok, b2i0, b2i1, reduceCtorEq, Nat.or_zero, Nat.add_zero, sN_le, sN_lt, sN_eq, sN_lt0, sN_le0, sN_0le, sN_0lt, sN_eq0, sN_cl, sN_ad, sN_a1, K2, K3, K4, K5, K6, K7, K8, K9, K12, K16, K20, false_or, or_false, if_neg, if_pos, vl_s, bi1_s, bi2_s, nx_or, nx_and, nx_sh]
      rw [c1, bi1_s, q4, q3]
      simp (disch := omega) only [↓reduceIte, decide_true, decide_false, Bool.false_eq_true, eq_self, s10, s01, cont_ok, has_ok, b2i0, b2i1, reduceCtorEq, Nat.or_zero, Nat.add_zero, sN_le, sN_lt, sN_eq, sN_lt0, sN_le0, sN_0le, sN_0lt, sN_eq0, sN_cl, sN_ad, sN_a1, K2, K3, K4, K5, K6, K7, K8, K9, K12, K16, K20, false_or, or_false, if_neg, if_pos, vl_s, bi1_s, bi2_s, nx_or, nx_and, nx_sh]
      rw [show nI (ol + 1) - nI (ol + 1) / nI 20 * nI 20 = nI ((ol + 1) % 20) from e5]
    · unfold remO remN
      rw [if_neg c, if_neg c]
      refine main _ ((ol + 1) % 20) 20 _ (fun i i1 => wI_ne i1) (wI_at _ _ _ _) (by rw [wI_pl (by decide)]; exact q4) (fun k k3 k4 => wI_pl k3) (fun a ha => ?_)
      refine raC_eq (m := m1) (fun j hj => wI_ne (by omega)) ?_
      unfold remP
      rw [if_neg c]
      by_cases d : a = 19
      · rw [if_pos d, show ((ol + 1) % 20 + a) % 20 = (ol + 20) % 20 by omega]
        rw [Nat.add_assoc] at hR
        exact hR
      · rw [if_neg d]
        have := hold (a + 1) (by omega) (by omega)
        rw [show ((ol + 1) % 20 + a) % 20 = (ol + (a + 1)) % 20 by omega]
        exact this
/-! the reference's -/
/-- a stretch of cell c from p on has been laid, the place's counter is at 1088 q -/
def Sto (c q : Nat) (m m1 : Mm) (p n : Nat) (v : Nat → Int32) : Prop := (∀ k, k < n → m1.1 c (p + k) = v k) ∧ (∀ j, j < p ∨ p + n ≤ j → m1.1 c j = m.1 c j) ∧ (∀ i, ¬ i = 1088 → ¬ i = c → m1.1 i = m.1 i) ∧ (∀ k, ¬ k = q → m1.1 1088 k = m.1 1088 k) ∧ m1.1 1088 q = nI (p + n)
def apv (n : Nat) (v w : Nat → Int32) : Nat → Int32 := fun k => if k < n then v k else w (k - n)
theorem Sto.tr {c q : Nat} {m m1 m2 : Mm} {p n n2 : Nat} {v w : Nat → Int32} (h : Sto c q m m1 p n v) (g : Sto c q m1 m2 (p + n) n2 w) : Sto c q m m2 p (n + n2) (apv n v w) := by
  refine ⟨fun k hk => ?_, fun j hj => ?_, fun i i1 i2 => (g.2.2.1 i i1 i2).trans (h.2.2.1 i i1 i2), fun k hk => (g.2.2.2.1 k hk).trans (h.2.2.2.1 k hk), by rw [g.2.2.2.2, Nat.add_assoc]⟩
  · unfold apv
    by_cases c1 : k < n
    · rw [if_pos c1, g.2.1 (p + k) (by omega), h.1 k c1]
    · rw [if_neg c1, ← g.1 (k - n) (by omega), show p + n + (k - n) = p + k by omega]
  · rw [g.2.1 j (by omega), h.2.1 j (by omega)]
theorem moves0_f {m : Mm} {p : Nat} (h56 : m.1 1088 56 = nI p) (h57 : m.1 1088 57 = 0) (hp : p < 1540) (x : Int32) : ∃ m1, f_X12_moves m x = some (x, m1) ∧ Sto 1129 56 m m1 p 1 (fun _ => x) := by
  refine ⟨wI (wI m 1129 p x) 1088 56 (nI (p + 1)), ?_, fun k hk => ?_, fun j hj => ?_, fun i i1 i2 => ?_, fun k hk => ?_, ?_⟩
  · unfold f_X12_moves f_X12_moves_j20
    rw [if_pos h57, h56, if_neg (gd_ok (by omega) (by decide)), cl_ok (by omega)]
    simp only [vl_s]
    rw [wI_ne (by decide), h56, sN_a1]
  · rw [wI_ne (by decide), show p + k = p by omega, wI_at]
  · rw [wI_ne (by decide), wI_pl (by omega)]
  · rw [wI_ne i1, wI_ne i2]
  · rw [wI_pl hk, wI_ne (by decide)]
  · rw [wI_at]
theorem movesRow0_f {m : Mm} {a n p : Nat} (ha : ¬ a = 1088) (ha2 : ¬ a = 1129) (hn : n ≤ 1540) (h56 : m.1 1088 56 = nI p) (h57 : m.1 1088 57 = 0) (hp : p + n ≤ 1540) : ∃ m1, f_X12_movesRow m a n = some m1 ∧ Sto 1129 56 m m1 p n (m.1 a) := by
  have hx : ∃ w, lp (f_X12_movesRow_s2 a n) ((0 : Int32), m) = some w ∧ Sto 1129 56 m w p n (m.1 a) := by
    refine lp_inv (fun k x => ∃ w, x = (nI k, w) ∧ Sto 1129 56 m w p k (m.1 a)) _ n (fun k x hk hx => ?_) (fun x hx => ?_) 0 _ (Nat.zero_le _) ⟨m, rfl, fun k hk => absurd hk (by omega), fun _ _ => rfl, fun _ _ _ => rfl, fun _ _ => rfl, h56⟩
    · obtain ⟨w, rfl, s⟩ := hx
      obtain ⟨w2, e2, s2⟩ := moves0_f s.2.2.2.2 (by rw [s.2.2.2.1 57 (by decide)]; exact h57) (by omega) (w.1 a k)
      have ew : w.1 a = m.1 a := s.2.2.1 a ha ha2
      have ew2 : w2.1 a = w.1 a := s2.2.2.1 a ha ha2
      have e3 : wI w2 a k (w.1 a k) = w2 := by
        refine Prod.ext ?_ rfl
        funext i j
        rw [wI_get]
        by_cases c : i = a ∧ j = k
        · rw [if_pos c, c.1, c.2, ew2]
        · rw [if_neg c]
      refine ⟨(nI (k + 1), w2), ?_, w2, rfl, ?_⟩
      · unfold f_X12_movesRow_s2
        show (if nI n ≤ nI k then _ else _) = _
        simp (disch := omega) only [↓reduceIte, decide_true, decide_false, Bool.false_eq_true, eq_self, s10, s01, cont_ok, has_ok, b2i0, b2i1, reduceCtorEq, Nat.or_zero, Nat.add_zero, sN_le, sN_lt, sN_eq, sN_lt0, sN_le0, sN_0le, sN_0lt, sN_eq0, sN_cl, sN_ad, sN_a1, K2, K3, K4, K5, K6, K7, K8, K9, K12, K16, K20, false_or, or_false, if_neg, if_pos, vl_s, bi1_s, bi2_s, nx_or, nx_and, nx_sh]
        rw [e2, bi2_s, e3]
      · have s3 := s.tr s2
        refine ⟨fun j hj => ?_, s3.2.1, s3.2.2.1, s3.2.2.2.1, s3.2.2.2.2⟩
        rw [s3.1 j hj]
        unfold apv
        by_cases c : j < k
        · rw [if_pos c]
        · rw [if_neg c, show j = k by omega, ew]
    · obtain ⟨w, rfl, s⟩ := hx
      refine ⟨w, ?_, s⟩
      unfold f_X12_movesRow_s2
      show (if nI n ≤ nI n then _ else _) = _
      simp (disch := omega) only [↓reduceIte, decide_true, decide_false, Bool.false_eq_true, eq_self, s10, s01, cont_ok, has_ok, b2i0, b2i1, reduceCtorEq, Nat.or_zero, Nat.add_zero, sN_le, sN_lt, sN_eq, sN_lt0, sN_le0, sN_0le, sN_0lt, sN_eq0, sN_cl, sN_ad, sN_a1, K2, K3, K4, K5, K6, K7, K8, K9, K12, K16, K20, false_or, or_false, if_neg, if_pos, vl_s, bi1_s, bi2_s, nx_or, nx_and, nx_sh]
  obtain ⟨w, e, s⟩ := hx
  exact ⟨w, by unfold f_X12_movesRow; rw [e]; rfl, s⟩
/-- the raft as it is goes into the past at k -/
theorem movesAll0_f {mm : Mm} {k : Nat} (hk : k < 20) : ∃ m1, f_X12_movesAll mm (nI k) 0 = some m1 ∧ smR (gP (fS m1) k) (gR (fS mm)) ∧ (∀ j, j < 77 * k ∨ 77 * k + 77 ≤ j → m1.1 1129 j = mm.1 1129 j) ∧ (∀ i, ¬ i = 1088 → ¬ i = 1129 → m1.1 i = mm.1 i) ∧ ∀ j, ¬ j = 56 → ¬ j = 57 → m1.1 1088 j = mm.1 1088 j := by
  obtain ⟨m0', hm0⟩ : ∃ m0', m0' = wI (wI mm 1088 56 (nI (77 * k))) 1088 57 0 := ⟨_, rfl⟩
  have z56 : m0'.1 1088 56 = nI (77 * k) := by rw [hm0, wI_pl (by decide), wI_at]
  have z57 : m0'.1 1088 57 = 0 := by rw [hm0, wI_at]
  have zi : ∀ i, ¬ i = 1088 → m0'.1 i = mm.1 i := fun i hi => by rw [hm0, wI_ne hi, wI_ne hi]
  have self : ∀ (w : Mm) (j : Nat) (x : Int32), w.1 1089 j = x → wI w 1089 j x = w := fun w j x h => by
    refine Prod.ext ?_ rfl
    funext i l
    rw [wI_get]
    by_cases c : i = 1089 ∧ l = j
    · rw [if_pos c, c.1, c.2, h]
    · rw [if_neg c]
  obtain ⟨m1, e1, s1⟩ := moves0_f z56 z57 (by omega) (m0'.1 1089 6)
  have x1 : m1.1 1089 = m0'.1 1089 := s1.2.2.1 1089 (by decide) (by decide)
  obtain ⟨m2, e2, t2⟩ := moves0_f s1.2.2.2.2 (by rw [s1.2.2.2.1 57 (by decide)]; exact z57) (by omega) (m1.1 1089 1)
  have s2 := s1.tr t2
  have x2 : m2.1 1089 = m0'.1 1089 := s2.2.2.1 1089 (by decide) (by decide)
  obtain ⟨m3, e3, t3⟩ := moves0_f t2.2.2.2.2 (by rw [s2.2.2.2.1 57 (by decide)]; exact z57) (by omega) (m2.1 1089 4)
  have s3 := s2.tr t3
  have x3 : m3.1 1089 = m0'.1 1089 := s3.2.2.1 1089 (by decide) (by decide)
  obtain ⟨m4, e4, t4⟩ := movesRow0_f (a := 1092) (n := 6) (by decide) (by decide) (by decide) s3.2.2.2.2 (by rw [s3.2.2.2.1 57 (by decide)]; exact z57) (by omega)
  have s4 := s3.tr t4
  obtain ⟨m5, e5, t5⟩ := movesRow0_f (a := 1093) (n := 8) (by decide) (by decide) (by decide) s4.2.2.2.2 (by rw [s4.2.2.2.1 57 (by decide)]; exact z57) (by omega)
  have s5 := s4.tr t5
  obtain ⟨m6, e6, t6⟩ := movesRow0_f (a := 1095) (n := 8) (by decide) (by decide) (by decide) s5.2.2.2.2 (by rw [s5.2.2.2.1 57 (by decide)]; exact z57) (by omega)
  have s6 := s5.tr t6
  obtain ⟨m7, e7, t7⟩ := movesRow0_f (a := 1097) (n := 8) (by decide) (by decide) (by decide) s6.2.2.2.2 (by rw [s6.2.2.2.1 57 (by decide)]; exact z57) (by omega)
  have s7 := s6.tr t7
  obtain ⟨m8, e8, t8⟩ := movesRow0_f (a := 1098) (n := 8) (by decide) (by decide) (by decide) s7.2.2.2.2 (by rw [s7.2.2.2.1 57 (by decide)]; exact z57) (by omega)
  have s8 := s7.tr t8
  obtain ⟨m9, e9, t9⟩ := movesRow0_f (a := 1099) (n := 12) (by decide) (by decide) (by decide) s8.2.2.2.2 (by rw [s8.2.2.2.1 57 (by decide)]; exact z57) (by omega)
  have s9 := s8.tr t9
  obtain ⟨m10, e10, t10⟩ := movesRow0_f (a := 1100) (n := 12) (by decide) (by decide) (by decide) s9.2.2.2.2 (by rw [s9.2.2.2.1 57 (by decide)]; exact z57) (by omega)
  have s10 := s9.tr t10
  obtain ⟨m11, e11, t11⟩ := movesRow0_f (a := 1101) (n := 12) (by decide) (by decide) (by decide) s10.2.2.2.2 (by rw [s10.2.2.2.1 57 (by decide)]; exact z57) (by omega)
  have s11 := s10.tr t11
  have rowq : ∀ {w : Mm} {p n : Nat} {v : Nat → Int32} (a : Nat), ¬ a = 1088 → ¬ a = 1129 → Sto 1129 56 m0' w p n v → w.1 a = mm.1 a := fun a a1 a2 s => by rw [s.2.2.1 a a1 a2, zi a a1]
  refine ⟨m11, ?_, ⟨⟨?_, ?_, ?_⟩, fun j hj => ?_, fun j hj => ⟨?_, ?_, ?_, ?_⟩, fun j hj => ⟨?_, ?_, ?_⟩⟩, fun j hj => ?_, fun i i1 i2 => ?_, fun j j1 j2 => ?_⟩
  · unfold f_X12_movesAll
    rw [show (77 : Int32) * nI k = nI (77 * k) from pk_mul 77 k, vl_s, if_neg (by decide), vl_s, ← hm0, e1, bi2_s, vl_s, self m1 6 _ (by rw [x1]), e2, bi2_s, vl_s, self m2 1 _ (by rw [x2, x1]), e3, bi2_s, vl_s, self m3 4 _ (by rw [x3, x2]), e4, bi1_s, e5, bi1_s, e6, bi1_s, e7, bi1_s, e8, bi1_s, e9, bi1_s, e10, bi1_s, e11, bi1_s]
  · show m11.1 1129 (77 * k + 0) = mm.1 1089 6
    rw [s11.1 0 (by decide), ← zi 1089 (by decide)]
    rfl
  · show m11.1 1129 (77 * k + 1) = mm.1 1089 1
    rw [s11.1 1 (by decide), ← zi 1089 (by decide), ← x1]
    rfl
  · show m11.1 1129 (77 * k + 2) = mm.1 1089 4
    rw [s11.1 2 (by decide), ← zi 1089 (by decide), ← x2]
    rfl
  · show m11.1 1129 (77 * k + 3 + j) = mm.1 1092 j
    rw [Nat.add_assoc, t11.2.1 _ (by omega), t10.2.1 _ (by omega), t9.2.1 _ (by omega), t8.2.1 _ (by omega), t7.2.1 _ (by omega), t6.2.1 _ (by omega), t5.2.1 _ (by omega), show 77 * k + (3 + j) = 77 * k + (1 + 1 + 1) + j by omega, t4.1 j hj, rowq 1092 (by decide) (by decide) s3]
  · show m11.1 1129 (77 * k + 9 + j) = mm.1 1093 j
    rw [Nat.add_assoc, t11.2.1 _ (by omega), t10.2.1 _ (by omega), t9.2.1 _ (by omega), t8.2.1 _ (by omega), t7.2.1 _ (by omega), t6.2.1 _ (by omega), show 77 * k + (9 + j) = 77 * k + (1 + 1 + 1 + 6) + j by omega, t5.1 j hj, rowq 1093 (by decide) (by decide) s4]
  · show m11.1 1129 (77 * k + 17 + j) = mm.1 1095 j
    rw [Nat.add_assoc, t11.2.1 _ (by omega), t10.2.1 _ (by omega), t9.2.1 _ (by omega), t8.2.1 _ (by omega), t7.2.1 _ (by omega), show 77 * k + (17 + j) = 77 * k + (1 + 1 + 1 + 6 + 8) + j by omega, t6.1 j hj, rowq 1095 (by decide) (by decide) s5]
  · show m11.1 1129 (77 * k + 25 + j) = mm.1 1097 j
    rw [Nat.add_assoc, t11.2.1 _ (by omega), t10.2.1 _ (by omega), t9.2.1 _ (by omega), t8.2.1 _ (by omega), show 77 * k + (25 + j) = 77 * k + (1 + 1 + 1 + 6 + 8 + 8) + j by omega, t7.1 j hj, rowq 1097 (by decide) (by decide) s6]
  · show m11.1 1129 (77 * k + 33 + j) = mm.1 1098 j
    rw [Nat.add_assoc, t11.2.1 _ (by omega), t10.2.1 _ (by omega), t9.2.1 _ (by omega), show 77 * k + (33 + j) = 77 * k + (1 + 1 + 1 + 6 + 8 + 8 + 8) + j by omega, t8.1 j hj, rowq 1098 (by decide) (by decide) s7]
  · show m11.1 1129 (77 * k + 41 + j) = mm.1 1099 j
    rw [Nat.add_assoc, t11.2.1 _ (by omega), t10.2.1 _ (by omega), show 77 * k + (41 + j) = 77 * k + (1 + 1 + 1 + 6 + 8 + 8 + 8 + 8) + j by omega, t9.1 j hj, rowq 1099 (by decide) (by decide) s8]
  · show m11.1 1129 (77 * k + 53 + j) = mm.1 1100 j
    rw [Nat.add_assoc, t11.2.1 _ (by omega), show 77 * k + (53 + j) = 77 * k + (1 + 1 + 1 + 6 + 8 + 8 + 8 + 8 + 12) + j by omega, t10.1 j hj, rowq 1100 (by decide) (by decide) s9]
  · show m11.1 1129 (77 * k + 65 + j) = mm.1 1101 j
    rw [Nat.add_assoc, show 77 * k + (65 + j) = 77 * k + (1 + 1 + 1 + 6 + 8 + 8 + 8 + 8 + 12 + 12) + j by omega, t11.1 j hj, rowq 1101 (by decide) (by decide) s10]
  · rw [s11.2.1 j (by omega), zi 1129 (by decide)]
  · rw [s11.2.2.1 i i1 i2, zi i i1]
  · rw [s11.2.2.2.1 j j1, hm0, wI_pl j2, wI_pl j1]
