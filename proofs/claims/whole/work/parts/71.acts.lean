/-! PHASE 2: undo -/
/-- a row has been laid from the stretch of cell c from p on -/
def Loa (c q : Nat) (m m1 : Mm) (p n a : Nat) : Prop := (∀ k, k < n → m1.1 a k = m.1 c (p + k)) ∧ (∀ i, ¬ i = 1088 → ¬ i = a → m1.1 i = m.1 i) ∧ (∀ k, ¬ k = q → m1.1 1088 k = m.1 1088 k) ∧ m1.1 1088 q = nI (p + n)
theorem wI_same {w : Mm} {a k : Nat} {x : Int32} (h : w.1 a k = x) : wI w a k x = w := by
  refine Prod.ext ?_ rfl
  funext i j
  rw [wI_get]
  by_cases c : i = a ∧ j = k
  · rw [if_pos c, c.1, c.2, h]
  · rw [if_neg c]
theorem moves1_f {m : Mm} {p : Nat} (h56 : m.1 1088 56 = nI p) (h57 : m.1 1088 57 = 1) (hp : p < 1540) (x : Int32) : f_X12_moves m x = some (m.1 1129 p, wI m 1088 56 (nI (p + 1))) := by
  unfold f_X12_moves f_X12_moves_j20
  rw [if_neg (by rw [h57]; decide), h56]
  simp (disch := omega) only [↓reduceIte, decide_true, decide_false, Bool.false_eq_true, eq_self, s10, s01, cont_ok, has_ok, b2i0, b2i1, reduceCtorEq, Nat.or_zero, Nat.add_zero, sN_le, sN_lt, sN_eq, sN_lt0, sN_le0, sN_0le, sN_0lt, sN_eq0, sN_cl, sN_ad, sN_a1, K2, K3, K4, K5, K6, K7, K8, K9, K12, K16, K20, false_or, or_false, if_neg, if_pos, vl_s, bi1_s, bi2_s, nx_or, nx_and, nx_sh, wI_same]
  rw [wI_same rfl, h56, sN_a1]
theorem movesRow1_f {m : Mm} {a n p : Nat} (ha : ¬ a = 1088) (ha2 : ¬ a = 1129) (hn : n ≤ 1540) (h56 : m.1 1088 56 = nI p) (h57 : m.1 1088 57 = 1) (hp : p + n ≤ 1540) : ∃ m1, f_X12_movesRow m a n = some m1 ∧ Loa 1129 56 m m1 p n a := by
  have hx : ∃ w, lp (f_X12_movesRow_s2 a n) ((0 : Int32), m) = some w ∧ Loa 1129 56 m w p n a := by
    refine lp_inv (fun k x => ∃ w, x = (nI k, w) ∧ Loa 1129 56 m w p k a) _ n (fun k x hk hx => ?_) (fun x hx => ?_) 0 _ (Nat.zero_le _) ⟨m, rfl, fun k hk => absurd hk (by omega), fun _ _ _ => rfl, fun _ _ => rfl, h56⟩
    · obtain ⟨w, rfl, s1, s2, s3, s4⟩ := hx
      refine ⟨(nI (k + 1), wI (wI w 1088 56 (nI (p + k + 1))) a k (w.1 1129 (p + k))), ?_, _, rfl, fun j hj => ?_, fun i i1 i2 => by rw [wI_ne i2, wI_ne i1, s2 i i1 i2], fun j hj => by rw [wI_ne (fun z => ha z.symm), wI_pl hj, s3 j hj], by rw [wI_ne (fun z => ha z.symm), wI_at]; rfl⟩
      · unfold f_X12_movesRow_s2
        show (if nI n ≤ nI k then _ else _) = _
        simp (disch := omega) only [↓reduceIte, decide_true, decide_false, Bool.false_eq_true, eq_self, s10, s01, cont_ok, has_ok, b2i0, b2i1, reduceCtorEq, Nat.or_zero, Nat.add_zero, sN_le, sN_lt, sN_eq, sN_lt0, sN_le0, sN_0le, sN_0lt, sN_eq0, sN_cl, sN_ad, sN_a1, K2, K3, K4, K5, K6, K7, K8, K9, K12, K16, K20, false_or, or_false, if_neg, if_pos, vl_s, bi1_s, bi2_s, nx_or, nx_and, nx_sh]
        rw [moves1_f s4 (by rw [s3 57 (by decide)]; exact h57) (by omega), bi2_s]
      · by_cases c : j = k
        · rw [c, wI_at, s2 1129 (by decide) (fun z => ha2 z.symm)]
        · rw [wI_pl c, wI_ne ha, s1 j (by omega)]
    · obtain ⟨w, rfl, s⟩ := hx
      refine ⟨w, ?_, s⟩
      unfold f_X12_movesRow_s2
      show (if nI n ≤ nI n then _ else _) = _
      simp (disch := omega) only [↓reduceIte, decide_true, decide_false, Bool.false_eq_true, eq_self, s10, s01, cont_ok, has_ok, b2i0, b2i1, reduceCtorEq, Nat.or_zero, Nat.add_zero, sN_le, sN_lt, sN_eq, sN_lt0, sN_le0, sN_0le, sN_0lt, sN_eq0, sN_cl, sN_ad, sN_a1, K2, K3, K4, K5, K6, K7, K8, K9, K12, K16, K20, false_or, or_false, if_neg, if_pos, vl_s, bi1_s, bi2_s, nx_or, nx_and, nx_sh]
  obtain ⟨w, e, s⟩ := hx
  exact ⟨w, by unfold f_X12_movesRow; rw [e]; rfl, s⟩
theorem movesAll1_f {mm : Mm} {k : Nat} (hk : k < 20) : ∃ m1, f_X12_movesAll mm (nI k) 1 = some m1 ∧ smR (gR (fS m1)) (gP (fS mm) k) ∧ (∀ i, ¬ i = 1088 → ¬ i = 1089 → ¬ i = 1092 → ¬ i = 1093 → ¬ i = 1095 → ¬ i = 1097 → ¬ i = 1098 → ¬ i = 1099 → ¬ i = 1100 → ¬ i = 1101 → m1.1 i = mm.1 i) ∧ (∀ j, ¬ j = 56 → ¬ j = 57 → m1.1 1088 j = mm.1 1088 j) ∧ ∀ j, ¬ j = 1 → ¬ j = 4 → ¬ j = 6 → m1.1 1089 j = mm.1 1089 j := by
  obtain ⟨m0', hm0⟩ : ∃ m0', m0' = wI (wI mm 1088 56 (nI (77 * k))) 1088 57 1 := ⟨_, rfl⟩
  have z56 : m0'.1 1088 56 = nI (77 * k) := by rw [hm0, wI_pl (by decide), wI_at]
  have z57 : m0'.1 1088 57 = 1 := by rw [hm0, wI_at]
  have zi : ∀ i, ¬ i = 1088 → m0'.1 i = mm.1 i := fun i hi => by rw [hm0, wI_ne hi, wI_ne hi]
  obtain ⟨m3, hm3⟩ : ∃ m3, m3 = wI (wI (wI (wI (wI (wI m0' 1088 56 (nI (77 * k + 1))) 1089 6 (mm.1 1129 (77 * k))) 1088 56 (nI (77 * k + 1 + 1))) 1089 1 (mm.1 1129 (77 * k + 1))) 1088 56 (nI (77 * k + 1 + 1 + 1))) 1089 4 (mm.1 1129 (77 * k + 1 + 1)) := ⟨_, rfl⟩
  have y56 : m3.1 1088 56 = nI (77 * k + 3) := by rw [hm3, wI_ne (by decide), wI_at]
  have y57 : m3.1 1088 57 = 1 := by rw [hm3]; simp (disch := decide) only [wI_ne, wI_pl]; exact z57
  have yi : ∀ i, ¬ i = 1088 → ¬ i = 1089 → m3.1 i = mm.1 i := fun i i1 i2 => by rw [hm3, wI_ne i2, wI_ne i1, wI_ne i2, wI_ne i1, wI_ne i2, wI_ne i1, zi i i1]
  obtain ⟨m4, e4, t4⟩ := movesRow1_f (a := 1092) (n := 6) (by decide) (by decide) (by decide) y56 y57 (by omega)
  obtain ⟨m5, e5, t5⟩ := movesRow1_f (a := 1093) (n := 8) (by decide) (by decide) (by decide) t4.2.2.2 (by rw [t4.2.2.1 57 (by decide)]; exact y57) (by omega)
  have u5 : m5.1 1088 57 = 1 := by rw [t5.2.2.1 57 (by decide), t4.2.2.1 57 (by decide)]; exact y57
  obtain ⟨m6, e6, t6⟩ := movesRow1_f (a := 1095) (n := 8) (by decide) (by decide) (by decide) t5.2.2.2 u5 (by omega)
  have u6 : m6.1 1088 57 = 1 := by rw [t6.2.2.1 57 (by decide)]; exact u5
  obtain ⟨m7, e7, t7⟩ := movesRow1_f (a := 1097) (n := 8) (by decide) (by decide) (by decide) t6.2.2.2 u6 (by omega)
  have u7 : m7.1 1088 57 = 1 := by rw [t7.2.2.1 57 (by decide)]; exact u6
  obtain ⟨m8, e8, t8⟩ := movesRow1_f (a := 1098) (n := 8) (by decide) (by decide) (by decide) t7.2.2.2 u7 (by omega)
  have u8 : m8.1 1088 57 = 1 := by rw [t8.2.2.1 57 (by decide)]; exact u7
  obtain ⟨m9, e9, t9⟩ := movesRow1_f (a := 1099) (n := 12) (by decide) (by decide) (by decide) t8.2.2.2 u8 (by omega)
  have u9 : m9.1 1088 57 = 1 := by rw [t9.2.2.1 57 (by decide)]; exact u8
  obtain ⟨mA, eA, tA⟩ := movesRow1_f (a := 1100) (n := 12) (by decide) (by decide) (by decide) t9.2.2.2 u9 (by omega)
  have uA : mA.1 1088 57 = 1 := by rw [tA.2.2.1 57 (by decide)]; exact u9
  obtain ⟨mB, eB, tB⟩ := movesRow1_f (a := 1101) (n := 12) (by decide) (by decide) (by decide) tA.2.2.2 uA (by omega)
  have p4 : m4.1 1129 = mm.1 1129 := by rw [t4.2.1 1129 (by decide) (by decide), yi 1129 (by decide) (by decide)]
  have p5 : m5.1 1129 = mm.1 1129 := by rw [t5.2.1 1129 (by decide) (by decide), p4]
  have p6 : m6.1 1129 = mm.1 1129 := by rw [t6.2.1 1129 (by decide) (by decide), p5]
  have p7 : m7.1 1129 = mm.1 1129 := by rw [t7.2.1 1129 (by decide) (by decide), p6]
  have p8 : m8.1 1129 = mm.1 1129 := by rw [t8.2.1 1129 (by decide) (by decide), p7]
  have p9 : m9.1 1129 = mm.1 1129 := by rw [t9.2.1 1129 (by decide) (by decide), p8]
  have pA : mA.1 1129 = mm.1 1129 := by rw [tA.2.1 1129 (by decide) (by decide), p9]
  have all : ∀ i, ¬ i = 1088 → ¬ i = 1092 → ¬ i = 1093 → ¬ i = 1095 → ¬ i = 1097 → ¬ i = 1098 → ¬ i = 1099 → ¬ i = 1100 → ¬ i = 1101 → mB.1 i = m3.1 i := fun i i1 i2 i3 i4 i5 i6 i7 i8 i9 => by
    rw [tB.2.1 i i1 i9, tA.2.1 i i1 i8, t9.2.1 i i1 i7, t8.2.1 i i1 i6, t7.2.1 i i1 i5, t6.2.1 i i1 i4, t5.2.1 i i1 i3, t4.2.1 i i1 i2]
  have a89 : mB.1 1089 = m3.1 1089 := all 1089 (by decide) (by decide) (by decide) (by decide) (by decide) (by decide) (by decide) (by decide) (by decide)
  refine ⟨mB, ?_, ⟨⟨?_, ?_, ?_⟩, fun j hj => ?_, fun j hj => ⟨?_, ?_, ?_, ?_⟩, fun j hj => ⟨?_, ?_, ?_⟩⟩, fun i i1 i2 i3 i4 i5 i6 i7 i8 i9 i10 => ?_, fun j j1 j2 => ?_, fun j j1 j2 j3 => ?_⟩
  · unfold f_X12_movesAll
    have z1 : m0'.1 1129 = mm.1 1129 := zi 1129 (by decide)
    rw [show (77 : Int32) * nI k = nI (77 * k) from pk_mul 77 k, vl_s, if_neg (by decide), vl_s, ← hm0, moves1_f z56 z57 (by omega), bi2_s, vl_s, moves1_f (p := 77 * k + 1) (by rw [wI_ne (by decide), wI_at]) (by rw [wI_ne (by decide), wI_pl (by decide)]; exact z57) (by omega), bi2_s, vl_s, moves1_f (p := 77 * k + 1 + 1) (by rw [wI_ne (by decide), wI_at]) (by simp (disch := decide) only [wI_ne, wI_pl]; exact z57) (by omega), bi2_s, vl_s]
    simp (disch := decide) only [wI_ne (show 1129 ≠ 1088 by decide), wI_ne (show 1129 ≠ 1089 by decide)]
    rw [z1, ← hm3, e4, bi1_s, e5, bi1_s, e6, bi1_s, e7, bi1_s, e8, bi1_s, e9, bi1_s, eA, bi1_s, eB, bi1_s]
  · show mB.1 1089 6 = mm.1 1129 (77 * k + 0)
    rw [a89, hm3]
    simp (disch := decide) only [wI_ne (show 1089 ≠ 1088 by decide), wI_pl, wI_at]
    rfl
  · show mB.1 1089 1 = mm.1 1129 (77 * k + 1)
    rw [a89, hm3]
    simp (disch := decide) only [wI_ne (show 1089 ≠ 1088 by decide), wI_pl, wI_at]
  · show mB.1 1089 4 = mm.1 1129 (77 * k + 2)
    rw [a89, hm3, wI_at]
  · show mB.1 1092 j = mm.1 1129 (77 * k + 3 + j)
    rw [tB.2.1 _ (by decide) (by decide), tA.2.1 _ (by decide) (by decide), t9.2.1 _ (by decide) (by decide), t8.2.1 _ (by decide) (by decide), t7.2.1 _ (by decide) (by decide), t6.2.1 _ (by decide) (by decide), t5.2.1 _ (by decide) (by decide), t4.1 j hj, yi 1129 (by decide) (by decide)]
  · show mB.1 1093 j = mm.1 1129 (77 * k + 9 + j)
    rw [tB.2.1 _ (by decide) (by decide), tA.2.1 _ (by decide) (by decide), t9.2.1 _ (by decide) (by decide), t8.2.1 _ (by decide) (by decide), t7.2.1 _ (by decide) (by decide), t6.2.1 _ (by decide) (by decide), t5.1 j hj, p4]
  · show mB.1 1095 j = mm.1 1129 (77 * k + 17 + j)
    rw [tB.2.1 _ (by decide) (by decide), tA.2.1 _ (by decide) (by decide), t9.2.1 _ (by decide) (by decide), t8.2.1 _ (by decide) (by decide), t7.2.1 _ (by decide) (by decide), t6.1 j hj, p5]
  · show mB.1 1097 j = mm.1 1129 (77 * k + 25 + j)
    rw [tB.2.1 _ (by decide) (by decide), tA.2.1 _ (by decide) (by decide), t9.2.1 _ (by decide) (by decide), t8.2.1 _ (by decide) (by decide), t7.1 j hj, p6]
  · show mB.1 1098 j = mm.1 1129 (77 * k + 33 + j)
    rw [tB.2.1 _ (by decide) (by decide), tA.2.1 _ (by decide) (by decide), t9.2.1 _ (by decide) (by decide), t8.1 j hj, p7]
  · show mB.1 1099 j = mm.1 1129 (77 * k + 41 + j)
    rw [tB.2.1 _ (by decide) (by decide), tA.2.1 _ (by decide) (by decide), t9.1 j hj, p8]
  · show mB.1 1100 j = mm.1 1129 (77 * k + 53 + j)
    rw [tB.2.1 _ (by decide) (by decide), tA.1 j hj, p9]
  · show mB.1 1101 j = mm.1 1129 (77 * k + 65 + j)
    rw [tB.1 j hj, pA]
  · rw [all i i1 i3 i4 i5 i6 i7 i8 i9 i10, yi i i1 i2]
  · rw [tB.2.2.1 j j1, tA.2.2.1 j j1, t9.2.2.1 j j1, t8.2.2.1 j j1, t7.2.2.1 j j1, t6.2.2.1 j j1, t5.2.2.1 j j1, t4.2.2.1 j j1, hm3, wI_ne (by decide), wI_pl j1, wI_ne (by decide), wI_pl j1, wI_ne (by decide), wI_pl j1, hm0, wI_pl j2, wI_pl j1]
  · rw [a89, hm3, wI_pl j2, wI_ne (by decide), wI_pl j1, wI_ne (by decide), wI_pl j3, wI_ne (by decide), zi 1089 (by decide)]
/-! what the calls that act rest on -/
/-- the reference's state, its raft changed -/
theorem StF_raft {mm m1 : Mm} {V : Dat} {R R' : Rf} {na : Nat} {P : Nat → Rf} {O : Dat} {x : Int32} (h : StF (fS mm) V R na P O x) (hf : ∀ i, ¬ i = 1088 → ¬ i = 1089 → ¬ i = 1092 → ¬ i = 1093 → ¬ i = 1095 → ¬ i = 1097 → ¬ i = 1098 → ¬ i = 1099 → ¬ i = 1100 → ¬ i = 1101 → m1.1 i = mm.1 i) (h55 : m1.1 1088 55 = mm.1 1088 55) (h89 : ∀ k, ¬ k = 1 → ¬ k = 4 → ¬ k = 6 → m1.1 1089 k = mm.1 1089 k) (hr : raF (gR (fS m1)) V R') : StF (fS m1) V R' na P O x := by
  obtain ⟨h1, h2, h3, h4, h5, h6⟩ := h
  have g : ∀ j, j = 2 ∨ j = 3 ∨ j = 6 ∨ j = 8 ∨ (14 ≤ j ∧ j < 19) → fS m1 j = fS mm j := fun j hj => by
    funext k
    unfold fS
    rw [if_neg (by omega), if_neg (by omega), if_neg (by omega), if_neg (by omega), hf _ (by omega) (by omega) (by omega) (by omega) (by omega) (by omega) (by omega) (by omega) (by omega) (by omega)]
  have g1 : ∀ k, ¬ k = 1 → ¬ k = 4 → ¬ k = 6 → fS m1 1 k = fS mm 1 k := h89
  have g19 : fS m1 19 = fS mm 19 := by
    funext k
    show m1.1 1129 k = mm.1 1129 k
    rw [hf 1129 (by decide) (by decide) (by decide) (by decide) (by decide) (by decide) (by decide) (by decide) (by decide) (by decide)]
  refine ⟨?_, ?_, ?_, ?_, hr, fun a ha => ?_⟩
  · unfold rvF
    rw [g1 0 (by decide) (by decide) (by decide), g1 2 (by decide) (by decide) (by decide), g1 3 (by decide) (by decide) (by decide), g1 5 (by decide) (by decide) (by decide), g 2 (by omega), g 3 (by omega), g 6 (by omega), g 8 (by omega), g 14 (by omega), g 15 (by omega)]
    exact h1
  · unfold ofF
    rw [g1 7 (by decide) (by decide) (by decide), g 16 (by omega), g 17 (by omega), g 18 (by omega)]
    exact h2
  · show m1.1 1088 55 = _
    rw [h55]; exact h3
  · rw [g1 8 (by decide) (by decide) (by decide)]; exact h4
  · rw [gP_eq g19]; exact h6 a ha
/-! states that are the same as far as they are read -/
def lnF : Nat → Nat := fun j => [1, 9, 6, 6, 6, 8, 8, 8, 8, 8, 8, 12, 12, 12, 6, 6, 6, 6, 6, 1540].getD j 0
def smF (f g : Nat → Nat → Int32) : Prop := ∀ j, j < 20 → ∀ l, l < lnF j → f j l = g j l
theorem smF_R {f g : Nat → Nat → Int32} (h : smF f g) : smR (gR f) (gR g) := by
  refine ⟨⟨h 1 (by decide) 6 (by decide), h 1 (by decide) 1 (by decide), h 1 (by decide) 4 (by decide)⟩, fun k hk => h 4 (by decide) k hk, fun k hk => ⟨h 5 (by decide) k hk, h 7 (by decide) k hk, h 9 (by decide) k hk, h 10 (by decide) k hk⟩, fun k hk => ⟨h 11 (by decide) k hk, h 12 (by decide) k hk, h 13 (by decide) k hk⟩⟩
theorem smF_P {f g : Nat → Nat → Int32} (h : smF f g) {a : Nat} (ha : a < 20) : smR (gP f a) (gP g a) := by
  have e : ∀ j, j < 77 → f 19 (77 * a + j) = g 19 (77 * a + j) := fun j hj => h 19 (by decide) _ (by show 77 * a + j < 1540; omega)
  refine ⟨⟨e 0 (by decide), e 1 (by decide), e 2 (by decide)⟩, fun k hk => ?_, fun k hk => ⟨?_, ?_, ?_, ?_⟩, fun k hk => ⟨?_, ?_, ?_⟩⟩
  · show f 19 (77 * a + 3 + k) = g 19 (77 * a + 3 + k)
    rw [Nat.add_assoc, e _ (by omega)]
  · show f 19 (77 * a + 9 + k) = g 19 (77 * a + 9 + k)
    rw [Nat.add_assoc, e _ (by omega)]
  · show f 19 (77 * a + 17 + k) = g 19 (77 * a + 17 + k)
    rw [Nat.add_assoc, e _ (by omega)]
  · show f 19 (77 * a + 25 + k) = g 19 (77 * a + 25 + k)
    rw [Nat.add_assoc, e _ (by omega)]
  · show f 19 (77 * a + 33 + k) = g 19 (77 * a + 33 + k)
    rw [Nat.add_assoc, e _ (by omega)]
  · show f 19 (77 * a + 41 + k) = g 19 (77 * a + 41 + k)
    rw [Nat.add_assoc, e _ (by omega)]
  · show f 19 (77 * a + 53 + k) = g 19 (77 * a + 53 + k)
    rw [Nat.add_assoc, e _ (by omega)]
  · show f 19 (77 * a + 65 + k) = g 19 (77 * a + 65 + k)
    rw [Nat.add_assoc, e _ (by omega)]
theorem StF_sm {f g : Nat → Nat → Int32} {ol : Nat} {V : Dat} {R : Rf} {na : Nat} {P : Nat → Rf} {O : Dat} {x : Int32} (h : smF f g) (ok : StOk ol V R na P O x) (s : StF g V R na P O x) : StF f V R na P O x := by
  obtain ⟨h1, h2, h3, h4, h5, h6⟩ := s
  have ov := ok.1.1
  have o6 := ov.2.1
  have o8 := ov.2.2.1
  have or6 := ok.1.2.1
  have of6 := ok.2.1.1
  have oa := ok.2.2.2.1
  refine ⟨⟨⟨(h 1 (by decide) 0 (by decide)).trans h1.1.1, (h 1 (by decide) 2 (by decide)).trans h1.1.2.1, (h 1 (by decide) 3 (by decide)).trans h1.1.2.2.1, (h 1 (by decide) 5 (by decide)).trans h1.1.2.2.2⟩, fun o ho => ⟨(h 2 (by decide) o (by show o < 6; omega)).trans (h1.2.1 o ho).1, (h 3 (by decide) o (by show o < 6; omega)).trans (h1.2.1 o ho).2⟩, fun t ht => ⟨(h 6 (by decide) t (by show t < 8; omega)).trans (h1.2.2.1 t ht).1, (h 8 (by decide) t (by show t < 8; omega)).trans (h1.2.2.1 t ht).2⟩, fun k hk => ⟨(h 14 (by decide) k (by show k < 6; omega)).trans (h1.2.2.2 k hk).1, (h 15 (by decide) k (by show k < 6; omega)).trans (h1.2.2.2 k hk).2⟩⟩, ⟨(h 1 (by decide) 7 (by decide)).trans h2.1, fun k hk => ⟨(h 16 (by decide) k (by show k < 6; omega)).trans (h2.2 k hk).1, (h 17 (by decide) k (by show k < 6; omega)).trans (h2.2 k hk).2.1, (h 18 (by decide) k (by show k < 6; omega)).trans (h2.2 k hk).2.2⟩⟩, (h 0 (by decide) 0 (by decide)).trans h3, (h 1 (by decide) 8 (by decide)).trans h4, smR_F (smF_R h) ov ok.2.2.2.2.2.2.1 h5, fun a ha => smR_F (smF_P h (by omega)) ov (ok.2.2.2.2.2.2.2 a ha) (h6 a ha)⟩
def smC (c d : Nat → Nat → Int32) : Prop := (c 0 3 = d 0 3 ∧ c 0 4 = d 0 4 ∧ c 0 5 = d 0 5 ∧ c 0 9 = d 0 9) ∧ (∀ k, k < 4 → c 1 k = d 1 k) ∧ (∀ k, k < 6 → c 2 k = d 2 k ∧ c 3 k = d 3 k) ∧ (∀ k, k < 8 → c 4 k = d 4 k ∧ c 5 k = d 5 k) ∧ (∀ k, k < 100 → c 6 k = d 6 k) ∧ (∀ k, k < 6 → c 17 k = d 17 k ∧ c 18 k = d 18 k ∧ c 19 k = d 19 k) ∧ smR (cR c 7) (cR d 7) ∧ ∀ i, i < 20 → smR (cR c (20 + 9 * i)) (cR d (20 + 9 * i))
theorem StC_sm {c d : Nat → Nat → Int32} {ol : Nat} {V : Dat} {R : Rf} {na : Nat} {P : Nat → Rf} {O : Dat} {x : Int32} (h : smC c d) (ok : StOk ol V R na P O x) (s : StC d ol V R na P O x) : StC c ol V R na P O x := by
  obtain ⟨h1, h2, h3, h4, h5, h6, h7⟩ := s
  obtain ⟨g1, g2, g3, g4, g5, g6, g7, g8⟩ := h
  have ov := ok.1.1
  have o6 := ov.2.1
  have o8 := ov.2.2.1
  have of6 := ok.2.1.1
  refine ⟨⟨⟨(g2 0 (by decide)).trans h1.1.1, (g2 1 (by decide)).trans h1.1.2.1, (g2 2 (by decide)).trans h1.1.2.2.1, (g2 3 (by decide)).trans h1.1.2.2.2⟩, fun o ho => ⟨(g3 o (by omega)).1.trans (h1.2.1 o ho).1, (g3 o (by omega)).2.trans (h1.2.1 o ho).2⟩, fun t ht => ⟨(g4 t (by omega)).1.trans (h1.2.2.1 t ht).1, (g4 t (by omega)).2.trans (h1.2.2.1 t ht).2⟩, fun m hm => (g5 m hm).trans (h1.2.2.2 m hm)⟩, ⟨g1.2.2.1.trans h2.1, fun k hk => ⟨(g6 k (by omega)).1.trans (h2.2 k hk).1, (g6 k (by omega)).2.1.trans (h2.2 k hk).2.1, (g6 k (by omega)).2.2.trans (h2.2 k hk).2.2⟩⟩, g1.1.trans h3, g1.2.1.trans h4, g1.2.2.2.trans h5, smR_C g7 ov ok.2.2.2.2.2.2.1 h6, fun a ha => smR_C (g8 _ (Nat.mod_lt _ (by decide))) ov (ok.2.2.2.2.2.2.2 a ha) (h7 a ha)⟩
theorem smR_rf {a b : Nat → Nat → Int32} (h : ∀ j, j < 9 → a j = b j) : smR a b := by
  refine ⟨⟨by rw [h 0 (by decide)], by rw [h 0 (by decide)], by rw [h 0 (by decide)]⟩, fun k _ => by rw [h 1 (by decide)], fun k _ => ⟨by rw [h 2 (by decide)], by rw [h 3 (by decide)], by rw [h 4 (by decide)], by rw [h 5 (by decide)]⟩, fun k _ => ⟨by rw [h 6 (by decide)], by rw [h 7 (by decide)], by rw [h 8 (by decide)]⟩⟩
theorem smC_rf {c d : Nat → Nat → Int32} (h : ∀ j, j < 200 → c j = d j) : smC c d := by
  refine ⟨⟨by rw [h 0 (by decide)], by rw [h 0 (by decide)], by rw [h 0 (by decide)], by rw [h 0 (by decide)]⟩, fun k _ => by rw [h 1 (by decide)], fun k _ => ⟨by rw [h 2 (by decide)], by rw [h 3 (by decide)]⟩, fun k _ => ⟨by rw [h 4 (by decide)], by rw [h 5 (by decide)]⟩, fun k _ => by rw [h 6 (by decide)], fun k _ => ⟨by rw [h 17 (by decide)], by rw [h 18 (by decide)], by rw [h 19 (by decide)]⟩, smR_rf (fun j hj => ?_), fun i hi => smR_rf (fun j hj => ?_)⟩
  · unfold cR
    rw [h _ (by omega)]
  · unfold cR
    rw [h _ (by omega)]
theorem rowOff_le : ∀ j, j < 20 → rowOff j + lnF j ≤ 1682 := by decide
/-- Inv out of its parts, behind class and reference -/
theorem Inv_mk {mm m2 : Mm} {ol : Nat} {V : Dat} {R : Rf} {na : Nat} {P : Nat → Rf} {O : Dat} {x : Int32} (h : Inv mm) (hC : StC (cS m2 26) ol V R na P O x) (hF : StF (fS m2) V R na P O x) (ok : StOk ol V R na P O x) (a0 : m2.1 0 7 = mm.1 0 7) (a1 : m2.1 1 1 = mm.1 1 1) (a2 : m2.1 2 = mm.1 2) (a4 : m2.1 227 = mm.1 227) (a5 : ∀ i, 252 ≤ i → i < 1088 → m2.1 i = mm.1 i) (b1 : m2.1 1088 31 = mm.1 1088 31) (b2 : m2.1 1088 35 = mm.1 1088 35) (b3 : m2.1 1088 40 = mm.1 1088 40) (b6 : ∀ i, 1119 ≤ i → i < 1126 → m2.1 i = mm.1 i) (b8 : ∀ k, k < 7600 → m2.1 1139 k = mm.1 1139 k) (b9 : m2.1 1140 = mm.1 1140) : Inv m2 := by
  refine ⟨SimT_eq a1 a2 b1 (b6 1119 (by decide) (by decide)) h.1, SimL_eq a0 b2 b3 (fun i h1 h2 => a5 i (by omega) h2) (fun i h1 h2 => b6 i (by omega) h2) h.2.1, St_SimS hC hF ok, ?_⟩
  intro k hk
  rw [a4, b9]
  rcases h.2.2.2 k hk with g | ⟨g1, g2, g3⟩
  · exact Or.inl g
  · refine Or.inr ⟨g1, g2, ?_⟩
    obtain ⟨ol', V', R', na', P', O', x', c, f, o⟩ := SimS_St g3
    have ec : ∀ j, j < 200 → cS m2 (252 + 200 * k) j = cS mm (252 + 200 * k) j := fun j hj => by
      funext l
      show m2.1 (252 + 200 * k + j) l = _
      rw [a5 _ (by omega) (by omega)]
      rfl
    refine St_SimS (StC_sm (smC_rf ec) o c) (StF_sm (fun j hj l hl => b8 _ ?_) o f) o
    have := rowOff_le j hj
    omega
