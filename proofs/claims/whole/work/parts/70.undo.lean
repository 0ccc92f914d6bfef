/-! PHASE 2: the past, the reference's; undo -/
theorem gP_sm {mm m1 : Mm} {a b : Nat} (h : ∀ j, j < 77 → m1.1 1129 (77 * a + j) = mm.1 1129 (77 * b + j)) : smR (gP (fS m1) a) (gP (fS mm) b) := by
  refine ⟨⟨h 0 (by decide), h 1 (by decide), h 2 (by decide)⟩, fun k hk => ?_, fun k hk => ⟨?_, ?_, ?_, ?_⟩, fun k hk => ⟨?_, ?_, ?_⟩⟩
  · show m1.1 1129 (77 * a + 3 + k) = mm.1 1129 (77 * b + 3 + k)
    rw [Nat.add_assoc, Nat.add_assoc, h _ (by omega)]
  · show m1.1 1129 (77 * a + 9 + k) = mm.1 1129 (77 * b + 9 + k)
    rw [Nat.add_assoc, Nat.add_assoc, h _ (by omega)]
  · show m1.1 1129 (77 * a + 17 + k) = mm.1 1129 (77 * b + 17 + k)
    rw [Nat.add_assoc, Nat.add_assoc, h _ (by omega)]
  · show m1.1 1129 (77 * a + 25 + k) = mm.1 1129 (77 * b + 25 + k)
    rw [Nat.add_assoc, Nat.add_assoc, h _ (by omega)]
  · show m1.1 1129 (77 * a + 33 + k) = mm.1 1129 (77 * b + 33 + k)
    rw [Nat.add_assoc, Nat.add_assoc, h _ (by omega)]
  · show m1.1 1129 (77 * a + 41 + k) = mm.1 1129 (77 * b + 41 + k)
    rw [Nat.add_assoc, Nat.add_assoc, h _ (by omega)]
  · show m1.1 1129 (77 * a + 53 + k) = mm.1 1129 (77 * b + 53 + k)
    rw [Nat.add_assoc, Nat.add_assoc, h _ (by omega)]
  · show m1.1 1129 (77 * a + 65 + k) = mm.1 1129 (77 * b + 65 + k)
    rw [Nat.add_assoc, Nat.add_assoc, h _ (by omega)]
theorem fS_row {mm m1 : Mm} (hf : ∀ i, 1089 ≤ i → i < 1107 → m1.1 i = mm.1 i) (j : Nat) (h1 : 1 ≤ j) (h2 : j < 19) : fS m1 j = fS mm j := by
  funext k
  unfold fS
  rw [if_neg (by omega), if_neg (by omega), if_neg (by omega), if_neg (by omega), hf _ (by omega) (by omega)]
theorem raF_gR {mm m1 : Mm} {V : Dat} {R : Rf} (hf : ∀ i, 1089 ≤ i → i < 1107 → m1.1 i = mm.1 i) (h5 : raF (gR (fS mm)) V R) : raF (gR (fS m1)) V R := by
  have g := fS_row hf
  have e : ∀ j, j < 9 → gR (fS m1) j = gR (fS mm) j := fun j hj => by
    funext k
    unfold gR
    by_cases c : j = 0
    · rw [if_pos c, if_pos c, g 1 (by decide) (by decide)]
    · rw [if_neg c, if_neg c]
      have := (show ∀ j, j < 9 → j ≠ 0 → 1 ≤ [0, 4, 5, 7, 9, 10, 11, 12, 13].getD j 0 ∧ [0, 4, 5, 7, 9, 10, 11, 12, 13].getD j 0 < 19 by decide) j hj c
      rw [g _ this.1 this.2]
  unfold raF RaA at h5 ⊢
  rw [e 0 (by decide), e 1 (by decide), e 2 (by decide), e 3 (by decide), e 4 (by decide), e 5 (by decide), e 6 (by decide), e 7 (by decide), e 8 (by decide)]
  exact h5
theorem StF_past {mm m1 : Mm} {V : Dat} {R : Rf} {na na' : Nat} {P P' : Nat → Rf} {O : Dat} {x : Int32} (h : StF (fS mm) V R na P O x) (hf : ∀ i, 1089 ≤ i → i < 1107 → m1.1 i = mm.1 i) (h55 : m1.1 1088 55 = nI na') (hp : ∀ a, a < na' → raF (gP (fS m1) a) V (P' a)) : StF (fS m1) V R na' P' O x := by
  obtain ⟨h1, h2, h3, h4, h5, h6⟩ := h
  have g := fS_row hf
  refine ⟨?_, ?_, h55, ?_, ?_, hp⟩
  · unfold rvF
    rw [g 1 (by decide) (by decide), g 2 (by decide) (by decide), g 3 (by decide) (by decide), g 6 (by decide) (by decide), g 8 (by decide) (by decide), g 14 (by decide) (by decide), g 15 (by decide) (by decide)]
    exact h1
  · unfold ofF
    rw [g 1 (by decide) (by decide), g 16 (by decide) (by decide), g 17 (by decide) (by decide), g 18 (by decide) (by decide)]
    exact h2
  · rw [g 1 (by decide) (by decide)]; exact h4
  · exact raF_gR hf h5
theorem shift_f {m : Mm} : ∃ m1, lp f_X12_keepsAct_s12 ((77 : Int32), m) = some m1 ∧ (∀ i, ¬ i = 1129 → m1.1 i = m.1 i) ∧ ∀ j, j < 1463 → m1.1 1129 j = m.1 1129 (j + 77) := by
  refine lp_inv (fun k x => ∃ w, x = (nI (77 + k), w) ∧ (∀ i, ¬ i = 1129 → w.1 i = m.1 i) ∧ (∀ j, j < k → w.1 1129 j = m.1 1129 (j + 77)) ∧ ∀ j, k ≤ j → w.1 1129 j = m.1 1129 j) _ 1463 (fun k x hk hx => ?_) (fun x hx => ?_) 0 _ (Nat.zero_le _) ⟨m, rfl, fun _ _ => rfl, fun j hj => absurd hj (by omega), fun _ _ => rfl⟩
  · obtain ⟨w, rfl, w1, w2, w3⟩ := hx
    have e : nI (77 + k) - (77 : Int32) = nI k := by
      rw [show (77 : Int32) = nI 77 from rfl, nI_sub' (by omega), show 77 + k - 77 = k by omega]
    refine ⟨(nI (77 + (k + 1)), wI w 1129 k (w.1 1129 (77 + k))), ?_, _, rfl, fun i hi => by rw [wI_ne hi, w1 i hi], fun j hj => ?_, fun j hj => ?_⟩
    · unfold f_X12_keepsAct_s12
      dsimp only
      rw [e, show (1540 : Int32) = nI 1540 from rfl]
      simp (disch := omega) only [↓reduceIte, decide_true, decide_false, Bool.false_eq_true, eq_self, s10, s01, cont_ok, has_ok, b2i0, b2i1, reduceCtorEq, Nat.or_zero, Nat.add_zero, sN_le, sN_lt, sN_eq, sN_lt0, sN_le0, sN_0le, sN_0lt, sN_eq0, sN_cl, sN_ad, sN_a1, K2, K3, K4, K5, K6, K7, K8, K9, K12, K16, K20, false_or, or_false, if_neg, if_pos, vl_s, bi1_s, bi2_s, nx_or, nx_and, nx_sh, show 77 + k + 1 = 77 + (k + 1) from rfl]
    · by_cases c : j = k
      · rw [c, wI_at, w3 _ (by omega), Nat.add_comm]
      · rw [wI_pl c, w2 j (by omega)]
    · rw [wI_pl (by omega), w3 j (by omega)]
  · obtain ⟨w, rfl, w1, w2, w3⟩ := hx
    refine ⟨w, ?_, w1, w2⟩
    unfold f_X12_keepsAct_s12
    dsimp only
    rw [show (1540 : Int32) = nI 1540 from rfl]
    simp (disch := omega) only [↓reduceIte, decide_true, decide_false, Bool.false_eq_true, eq_self, s10, s01, cont_ok, has_ok, b2i0, b2i1, reduceCtorEq, Nat.or_zero, Nat.add_zero, sN_le, sN_lt, sN_eq, sN_lt0, sN_le0, sN_0le, sN_0lt, sN_eq0, sN_cl, sN_ad, sN_a1, K2, K3, K4, K5, K6, K7, K8, K9, K12, K16, K20, false_or, or_false, if_neg, if_pos, vl_s, bi1_s, bi2_s, nx_or, nx_and, nx_sh]
theorem keepsAct_f {mm : Mm} {V : Dat} {R : Rf} {na : Nat} {P : Nat → Rf} {O : Dat} {x : Int32} (h : StF (fS mm) V R na P O x) (ov : RvOk V) (oa : RaOk V R.1 R.2.1) (op : ∀ a, a < na → RaOk V (P a).1 (P a).2.1) (hn : na ≤ 20) : ∃ m1, f_X12_keepsAct mm = some m1 ∧ StF (fS m1) V R (remN na) (remP na P R) O x ∧ (∀ i, ¬ i = 1088 → ¬ i = 1129 → m1.1 i = mm.1 i) ∧ ∀ j, ¬ j = 55 → ¬ j = 56 → ¬ j = 57 → m1.1 1088 j = mm.1 1088 j := by
  have e55 : mm.1 1088 55 = nI na := h.2.2.1
  by_cases c : na < 20
  · obtain ⟨m1, e1, s1, p1, f1, q1⟩ := movesAll0_f (mm := mm) c
    refine ⟨wI m1 1088 55 (nI (na + 1)), ?_, ?_, fun i i1 i2 => by rw [wI_ne i1, f1 i i1 i2], fun j j1 j2 j3 => by rw [wI_pl j1, q1 j j2 j3]⟩
    · unfold f_X12_keepsAct f_X12_keepsAct_j50
      rw [e55]
      simp (disch := omega) only [↓reduceIte, decide_true, decide_false, Bool.false_eq_true, eq_self, s10, s01, cont_ok, has_ok, b2i0, b2i1, reduceCtorEq, Nat.or_zero, Nat.add_zero, sN_le, sN_lt, sN_eq, sN_lt0, sN_le0, sN_0le, sN_0lt, sN_eq0, sN_cl, sN_ad, sN_a1, K2, K3, K4, K5, K6, K7, K8, K9, K12, K16, K20, false_or, or_false, if_neg, if_pos, vl_s, bi1_s, bi2_s, nx_or, nx_and, nx_sh]
      rw [e1, bi1_s, q1 55 (by decide) (by decide), e55, sN_a1]
    · unfold remN
      rw [if_pos c]
      refine StF_past h (fun i i1 i2 => by rw [wI_ne (by omega), f1 i (by omega) (by omega)]) (wI_at _ _ _ _) (fun a ha => ?_)
      unfold remP
      rw [if_pos c]
      by_cases d : a = na
      · rw [if_pos d, d]
        have s2 : smR (gP (fS (wI m1 1088 55 (nI (na + 1)))) na) (gP (fS m1) na) := gP_sm (fun j hj => by rw [wI_ne (by decide)])
        exact smR_F s2 ov oa (smR_F s1 ov oa h.2.2.2.2.1)
      · rw [if_neg d]
        have s2 : smR (gP (fS (wI m1 1088 55 (nI (na + 1)))) a) (gP (fS mm) a) := gP_sm (fun j hj => by rw [wI_ne (by decide), p1 _ (by omega)])
        exact smR_F s2 ov (op a (by omega)) (h.2.2.2.2.2 a (by omega))
  · have e20 : na = 20 := by omega
    subst e20
    obtain ⟨m1, e1, f1, p1⟩ := shift_f (m := mm)
    obtain ⟨m2, hm2⟩ : ∃ m2, m2 = wI m1 1088 55 (nI 19) := ⟨_, rfl⟩
    obtain ⟨m3, e3, s3, p3, f3, q3⟩ := movesAll0_f (mm := m2) (k := 19) (by decide)
    have f2 : ∀ i, ¬ i = 1088 → m2.1 i = m1.1 i := fun i hi => by rw [hm2, wI_ne hi]
    refine ⟨wI m3 1088 55 (nI 20), ?_, ?_, fun i i1 i2 => by rw [wI_ne i1, f3 i i1 i2, f2 i i1, f1 i i2], fun j j1 j2 j3 => by rw [wI_pl j1, q3 j j2 j3, hm2, wI_pl j1, f1 1088 (by decide)]⟩
    · unfold f_X12_keepsAct f_X12_keepsAct_j50
      rw [e55]
      simp (disch := omega) only [↓reduceIte, decide_true, decide_false, Bool.false_eq_true, eq_self, s10, s01, cont_ok, has_ok, b2i0, b2i1, reduceCtorEq, Nat.or_zero, Nat.add_zero, sN_le, sN_lt, sN_eq, sN_lt0, sN_le0, sN_0le, sN_0lt, sN_eq0, sN_cl, sN_ad, sN_a1, K2, K3, K4, K5, K6, K7, K8, K9, K12, K16, K20, false_or, or_false, if_neg, if_pos, vl_s, bi1_s, bi2_s, nx_or, nx_and, nx_sh]
      rw [e1, bi1_s, f1 1088 (by decide), e55, nI_s1 19, ← hm2]
      rw [show m2.1 1088 55 = nI 19 from by rw [hm2, wI_at], e3, bi1_s, q3 55 (by decide) (by decide), show m2.1 1088 55 = nI 19 from by rw [hm2, wI_at], sN_a1]
    · unfold remN
      rw [if_neg c]
      refine StF_past h (fun i i1 i2 => by rw [wI_ne (by omega), f3 i (by omega) (by omega), f2 i (by omega), f1 i (by omega)]) (wI_at _ _ _ _) (fun a ha => ?_)
      unfold remP
      rw [if_neg c]
      by_cases d : a = 19
      · rw [if_pos d, d]
        have s2 : smR (gP (fS (wI m3 1088 55 (nI 20))) 19) (gP (fS m3) 19) := gP_sm (fun j hj => by rw [wI_ne (by decide)])
        have s4 : raF (gR (fS m2)) V R := raF_gR (fun i i1 i2 => by rw [f2 i (by omega), f1 i (by omega)]) h.2.2.2.2.1
        exact smR_F s2 ov oa (smR_F s3 ov oa s4)
      · rw [if_neg d]
        have s2 : smR (gP (fS (wI m3 1088 55 (nI 20))) a) (gP (fS mm) (a + 1)) := gP_sm (fun j hj => by rw [wI_ne (by decide), p3 _ (by omega), f2 1129 (by decide), p1 _ (by omega), show 77 * a + j + 77 = 77 * (a + 1) + j by omega])
        exact smR_F s2 ov (op (a + 1) (by omega)) (h.2.2.2.2.2 (a + 1) (by omega))
