/-! PHASE 2: image, back -/
theorem copyV_c {mm : Mm} {v v2 : Nat} (hd : v + 6 ≤ v2 ∨ v2 + 6 ≤ v) : ∃ m1, f_X5_copyFrom mm v v2 = some m1 ∧ (∀ i, ¬ (v ≤ i ∧ i < v + 6) → m1.1 i = mm.1 i) ∧ (∀ k, k < 4 → m1.1 v k = mm.1 v2 k) ∧ (∀ k, k < 6 → m1.1 (v + 1) k = mm.1 (v2 + 1) k ∧ m1.1 (v + 2) k = mm.1 (v2 + 2) k) ∧ (∀ k, k < 8 → m1.1 (v + 3) k = mm.1 (v2 + 3) k ∧ m1.1 (v + 4) k = mm.1 (v2 + 4) k) ∧ ∀ k, k < 100 → m1.1 (v + 5) k = mm.1 (v2 + 5) k := by
  unfold f_X5_copyFrom
  simp only [vl_s]
  refine ⟨_, rfl, fun i hi => ?_, fun k hk => ?_, fun k hk => ⟨?_, ?_⟩, fun k hk => ⟨?_, ?_⟩, fun k hk => ?_⟩
  · simp (disch := omega) only [wA_ne, wI_ne]
  · have hc : k = 0 ∨ k = 1 ∨ k = 2 ∨ k = 3 := by omega
    rcases hc with rfl | rfl | rfl | rfl
    · simp (disch := omega) only [wA_ne, wI_ne, wI_pl, wI_at]
    · simp (disch := omega) only [wA_ne, wI_ne, wI_pl, wI_at]
    · simp (disch := omega) only [wA_ne, wI_ne, wI_pl, wI_at]
    · simp (disch := omega) only [wA_ne, wI_ne, wI_pl, wI_at]
  · simp (disch := omega) only [wA_ne, wI_ne, wA_at, cpy0]
  · simp (disch := omega) only [wA_ne, wI_ne, wA_at, cpy0]
  · simp (disch := omega) only [wA_ne, wI_ne, wA_at, cpy0]
  · simp (disch := omega) only [wA_ne, wI_ne, wA_at, cpy0]
  · simp (disch := omega) only [wA_ne, wI_ne, wA_at, cpy0]
theorem smR_cg {m m1 n n1 : Mm} {r r2 : Nat} (h1 : ∀ j, j < 9 → m1.1 (r + j) = m.1 (r + j)) (h2 : ∀ j, j < 9 → n1.1 (r2 + j) = n.1 (r2 + j)) (h : smR (rwC m r) (rwC n r2)) : smR (rwC m1 r) (rwC n1 r2) := by
  have e1 : ∀ j, j < 9 → rwC m1 r j = rwC m r j := fun j hj => by funext k; show m1.1 (r + j) k = _; rw [h1 j hj]; rfl
  have e2 : ∀ j, j < 9 → rwC n1 r2 j = rwC n r2 j := fun j hj => by funext k; show n1.1 (r2 + j) k = _; rw [h2 j hj]; rfl
  unfold smR
  rw [e1 0 (by decide), e1 1 (by decide), e1 2 (by decide), e1 3 (by decide), e1 4 (by decide), e1 5 (by decide), e1 6 (by decide), e1 7 (by decide), e1 8 (by decide), e2 0 (by decide), e2 1 (by decide), e2 2 (by decide), e2 3 (by decide), e2 4 (by decide), e2 5 (by decide), e2 6 (by decide), e2 7 (by decide), e2 8 (by decide)]
  exact h
theorem copyS_c {mm : Mm} {S S2 : Nat} (hd : S + 200 ≤ S2 ∨ S2 + 200 ≤ S) : ∃ m1, f_X9_copyFrom mm S S2 = some m1 ∧ smC (cS m1 S) (cS mm S2) ∧ ∀ i, ¬ (S ≤ i ∧ i < S + 200) → m1.1 i = mm.1 i := by
  obtain ⟨m1, e1, f1, a1, a2, a3, a4⟩ := copyV_c (mm := mm) (v := S + 1) (v2 := S2 + 1) (by omega)
  obtain ⟨m2, e2, f2, c2⟩ := copyR_c (mm := m1) (r := S + 7) (r2 := S2 + 7) (v := S + 1) (v2 := S2 + 1) (by omega)
  have s2 : smR (rwC m2 (S + 7)) (rwC m1 (S2 + 7)) := c2
  have hx : ∃ w, lp (f_X9_copyFrom_s24 S S2) ((0 : Int32), m2) = some w ∧ (∀ i, ¬ (S + 20 ≤ i ∧ i < S + 200) → w.1 i = m2.1 i) ∧ ∀ j, j < 20 → smR (rwC w (S + 20 + 9 * j)) (rwC m2 (S2 + 20 + 9 * j)) := by
    refine lp_inv (fun k x => ∃ w, x = (nI k, w) ∧ (∀ i, ¬ (S + 20 ≤ i ∧ i < S + 200) → w.1 i = m2.1 i) ∧ ∀ j, j < k → smR (rwC w (S + 20 + 9 * j)) (rwC m2 (S2 + 20 + 9 * j))) _ 20 (fun k x hk hx => ?_) (fun x hx => ?_) 0 _ (Nat.zero_le _) ⟨m2, rfl, fun _ _ => rfl, fun j hj => absurd hj (by omega)⟩
    · obtain ⟨w, rfl, w1, w2⟩ := hx
      obtain ⟨w3, e3, g1, g2⟩ := copyR_c (mm := w) (r := S + 20 + 9 * k) (r2 := S2 + 20 + 9 * k) (v := S + 1) (v2 := S2 + 1) (by omega)
      have g2' : smR (rwC w3 (S + 20 + 9 * k)) (rwC w (S2 + 20 + 9 * k)) := g2
      refine ⟨(nI (k + 1), w3), ?_, w3, rfl, fun i hi => by rw [g1 i (by omega), w1 i hi], fun j hj => ?_⟩
      · unfold f_X9_copyFrom_s24
        simp (disch := omega) only [↓reduceIte, decide_true, decide_false, Bool.false_eq_true, eq_self, s10, s01, cont_ok, has_ok, b2i0, b2i1, reduceCtorEq, Nat.or_zero, Nat.add_zero, sN_le, sN_lt, sN_eq, sN_lt0, sN_le0, sN_0le, sN_0lt, sN_eq0, sN_cl, sN_ad, sN_a1, K2, K3, K4, K5, K6, K7, K8, K9, K12, K16, K20, false_or, or_false, if_neg, if_pos, vl_s, bi1_s, bi2_s, nx_or, nx_and, nx_sh]
        rw [e3, bi1_s]
      · by_cases c : j = k
        · rw [c]
          exact smR_cg (fun _ _ => rfl) (fun l hl => (w1 _ (by omega)).symm) g2'
        · exact smR_cg (fun l hl => g1 _ (by omega)) (fun _ _ => rfl) (w2 j (by omega))
    · obtain ⟨w, rfl, w1, w2⟩ := hx
      refine ⟨w, ?_, w1, w2⟩
      unfold f_X9_copyFrom_s24
      simp (disch := omega) only [↓reduceIte, decide_true, decide_false, Bool.false_eq_true, eq_self, s10, s01, cont_ok, has_ok, b2i0, b2i1, reduceCtorEq, Nat.or_zero, Nat.add_zero, sN_le, sN_lt, sN_eq, sN_lt0, sN_le0, sN_0le, sN_0lt, sN_eq0, sN_cl, sN_ad, sN_a1, K2, K3, K4, K5, K6, K7, K8, K9, K12, K16, K20, false_or, or_false, if_neg, if_pos, vl_s, bi1_s, bi2_s, nx_or, nx_and, nx_sh]
  obtain ⟨m3, e3, f3, s3⟩ := hx
  obtain ⟨m4, hm4⟩ : ∃ m4, m4 = wI (wA (wA (wA (wI (wI (wI m3 S 3 (m3.1 S2 3)) S 4 (m3.1 S2 4)) S 5 (m3.1 S2 5)) (S + 17) (va_cpy (m3.1 (S2 + 17)) (m3.1 (S + 17)) 0 0 6)) (S + 18) (va_cpy (m3.1 (S2 + 18)) (m3.1 (S + 18)) 0 0 6)) (S + 19) (va_cpy (m3.1 (S2 + 19)) (m3.1 (S + 19)) 0 0 6)) S 9 (m3.1 S2 9) := ⟨_, rfl⟩
  have f4 : ∀ i, ¬ i = S → ¬ i = S + 17 → ¬ i = S + 18 → ¬ i = S + 19 → m4.1 i = m3.1 i := fun i i1 i2 i3 i4 => by rw [hm4, wI_ne i1, wA_ne i4, wA_ne i3, wA_ne i2, wI_ne i1, wI_ne i1, wI_ne i1]
  have k23 : ∀ i, S2 ≤ i → i < S2 + 200 → m3.1 i = mm.1 i := fun i i1 i2 => by rw [f3 i (by omega), f2 i (by omega), f1 i (by omega)]
  refine ⟨m4, ?_, ⟨⟨?_, ?_, ?_, ?_⟩, fun k hk => ?_, fun k hk => ⟨?_, ?_⟩, fun k hk => ⟨?_, ?_⟩, fun k hk => ?_, fun k hk => ⟨?_, ?_, ?_⟩, ?_, fun i hi => ?_⟩, fun i hi => by rw [f4 i (by omega) (by omega) (by omega) (by omega), f3 i (by omega), f2 i (by omega), f1 i (by omega)]⟩
  · unfold f_X9_copyFrom
    rw [e1, bi1_s, e2, bi1_s, e3, bi1_s]
    simp (disch := omega) only [vl_s, wI_ne, wA_ne]
    rw [hm4]
  · show m4.1 S 3 = mm.1 S2 3
    rw [hm4, ← k23 S2 (by omega) (by omega)]
    simp (disch := omega) only [wA_ne, wI_ne, wI_pl, wI_at]
  · show m4.1 S 4 = mm.1 S2 4
    rw [hm4, ← k23 S2 (by omega) (by omega)]
    simp (disch := omega) only [wA_ne, wI_ne, wI_pl, wI_at]
  · show m4.1 S 5 = mm.1 S2 5
    rw [hm4, ← k23 S2 (by omega) (by omega)]
    simp (disch := omega) only [wA_ne, wI_ne, wI_pl, wI_at]
  · show m4.1 S 9 = mm.1 S2 9
    rw [hm4, ← k23 S2 (by omega) (by omega), wI_at]
  · show m4.1 (S + 1) k = mm.1 (S2 + 1) k
    rw [f4 _ (by omega) (by omega) (by omega) (by omega), f3 _ (by omega), f2 _ (by omega), a1 k hk]
  · show m4.1 (S + 1 + 1) k = mm.1 (S2 + 1 + 1) k
    rw [f4 _ (by omega) (by omega) (by omega) (by omega), f3 _ (by omega), f2 _ (by omega), (a2 k hk).1]
  · show m4.1 (S + 1 + 2) k = mm.1 (S2 + 1 + 2) k
    rw [f4 _ (by omega) (by omega) (by omega) (by omega), f3 _ (by omega), f2 _ (by omega), (a2 k hk).2]
  · show m4.1 (S + 1 + 3) k = mm.1 (S2 + 1 + 3) k
    rw [f4 _ (by omega) (by omega) (by omega) (by omega), f3 _ (by omega), f2 _ (by omega), (a3 k hk).1]
  · show m4.1 (S + 1 + 4) k = mm.1 (S2 + 1 + 4) k
    rw [f4 _ (by omega) (by omega) (by omega) (by omega), f3 _ (by omega), f2 _ (by omega), (a3 k hk).2]
  · show m4.1 (S + 1 + 5) k = mm.1 (S2 + 1 + 5) k
    rw [f4 _ (by omega) (by omega) (by omega) (by omega), f3 _ (by omega), f2 _ (by omega), a4 k hk]
  · show m4.1 (S + 17) k = mm.1 (S2 + 17) k
    rw [hm4, ← k23 (S2 + 17) (by omega) (by omega)]
    simp (disch := omega) only [wA_ne, wI_ne, wA_at, cpy0]
  · show m4.1 (S + 18) k = mm.1 (S2 + 18) k
    rw [hm4, ← k23 (S2 + 18) (by omega) (by omega)]
    simp (disch := omega) only [wA_ne, wI_ne, wA_at, cpy0]
  · show m4.1 (S + 19) k = mm.1 (S2 + 19) k
    rw [hm4, ← k23 (S2 + 19) (by omega) (by omega)]
    simp (disch := omega) only [wA_ne, wI_ne, wA_at, cpy0]
  · rw [cR_rw, cR_rw]
    exact smR_cg (m := m2) (n := m1) (fun j hj => by rw [f4 _ (by omega) (by omega) (by omega) (by omega), f3 _ (by omega)]) (fun j hj => (f1 _ (by omega)).symm) s2
  · rw [cR_rw, cR_rw, ← Nat.add_assoc, ← Nat.add_assoc]
    exact smR_cg (m := m3) (n := m2) (fun j hj => f4 _ (by omega) (by omega) (by omega) (by omega)) (fun j hj => by rw [f2 _ (by omega), f1 _ (by omega)]) (s3 i hi)
theorem nar1 : vp_nar .boolean (1 : Int32) = 1 := by decide
theorem in03 (x : Int32) : (∃ k, k < 4 ∧ x = nI k ∧ f_X12_in x.toInt64 (0 : Int64) (3 : Int64) = 1) ∨ ((x < 0 ∨ nI 4 ≤ x) ∧ f_X12_in x.toInt64 (0 : Int64) (3 : Int64) = 0) := by
  rcases rng x 0 3 (by decide) (by decide) (l := (0 : Int64)) (h := (3 : Int64)) (by decide) (by decide) with ⟨j, h1, h2, h3, h4⟩ | ⟨h1, h2⟩
  · exact Or.inl ⟨j, by omega, h3, h4⟩
  · refine Or.inr ⟨h1.elim (fun z => Or.inl z) (fun z => Or.inr ?_), h2⟩
    rw [Int32.le_iff_toInt_le, nI_toInt (by decide)]
    rw [Int32.lt_iff_toInt_lt, nI_toInt (by decide)] at z
    omega
theorem sm_image_ok : sm_image Inv := by
  intro mm x hInv
  obtain ⟨ol, V, R, na, P, O, xx, hC, hF, ok⟩ := SimS_St hInv.2.2.1
  rcases in03 x with ⟨k, hk, rfl, hin⟩ | ⟨hx, hin⟩
  · obtain ⟨m1, e1, s1, f1⟩ := copyS_c (mm := mm) (S := 252 + 200 * k) (S2 := 26) (by omega)
    obtain ⟨m2, hm2⟩ : ∃ m2, m2 = wI m1 227 k 1 := ⟨_, rfl⟩
    have f2 : ∀ i, ¬ i = 227 → m2.1 i = m1.1 i := fun i hi => by rw [hm2, wI_ne hi]
    obtain ⟨m3, hm3⟩ : ∃ m3, m3 = wI m2 1140 k 1 := ⟨_, rfl⟩
    have f3 : ∀ i, ¬ i = 1140 → m3.1 i = m2.1 i := fun i hi => by rw [hm3, wI_ne hi]
    obtain ⟨m4, e4, s4, p4, f4, q4⟩ := carries0_f (mm := m3) (k := k) (by omega)
    have g : ∀ i, ¬ i = 227 → ¬ i = 1088 → ¬ i = 1130 → ¬ i = 1139 → ¬ i = 1140 → ¬ (252 + 200 * k ≤ i ∧ i < 252 + 200 * k + 200) → m4.1 i = mm.1 i := fun i i1 i2 i3 i4 i5 i6 => by rw [f4 i i2 i3 i4, f3 i i5, f2 i i1, f1 i i6]
    have g88 : ∀ j, ¬ j = 71 → ¬ j = 72 → m4.1 1088 j = mm.1 1088 j := fun j j1 j2 => by rw [q4 j j1 j2, f3 1088 (by decide), f2 1088 (by decide), f1 1088 (by omega)]
    have hC4 : StC (cS m4 26) ol V R na P O xx := StC_sm (smC_rf (fun j hj => by funext l; show m4.1 (26 + j) l = mm.1 (26 + j) l; rw [g _ (by omega) (by omega) (by omega) (by omega) (by omega) (by omega)])) ok hC
    have hF4 : StF (fS m4) V R na P O xx := StF_sm (fun j hj l hl => by
      unfold fS
      by_cases c0 : j = 0
      · rw [if_pos c0, if_pos c0, g88 55 (by decide) (by decide)]
      · rw [if_neg c0, if_neg c0]
        by_cases c1 : j = 19
        · rw [if_pos c1, if_pos c1, g 1129 (by decide) (by decide) (by decide) (by decide) (by decide) (by omega)]
        · rw [if_neg c1, if_neg c1, g _ (by omega) (by omega) (by omega) (by omega) (by omega) (by omega)]) ok hF
    have hF3 : StF (fS m3) V R na P O xx := StF_sm (fun j hj l hl => by
      have h3 : ∀ i, 1088 ≤ i → ¬ i = 1140 → m3.1 i = mm.1 i := fun i i1 i2 => by rw [f3 i i2, f2 i (by omega), f1 i (by omega)]
      unfold fS
      rw [h3 1088 (by decide) (by decide), h3 1129 (by decide) (by decide), h3 (1088 + j) (by omega) (by omega)]) ok hF
    have i227 : ∀ l, m4.1 227 l = if l = k then 1 else mm.1 227 l := fun l => by rw [f4 227 (by decide) (by decide) (by decide), f3 227 (by decide), hm2, wI_sm, f1 227 (by omega)]
    have i140 : ∀ l, m4.1 1140 l = if l = k then 1 else mm.1 1140 l := fun l => by rw [f4 1140 (by decide) (by decide) (by decide), hm3, wI_sm, f2 1140 (by decide), f1 1140 (by omega)]
    refine ⟨nI (R.1 0 1), m2, m4, ?_, ?_, SimT_eq (by rw [g 1 (by decide) (by decide) (by decide) (by decide) (by decide) (by omega)]) (g 2 (by decide) (by decide) (by decide) (by decide) (by decide) (by omega)) (g88 31 (by decide) (by decide)) (g 1119 (by decide) (by decide) (by decide) (by decide) (by decide) (by omega)) hInv.1, SimL_eq (by rw [g 0 (by decide) (by decide) (by decide) (by decide) (by decide) (by omega)]) (g88 35 (by decide) (by decide)) (g88 40 (by decide) (by decide)) (fun i i1 i2 => g i (by omega) (by omega) (by omega) (by omega) (by omega) (by omega)) (fun i i1 i2 => g i (by omega) (by omega) (by omega) (by omega) (by omega) (by omega)) hInv.2.1, St_SimS hC4 hF4 ok, ?_⟩
    · unfold f_X11_image
      rw [K4]
      simp (disch := omega) only [↓reduceIte, decide_true, decide_false, Bool.false_eq_true, eq_self, s10, s01, cont_ok, has_ok, b2i0, b2i1, reduceCtorEq, Nat.or_zero, Nat.add_zero, sN_le, sN_lt, sN_eq, sN_lt0, sN_le0, sN_0le, sN_0lt, sN_eq0, sN_cl, sN_ad, sN_a1, K2, K3, K4, K5, K6, K7, K8, K9, K12, K16, K20, false_or, or_false, if_neg, if_pos, vl_s, bi1_s, bi2_s, nx_or, nx_and, nx_sh]
      rw [e1, bi1_s, nar1, ← hm2, f2 33 (by decide), f1 33 (by omega), show mm.1 33 1 = nI (R.1 0 1) from (StC_ra hC).1]
    · unfold f_X12_image
      rw [hin, if_neg (by decide), nar1]
      simp (disch := omega) only [↓reduceIte, decide_true, decide_false, Bool.false_eq_true, eq_self, s10, s01, cont_ok, has_ok, b2i0, b2i1, reduceCtorEq, Nat.or_zero, Nat.add_zero, sN_le, sN_lt, sN_eq, sN_lt0, sN_le0, sN_0le, sN_0lt, sN_eq0, sN_cl, sN_ad, sN_a1, K2, K3, K4, K5, K6, K7, K8, K9, K12, K16, K20, false_or, or_false, if_neg, if_pos, vl_s, bi1_s, bi2_s, nx_or, nx_and, nx_sh]
      rw [← hm3, e4, bi1_s, show m4.1 1089 6 = nI (R.1 0 1) from (StF_ra hF4).1]
    · intro l hl
      rw [i227, i140]
      by_cases c : l = k
      · rw [if_pos c, if_pos c, c]
        refine Or.inr ⟨rfl, rfl, St_SimS (StC_sm (smC_rf (fun j hj => ?_)) ok (StC_sm s1 ok hC)) (StF_sm s4 ok hF3) ok⟩
        funext z
        show m4.1 (252 + 200 * k + j) z = m1.1 (252 + 200 * k + j) z
        rw [f4 _ (by omega) (by omega) (by omega), f3 _ (by omega), f2 _ (by omega)]
      · rw [if_neg c, if_neg c]
        rcases hInv.2.2.2 l hl with h | ⟨h1, h2, h3⟩
        · exact Or.inl h
        · obtain ⟨ol', V', R', na', P', O', x', c', f', o'⟩ := SimS_St h3
          refine Or.inr ⟨h1, h2, St_SimS (StC_sm (smC_rf (fun j hj => ?_)) o' c') (StF_sm (fun j hj z hz => ?_) o' f') o'⟩
          · funext z
            show m4.1 (252 + 200 * l + j) z = mm.1 (252 + 200 * l + j) z
            rw [g _ (by omega) (by omega) (by omega) (by omega) (by omega) (by omega)]
          · have := rowOff_le j hj
            show m4.1 1139 (1900 * l + rowOff j + z) = mm.1 1139 (1900 * l + rowOff j + z)
            rw [p4 _ (by omega), f3 1139 (by decide), f2 1139 (by decide), f1 1139 (by omega)]
  · refine ⟨-1, mm, mm, ?_, ?_, hInv⟩
    · unfold f_X11_image
      rw [K4]
      by_cases h0 : x < 0
      · rw [if_pos h0]
      · rw [if_neg h0, if_neg (nlt_of (hx.elim (fun z => absurd z h0) (fun z => z)))]
    · unfold f_X12_image
      rw [hin, if_pos rfl]
theorem sm_back_ok : sm_back Inv := by
  intro mm x hInv
  rcases in03 x with ⟨k, hk, rfl, hin⟩ | ⟨hx, hin⟩
  · rcases hInv.2.2.2 k hk with ⟨h1, h2⟩ | ⟨h1, h2, h3⟩
    · refine ⟨-1, mm, mm, ?_, ?_, hInv⟩
      · unfold f_X11_back
        rw [K4]
        simp (disch := omega) only [↓reduceIte, decide_true, decide_false, Bool.false_eq_true, eq_self, s10, s01, cont_ok, has_ok, b2i0, b2i1, reduceCtorEq, Nat.or_zero, Nat.add_zero, sN_le, sN_lt, sN_eq, sN_lt0, sN_le0, sN_0le, sN_0lt, sN_eq0, sN_cl, sN_ad, sN_a1, K2, K3, K4, K5, K6, K7, K8, K9, K12, K16, K20, false_or, or_false, if_neg, if_pos, vl_s, bi1_s, bi2_s, nx_or, nx_and, nx_sh, h1]
      · unfold f_X12_back
        rw [hin, if_neg (by decide)]
        simp (disch := omega) only [↓reduceIte, decide_true, decide_false, Bool.false_eq_true, eq_self, s10, s01, cont_ok, has_ok, b2i0, b2i1, reduceCtorEq, Nat.or_zero, Nat.add_zero, sN_le, sN_lt, sN_eq, sN_lt0, sN_le0, sN_0le, sN_0lt, sN_eq0, sN_cl, sN_ad, sN_a1, K2, K3, K4, K5, K6, K7, K8, K9, K12, K16, K20, false_or, or_false, if_neg, if_pos, vl_s, bi1_s, bi2_s, nx_or, nx_and, nx_sh, h2]
    · obtain ⟨ol, V, R, na, P, O, xx, hC, hF, ok⟩ := SimS_St h3
      obtain ⟨m1, e1, s1, f1⟩ := copyS_c (mm := mm) (S := 26) (S2 := 252 + 200 * k) (by omega)
      have hC1 : StC (cS m1 26) ol V R na P O xx := StC_sm s1 ok hC
      obtain ⟨m2, e2, s2, f2, q2⟩ := carries1_f (mm := m1) (k := k) (by omega)
      have hF2 : StF (fS m2) V R na P O xx := StF_sm s2 ok (StF_sm (fun j hj z hz => by
        show m1.1 1139 _ = mm.1 1139 _
        rw [f1 1139 (by decide)]) ok hF)
      have fc : FC mm m1 := fun i i1 _ => f1 i (by omega)
      have ff : FF m1 m2 := ⟨fun i hi => f2 i (by omega) (by omega) (by omega) (by omega), q2 31 (by decide) (by decide) (by decide), q2 35 (by decide) (by decide) (by decide), q2 40 (by decide) (by decide) (by decide), fun i i1 i2 => f2 i (by omega) (by omega) (by omega) (by omega), fun z _ => by rw [f2 1139 (by decide) (by decide) (by decide) (by decide)], f2 1140 (by decide) (by decide) (by decide) (by decide)⟩
      refine ⟨nI (R.1 0 1), m1, m2, ?_, ?_, Inv_act hInv fc ff hC1 hF2 ok⟩
      · unfold f_X11_back
        rw [K4]
        simp (disch := omega) only [↓reduceIte, decide_true, decide_false, Bool.false_eq_true, eq_self, s10, s01, cont_ok, has_ok, b2i0, b2i1, reduceCtorEq, Nat.or_zero, Nat.add_zero, sN_le, sN_lt, sN_eq, sN_lt0, sN_le0, sN_0le, sN_0lt, sN_eq0, sN_cl, sN_ad, sN_a1, K2, K3, K4, K5, K6, K7, K8, K9, K12, K16, K20, false_or, or_false, if_neg, if_pos, vl_s, bi1_s, bi2_s, nx_or, nx_and, nx_sh, h1]
        rw [e1, bi1_s, show m1.1 33 1 = nI (R.1 0 1) from (StC_ra hC1).1]
      · have h2' : m1.1 1140 k = 1 := by rw [f1 1140 (by decide)]; exact h2
        unfold f_X12_back
        rw [hin, if_neg (by decide)]
        simp (disch := omega) only [↓reduceIte, decide_true, decide_false, Bool.false_eq_true, eq_self, s10, s01, cont_ok, has_ok, b2i0, b2i1, reduceCtorEq, Nat.or_zero, Nat.add_zero, sN_le, sN_lt, sN_eq, sN_lt0, sN_le0, sN_0le, sN_0lt, sN_eq0, sN_cl, sN_ad, sN_a1, K2, K3, K4, K5, K6, K7, K8, K9, K12, K16, K20, false_or, or_false, if_neg, if_pos, vl_s, bi1_s, bi2_s, nx_or, nx_and, nx_sh, h2']
        rw [e2, bi1_s, show m2.1 1089 6 = nI (R.1 0 1) from (StF_ra hF2).1]
  · refine ⟨-1, mm, mm, ?_, ?_, hInv⟩
    · unfold f_X11_back
      by_cases h0 : x < 0
      · rw [if_pos h0]
      · rw [if_neg h0, if_pos (show (4 : Int32) ≤ x from hx.elim (fun z => absurd z h0) (fun z => z))]
    · unfold f_X12_back
      rw [hin, if_pos rfl]
