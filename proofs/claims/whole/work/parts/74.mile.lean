/-! PHASE 2: undo, mile, offer -/
theorem sm_undo_ok : sm_undo Inv := by
  intro mm hInv
  obtain ⟨ol, V, R, na, P, O, xx, hC, hF, ok⟩ := SimS_St hInv.2.2.1
  have ov := ok.1.1
  have hn := ok.2.2.2.1
  have ho := ok.2.2.1
  have e4 : mm.1 26 4 = nI na := hC.2.2.2.1
  have e3 : mm.1 26 3 = nI ol := hC.2.2.1
  have e55 : mm.1 1088 55 = nI na := hF.2.2.1
  unfold f_X11_undo
  rw [e4]
  by_cases c : na = 0
  · refine ⟨-2, mm, mm, ?_, ?_, hInv⟩
    · rw [if_neg (by rw [K1, sN_le (by decide) (by omega)]; omega)]
    · unfold f_X12_undo
      rw [e55, c, if_pos (show nI 0 = 0 from rfl)]
  · obtain ⟨a, rfl⟩ : ∃ a, na = a + 1 := ⟨na - 1, by omega⟩
    have okP := ok.2.2.2.2.2.2.2 a (by omega)
    have hlt : (ol + a) % 20 < 20 := Nat.mod_lt _ (by decide)
    obtain ⟨m1, hm1⟩ : ∃ m1, m1 = wI mm 26 4 (nI a) := ⟨_, rfl⟩
    have f1 : ∀ i, ¬ i = 26 → m1.1 i = mm.1 i := fun i hi => by rw [hm1, wI_ne hi]
    obtain ⟨m2, c1, c2, c3⟩ := copyR_c (mm := m1) (r := 33) (r2 := 26 + 20 + 9 * ((ol + a) % 20)) (v := 27) (v2 := 27) (by omega)
    have c3' : smR (rwC m2 33) (rwC m1 (26 + 20 + 9 * ((ol + a) % 20))) := c3
    rw [Nat.add_assoc] at c3'
    have ei : nI (ol + a) - nI (ol + a) / nI 20 * nI 20 = nI ((ol + a) % 20) := nI_mod (by omega) (by decide) (by decide)
    have hP := hC.2.2.2.2.2.2 a (by omega)
    rw [cR_rw] at hP
    have r2 : raC (rwC m2 33) V (P a) := smR_C c3' ov okP (raC_eq (fun j hj => f1 _ (by omega)) hP)
    have e2 : f_X9_recall mm = some m2 := by
      unfold f_X9_recall
      rw [e4, if_neg (by rw [sN_le0 (by omega)]; omega), nI_s1, vl_s, ← hm1, show m1.1 26 3 = nI ol by rw [hm1, wI_pl (by decide)]; exact e3, show m1.1 26 4 = nI a by rw [hm1, wI_at]]
      simp (disch := omega) only [↓reduceIte, decide_true, decide_false, Bool.false_eq_true, eq_self, s10, s01, cont_ok, has_ok, b2i0, b2i1, reduceCtorEq, Nat.or_zero, Nat.add_zero, sN_le, sN_lt, sN_eq, sN_lt0, sN_le0, sN_0le, sN_0lt, sN_eq0, sN_cl, sN_ad, sN_a1, K2, K3, K4, K5, K6, K7, K8, K9, K12, K16, K20, false_or, or_false, if_neg, if_pos, vl_s, bi1_s, bi2_s, nx_or, nx_and, nx_sh]
      rw [ei]
      simp (disch := omega) only [↓reduceIte, decide_true, decide_false, Bool.false_eq_true, eq_self, s10, s01, cont_ok, has_ok, b2i0, b2i1, reduceCtorEq, Nat.or_zero, Nat.add_zero, sN_le, sN_lt, sN_eq, sN_lt0, sN_le0, sN_0le, sN_0lt, sN_eq0, sN_cl, sN_ad, sN_a1, K2, K3, K4, K5, K6, K7, K8, K9, K12, K16, K20, false_or, or_false, if_neg, if_pos, vl_s, bi1_s, bi2_s, nx_or, nx_and, nx_sh]
      rw [c1, bi1_s]
    have sC : StC (cS m1 26) ol V R a P O xx := by
      obtain ⟨h1, h2, h3, h4, h5, h6, h7⟩ := hC
      have g : ∀ j, ¬ j = 0 → cS m1 26 j = cS mm 26 j := fun j hj => by
        funext k
        show m1.1 (26 + j) k = mm.1 (26 + j) k
        rw [f1 _ (by omega)]
      have g0 : ∀ k, ¬ k = 4 → cS m1 26 0 k = cS mm 26 0 k := fun k hk => by
        show m1.1 26 k = mm.1 26 k
        rw [hm1, wI_pl hk]
      refine ⟨?_, ?_, ?_, ?_, ?_, ?_, fun b hb => ?_⟩
      · unfold rvC
        rw [g 1 (by decide), g 2 (by decide), g 3 (by decide), g 4 (by decide), g 5 (by decide), g 6 (by decide)]
        exact h1
      · unfold ofC
        rw [g0 5 (by decide), g 17 (by decide), g 18 (by decide), g 19 (by decide)]
        exact h2
      · rw [g0 3 (by decide)]; exact h3
      · show m1.1 26 4 = nI a
        rw [hm1, wI_at]
      · rw [g0 9 (by decide)]; exact h5
      · rw [cR_rw] at h6 ⊢
        exact raC_eq (fun j hj => f1 _ (by omega)) h6
      · have := h7 b (by omega)
        rw [cR_rw] at this ⊢
        exact raC_eq (fun j hj => f1 _ (by omega)) this
    have sC2 : StC (cS m2 26) ol V (P a) a P O xx := StC_fr sC (fun i i1 i2 i3 => c2 i (by omega)) r2
    have fc : FC mm m2 := fun i i1 i2 => by rw [c2 i (by omega), f1 i (by omega)]
    have hF2 : StF (fS m2) V R (a + 1) P O xx := StF_cl (fun i hi => fc i (by omega) (sc_F hi)) hF
    obtain ⟨m3, hm3⟩ : ∃ m3, m3 = wI m2 1088 55 (nI a) := ⟨_, rfl⟩
    have f3 : ∀ i, ¬ i = 1088 → m3.1 i = m2.1 i := fun i hi => by rw [hm3, wI_ne hi]
    have s3 : StF (fS m3) V R a P O xx := StF_past hF2 (fun i i1 i2 => f3 i (by omega)) (by rw [hm3, wI_at]) (fun b hb => smR_F (gP_sm (fun j hj => by rw [f3 1129 (by decide)])) ov (ok.2.2.2.2.2.2.2 b (by omega)) (hF2.2.2.2.2.2 b (by omega)))
    obtain ⟨m4, e5, k1, k2, k3, k4⟩ := movesAll1_f (mm := m3) (k := a) (by omega)
    have hPf : raF (gP (fS m3) a) V (P a) := smR_F (gP_sm (fun j hj => by rw [f3 1129 (by decide)])) ov okP (hF2.2.2.2.2.2 a (by omega))
    have r4 : raF (gR (fS m4)) V (P a) := smR_F k1 ov okP hPf
    have s4 : StF (fS m4) V (P a) a P O xx := StF_raft s3 k2 (k3 55 (by decide) (by decide)) k4 r4
    have ff : FF m2 m4 := ⟨fun i hi => by rw [k2 i (by omega) (by omega) (by omega) (by omega) (by omega) (by omega) (by omega) (by omega) (by omega) (by omega), f3 i (by omega)], by rw [k3 31 (by decide) (by decide), hm3, wI_pl (by decide)], by rw [k3 35 (by decide) (by decide), hm3, wI_pl (by decide)], by rw [k3 40 (by decide) (by decide), hm3, wI_pl (by decide)], fun i i1 i2 => by rw [k2 i (by omega) (by omega) (by omega) (by omega) (by omega) (by omega) (by omega) (by omega) (by omega) (by omega), f3 i (by omega)], fun k _ => by rw [k2 1139 (by decide) (by decide) (by decide) (by decide) (by decide) (by decide) (by decide) (by decide) (by decide) (by decide), f3 1139 (by decide)], by rw [k2 1140 (by decide) (by decide) (by decide) (by decide) (by decide) (by decide) (by decide) (by decide) (by decide) (by decide), f3 1140 (by decide)]⟩
    have okk : StOk ol V (P a) a P O xx := ⟨ok.1, ok.2.1, ho, by omega, fun h => absurd (ok.2.2.2.2.1 h) (by omega), ok.2.2.2.2.2.1, okP, fun b hb => ok.2.2.2.2.2.2.2 b (by omega)⟩
    refine ⟨nI a, m2, m4, ?_, ?_, Inv_act hInv fc ff sC2 s4 okk⟩
    · rw [if_pos (by rw [K1, sN_le (by decide) (by omega)]; omega), e2, bi1_s, show m2.1 26 4 = nI a from sC2.2.2.2.1]
    · have e552 : m2.1 1088 55 = nI (a + 1) := hF2.2.2.1
      unfold f_X12_undo
      rw [e552, if_neg (by rw [sN_eq0 (by omega)]; omega), nI_s1, vl_s, ← hm3, show m3.1 1088 55 = nI a by rw [hm3, wI_at], e5, bi1_s, k3 55 (by decide) (by decide), show m3.1 1088 55 = nI a by rw [hm3, wI_at]]
theorem fill_c {mm : Mm} {a n : Nat} {x : Int32} (hn : n < 100000) : ∃ m1, f_J7_fill_53178 mm a n x = some m1 ∧ (∀ i j, ¬ (i = a ∧ j < n) → m1.1 i j = mm.1 i j) ∧ ∀ j, j < n → m1.1 a j = x := by
  have hxr := row_loop (st := f_J7_fill_53178_s5 a n x (Int32.ofNat n)) (mm := mm) (fun i => i = a) (fun _ _ => x) n (fun k m hk hm => ?_) (fun m hm => ?_)
  · obtain ⟨m1, e, g1, g2⟩ := hxr
    exact ⟨m1, by unfold f_J7_fill_53178; rw [e]; rfl, g1, fun j hj => g2 a j rfl hj⟩
  · refine ⟨wI m a k x, ?_, fun i j h => by rw [wI_get, if_neg (fun z => h z)], fun i hi => by rw [hi, wI_at]⟩
    unfold f_J7_fill_53178_s5
    show (if nI n ≤ nI k then _ else _) = _
    simp (disch := omega) only [↓reduceIte, decide_true, decide_false, Bool.false_eq_true, eq_self, s10, s01, cont_ok, has_ok, b2i0, b2i1, reduceCtorEq, Nat.or_zero, Nat.add_zero, sN_le, sN_lt, sN_eq, sN_lt0, sN_le0, sN_0le, sN_0lt, sN_eq0, sN_cl, sN_ad, sN_a1, K2, K3, K4, K5, K6, K7, K8, K9, K12, K16, K20, false_or, or_false, if_neg, if_pos, vl_s, bi1_s, bi2_s, nx_or, nx_and, nx_sh]
  · unfold f_J7_fill_53178_s5
    show (if nI n ≤ nI n then _ else _) = _
    simp (disch := omega) only [↓reduceIte, decide_true, decide_false, Bool.false_eq_true, eq_self, s10, s01, cont_ok, has_ok, b2i0, b2i1, reduceCtorEq, Nat.or_zero, Nat.add_zero, sN_le, sN_lt, sN_eq, sN_lt0, sN_le0, sN_0le, sN_0lt, sN_eq0, sN_cl, sN_ad, sN_a1, K2, K3, K4, K5, K6, K7, K8, K9, K12, K16, K20, false_or, or_false, if_neg, if_pos, vl_s, bi1_s, bi2_s, nx_or, nx_and, nx_sh]
theorem fmx0 (f : Nat) : fmx 0 f = f := by
  unfold fmx
  split <;> omega
theorem goesMile_f {mm : Mm} {V : Dat} {R : Rf} (hv : RvF mm V) (ov : RvOk V) (hr : raM mm V R) (oa : RaOk V R.1 R.2.1) (hm : R.1 0 1 < V 1 0) : ∃ m1, f_X12_goesMile mm = some (nI (mSank V (V 6 (R.1 0 1 + 1)) R), m1) ∧ raM m1 V (mil V (V 6 (R.1 0 1 + 1)) R) ∧ frM mm m1 := by
  have h99 := ov.1
  have hf9 := ov.2.2.2.2.2 (R.1 0 1 + 1) (by omega)
  obtain ⟨m1, e, h1, h2, h3, h4⟩ := mileBy_f hv ov hr oa hm hf9
  refine ⟨m1, ?_, h1, h2⟩
  unfold f_X12_goesMile
  rw [hr.1.1, sN_a1, forceAt_f hv (by omega), bi1_s, e, bi2_s]
theorem sm_mile_ok : sm_mile Inv := by
  intro mm hInv
  obtain ⟨ol, V, R, na, P, O, xx, hC, hF, ok⟩ := SimS_St hInv.2.2.1
  have hv := StC_rv hC
  have hr := StC_ra hC
  have hvF := rvF_RvF hF.1 ok.1
  have hrF := StF_ra hF
  have ov := ok.1.1
  have oa := ok.2.2.2.2.2.2.1
  have h99 := ov.1
  have hmi := oa.1
  have el : f_X4_milesLeft mm 33 27 = nI (V 1 0 - R.1 0 1) := by
    unfold f_X4_milesLeft
    rw [show mm.1 27 0 = nI (V 1 0) from hv.1.1, show mm.1 33 1 = nI (R.1 0 1) from hr.1, nI_sub' hmi]
  unfold f_X11_mile
  rw [el]
  by_cases c : R.1 0 1 < V 1 0
  · rw [if_pos (by rw [K1, sN_le (by decide) (by omega)]; omega)]
    obtain ⟨m1, q1, q2, q3, q4, q5⟩ := act_ok hInv hC hF ok (by omega)
    obtain ⟨ma, a1, a2, a3⟩ := fill_c (mm := m1) (a := 251) (n := 3) (x := 0) (by decide)
    have fa : ∀ i, ¬ i = 251 → ma.1 i = m1.1 i := fun i hi => by
      funext j
      exact a2 i j (fun z => hi z.1)
    have ra : raC (rwC ma 33) V R := raC_eq (fun j hj => fa _ (by omega)) q2
    have va : RvC ma 27 V := RvC_eq (fun j hj => fa _ (by omega)) q3
    obtain ⟨m2, w1, w2, w3, w4, w5, w6⟩ := drift_c va ov ra oa (Or.inl rfl) (d := 0) (by decide) c
    rw [fmx0] at w2 w4
    obtain ⟨m3, u1, u2, u3, u4⟩ := q5 m2 _ w2 (fun i i1 i2 i3 i4 => by rw [w3 i i1 i2 i3 i4, fa i i4]) (mil_ok oa c _)
    obtain ⟨m4, v1, v2, v3⟩ := goesMile_f u3 ov u2 oa c
    refine ⟨nI (mSank V (V 6 (R.1 0 1 + 1)) R), m2, m4, ?_, ?_, u4 m4 v2 v3.k2 v3.2.1 v3.2.2⟩
    · rw [q1, bi1_s, a1, bi1_s, show (0 : Int32) = nI 0 from rfl, w1, bi1_s, w4, a3 0 (by decide), Int32.zero_add]
    · have hf2 : ∀ i, 1088 ≤ i → m2.1 i = mm.1 i := fun i hi => by rw [w3 i (by omega) (by omega) (by omega) (by omega), fa i (by omega), q4 i (by omega) (sc_F hi)]
      have hF2 := StF_cl hf2 hF
      have hv2 := rvF_RvF hF2.1 ok.1
      unfold f_X12_mile f_X12_milesLeft
      rw [isRiver_ok hv2.1.1 h99, if_neg (show ¬ V 1 0 = 0 by omega), if_neg (by decide), hv2.1.1, (StF_ra hF2).1, nI_sub' hmi, if_neg (by rw [sN_eq0 (by omega)]; omega), u1, bi1_s, v1, bi2_s]
  · rw [if_neg (by rw [K1, sN_le (by decide) (by omega)]; omega)]
    refine ⟨-1, mm, mm, rfl, ?_, hInv⟩
    unfold f_X12_mile f_X12_milesLeft
    rw [isRiver_ok hvF.1.1 h99]
    by_cases d : V 1 0 = 0
    · rw [if_pos d, if_pos rfl]
    · rw [if_neg d, if_neg (by decide), hvF.1.1, hrF.1, nI_sub' hmi, if_pos (by rw [sN_eq0 (by omega)]; omega)]
/-! offers -/
theorem StC_of {mm m1 : Mm} {ol : Nat} {V : Dat} {R : Rf} {na : Nat} {P : Nat → Rf} {O O' : Dat} {x : Int32} (h : StC (cS mm 26) ol V R na P O x) (hf : ∀ i, ¬ i = 26 → ¬ i = 43 → ¬ i = 44 → ¬ i = 45 → m1.1 i = mm.1 i) (h0 : ∀ k, ¬ k = 5 → m1.1 26 k = mm.1 26 k) (ho : ofC (cS m1 26) O') : StC (cS m1 26) ol V R na P O' x := by
  obtain ⟨h1, h2, h3, h4, h5, h6, h7⟩ := h
  have g : ∀ j, 1 ≤ j → j < 17 → cS m1 26 j = cS mm 26 j := fun j j1 j2 => by
    funext k
    show m1.1 (26 + j) k = mm.1 (26 + j) k
    rw [hf _ (by omega) (by omega) (by omega) (by omega)]
  refine ⟨?_, ho, (h0 3 (by decide)).trans h3, (h0 4 (by decide)).trans h4, (h0 9 (by decide)).trans h5, ?_, fun b hb => ?_⟩
  · unfold rvC
    rw [g 1 (by decide) (by decide), g 2 (by decide) (by decide), g 3 (by decide) (by decide), g 4 (by decide) (by decide), g 5 (by decide) (by decide), g 6 (by decide) (by decide)]
    exact h1
  · rw [cR_rw] at h6 ⊢
    exact raC_eq (fun j hj => hf _ (by omega) (by omega) (by omega) (by omega)) h6
  · have := h7 b (by omega)
    rw [cR_rw] at this ⊢
    exact raC_eq (fun j hj => hf _ (by omega) (by omega) (by omega) (by omega)) this
theorem StF_of {mm m1 : Mm} {V : Dat} {R : Rf} {na : Nat} {P : Nat → Rf} {O O' : Dat} {x : Int32} (h : StF (fS mm) V R na P O x) (hf : ∀ i, ¬ i = 1089 → ¬ i = 1104 → ¬ i = 1105 → ¬ i = 1106 → m1.1 i = mm.1 i) (h0 : ∀ k, ¬ k = 7 → m1.1 1089 k = mm.1 1089 k) (ho : ofF (fS m1) O') : StF (fS m1) V R na P O' x := by
  obtain ⟨h1, h2, h3, h4, h5, h6⟩ := h
  have g : ∀ j, 2 ≤ j → j < 16 → fS m1 j = fS mm j := fun j j1 j2 => by
    funext k
    unfold fS
    rw [if_neg (by omega), if_neg (by omega), if_neg (by omega), if_neg (by omega), hf _ (by omega) (by omega) (by omega) (by omega)]
  have g1 : ∀ k, ¬ k = 7 → fS m1 1 k = fS mm 1 k := h0
  have g19 : fS m1 19 = fS mm 19 := by
    funext k
    show m1.1 1129 k = mm.1 1129 k
    rw [hf 1129 (by decide) (by decide) (by decide) (by decide)]
  refine ⟨?_, ho, ?_, (g1 8 (by decide)).trans h4, ?_, fun a ha => ?_⟩
  · unfold rvF
    rw [g1 0 (by decide), g1 2 (by decide), g1 3 (by decide), g1 5 (by decide), g 2 (by decide) (by decide), g 3 (by decide) (by decide), g 6 (by decide) (by decide), g 8 (by decide) (by decide), g 14 (by decide) (by decide), g 15 (by decide) (by decide)]
    exact h1
  · show m1.1 1088 55 = _
    rw [hf 1088 (by decide) (by decide) (by decide) (by decide)]; exact h3
  · have h5' : RaF mm V R.1 R.2.1 R.2.2 ∧ ∀ t, t < V 1 2 → mm.1 1098 t = if R.1 4 t = 2 then nI (R.1 5 t) else -2 := h5
    refine raM_gR (⟨⟨(h0 6 (by decide)).trans h5'.1.1, (h0 1 (by decide)).trans h5'.1.2.1, ?_, fun o ho => ?_, fun t ht => ?_⟩, fun t ht => ?_⟩ : raM m1 V R)
    · rw [h0 4 (by decide), hf 1099 (by decide) (by decide) (by decide) (by decide), hf 1100 (by decide) (by decide) (by decide) (by decide), hf 1101 (by decide) (by decide) (by decide) (by decide)]; exact h5'.1.2.2.1
    · rw [hf 1092 (by decide) (by decide) (by decide) (by decide)]; exact h5'.1.2.2.2.1 o ho
    · rw [hf 1093 (by decide) (by decide) (by decide) (by decide), hf 1095 (by decide) (by decide) (by decide) (by decide), hf 1097 (by decide) (by decide) (by decide) (by decide)]; exact h5'.1.2.2.2.2 t ht
    · rw [hf 1098 (by decide) (by decide) (by decide) (by decide)]; exact h5'.2 t ht
  · rw [gP_eq g19]; exact h6 a ha
theorem FF_of {m m2 : Mm} (h : ∀ i, ¬ i = 1089 → ¬ i = 1104 → ¬ i = 1105 → ¬ i = 1106 → m2.1 i = m.1 i) : FF m m2 := ⟨fun i hi => h i (by omega) (by omega) (by omega) (by omega), by rw [h 1088 (by decide) (by decide) (by decide) (by decide)], by rw [h 1088 (by decide) (by decide) (by decide) (by decide)], by rw [h 1088 (by decide) (by decide) (by decide) (by decide)], fun i i1 i2 => h i (by omega) (by omega) (by omega) (by omega), fun k _ => by rw [h 1139 (by decide) (by decide) (by decide) (by decide)], h 1140 (by decide) (by decide) (by decide) (by decide)⟩
theorem sm_offer_ok : sm_offer Inv := by
  intro mm x1 x2 x3 hInv
  obtain ⟨ol, V, R, na, P, O, xx, hC, hF, ok⟩ := SimS_St hInv.2.2.1
  have hv := StC_rv hC
  have hvF := rvF_RvF hF.1 ok.1
  have ov := ok.1.1
  have h99 := ov.1
  have hf6 := ok.2.1.1
  have e5 : mm.1 26 5 = nI (O 0 0) := hC.2.1.1
  have e7 : mm.1 1089 7 = nI (O 0 0) := hF.2.1.1
  by_cases w : x1 = -1
  · have sC : StC (cS (wI mm 26 5 0) 26) ol V R na P (fun j k => if j = 0 then 0 else O j k) xx := StC_of hC (fun i i1 _ _ _ => wI_ne i1) (fun k hk => wI_pl hk) ⟨wI_at _ _ _ _, fun k hk => absurd hk (Nat.not_lt_zero _)⟩
    have fc : FC mm (wI mm 26 5 0) := fun i i1 _ => wI_ne (by omega)
    have hF2 : StF (fS (wI mm 26 5 0)) V R na P O xx := StF_cl (fun i hi => fc i (by omega) (sc_F hi)) hF
    have sF : StF (fS (wI (wI mm 26 5 0) 1089 7 0)) V R na P (fun j k => if j = 0 then 0 else O j k) xx := StF_of hF2 (fun i i1 _ _ _ => wI_ne i1) (fun k hk => wI_pl hk) ⟨wI_at _ _ _ _, fun k hk => absurd hk (Nat.not_lt_zero _)⟩
    have okk : StOk ol V R na P (fun j k => if j = 0 then 0 else O j k) xx := ⟨ok.1, ⟨Nat.zero_le _, fun k hk => absurd hk (Nat.not_lt_zero _)⟩, ok.2.2⟩
    refine ⟨0, wI mm 26 5 0, wI (wI mm 26 5 0) 1089 7 0, ?_, ?_, Inv_act hInv fc (FF_of (fun i i1 _ _ _ => wI_ne i1)) sC sF okk⟩
    · unfold f_X11_offer
      rw [if_pos w]
      rfl
    · unfold f_X12_offer
      rw [if_pos w]
      rfl
  · unfold f_X11_offer
    rw [if_neg w, hasRiver_ok hv.1.1 h99, e5]
    have refn : (V 1 0 = 0 ∨ f_X12_in x1.toInt64 (0 : Int64) (50 : Int64) = 0 ∨ f_X12_in x2.toInt64 (0 : Int64) (99 : Int64) = 0 ∨ f_X12_in x3.toInt64 (0 : Int64) (9 : Int64) = 0 ∨ O 0 0 = 6) → f_X12_offer mm x1 x2 x3 = some (-2, mm) := fun h => by
      unfold f_X12_offer
      rw [if_neg w, isRiver_ok hvF.1.1 h99]
      by_cases c1 : V 1 0 = 0
      · rw [if_pos c1, if_pos rfl]
      · rw [if_neg c1, if_neg (by decide)]
        by_cases c2 : f_X12_in x1.toInt64 (0 : Int64) (50 : Int64) = 0
        · rw [if_pos c2]
        · rw [if_neg c2]
          by_cases c3 : f_X12_in x2.toInt64 (0 : Int64) (99 : Int64) = 0
          · rw [if_pos c3]
          · rw [if_neg c3]
            by_cases c4 : f_X12_in x3.toInt64 (0 : Int64) (9 : Int64) = 0
            · rw [if_pos c4]
            · rw [if_neg c4]
              rcases h with h | h | h | h | h
              · exact absurd h c1
              · exact absurd h c2
              · exact absurd h c3
              · exact absurd h c4
              · rw [e7, h, if_pos (show nI 6 = 6 from rfl)]
    have neg : (V 1 0 = 0 ∨ f_X12_in x1.toInt64 (0 : Int64) (50 : Int64) = 0 ∨ f_X12_in x2.toInt64 (0 : Int64) (99 : Int64) = 0 ∨ f_X12_in x3.toInt64 (0 : Int64) (9 : Int64) = 0 ∨ O 0 0 = 6) → ∃ r m1 m2, some ((-2 : Int32), mm) = some (r, m1) ∧ f_X12_offer m1 x1 x2 x3 = some (r, m2) ∧ Inv m2 := fun h => ⟨-2, mm, mm, rfl, refn h, hInv⟩
    by_cases c1 : V 1 0 = 0
    · rw [if_pos c1, if_pos rfl]
      exact neg (Or.inl c1)
    · rw [if_neg c1, if_neg (by decide)]
      by_cases c6 : O 0 0 = 6
      · rw [if_pos (by rw [K6, sN_le (by decide) (by omega)]; omega)]
        exact neg (Or.inr (Or.inr (Or.inr (Or.inr c6))))
      · rw [if_neg (by rw [K6, sN_le (by decide) (by omega)]; omega)]
        rcases rng x1 0 50 (by decide) (by decide) (l := (0 : Int64)) (h := (50 : Int64)) (by decide) (by decide) with ⟨w1, p1, p2, rfl, p3⟩ | ⟨p1, p2⟩
        · rw [if_neg (nI_nn w1 (by omega)), if_pos (by rw [show (50 : Int32) = nI 50 from rfl, sN_le (by omega) (by decide)]; exact p2)]
          rcases rng x2 0 99 (by decide) (by decide) (l := (0 : Int64)) (h := (99 : Int64)) (by decide) (by decide) with ⟨w2, p4, p5, rfl, p6⟩ | ⟨p4, p5⟩
          · rw [if_neg (nI_nn w2 (by omega)), if_neg (by rw [show (99 : Int32) = nI 99 from rfl, sN_lt (by decide) (by omega)]; omega)]
            rcases rng x3 0 9 (by decide) (by decide) (l := (0 : Int64)) (h := (9 : Int64)) (by decide) (by decide) with ⟨w3, p7, p8, rfl, p9⟩ | ⟨p7, p8⟩
            · rw [if_neg (nI_nn w3 (by omega)), if_pos (by rw [K9, sN_le (by omega) (by decide)]; exact p8)]
              obtain ⟨n, hn⟩ : ∃ n, n = O 0 0 := ⟨_, rfl⟩
              rw [← hn] at e5 e7 hf6 c6
              obtain ⟨O', hO'⟩ : ∃ O' : Dat, O' = fun j k => if j = 0 then n + 1 else if k = n then (if j = 1 then w1 else if j = 2 then w2 else w3) else O j k := ⟨_, rfl⟩
              have o0 : O' 0 0 = n + 1 := by rw [hO']; rfl
              have on : O' 1 n = w1 ∧ O' 2 n = w2 ∧ O' 3 n = w3 := by
                rw [hO']
                exact ⟨by show (if n = n then w1 else _) = _; rw [if_pos rfl], by show (if n = n then w2 else _) = _; rw [if_pos rfl], by show (if n = n then w3 else _) = _; rw [if_pos rfl]⟩
              have oo : ∀ k, ¬ k = n → O' 1 k = O 1 k ∧ O' 2 k = O 2 k ∧ O' 3 k = O 3 k := fun k hk => by
                rw [hO']
                exact ⟨by show (if k = n then w1 else _) = _; rw [if_neg hk], by show (if k = n then w2 else _) = _; rw [if_neg hk], by show (if k = n then w3 else _) = _; rw [if_neg hk]⟩
              clear hO'
              obtain ⟨m1, hm1⟩ : ∃ m1, m1 = wI (wI (wI (wI mm 43 n (nI w1)) 44 n (nI w2)) 45 n (nI w3)) 26 5 (nI (n + 1)) := ⟨_, rfl⟩
              have ea : f_X9_addOffer mm (nI w1) (nI w2) (nI w3) = some m1 := by
                unfold f_X9_addOffer
                rw [e5]
                simp (disch := omega) only [↓reduceIte, decide_true, decide_false, Bool.false_eq_true, eq_self, s10, s01, cont_ok, has_ok, b2i0, b2i1, reduceCtorEq, Nat.or_zero, Nat.add_zero, sN_le, sN_lt, sN_eq, sN_lt0, sN_le0, sN_0le, sN_0lt, sN_eq0, sN_cl, sN_ad, sN_a1, K2, K3, K4, K5, K6, K7, K8, K9, K12, K16, K20, false_or, or_false, if_neg, if_pos, vl_s, bi1_s, bi2_s, nx_or, nx_and, nx_sh, wI_ne (show 26 ≠ 43 by decide), wI_ne (show 26 ≠ 44 by decide), wI_ne (show 26 ≠ 45 by decide), e5]
                rw [hm1]
              have g1 : ∀ i, ¬ i = 26 → ¬ i = 43 → ¬ i = 44 → ¬ i = 45 → m1.1 i = mm.1 i := fun i i1 i2 i3 i4 => by rw [hm1, wI_ne i1, wI_ne i4, wI_ne i3, wI_ne i2]
              have sC : StC (cS m1 26) ol V R na P O' xx := by
                refine StC_of hC g1 (fun k hk => by rw [hm1, wI_pl hk, wI_ne (by decide), wI_ne (by decide), wI_ne (by decide)]) ⟨?_, fun k hk => ?_⟩
                · show m1.1 26 5 = nI (O' 0 0)
                  rw [o0, hm1, wI_at]
                · rw [o0] at hk
                  show m1.1 43 k = _ ∧ m1.1 44 k = _ ∧ m1.1 45 k = _
                  rw [hm1]
                  simp (disch := omega) only [wI_ne, wI_sm]
                  by_cases d : k = n
                  · rw [if_pos d, if_pos d, if_pos d, d, on.1, on.2.1, on.2.2]
                    exact ⟨rfl, rfl, rfl⟩
                  · rw [if_neg d, if_neg d, if_neg d, (oo k d).1, (oo k d).2.1, (oo k d).2.2]
                    exact hC.2.1.2 k (by omega)
              have fc : FC mm m1 := fun i i1 _ => g1 i (by omega) (by omega) (by omega) (by omega)
              have hF2 : StF (fS m1) V R na P O xx := StF_cl (fun i hi => fc i (by omega) (sc_F hi)) hF
              have e72 : m1.1 1089 7 = nI n := by rw [fc 1089 (by decide) (sc_F (by decide))]; exact e7
              obtain ⟨m2, hm2⟩ : ∃ m2, m2 = wI (wI (wI (wI m1 1104 n (nI w1)) 1105 n (nI w2)) 1106 n (nI w3)) 1089 7 (nI (n + 1)) := ⟨_, rfl⟩
              have g2 : ∀ i, ¬ i = 1089 → ¬ i = 1104 → ¬ i = 1105 → ¬ i = 1106 → m2.1 i = m1.1 i := fun i i1 i2 i3 i4 => by rw [hm2, wI_ne i1, wI_ne i4, wI_ne i3, wI_ne i2]
              have sF : StF (fS m2) V R na P O' xx := by
                refine StF_of hF2 g2 (fun k hk => by rw [hm2, wI_pl hk, wI_ne (by decide), wI_ne (by decide), wI_ne (by decide)]) ⟨?_, fun k hk => ?_⟩
                · show m2.1 1089 7 = nI (O' 0 0)
                  rw [o0, hm2, wI_at]
                · rw [o0] at hk
                  show m2.1 1104 k = _ ∧ m2.1 1105 k = _ ∧ m2.1 1106 k = _
                  rw [hm2]
                  simp (disch := omega) only [wI_ne, wI_sm]
                  by_cases d : k = n
                  · rw [if_pos d, if_pos d, if_pos d, d, on.1, on.2.1, on.2.2]
                    exact ⟨rfl, rfl, rfl⟩
                  · rw [if_neg d, if_neg d, if_neg d, (oo k d).1, (oo k d).2.1, (oo k d).2.2]
                    exact hF2.2.1.2 k (by omega)
              have okk : StOk ol V R na P O' xx := by
                refine ⟨ok.1, ⟨by omega, fun k hk => ?_⟩, ok.2.2⟩
                by_cases d : k = n
                · rw [d, on.1, on.2.1, on.2.2]
                  exact ⟨p2, p5, p8⟩
                · rw [(oo k d).1, (oo k d).2.1, (oo k d).2.2]
                  exact ok.2.1.2 k (by omega)
              refine ⟨nI (n + 1), m1, m2, ?_, ?_, Inv_act hInv fc (FF_of g2) sC sF okk⟩
              · rw [ea, bi1_s, show m1.1 26 5 = nI (n + 1) by rw [hm1, wI_at]]
              · have hv2 := rvF_RvF hF2.1 ok.1
                unfold f_X12_offer
                rw [if_neg w, isRiver_ok hv2.1.1 h99, if_neg c1, if_neg (by decide), p3, if_neg (by decide), p6, if_neg (by decide), p9, if_neg (by decide), e72]
                simp (disch := omega) only [↓reduceIte, decide_true, decide_false, Bool.false_eq_true, eq_self, s10, s01, cont_ok, has_ok, b2i0, b2i1, reduceCtorEq, Nat.or_zero, Nat.add_zero, sN_le, sN_lt, sN_eq, sN_lt0, sN_le0, sN_0le, sN_0lt, sN_eq0, sN_cl, sN_ad, sN_a1, K2, K3, K4, K5, K6, K7, K8, K9, K12, K16, K20, false_or, or_false, if_neg, if_pos, vl_s, bi1_s, bi2_s, nx_or, nx_and, nx_sh, wI_ne (show 1089 ≠ 1104 by decide), wI_ne (show 1089 ≠ 1105 by decide), wI_ne (show 1089 ≠ 1106 by decide), e72]
                rw [hm2]
            · rcases p7 with p7 | p7
              · rw [if_pos (show x3 < 0 from p7)]
                exact neg (Or.inr (Or.inr (Or.inr (Or.inl p8))))
              · rw [if_neg (show ¬ x3 ≤ 9 from fun z => by rw [Int32.le_iff_toInt_le] at z; rw [Int32.lt_iff_toInt_lt] at p7; exact absurd p7 (by show ¬ (9 : Int32).toInt < x3.toInt; omega))]
                by_cases d : x3 < 0
                · rw [if_pos d]
                  exact neg (Or.inr (Or.inr (Or.inr (Or.inl p8))))
                · rw [if_neg d]
                  exact neg (Or.inr (Or.inr (Or.inr (Or.inl p8))))
          · rcases p4 with p4 | p4
            · rw [if_pos (show x2 < 0 from p4)]
              exact neg (Or.inr (Or.inr (Or.inl p5)))
            · rw [if_pos (show (99 : Int32) < x2 from p4)]
              by_cases d : x2 < 0
              · rw [if_pos d]
                exact neg (Or.inr (Or.inr (Or.inl p5)))
              · rw [if_neg d]
                exact neg (Or.inr (Or.inr (Or.inl p5)))
        · rcases p1 with p1 | p1
          · rw [if_pos (show x1 < 0 from p1)]
            exact neg (Or.inr (Or.inl p2))
          · rw [if_neg (show ¬ x1 ≤ 50 from fun z => by rw [Int32.le_iff_toInt_le] at z; rw [Int32.lt_iff_toInt_lt] at p1; exact absurd p1 (by show ¬ (50 : Int32).toInt < x1.toInt; omega))]
            by_cases d : x1 < 0
            · rw [if_pos d]
              exact neg (Or.inr (Or.inl p2))
            · rw [if_neg d]
              exact neg (Or.inr (Or.inl p2))
