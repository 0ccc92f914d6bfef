/-! PHASE 2: ahead, sinks, drawn -/
noncomputable def milN (V : Dat) (R : Rf) : Nat → Rf
  | 0 => R
  | n + 1 => mil V (V 6 ((milN V R n).1 0 1 + 1)) (milN V R n)
theorem milN_mile (V : Dat) (R : Rf) : ∀ n, (milN V R n).1 0 1 = R.1 0 1 + n
  | 0 => rfl
  | n + 1 => by
    show (mil V _ (milN V R n)).1 0 1 = _
    rw [mil_mile, milN_mile V R n]
    rfl
theorem milN_ok {V : Dat} {R : Rf} (h : RaOk V R.1 R.2.1) : ∀ n, R.1 0 1 + n ≤ V 1 0 → RaOk V (milN V R n).1 (milN V R n).2.1
  | 0, _ => h
  | n + 1, hn => mil_ok (milN_ok h n (by omega)) (by rw [milN_mile]; omega) _
/-- a loop that may stop ahead of its end -/
theorem lp_stop {σ ρ : Type} {st : σ → Option (σ ⊕ ρ)} (P : Nat → σ → Prop) (Q : ρ → Prop) (n : Nat) (h : ∀ k x, k ≤ n → P k x → (k < n ∧ ∃ y, st x = some (.inl y) ∧ P (k + 1) y) ∨ ∃ r, st x = some (.inr r) ∧ Q r) : ∀ (k : Nat) (x : σ), k ≤ n → P k x → ∃ r, lp st x = some r ∧ Q r := by
  intro k x hk hP
  obtain ⟨d, hd⟩ : ∃ d, n = k + d := ⟨n - k, by omega⟩
  revert k x
  induction d with
  | zero =>
    intro k x hk hP hd
    rcases h k x hk hP with ⟨h1, _⟩ | ⟨r, h1, h2⟩
    · exact absurd h1 (by omega)
    · exact ⟨r, lp_end h1, h2⟩
  | succ d ih =>
    intro k x hk hP hd
    rcases h k x hk hP with ⟨h1, y, h2, h3⟩ | ⟨r, h1, h2⟩
    · obtain ⟨r, h4, h5⟩ := ih (k + 1) y (by omega) h3 (by omega)
      exact ⟨r, (lp_go h2).trans h4, h5⟩
    · exact ⟨r, lp_end h1, h2⟩
theorem tryAhead_c {mm : Mm} {V : Dat} {R : Rf} (hv : RvC mm 27 V) (ov : RvOk V) (hr : raC (rwC mm 33) V R) (oa : RaOk V R.1 R.2.1) {n : Nat} (hn : R.1 0 1 + n ≤ V 1 0) : ∃ m1, f_X11_tryAhead mm (nI n) = some m1 ∧ raC (rwC m1 242) V (milN V R n) ∧ RvC m1 27 V ∧ ∀ i, ¬ scC i → m1.1 i = mm.1 i := by
  have h99 := ov.1
  obtain ⟨m1, e1, f1, c1⟩ := copyR_c (mm := mm) (r := 242) (r2 := 33) (v := 27) (v2 := 27) (by omega)
  have s1 : smR (rwC m1 242) (rwC mm 33) := c1
  have r1 : raC (rwC m1 242) V R := smR_C s1 ov oa hr
  have hx : ∃ w, lp (f_X11_tryAhead_s16 (nI n)) ((0 : Int32), m1) = some w ∧ raC (rwC w 242) V (milN V R n) ∧ ∀ i, ¬ scC i → w.1 i = mm.1 i := by
    refine lp_inv (fun k x => ∃ w, x = (nI k, w) ∧ raC (rwC w 242) V (milN V R k) ∧ ∀ i, ¬ scC i → w.1 i = mm.1 i) _ n (fun k x hk hx => ?_) (fun x hx => ?_) 0 _ (Nat.zero_le _) ⟨m1, rfl, r1, fun i hi => f1 i (fun z => hi (by unfold scC; omega))⟩
    · obtain ⟨w, rfl, w1, w2⟩ := hx
      have hvw : RvC w 27 V := RvC_eq (fun j hj => w2 _ (fun z => by unfold scC at z; omega)) hv
      obtain ⟨w3, e3, g1, g2, _⟩ := drift_c hvw ov w1 (milN_ok oa k (by omega)) (Or.inr rfl) (d := 0) (by decide) (by rw [milN_mile]; omega)
      rw [fmx0] at g1
      refine ⟨(nI (k + 1), w3), ?_, w3, rfl, g1, fun i hi => by rw [g2 i (fun z => hi (by unfold scC; omega)) (fun z => hi (by unfold scC; omega)) (fun z => hi (by unfold scC; omega)) (fun z => hi (by unfold scC; omega)), w2 i hi]⟩
      unfold f_X11_tryAhead_s16
      rw [show (0 : Int32) = nI 0 from rfl]
      simp (disch := omega) only [↓reduceIte, decide_true, decide_false, Bool.false_eq_true, eq_self, s10, s01, cont_ok, has_ok, b2i0, b2i1, reduceCtorEq, Nat.or_zero, Nat.add_zero, sN_le, sN_lt, sN_eq, sN_lt0, sN_le0, sN_0le, sN_0lt, sN_eq0, sN_cl, sN_ad, sN_a1, K2, K3, K4, K5, K6, K7, K8, K9, K12, K16, K20, false_or, or_false, if_neg, if_pos, vl_s, bi1_s, bi2_s, nx_or, nx_and, nx_sh]
      rw [e3, bi1_s]
    · obtain ⟨w, rfl, w1, w2⟩ := hx
      refine ⟨w, ?_, w1, w2⟩
      unfold f_X11_tryAhead_s16
      simp (disch := omega) only [↓reduceIte, decide_true, decide_false, Bool.false_eq_true, eq_self, s10, s01, cont_ok, has_ok, b2i0, b2i1, reduceCtorEq, Nat.or_zero, Nat.add_zero, sN_le, sN_lt, sN_eq, sN_lt0, sN_le0, sN_0le, sN_0lt, sN_eq0, sN_cl, sN_ad, sN_a1, K2, K3, K4, K5, K6, K7, K8, K9, K12, K16, K20, false_or, or_false, if_neg, if_pos, vl_s, bi1_s, bi2_s, nx_or, nx_and, nx_sh]
  obtain ⟨w, e, h1, h2⟩ := hx
  refine ⟨w, ?_, h1, RvC_eq (fun j hj => h2 _ (fun z => by unfold scC at z; omega)) hv, h2⟩
  unfold f_X11_tryAhead
  rw [e1, bi1_s, e, bi1_s]
theorem aheadL_f {mm : Mm} {V : Dat} {R : Rf} (hv : RvF mm V) (ov : RvOk V) (hr : raM mm V R) (oa : RaOk V R.1 R.2.1) {n : Nat} (hn : R.1 0 1 + n ≤ V 1 0) {x : Int32} : ∃ m1, lp (f_X12_ahead_s41 (nI n) x) ((0 : Int32), mm) = some m1 ∧ raM m1 V (milN V R n) ∧ frM mm m1 := by
  have h99 := ov.1
  refine lp_inv (fun k x => ∃ w, x = (nI k, w) ∧ raM w V (milN V R k) ∧ frM mm w) _ n (fun k x hk hx => ?_) (fun x hx => ?_) 0 _ (Nat.zero_le _) ⟨mm, rfl, hr, frM.rf⟩
  · obtain ⟨w, rfl, w1, w2⟩ := hx
    obtain ⟨w3, e3, g1, g2⟩ := goesMile_f (w2.rv hv) ov w1 (milN_ok oa k (by omega)) (by rw [milN_mile]; omega)
    refine ⟨(nI (k + 1), w3), ?_, w3, rfl, g1, w2.tr g2⟩
    unfold f_X12_ahead_s41
    simp (disch := omega) only [↓reduceIte, decide_true, decide_false, Bool.false_eq_true, eq_self, s10, s01, cont_ok, has_ok, b2i0, b2i1, reduceCtorEq, Nat.or_zero, Nat.add_zero, sN_le, sN_lt, sN_eq, sN_lt0, sN_le0, sN_0le, sN_0lt, sN_eq0, sN_cl, sN_ad, sN_a1, K2, K3, K4, K5, K6, K7, K8, K9, K12, K16, K20, false_or, or_false, if_neg, if_pos, vl_s, bi1_s, bi2_s, nx_or, nx_and, nx_sh]
    rw [e3, bi2_s]
  · obtain ⟨w, rfl, w1, w2⟩ := hx
    refine ⟨w, ?_, w1, w2⟩
    unfold f_X12_ahead_s41
    simp (disch := omega) only [↓reduceIte, decide_true, decide_false, Bool.false_eq_true, eq_self, s10, s01, cont_ok, has_ok, b2i0, b2i1, reduceCtorEq, Nat.or_zero, Nat.add_zero, sN_le, sN_lt, sN_eq, sN_lt0, sN_le0, sN_0le, sN_0lt, sN_eq0, sN_cl, sN_ad, sN_a1, K2, K3, K4, K5, K6, K7, K8, K9, K12, K16, K20, false_or, or_false, if_neg, if_pos, vl_s, bi1_s, bi2_s, nx_or, nx_and, nx_sh]
/-- what is kept while one looks, and laid back -/
theorem look_f {mm : Mm} {ol : Nat} {V : Dat} {R : Rf} {na : Nat} {P : Nat → Rf} {O : Dat} {x : Int32} (hF : StF (fS mm) V R na P O x) (ok : StOk ol V R na P O x) : ∃ m1, f_X12_keepsAll mm = some m1 ∧ StF (fS m1) V R na P O x ∧ FF mm m1 ∧ ∀ m2 : Mm, m2.1 1139 = m1.1 1139 → ∃ m3, f_X12_laysBack m2 = some m3 ∧ StF (fS m3) V R na P O x ∧ FF m2 m3 ∧ m3.1 1139 = m1.1 1139 := by
  obtain ⟨m1, e1, s1, p1, f1, q1⟩ := carries0_f (mm := mm) (k := 4) (by decide)
  have hF1 : StF (fS m1) V R na P O x := StF_sm (fun j hj l hl => by
    unfold fS
    by_cases c0 : j = 0
    · rw [if_pos c0, if_pos c0, q1 55 (by decide) (by decide)]
    · rw [if_neg c0, if_neg c0]
      by_cases c1 : j = 19
      · rw [if_pos c1, if_pos c1, f1 1129 (by decide) (by decide) (by decide)]
      · rw [if_neg c1, if_neg c1, f1 _ (by omega) (by omega) (by omega)]) ok hF
  have hI : StF (fI m1 4) V R na P O x := StF_sm s1 ok hF
  refine ⟨m1, ?_, hF1, ⟨fun i hi => f1 i (by omega) (by omega) (by omega), q1 31 (by decide) (by decide), q1 35 (by decide) (by decide), q1 40 (by decide) (by decide), fun i i1 i2 => f1 i (by omega) (by omega) (by omega), fun k hk => p1 k (by omega), f1 1140 (by decide) (by decide) (by decide)⟩, fun m2 h2 => ?_⟩
  · unfold f_X12_keepsAll
    rw [show (4 : Int32) = nI 4 from rfl, e1, bi1_s]
  · obtain ⟨m3, e3, s3, f3, q3⟩ := carries1_f (mm := m2) (k := 4) (by decide)
    have hI2 : StF (fI m2 4) V R na P O x := StF_sm (fun j hj l hl => by show m2.1 1139 _ = m1.1 1139 _; rw [h2]) ok hI
    refine ⟨m3, ?_, StF_sm s3 ok hI2, ⟨fun i hi => f3 i (by omega) (by omega) (by omega) (by omega), q3 31 (by decide) (by decide) (by decide), q3 35 (by decide) (by decide) (by decide), q3 40 (by decide) (by decide) (by decide), fun i i1 i2 => f3 i (by omega) (by omega) (by omega) (by omega), fun k hk => by rw [f3 1139 (by decide) (by decide) (by decide) (by decide)], f3 1140 (by decide) (by decide) (by decide) (by decide)⟩, by rw [f3 1139 (by decide) (by decide) (by decide) (by decide), h2]⟩
    unfold f_X12_laysBack
    rw [show (4 : Int32) = nI 4 from rfl, e3, bi1_s]
theorem thingsAt_f {mm : Mm} {V A : Dat} {L : Rop} {S : Int32} (hv : RvF mm V) (ov : RvOk V) (hr : RaF mm V A L S) (oa : RaOk V A L) {w : Nat} (hw : w ≤ 2) : f_X12_thingsAt mm (nI w) = some (nI (thA V A w)) := by
  have h8 := ov.2.2.1
  have hn := hv.1.2.2
  unfold f_X12_thingsAt
  rw [lpa (0 : Int32) (fun k => nI (bset (fun t => decide (A 4 t = w)) k)) (V 1 2) rfl (fun k hk => ?_) (r := nI (thA V A w)) ?_]
  · rfl
  · unfold f_X12_thingsAt_s4
    simp (disch := omega) only [hn, ↓reduceIte, decide_true, decide_false, Bool.false_eq_true, eq_self, s10, s01, cont_ok, has_ok, b2i0, b2i1, reduceCtorEq, Nat.or_zero, Nat.add_zero, sN_le, sN_lt, sN_eq, sN_lt0, sN_le0, sN_0le, sN_0lt, sN_eq0, sN_cl, sN_ad, sN_a1, K2, K3, K4, K5, K6, K7, K8, K9, K12, K16, K20, false_or, or_false, if_neg, if_pos, vl_s, bi1_s, bi2_s, nx_or, nx_and, nx_sh]
    rfl
  · have h1 := (hr.2.2.2.2 k hk).2.2
    have h2 := (oa.2.2.2.1 k hk).2.2
    unfold f_X12_thingsAt_s4 f_X12_thingsAt_j32
    simp (disch := omega) only [hn, h1, ↓reduceIte, decide_true, decide_false, Bool.false_eq_true, eq_self, s10, s01, cont_ok, has_ok, b2i0, b2i1, reduceCtorEq, Nat.or_zero, Nat.add_zero, sN_le, sN_lt, sN_eq, sN_lt0, sN_le0, sN_0le, sN_0lt, sN_eq0, sN_cl, sN_ad, sN_a1, K2, K3, K4, K5, K6, K7, K8, K9, K12, K16, K20, false_or, or_false, if_neg, if_pos, vl_s, bi1_s, bi2_s, nx_or, nx_and, nx_sh]
    by_cases hc : A 4 k = w
    · simp (disch := omega) only [hc, ↓reduceIte, decide_true, decide_false, Bool.false_eq_true, eq_self, s10, s01, cont_ok, has_ok, b2i0, b2i1, reduceCtorEq, Nat.or_zero, Nat.add_zero, sN_le, sN_lt, sN_eq, sN_lt0, sN_le0, sN_0le, sN_0lt, sN_eq0, sN_cl, sN_ad, sN_a1, K2, K3, K4, K5, K6, K7, K8, K9, K12, K16, K20, false_or, or_false, if_neg, if_pos, vl_s, bi1_s, bi2_s, nx_or, nx_and, nx_sh, bset]
    · simp (disch := omega) only [hc, ↓reduceIte, decide_true, decide_false, Bool.false_eq_true, eq_self, s10, s01, cont_ok, has_ok, b2i0, b2i1, reduceCtorEq, Nat.or_zero, Nat.add_zero, sN_le, sN_lt, sN_eq, sN_lt0, sN_le0, sN_0le, sN_0lt, sN_eq0, sN_cl, sN_ad, sN_a1, K2, K3, K4, K5, K6, K7, K8, K9, K12, K16, K20, false_or, or_false, if_neg, if_pos, vl_s, bi1_s, bi2_s, nx_or, nx_and, nx_sh, bset, Int32.or_zero]
theorem wet_f {mm : Mm} {V A : Dat} {L : Rop} {S : Int32} (hv : RvF mm V) (ov : RvOk V) (hr : RaF mm V A L S) (oa : RaOk V A L) : lp (f_X12_ahead_s75 mm 3) ((0 : Int32), (0 : Int32)) = some (nI (owA V A 2)) := by
  have h6 := ov.2.1
  have hn := hv.1.2.1
  refine lpa (0 : Int32) (fun k => nI (bset (fun t => decide (A 1 t = 2)) k)) (V 1 1) rfl (fun k hk => ?_) ?_
  · have h1 := hr.2.2.2.1 k hk
    have h2 := oa.2.2.1 k hk
    unfold f_X12_ahead_s75 f_X12_ahead_j111
    dsimp only
    rw [if_pos (rfl : (3 : Int32) = 3)]
    simp (disch := omega) only [hn, h1, ↓reduceIte, decide_true, decide_false, Bool.false_eq_true, eq_self, s10, s01, cont_ok, has_ok, b2i0, b2i1, reduceCtorEq, Nat.or_zero, Nat.add_zero, sN_le, sN_lt, sN_eq, sN_lt0, sN_le0, sN_0le, sN_0lt, sN_eq0, sN_cl, sN_ad, sN_a1, K2, K3, K4, K5, K6, K7, K8, K9, K12, K16, K20, false_or, or_false, if_neg, if_pos, vl_s, bi1_s, bi2_s, nx_or, nx_and, nx_sh]
    by_cases hc : A 1 k = 2
    · simp (disch := omega) only [hc, ↓reduceIte, decide_true, decide_false, Bool.false_eq_true, eq_self, s10, s01, cont_ok, has_ok, b2i0, b2i1, reduceCtorEq, Nat.or_zero, Nat.add_zero, sN_le, sN_lt, sN_eq, sN_lt0, sN_le0, sN_0le, sN_0lt, sN_eq0, sN_cl, sN_ad, sN_a1, K2, K3, K4, K5, K6, K7, K8, K9, K12, K16, K20, false_or, or_false, if_neg, if_pos, vl_s, bi1_s, bi2_s, nx_or, nx_and, nx_sh, bset]
    · simp (disch := omega) only [hc, ↓reduceIte, decide_true, decide_false, Bool.false_eq_true, eq_self, s10, s01, cont_ok, has_ok, b2i0, b2i1, reduceCtorEq, Nat.or_zero, Nat.add_zero, sN_le, sN_lt, sN_eq, sN_lt0, sN_le0, sN_0le, sN_0lt, sN_eq0, sN_cl, sN_ad, sN_a1, K2, K3, K4, K5, K6, K7, K8, K9, K12, K16, K20, false_or, or_false, if_neg, if_pos, vl_s, bi1_s, bi2_s, nx_or, nx_and, nx_sh, bset, Int32.or_zero]
  · unfold f_X12_ahead_s75
    simp (disch := omega) only [hn, ↓reduceIte, decide_true, decide_false, Bool.false_eq_true, eq_self, s10, s01, cont_ok, has_ok, b2i0, b2i1, reduceCtorEq, Nat.or_zero, Nat.add_zero, sN_le, sN_lt, sN_eq, sN_lt0, sN_le0, sN_0le, sN_0lt, sN_eq0, sN_cl, sN_ad, sN_a1, K2, K3, K4, K5, K6, K7, K8, K9, K12, K16, K20, false_or, or_false, if_neg, if_pos, vl_s, bi1_s, bi2_s, nx_or, nx_and, nx_sh]
    rfl
theorem nowet_f {mm : Mm} {y z : Int32} (hy : ¬ y = 3) : lp (f_X12_ahead_s75 mm y) (z, (0 : Int32)) = some z := by
  refine lp_end ?_
  unfold f_X12_ahead_s75
  dsimp only
  by_cases c : mm.1 1089 2 ≤ 0
  · rw [if_pos c]
  · rw [if_neg c, if_neg hy]
theorem sm_ahead_ok : sm_ahead Inv := by
  intro mm x w hInv
  obtain ⟨ol, V, R, na, P, O, xx, hC, hF, ok⟩ := SimS_St hInv.2.2.1
  have hv := StC_rv hC
  have hr := StC_ra hC
  have hvF := rvF_RvF hF.1 ok.1
  have hrF := StF_ra hF
  have ov := ok.1.1
  have oa := ok.2.2.2.2.2.2.1
  have h99 := ov.1
  have hmi := oa.1
  have rc : raC (rwC mm 33) V R := by
    have := hC.2.2.2.2.2.1
    rw [cR_rw] at this
    exact this
  have el : f_X4_milesLeft mm 33 27 = nI (V 1 0 - R.1 0 1) := by
    unfold f_X4_milesLeft
    rw [show mm.1 27 0 = nI (V 1 0) from hv.1.1, show mm.1 33 1 = nI (R.1 0 1) from hr.1, nI_sub' hmi]
  have elF : ∀ m : Mm, RvF m V → RaF m V R.1 R.2.1 R.2.2 → f_X12_milesLeft m = nI (V 1 0 - R.1 0 1) := fun m h1 h2 => by
    unfold f_X12_milesLeft
    rw [h1.1.1, h2.1, nI_sub' hmi]
  unfold f_X11_ahead
  rw [hasRiver_ok hv.1.1 h99, el]
  by_cases c0 : V 1 0 = 0
  · rw [if_pos c0, if_pos rfl]
    refine ⟨-1, mm, mm, rfl, ?_, hInv⟩
    unfold f_X12_ahead
    rw [isRiver_ok hvF.1.1 h99, if_pos c0, if_pos rfl]
  · rw [if_neg c0, if_neg (by decide)]
    rcases rng x 0 (V 1 0 - R.1 0 1) (by omega) (by omega) (l := (0 : Int64)) (h := (nI (V 1 0 - R.1 0 1)).toInt64) (by decide) rfl with ⟨n, n1, n2, rfl, n3⟩ | ⟨hx, hin⟩
    · rw [if_neg (nI_nn n (by omega)), if_pos (by rw [sN_le (by omega) (by omega)]; exact n2)]
      obtain ⟨m1, e1, r1, v1, f1⟩ := tryAhead_c hv ov rc oa (n := n) (by omega)
      have okN := milN_ok oa n (by omega)
      have r1' : RaC m1 242 V (milN V R n).1 (milN V R n).2.1 (milN V R n).2.2 := r1.1
      have hInv1 := Inv_sc hInv f1
      have hF1 : StF (fS m1) V R na P O xx := StF_cl (fun i hi => f1 i (sc_F hi)) hF
      have hC1 : StC (cS m1 26) ol V R na P O xx := StC_sm (smC_rf (fun j hj => by funext l; show m1.1 (26 + j) l = mm.1 (26 + j) l; rw [f1 _ (fun z => by unfold scC at z; omega)])) ok hC
      have hv1 := rvF_RvF hF1.1 ok.1
      have hr1 := StF_ra hF1
      rw [e1, bi1_s]
      obtain ⟨m2, e2, s2, ff2, bk⟩ := look_f hF1 ok
      have hv2 := rvF_RvF s2.1 ok.1
      obtain ⟨m3, e3, r3, f3⟩ := aheadL_f hv2 ov (StF_raM s2) oa (n := n) (by omega) (x := w)
      have hv3 := f3.rv hv2
      obtain ⟨m4, e4, s4, ff4, _⟩ := bk m3 (f3.1 1139 (by decide) (by decide) (by decide) (by decide) (by decide) (by decide) (by decide) (by decide) (by decide))
      have hfin : Inv m4 := Inv_act hInv1 (fun i _ _ => rfl) (ff2.tr (f3.FF.tr ff4)) hC1 s4 ok
      have hhead : f_X12_ahead m1 (nI n) w = if (f_X12_in (w.toInt64) (0 : Int64) (3 : Int64)) = 0 then some ((-1 : Int32), m1) else if (3 : Int32) ≤ w then f_X12_ahead_j71 m3 w (0 : Int32) else bi1 (f_X12_thingsAt m3 w) fun r_26 => f_X12_ahead_j71 m3 w r_26 := by
        unfold f_X12_ahead
        rw [isRiver_ok hv1.1.1 h99, if_neg c0, if_neg (by decide), elF m1 hv1 hr1, n3, if_neg (by decide), e2, bi1_s, e3, bi1_s]
      rcases in03 w with ⟨k, hk, rfl, hin⟩ | ⟨hw, hin⟩
      · rw [hin, if_neg (by decide)] at hhead
        have hc : k = 0 ∨ k = 1 ∨ k = 2 ∨ k = 3 := by omega
        rcases hc with rfl | rfl | rfl | rfl
        · rw [if_pos (show nI 0 = 0 from rfl), show (0 : Int32) = nI 0 from rfl, thingsAt_c v1 ov r1' okN (by decide), bi1_s]
          refine ⟨_, m1, m4, rfl, ?_, hfin⟩
          rw [hhead, if_neg (by decide), thingsAt_f hv3 ov r3.1 okN (by decide), bi1_s]
          unfold f_X12_ahead_j71
          rw [nowet_f (by decide), bi1_s, e4, bi1_s]
        · rw [if_neg (show ¬ nI 1 = 0 by decide), if_pos (show nI 1 = 1 from rfl), show (1 : Int32) = nI 1 from rfl, thingsAt_c v1 ov r1' okN (by decide), bi1_s]
          refine ⟨_, m1, m4, rfl, ?_, hfin⟩
          rw [hhead, if_neg (by decide), thingsAt_f hv3 ov r3.1 okN (by decide), bi1_s]
          unfold f_X12_ahead_j71
          rw [nowet_f (by decide), bi1_s, e4, bi1_s]
        · rw [if_neg (show ¬ nI 2 = 0 by decide), if_neg (show ¬ nI 2 = 1 by decide), if_pos (show nI 2 = 2 from rfl), show (2 : Int32) = nI 2 from rfl, thingsAt_c v1 ov r1' okN (by decide), bi1_s]
          refine ⟨_, m1, m4, rfl, ?_, hfin⟩
          rw [hhead, if_neg (by decide), thingsAt_f hv3 ov r3.1 okN (by decide), bi1_s]
          unfold f_X12_ahead_j71
          rw [nowet_f (by decide), bi1_s, e4, bi1_s]
        · rw [if_neg (show ¬ nI 3 = 0 by decide), if_neg (show ¬ nI 3 = 1 by decide), if_neg (show ¬ nI 3 = 2 by decide), if_pos (show nI 3 = 3 from rfl), show (2 : Int32) = nI 2 from rfl, ownersOf_c v1 ov r1' okN (by decide), bi1_s]
          refine ⟨_, m1, m4, rfl, ?_, hfin⟩
          rw [hhead, if_pos (by decide)]
          unfold f_X12_ahead_j71
          rw [show nI 3 = 3 from rfl, wet_f hv3 ov r3.1 okN, bi1_s, e4, bi1_s]
      · rw [hin, if_pos rfl] at hhead
        have nw : ∀ k, k < 4 → ¬ w = nI k := fun k hk => ni_not (by decide) hw k hk
        rw [if_neg (show ¬ w = 0 from nw 0 (by decide)), if_neg (show ¬ w = 1 from nw 1 (by decide)), if_neg (show ¬ w = 2 from nw 2 (by decide)), if_neg (show ¬ w = 3 from nw 3 (by decide))]
        exact ⟨-1, m1, m1, rfl, hhead, hInv1⟩
    · refine ⟨-1, mm, mm, ?_, ?_, hInv⟩
      · by_cases h0 : x < 0
        · rw [if_pos h0]
        · rw [if_neg h0, if_neg (fun z => ?_)]
          rcases hx with hx | hx
          · exact h0 hx
          · rw [Int32.le_iff_toInt_le] at z
            rw [Int32.lt_iff_toInt_lt] at hx
            omega
      · unfold f_X12_ahead
        rw [isRiver_ok hvF.1.1 h99, if_neg c0, if_neg (by decide), elF mm hvF hrF, hin, if_pos rfl]
/-! sinks: what has left the river stays as it is -/
theorem nfl_tb {V A : Dat} {p q : Nat → Nat} (t : Nat) : ∀ k, (nfl V A p q k).testBit t = true → ∃ u, u < k ∧ (p u).testBit t = true
  | 0, h => by
    rw [show nfl V A p q 0 = 0 from rfl, Nat.zero_testBit] at h
    exact absurd h (by decide)
  | k + 1, h => by
    rw [show nfl V A p q (k + 1) = if lst p k && decide (mrg V A q (p k) < 0) then nfl V A p q k ||| p k else nfl V A p q k from rfl] at h
    by_cases c : (lst p k && decide (mrg V A q (p k) < 0)) = true
    · rw [if_pos c, Nat.testBit_or, Bool.or_eq_true] at h
      rcases h with h | h
      · obtain ⟨u, u1, u2⟩ := nfl_tb t k h
        exact ⟨u, by omega, u2⟩
      · exact ⟨k, by omega, h⟩
    · rw [if_neg c] at h
      obtain ⟨u, u1, u2⟩ := nfl_tb t k h
      exact ⟨u, by omega, u2⟩
theorem los_tb {V A : Dat} {L : Rop} (ov : RvOk V) (oa : RaOk V A L) {t : Nat} (h : (los V A L).testBit t = true) : t < V 1 2 ∧ A 4 t = 0 := by
  obtain ⟨u, u1, u2⟩ := nfl_tb t 8 h
  exact PP_sub (pOf_PP ov oa 0) u t u2
theorem ash_tb {V A : Dat} {t : Nat} (h : (ash V A).testBit t = true) : A 4 t = 0 := by
  unfold ash at h
  rw [bset_tb, Bool.and_eq_true] at h
  have h2 := h.2
  unfold lnd at h2
  rw [Bool.and_eq_true] at h2
  exact of_decide_eq_true h2.2
theorem mil_stab {V : Dat} {R : Rf} (ov : RvOk V) (oa : RaOk V R.1 R.2.1) (hm : R.1 0 1 < V 1 0) (fc : Nat) {t : Nat} (ht : ¬ R.1 4 t = 0) : (mil V fc R).1 4 t = R.1 4 t ∧ (mil V fc R).1 5 t = R.1 5 t := by
  have ok2 := st2_ok (st1_ok oa hm) fc
  have ok3 := st3_ok ok2
  have e3 : (st3 V (st2 fc (st1 V R))).1 4 t = R.1 4 t := by
    show (if (ash V (st2 fc (st1 V R)).1).testBit t then 1 else R.1 4 t) = R.1 4 t
    rw [if_neg (fun z => ht (show R.1 4 t = 0 from ash_tb (A := (st2 fc (st1 V R)).1) z))]
  have nl : ¬ (los V (st3 V (st2 fc (st1 V R))).1 (st3 V (st2 fc (st1 V R))).2.1).testBit t = true := fun z => by
    have := (los_tb ov ok3 z).2
    rw [e3] at this
    exact ht this
  constructor
  · show (if (los V (st3 V (st2 fc (st1 V R))).1 (st3 V (st2 fc (st1 V R))).2.1).testBit t then 2 else (st3 V (st2 fc (st1 V R))).1 4 t) = R.1 4 t
    rw [if_neg nl, e3]
  · show (if (los V (st3 V (st2 fc (st1 V R))).1 (st3 V (st2 fc (st1 V R))).2.1).testBit t then (st3 V (st2 fc (st1 V R))).1 0 1 else R.1 5 t) = R.1 5 t
    rw [if_neg nl]
theorem milN_stab {V : Dat} {R : Rf} (ov : RvOk V) (oa : RaOk V R.1 R.2.1) {i t : Nat} (ht : ¬ (milN V R i).1 4 t = 0) : ∀ d, R.1 0 1 + (i + d) ≤ V 1 0 → (milN V R (i + d)).1 4 t = (milN V R i).1 4 t ∧ (milN V R (i + d)).1 5 t = (milN V R i).1 5 t
  | 0, _ => ⟨rfl, rfl⟩
  | d + 1, h => by
    have ih := milN_stab ov oa ht d (by omega)
    have := mil_stab ov (milN_ok oa (i + d) (by omega)) (by rw [milN_mile]; omega) (V 6 ((milN V R (i + d)).1 0 1 + 1)) (t := t) (by rw [ih.1]; exact ht)
    exact ⟨this.1.trans ih.1, this.2.trans ih.2⟩
theorem sm_sinks_ok : sm_sinks Inv := by
  intro mm x hInv
  obtain ⟨ol, V, R, na, P, O, xx, hC, hF, ok⟩ := SimS_St hInv.2.2.1
  have hv := StC_rv hC
  have hr := StC_ra hC
  have hvF := rvF_RvF hF.1 ok.1
  have hrF := StF_ra hF
  have ov := ok.1.1
  have oa := ok.2.2.2.2.2.2.1
  have h99 := ov.1
  have h8 := ov.2.2.1
  have hmi := oa.1
  have rc : raC (rwC mm 33) V R := by
    have := hC.2.2.2.2.2.1
    rw [cR_rw] at this
    exact this
  have el : f_X4_milesLeft mm 33 27 = nI (V 1 0 - R.1 0 1) := by
    unfold f_X4_milesLeft
    rw [show mm.1 27 0 = nI (V 1 0) from hv.1.1, show mm.1 33 1 = nI (R.1 0 1) from hr.1, nI_sub' hmi]
  have e1 : mm.1 27 2 = nI (V 1 2) := hv.1.2.2
  have neg : (x < 0 ∨ nI (V 1 2) ≤ x) → ∃ r m1 m2, some ((-1 : Int32), mm) = some (r, m1) ∧ f_X12_sinks m1 x = some (r, m2) ∧ Inv m2 := fun h => ⟨-1, mm, mm, rfl, by unfold f_X12_sinks; rw [isThing_f hvF.1.2.2 (by omega), if_pos h, bi1_s, if_pos rfl], hInv⟩
  unfold f_X11_sinks
  rw [e1, el]
  rcases i_cases x (V 1 2) (by omega) with hx | hx | ⟨t, ht, rfl⟩
  · rw [if_pos hx]
    exact neg (Or.inl hx)
  · rw [if_neg (nlt_of hx)]
    by_cases h0 : x < 0
    · rw [if_pos h0]; exact neg (Or.inl h0)
    · rw [if_neg h0]; exact neg (Or.inr hx)
  · obtain ⟨N, hN⟩ : ∃ N, N = V 1 0 - R.1 0 1 := ⟨_, rfl⟩
    rw [← hN]
    obtain ⟨m1, e2, r1, v1, f1⟩ := tryAhead_c hv ov rc oa (n := N) (by omega)
    have okN := milN_ok oa N (by omega)
    have hInv1 := Inv_sc hInv f1
    have hF1 : StF (fS m1) V R na P O xx := StF_cl (fun i hi => f1 i (sc_F hi)) hF
    have hC1 : StC (cS m1 26) ol V R na P O xx := StC_sm (smC_rf (fun j hj => by funext l; show m1.1 (26 + j) l = mm.1 (26 + j) l; rw [f1 _ (fun z => by unfold scC at z; omega)])) ok hC
    obtain ⟨m2, e3, s2, ff2, bk⟩ := look_f hF1 ok
    have hv2 := rvF_RvF s2.1 ok.1
    have hl : ∃ m3, lp (f_X12_sinks_s14 (nI t)) m2 = some m3 ∧ ∃ i, i ≤ N ∧ raM m3 V (milN V R i) ∧ frM m2 m3 ∧ (¬ (milN V R i).1 4 t = 0 ∨ i = N) := by
      refine lp_stop (fun i m => raM m V (milN V R i) ∧ frM m2 m) _ N (fun i m hi hm => ?_) 0 m2 (Nat.zero_le _) ⟨StF_raM s2, frM.rf⟩
      have hvm := hm.2.rv hv2
      have eml : f_X12_milesLeft m = nI (N - i) := by
        unfold f_X12_milesLeft
        rw [hvm.1.1, hm.1.1.1, milN_mile, nI_sub' (by omega)]
        congr 1
        omega
      have e4 : m.1 1097 t = nI ((milN V R i).1 4 t) := (hm.1.1.2.2.2.2 t ht).2.2
      have b4 := ((milN_ok oa i (by omega)).2.2.2.1 t ht).2.2
      unfold f_X12_sinks_s14
      rw [eml]
      simp (disch := omega) only [↓reduceIte, decide_true, decide_false, Bool.false_eq_true, eq_self, s10, s01, cont_ok, has_ok, b2i0, b2i1, reduceCtorEq, Nat.or_zero, Nat.add_zero, sN_le, sN_lt, sN_eq, sN_lt0, sN_le0, sN_0le, sN_0lt, sN_eq0, sN_cl, sN_ad, sN_a1, K2, K3, K4, K5, K6, K7, K8, K9, K12, K16, K20, false_or, or_false, if_neg, if_pos, vl_s, bi1_s, bi2_s, nx_or, nx_and, nx_sh, e4]
      by_cases c1 : N - i = 0
      · rw [if_pos c1]
        exact Or.inr ⟨m, rfl, i, hi, hm.1, hm.2, Or.inr (by omega)⟩
      · rw [if_neg c1]
        by_cases c2 : (milN V R i).1 4 t = 0
        · rw [if_pos c2]
          obtain ⟨w, e5, g1, g2⟩ := goesMile_f hvm ov hm.1 (milN_ok oa i (by omega)) (by rw [milN_mile]; omega)
          rw [e5, bi2_s]
          exact Or.inl ⟨by omega, w, rfl, g1, hm.2.tr g2⟩
        · rw [if_neg c2]
          exact Or.inr ⟨m, rfl, i, hi, hm.1, hm.2, Or.inl c2⟩
    obtain ⟨m3, e4, i, hi, r3, f3, hend⟩ := hl
    obtain ⟨m4, e5, s4, ff4, _⟩ := bk m3 (f3.1 1139 (by decide) (by decide) (by decide) (by decide) (by decide) (by decide) (by decide) (by decide) (by decide))
    have hfin : Inv m4 := Inv_act hInv1 (fun i _ _ => rfl) (ff2.tr (f3.FF.tr ff4)) hC1 s4 ok
    have same : (milN V R N).1 4 t = (milN V R i).1 4 t ∧ (milN V R N).1 5 t = (milN V R i).1 5 t := by
      rcases hend with h | h
      · have := milN_stab ov oa h (N - i) (by omega)
        rw [show i + (N - i) = N by omega] at this
        exact this
      · rw [h]
        exact ⟨rfl, rfl⟩
    have e246 : m1.1 246 t = nI ((milN V R N).1 4 t) := (r1.1.2.2.2.2 t ht).2.2
    have b246 := (okN.2.2.2.1 t ht).2.2
    have hT : f_X12_sinks m1 (nI t) = some ((if (milN V R i).1 4 t = 2 then nI ((milN V R i).1 5 t) else -2), m4) := by
      have hv1 := rvF_RvF hF1.1 ok.1
      unfold f_X12_sinks
      rw [isThing_f hv1.1.2.2 (by omega), if_neg (fun z => ni_not (by omega) z t ht rfl), bi1_s, if_neg (by decide), e3, bi1_s, e4, bi1_s]
      simp (disch := omega) only [↓reduceIte, decide_true, decide_false, Bool.false_eq_true, eq_self, s10, s01, cont_ok, has_ok, b2i0, b2i1, reduceCtorEq, Nat.or_zero, Nat.add_zero, sN_le, sN_lt, sN_eq, sN_lt0, sN_le0, sN_0le, sN_0lt, sN_eq0, sN_cl, sN_ad, sN_a1, K2, K3, K4, K5, K6, K7, K8, K9, K12, K16, K20, false_or, or_false, if_neg, if_pos, vl_s, bi1_s, bi2_s, nx_or, nx_and, nx_sh]
      rw [r3.2 t ht, e5, bi1_s]
      rfl
    refine ⟨_, m1, m4, ?_, hT, hfin⟩
    rw [e2]
    simp (disch := omega) only [↓reduceIte, decide_true, decide_false, Bool.false_eq_true, eq_self, s10, s01, cont_ok, has_ok, b2i0, b2i1, reduceCtorEq, Nat.or_zero, Nat.add_zero, sN_le, sN_lt, sN_eq, sN_lt0, sN_le0, sN_0le, sN_0lt, sN_eq0, sN_cl, sN_ad, sN_a1, K2, K3, K4, K5, K6, K7, K8, K9, K12, K16, K20, false_or, or_false, if_neg, if_pos, vl_s, bi1_s, bi2_s, nx_or, nx_and, nx_sh, e246]
    by_cases c : (milN V R N).1 4 t = 2
    · have e247 : m1.1 247 t = nI ((milN V R N).1 5 t) := r1.2 t ht c
      rw [if_pos c, e247, same.2, if_pos (same.1.symm.trans c)]
    · rw [if_neg c, if_neg (fun z => c (same.1.trans z))]
