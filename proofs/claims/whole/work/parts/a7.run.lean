/-! PHASE 2: run, the simulation -/
noncomputable def runN (V : Dat) (T : Rf → Rf) (R : Rf) : Nat → Rf
  | 0 => R
  | k + 1 => mil V (V 6 ((T (runN V T R k)).1 0 1 + 1)) (T (runN V T R k))
noncomputable def runC (V : Dat) (T : Rf → Rf) (R : Rf) : Nat → Nat
  | 0 => 0
  | k + 1 => runC V T R k + mSank V (V 6 ((T (runN V T R k)).1 0 1 + 1)) (T (runN V T R k))
theorem runN_ok {V : Dat} {T : Rf → Rf} (hT : ∀ R : Rf, RaOk V R.1 R.2.1 → RaOk V (T R).1 (T R).2.1 ∧ (T R).1 0 1 = R.1 0 1) {R : Rf} (oa : RaOk V R.1 R.2.1) : ∀ k, R.1 0 1 + k ≤ V 1 0 → RaOk V (runN V T R k).1 (runN V T R k).2.1 ∧ (runN V T R k).1 0 1 = R.1 0 1 + k
  | 0, _ => ⟨oa, rfl⟩
  | k + 1, h => by
    obtain ⟨h1, h2⟩ := runN_ok hT oa k (by omega)
    obtain ⟨h3, h4⟩ := hT _ h1
    refine ⟨mil_ok h3 (by rw [h4, h2]; omega) _, ?_⟩
    show (mil V _ (T (runN V T R k))).1 0 1 = _
    rw [mil_mile, h4, h2]
    omega
theorem tieS_0 {V : Dat} {sF vF tI tJ tK : Nat → Nat} {nc s : Nat} {R : Rf} (h : R.2.2 < nI s ∨ ¬ R.2.1.length < 12) : tieS V sF vF tI tJ tK nc s R = R := by
  unfold tieS
  rw [bOu_0 (q := okp R s) (fun a b => pb_f (fun z => h.elim z.2.2.1 (fun y => y z.2.2.2.1)))]
theorem runL_c {m0 : Mm} {u : Nat} (hu : u < 6) {V : Dat} {R : Rf} (hv : RvC m0 27 V) (ov : RvOk V) (hr : raC (rwC m0 33) V R) (oa : RaOk V R.1 R.2.1) {sF vF tI tJ tK : Nat → Nat} {len nc s : Nat} (hD : RuD sF vF tI tJ tK len nc) (hC : RuC m0 (1052 + 6 * u) sF vF tI tJ tK len nc) (hs : 1 ≤ s ∧ s ≤ 9) {n : Nat} (hn : R.1 0 1 + n ≤ V 1 0) (h251 : m0.1 251 0 = 0) : ∃ m1, lp (f_X11_run_s61 (nI u) (nI n) (nI s)) ((0 : Int32), m0) = some m1 ∧ raC (rwC m1 33) V (runN V (tieS V sF vF tI tJ tK nc s) R n) ∧ m1.1 251 0 = nI (runC V (tieS V sF vF tI tJ tK nc s) R n) ∧ ∀ i, ¬ (33 ≤ i ∧ i < 42) → ¬ i = 230 → ¬ i = 231 → ¬ i = 251 → m1.1 i = m0.1 i := by
  have h99 := ov.1
  obtain ⟨T, hT⟩ : ∃ T, tieS V sF vF tI tJ tK nc s = T := ⟨_, rfl⟩
  have tok : ∀ R : Rf, RaOk V R.1 R.2.1 → RaOk V (T R).1 (T R).2.1 ∧ (T R).1 0 1 = R.1 0 1 := fun R h => by
    rw [← hT]
    exact tieS_ok hs h
  rw [hT]
  refine lp_inv (fun k x => ∃ m, x = (nI k, m) ∧ raC (rwC m 33) V (runN V T R k) ∧ m.1 251 0 = nI (runC V T R k) ∧ ∀ i, ¬ (33 ≤ i ∧ i < 42) → ¬ i = 230 → ¬ i = 231 → ¬ i = 251 → m.1 i = m0.1 i) _ n (fun k x hk hx => ?_) (fun x hx => ?_) 0 _ (Nat.zero_le _) ⟨m0, rfl, hr, h251, fun i _ _ _ _ => rfl⟩
  · obtain ⟨m, rfl, r1, r2, r3⟩ := hx
    obtain ⟨o1, o2⟩ := runN_ok tok oa k (by omega)
    obtain ⟨o3, o4⟩ := tok _ o1
    have hvm : RvC m 27 V := RvC_eq (fun j hj => r3 _ (by omega) (by omega) (by omega) (by omega)) hv
    have drift : ∀ m1, raC (rwC m1 33) V (T (runN V T R k)) → (∀ i, ¬ (33 ≤ i ∧ i < 42) → ¬ i = 230 → m1.1 i = m.1 i) → ∃ y, f_X11_run_j92 m1 (nI u) (nI n) (nI s) (nI k) = some (.inl y) ∧ ∃ m, y = (nI (k + 1), m) ∧ raC (rwC m 33) V (runN V T R (k + 1)) ∧ m.1 251 0 = nI (runC V T R (k + 1)) ∧ ∀ i, ¬ (33 ≤ i ∧ i < 42) → ¬ i = 230 → ¬ i = 231 → ¬ i = 251 → m.1 i = m0.1 i := fun m1 h1 h2 => by
      have hv1 : RvC m1 27 V := RvC_eq (fun j hj => h2 _ (by omega) (by omega)) hvm
      obtain ⟨m2, w1, w2, w3, w4, _⟩ := drift_c hv1 ov h1 o3 (Or.inl rfl) (d := 0) (by decide) (by rw [o4, o2]; omega)
      rw [fmx0] at w2 w4
      refine ⟨(nI (k + 1), m2), ?_, m2, rfl, w2, ?_, fun i i1 i2 i3 i4 => by rw [w3 i i1 i2 i3 i4, h2 i i1 i2, r3 i i1 i2 i3 i4]⟩
      · unfold f_X11_run_j92
        rw [show f_X4_drift m1 33 27 0 = some m2 from w1, bi1_s, sN_a1]
      · rw [w4, h2 251 (by decide) (by decide), r2, sN_ad]
        rfl
    have hs0 : f_X11_run_s61 (nI u) (nI n) (nI s) (nI k, m) = if (f_X4_canSpare m 33 27 (nI s)) = 0 then f_X11_run_j92 m (nI u) (nI n) (nI s) (nI k) else bi1 (f_X11_tieBest m (1052 + 6 * u) (nI s)) fun mm_15 => f_X11_run_j92 mm_15 (nI u) (nI n) (nI s) (nI k) := by
      unfold f_X11_run_s61
      show (if nI n ≤ nI k then _ else _) = _
      rw [if_neg (by rw [sN_le (by omega) (by omega)]; omega), if_neg (gd_ok (show u < 6 from hu) (by decide)), cl_ok (by omega)]
    have ecs : f_X4_canSpare m 33 27 (nI s) = if (12 : Int32) ≤ nI (runN V T R k).2.1.length then 0 else if (runN V T R k).2.2 < nI s then 0 else 1 := by
      unfold f_X4_canSpare
      rw [show m.1 33 3 = nI (runN V T R k).2.1.length from r1.1.2.2.1.1, show m.1 33 2 = (runN V T R k).2.2 from r1.1.2.1]
    have hl12 := o1.2.1
    rw [hs0, ecs]
    have none' : (runN V T R k).2.2 < nI s ∨ ¬ (runN V T R k).2.1.length < 12 → ∃ y, f_X11_run_j92 m (nI u) (nI n) (nI s) (nI k) = some (.inl y) ∧ ∃ m, y = (nI (k + 1), m) ∧ raC (rwC m 33) V (runN V T R (k + 1)) ∧ m.1 251 0 = nI (runC V T R (k + 1)) ∧ ∀ i, ¬ (33 ≤ i ∧ i < 42) → ¬ i = 230 → ¬ i = 231 → ¬ i = 251 → m.1 i = m0.1 i := fun h => drift m (by have ht := tieS_0 (V := V) (sF := sF) (vF := vF) (tI := tI) (tJ := tJ) (tK := tK) (nc := nc) h; rw [hT] at ht; rw [ht]; exact r1) (fun i _ _ => rfl)
    by_cases c1 : (runN V T R k).2.1.length < 12
    · rw [if_neg (show ¬ (12 : Int32) ≤ nI (runN V T R k).2.1.length by rw [K12, sN_le (by decide) (by omega)]; omega)]
      by_cases c2 : (runN V T R k).2.2 < nI s
      · rw [if_pos c2, if_pos rfl]
        exact none' (Or.inl c2)
      · rw [if_neg c2, if_neg (by decide)]
        have hCm : RuC m (1052 + 6 * u) sF vF tI tJ tK len nc := by
          unfold RuC
          rw [r3 (1052 + 6 * u) (by omega) (by omega) (by omega) (by omega), r3 (1052 + 6 * u + 1) (by omega) (by omega) (by omega) (by omega), r3 (1052 + 6 * u + 2) (by omega) (by omega) (by omega) (by omega), r3 (1052 + 6 * u + 3) (by omega) (by omega) (by omega) (by omega), r3 (1052 + 6 * u + 4) (by omega) (by omega) (by omega) (by omega)]
          exact hC
        obtain ⟨m1, t1, t2, t3⟩ := tieBest_c (U := 1052 + 6 * u) (by omega) hvm ov r1 o1 hD hCm hs c1 c2
        rw [t1, bi1_s]
        rw [hT] at t2
        exact drift m1 t2 t3
    · rw [if_pos (show (12 : Int32) ≤ nI (runN V T R k).2.1.length by rw [K12, sN_le (by decide) (by omega)]; omega), if_pos rfl]
      exact none' (Or.inr c1)
  · obtain ⟨m, rfl, r1, r2, r3⟩ := hx
    refine ⟨m, ?_, r1, r2, r3⟩
    unfold f_X11_run_s61
    show (if nI n ≤ nI n then _ else _) = _
    rw [if_pos (by rw [sN_le (by omega) (by omega)]; omega)]
theorem runL_f {m0 : Mm} {u : Nat} (hu : u < 6) {V : Dat} {R : Rf} (hv : RvF m0 V) (ov : RvOk V) (hr : raM m0 V R) (oa : RaOk V R.1 R.2.1) {sF vF tI tJ tK : Nat → Nat} {len nc s : Nat} (hD : RuD sF vF tI tJ tK len nc) (hF : RuF m0 u sF vF tI tJ tK len nc) (hs : 1 ≤ s ∧ s ≤ 9) {n : Nat} (hn : R.1 0 1 + n ≤ V 1 0) : ∃ m1, lp (f_X12_run_s54 (nI u) (nI n) (nI s)) ((0 : Int32), (0 : Int32), m0) = some (nI (runC V (tieS V sF vF tI tJ tK nc s) R n), m1) ∧ raM m1 V (runN V (tieS V sF vF tI tJ tK nc s) R n) ∧ frM m0 m1 := by
  have h99 := ov.1
  obtain ⟨T, hT⟩ : ∃ T, tieS V sF vF tI tJ tK nc s = T := ⟨_, rfl⟩
  have tok : ∀ R : Rf, RaOk V R.1 R.2.1 → RaOk V (T R).1 (T R).2.1 ∧ (T R).1 0 1 = R.1 0 1 := fun R h => by
    rw [← hT]
    exact tieS_ok hs h
  rw [hT]
  have L : ∃ r, lp (f_X12_run_s54 (nI u) (nI n) (nI s)) ((0 : Int32), (0 : Int32), m0) = some r ∧ ∃ m, r = (nI (runC V T R n), m) ∧ raM m V (runN V T R n) ∧ frM m0 m := by
    refine lp_inv (fun k x => ∃ m, x = (nI (runC V T R k), nI k, m) ∧ raM m V (runN V T R k) ∧ frM m0 m) _ n (fun k x hk hx => ?_) (fun x hx => ?_) 0 _ (Nat.zero_le _) ⟨m0, rfl, hr, frM.rf⟩
    · obtain ⟨m, rfl, r1, r2⟩ := hx
      obtain ⟨o1, o2⟩ := runN_ok tok oa k (by omega)
      obtain ⟨o3, o4⟩ := tok _ o1
      have hFm : RuF m u sF vF tI tJ tK len nc := by
        unfold RuF
        rw [r2.1 1122 (by decide) (by decide) (by decide) (by decide) (by decide) (by decide) (by decide) (by decide) (by decide), r2.1 1120 (by decide) (by decide) (by decide) (by decide) (by decide) (by decide) (by decide) (by decide) (by decide), r2.1 1121 (by decide) (by decide) (by decide) (by decide) (by decide) (by decide) (by decide) (by decide) (by decide), r2.1 1123 (by decide) (by decide) (by decide) (by decide) (by decide) (by decide) (by decide) (by decide) (by decide), r2.1 1124 (by decide) (by decide) (by decide) (by decide) (by decide) (by decide) (by decide) (by decide) (by decide), r2.1 1125 (by decide) (by decide) (by decide) (by decide) (by decide) (by decide) (by decide) (by decide) (by decide)]
        exact hF
      obtain ⟨m1, t1, t2, t3⟩ := tiesBy_f hu (r2.rv hv) ov r1 o1 hD hFm hs
      rw [hT] at t2
      obtain ⟨m2, g1, g2, g3⟩ := goesMile_f (t3.rv (r2.rv hv)) ov t2 o3 (by rw [o4, o2]; omega)
      refine ⟨(nI (runC V T R (k + 1)), nI (k + 1), m2), ?_, m2, rfl, g2, (r2.tr t3).tr g3⟩
      unfold f_X12_run_s54
      show (if nI n ≤ nI k then _ else _) = _
      rw [if_neg (by rw [sN_le (by omega) (by omega)]; omega), t1, bi1_s, g1, bi2_s, sN_ad, sN_a1]
      rfl
    · obtain ⟨m, rfl, r1, r2⟩ := hx
      refine ⟨_, ?_, m, rfl, r1, r2⟩
      unfold f_X12_run_s54
      show (if nI n ≤ nI n then _ else _) = _
      rw [if_pos (by rw [sN_le (by omega) (by omega)]; omega)]
  obtain ⟨r, r1, m, rfl, r2, r3⟩ := L
  exact ⟨m, r1, r2, r3⟩
theorem StC_n0 {mm : Mm} {ol : Nat} {V : Dat} {R : Rf} {na : Nat} {P : Nat → Rf} {O : Dat} {x : Int32} (hC : StC (cS mm 26) ol V R na P O x) : StC (cS (wI mm 26 4 0) 26) ol V R 0 P O x := by
  obtain ⟨h1, h2, h3, h4, h5, h6, h7⟩ := hC
  have f1 : ∀ i, ¬ i = 26 → (wI mm 26 4 0).1 i = mm.1 i := fun i hi => wI_ne hi
  have g : ∀ j, ¬ j = 0 → cS (wI mm 26 4 0) 26 j = cS mm 26 j := fun j hj => by
    funext k
    show (wI mm 26 4 0).1 (26 + j) k = mm.1 (26 + j) k
    rw [f1 _ (by omega)]
  have g0 : ∀ k, ¬ k = 4 → cS (wI mm 26 4 0) 26 0 k = cS mm 26 0 k := fun k hk => by
    show (wI mm 26 4 0).1 26 k = mm.1 26 k
    rw [wI_pl hk]
  refine ⟨?_, ?_, ?_, ?_, ?_, ?_, fun b hb => absurd hb (Nat.not_lt_zero _)⟩
  · unfold rvC
    rw [g 1 (by decide), g 2 (by decide), g 3 (by decide), g 4 (by decide), g 5 (by decide), g 6 (by decide)]
    exact h1
  · unfold ofC
    rw [g0 5 (by decide), g 17 (by decide), g 18 (by decide), g 19 (by decide)]
    exact h2
  · rw [g0 3 (by decide)]; exact h3
  · exact wI_at _ _ _ _
  · rw [g0 9 (by decide)]; exact h5
  · rw [cR_rw] at h6 ⊢
    exact raC_eq (fun j hj => f1 _ (by omega)) h6
theorem sm_run_ok : sm_run Inv := by
  intro mm x1 x2 x3 hInv
  obtain ⟨ol, V, R, na, P, O, xx, hC, hF, ok⟩ := SimS_St hInv.2.2.1
  obtain ⟨nr, l1, l2, l3, l4, l5⟩ := hInv.2.1
  have hv := StC_rv hC
  have hr := StC_ra hC
  have hvF := rvF_RvF hF.1 ok.1
  have hrF := StF_ra hF
  have ov := ok.1.1
  have oa := ok.2.2.2.2.2.2.1
  have h99 := ov.1
  have hmi := oa.1
  have el : f_X4_milesLeft mm 33 27 = nI (V 1 0 - R.1 0 1) := by
    unfold f_X4_milesLeft
    rw [show mm.1 27 0 = nI (V 1 0) from hv.1.1, show mm.1 33 1 = nI (R.1 0 1) from hr.1, nI_sub' hmi]
  have elF : ∀ m' : Mm, RvF m' V → RaF m' V R.1 R.2.1 R.2.2 → f_X12_milesLeft m' = nI (V 1 0 - R.1 0 1) := fun m' h1 h2 => by
    unfold f_X12_milesLeft
    rw [h1.1.1, h2.1, nI_sub' hmi]
  have inR : ∀ m' : Mm, m'.1 1088 35 = nI nr → f_X12_isRule m' x1 = some (if 0 ≤ x1 ∧ x1 ≤ nI nr - 1 then 1 else 0) := fun m' h => by
    unfold f_X12_isRule
    rw [h, show f_X12_in x1.toInt64 (0 : Int64) (nI nr - 1).toInt64 = _ from in_spec x1 0 (nI nr - 1)]
    by_cases c : 0 ≤ x1 ∧ x1 ≤ nI nr - 1
    · rw [if_pos c, if_neg (fun z => z.2 rfl)]
    · rw [if_neg c, if_neg (fun z => z.1 rfl)]
  have inM : f_X12_in x2.toInt64 (1 : Int64) (nI (V 1 0 - R.1 0 1)).toInt64 = if 1 ≤ x2 ∧ x2 ≤ nI (V 1 0 - R.1 0 1) then 1 else 0 := in_spec x2 1 (nI (V 1 0 - R.1 0 1))
  have neg : (¬ (0 ≤ x1 ∧ x1 ≤ nI nr - 1)) ∨ (¬ (1 ≤ x2 ∧ x2 ≤ nI (V 1 0 - R.1 0 1))) ∨ f_X12_in x3.toInt64 (1 : Int64) (9 : Int64) = 0 → ∃ r m1 m2, some ((-1 : Int32), mm) = some (r, m1) ∧ f_X12_run m1 x1 x2 x3 = some (r, m2) ∧ Inv m2 := fun h => by
    refine ⟨-1, mm, mm, rfl, ?_, hInv⟩
    unfold f_X12_run
    rw [isRiver_ok hvF.1.1 h99, inR mm l3, elF mm hvF hrF, inM]
    by_cases c0 : V 1 0 = 0
    · rw [if_pos c0, if_pos rfl]
    · rw [if_neg c0, if_neg (by decide), bi1_s]
      by_cases c1 : 0 ≤ x1 ∧ x1 ≤ nI nr - 1
      · rw [if_pos c1, if_neg (by decide)]
        by_cases c2 : 1 ≤ x2 ∧ x2 ≤ nI (V 1 0 - R.1 0 1)
        · rw [if_pos c2, if_neg (by decide)]
          rcases h with h | h | h
          · exact absurd c1 h
          · exact absurd c2 h
          · rw [if_pos h]
        · rw [if_neg c2, if_pos rfl]
      · rw [if_neg c1, if_pos rfl]
  have t : ∀ a b : Int32, a < b ↔ a.toInt < b.toInt := fun a b => Int32.lt_iff_toInt_lt
  have t2 : ∀ a b : Int32, a ≤ b ↔ a.toInt ≤ b.toInt := fun a b => Int32.le_iff_toInt_le
  unfold f_X11_run
  rw [l2, el]
  by_cases c1 : x1 < 0
  · rw [if_pos c1]
    exact neg (Or.inl (fun z => by rw [t] at c1; have := z.1; rw [t2] at this; omega))
  rw [if_neg c1]
  by_cases c2 : nI nr ≤ x1
  · rw [if_pos c2]
    refine neg (Or.inl (fun z => ?_))
    have z2 := z.2
    by_cases n0 : nr = 0
    · rw [n0] at z2
      have z1 := z.1
      rw [t2] at z1 z2
      have : (nI 0 - 1 : Int32).toInt = -1 := by decide
      rw [this] at z2
      have : (0 : Int32).toInt = 0 := rfl
      rw [this] at z1
      omega
    · rw [show nI nr - 1 = nI (nr - 1) from nI_sub' (a := nr) (b := 1) (by omega)] at z2
      rw [t2, nI_toInt (by omega)] at c2 z2
      omega
  rw [if_neg c2]
  obtain ⟨u, hu, rfl⟩ : ∃ u, u < nr ∧ x1 = nI u := by
    rcases i_cases x1 nr (by omega) with h | h | ⟨j, h1, h2⟩
    · exact absurd h c1
    · exact absurd h c2
    · exact ⟨j, h1, h2⟩
  rcases strength_ok x3 with ⟨s, s1, s2, rfl, s3, s4⟩ | ⟨s3, s4⟩
  · rw [s3, if_neg (by decide)]
    by_cases c3 : x2 < 1
    · rw [if_pos c3]
      exact neg (Or.inr (Or.inl (fun z => by rw [t] at c3; have := z.1; rw [t2] at this; omega)))
    rw [if_neg c3]
    by_cases c4 : x2 ≤ nI (V 1 0 - R.1 0 1)
    · rw [if_pos c4]
      obtain ⟨n, n1, n2, rfl⟩ : ∃ n, 1 ≤ n ∧ n ≤ V 1 0 - R.1 0 1 ∧ x2 = nI n := by
        rcases i_cases x2 (V 1 0 - R.1 0 1 + 1) (by omega) with h | h | ⟨j, h1, h2⟩
        · exfalso
          rw [t] at c3 h
          have e1 : (1 : Int32).toInt = 1 := rfl
          have e0 : (0 : Int32).toInt = 0 := rfl
          omega
        · exfalso
          rw [t2, nI_toInt (by omega)] at h c4
          omega
        · refine ⟨j, ?_, by omega, h2⟩
          rw [h2, K1, sN_lt (by omega) (by decide)] at c3
          omega
      obtain ⟨sF, vF, tI, tJ, tK, len, nc, hD, hRC, hRF⟩ := SimU_D (l5 u hu)
      have hu6 : u < 6 := by omega
      obtain ⟨ma, hma⟩ : ∃ ma, wI mm 26 4 0 = ma := ⟨_, rfl⟩
      have sCa : StC (cS ma 26) ol V R 0 P O xx := by rw [← hma]; exact StC_n0 hC
      have fa : ∀ i, ¬ i = 26 → ma.1 i = mm.1 i := fun i hi => by rw [← hma, wI_ne hi]
      obtain ⟨mb, b1, b2, b3⟩ := fill_c (mm := ma) (a := 251) (n := 3) (x := 0) (by decide)
      have fb : ∀ i, ¬ i = 251 → mb.1 i = ma.1 i := fun i hi => by
        funext j
        exact b2 i j (fun z => hi z.1)
      have rCa : raC (rwC ma 33) V R := by
        have := sCa.2.2.2.2.2.1
        rw [cR_rw] at this
        exact this
      have rCb : raC (rwC mb 33) V R := raC_eq (fun j hj => fb _ (by omega)) rCa
      have vCb : RvC mb 27 V := RvC_eq (fun j hj => fb _ (by omega)) (StC_rv sCa)
      have hRCb : RuC mb (1052 + 6 * u) sF vF tI tJ tK len nc := by
        unfold RuC
        rw [fb (1052 + 6 * u) (by omega), fb (1052 + 6 * u + 1) (by omega), fb (1052 + 6 * u + 2) (by omega), fb (1052 + 6 * u + 3) (by omega), fb (1052 + 6 * u + 4) (by omega), fa (1052 + 6 * u) (by omega), fa (1052 + 6 * u + 1) (by omega), fa (1052 + 6 * u + 2) (by omega), fa (1052 + 6 * u + 3) (by omega), fa (1052 + 6 * u + 4) (by omega)]
        exact hRC
      obtain ⟨m1, e1, e2, e3, e4⟩ := runL_c hu6 vCb ov rCb oa hD hRCb ⟨s1, s2⟩ (n := n) (by omega) (b3 0 (by decide))
      have g1 : ∀ i, ¬ (33 ≤ i ∧ i < 42) → ¬ i = 230 → ¬ i = 231 → ¬ i = 251 → m1.1 i = ma.1 i := fun i i1 i2 i3 i4 => by rw [e4 i i1 i2 i3 i4, fb i i4]
      have sC1 : StC (cS m1 26) ol V (runN V (tieS V sF vF tI tJ tK nc s) R n) 0 P O xx := StC_fr sCa (fun i i1 i2 i3 => g1 i i3 (by omega) (by omega) (by omega)) e2
      have fc : FC mm m1 := fun i i1 i2 => by rw [g1 i (by omega) (fun z => i2 (by unfold scC; omega)) (fun z => i2 (by unfold scC; omega)) (fun z => i2 (by unfold scC; omega)), fa i (by omega)]
      have hF1 : StF (fS m1) V R na P O xx := StF_cl (fun i hi => fc i (by omega) (sc_F hi)) hF
      have hi1 : ∀ i, 1088 ≤ i → m1.1 i = mm.1 i := fun i hi => fc i (by omega) (sc_F hi)
      obtain ⟨m2, hm2⟩ : ∃ m2, wI m1 1088 55 0 = m2 := ⟨_, rfl⟩
      have f2 : ∀ i, ¬ i = 1088 → m2.1 i = m1.1 i := fun i hi => by rw [← hm2, wI_ne hi]
      have sF2 : StF (fS m2) V R 0 P O xx := StF_past hF1 (fun i i1 i2 => f2 i (by omega)) (by rw [← hm2, wI_at]; rfl) (fun b hb => absurd hb (Nat.not_lt_zero _))
      have hRF2 : RuF m2 u sF vF tI tJ tK len nc := by
        unfold RuF
        rw [f2 1122 (by decide), f2 1120 (by decide), f2 1121 (by decide), f2 1123 (by decide), f2 1124 (by decide), f2 1125 (by decide), hi1 1122 (by decide), hi1 1120 (by decide), hi1 1121 (by decide), hi1 1123 (by decide), hi1 1124 (by decide), hi1 1125 (by decide)]
        exact hRF
      obtain ⟨m3, d1, d2, d3⟩ := runL_f hu6 (rvF_RvF sF2.1 ok.1) ov (StF_raM sF2) oa hD hRF2 ⟨s1, s2⟩ (n := n) (by omega)
      have sF3 : StF (fS m3) V (runN V (tieS V sF vF tI tJ tK nc s) R n) 0 P O xx := StF_frM sF2 d3 d2
      have okR := (runN_ok (T := tieS V sF vF tI tJ tK nc s) (fun R h => tieS_ok ⟨s1, s2⟩ h) oa n (by omega)).1
      have ok3 : StOk ol V (runN V (tieS V sF vF tI tJ tK nc s) R n) 0 P O xx := ⟨ok.1, ok.2.1, ok.2.2.1, Nat.zero_le _, fun _ => rfl, ok.2.2.2.2.2.1, okR, fun a ha => absurd ha (Nat.not_lt_zero _)⟩
      have d3k : ∀ i, ¬ i = 1088 → ¬ i = 1089 → ¬ i = 1092 → ¬ i = 1095 → ¬ i = 1097 → ¬ i = 1098 → ¬ i = 1099 → ¬ i = 1100 → ¬ i = 1101 → m3.1 i = m1.1 i := fun i i1 i2 i3 i4 i5 i6 i7 i8 i9 => by rw [d3.1 i i1 i2 i3 i4 i5 i6 i7 i8 i9, f2 i i1]
      have k8 : ∀ k, k = 31 ∨ k = 35 ∨ k = 40 → m3.1 1088 k = m1.1 1088 k := fun k hk => by rw [d3.2.1 k (by omega) (by omega), ← hm2, wI_pl (by omega)]
      have ff : FF m1 m3 := ⟨fun i hi => d3k i (by omega) (by omega) (by omega) (by omega) (by omega) (by omega) (by omega) (by omega) (by omega), k8 31 (by omega), k8 35 (by omega), k8 40 (by omega), fun i i1 i2 => d3k i (by omega) (by omega) (by omega) (by omega) (by omega) (by omega) (by omega) (by omega) (by omega), fun k _ => by rw [d3k 1139 (by decide) (by decide) (by decide) (by decide) (by decide) (by decide) (by decide) (by decide) (by decide)], d3k 1140 (by decide) (by decide) (by decide) (by decide) (by decide) (by decide) (by decide) (by decide) (by decide)⟩
      refine ⟨nI (runC V (tieS V sF vF tI tJ tK nc s) R n), m1, m3, ?_, ?_, Inv_act hInv fc ff sC1 sF3 ok3⟩
      · rw [vl_s, hma, b1, bi1_s, e1, bi1_s, e3]
      · have hv1 := rvF_RvF hF1.1 ok.1
        unfold f_X12_run
        rw [isRiver_ok hv1.1.1 h99, if_neg (show ¬ V 1 0 = 0 by omega), if_neg (by decide), inR m1 (by rw [hi1 1088 (by decide)]; exact l3), bi1_s, if_pos (show 0 ≤ nI u ∧ nI u ≤ nI nr - 1 from ⟨by rw [show (0 : Int32) = nI 0 from rfl, sN_le (by decide) (by omega)]; omega, by rw [show nI nr - 1 = nI (nr - 1) from nI_sub' (a := nr) (b := 1) (by omega), sN_le (by omega) (by omega)]; omega⟩), if_neg (by decide), elF m1 hv1 (StF_ra hF1), inM, if_pos (show 1 ≤ nI n ∧ nI n ≤ nI (V 1 0 - R.1 0 1) from ⟨by rw [K1, sN_le (by decide) (by omega)]; exact n1, c4⟩), if_neg (by decide), s4, if_neg (by decide), vl_s, hm2, d1, bi1_s]
    · rw [if_neg c4]
      exact neg (Or.inr (Or.inl (fun z => c4 z.2)))
  · rw [s3, if_pos rfl]
    exact neg (Or.inr (Or.inr s4))
