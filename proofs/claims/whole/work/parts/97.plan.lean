/-! PHASE 2: plan -/
theorem rngm (x : Int32) (b : Nat) (hb : b < 1000) {h : Int64} (hh : h = (nI b).toInt64) : (x = -1 ∧ f_X12_in x.toInt64 (-1 : Int64) h = 1) ∨ (∃ j, j ≤ b ∧ x = nI j ∧ f_X12_in x.toInt64 (-1 : Int64) h = 1) ∨ ((x < -1 ∨ nI b < x) ∧ f_X12_in x.toInt64 (-1 : Int64) h = 0) := by
  have t1 : (-1 : Int32).toInt = -1 := by decide
  rw [hh, show (-1 : Int64) = (-1 : Int32).toInt64 by decide, in_spec]
  have tb : (nI b).toInt = b := nI_toInt (by omega)
  by_cases c : (-1 : Int32) ≤ x ∧ x ≤ nI b
  · have c1 := c.1
    have c2 := c.2
    rw [Int32.le_iff_toInt_le] at c1 c2
    by_cases q : x.toInt = -1
    · exact Or.inl ⟨Int32.toInt_inj.mp (by rw [q, t1]), if_pos c⟩
    · refine Or.inr (Or.inl ⟨x.toInt.toNat, by omega, ?_, if_pos c⟩)
      refine Int32.toInt_inj.mp ?_
      rw [nI_toInt (by omega)]
      omega
  · refine Or.inr (Or.inr ⟨?_, if_neg c⟩)
    rw [Int32.le_iff_toInt_le, Int32.le_iff_toInt_le] at c
    rw [Int32.lt_iff_toInt_lt, Int32.lt_iff_toInt_lt]
    omega
theorem sm_plan_ok : sm_plan Inv := by
  intro mm x hInv
  obtain ⟨ol, V, R, na, P, O, xx, hC, hF, ok⟩ := SimS_St hInv.2.2.1
  have hv := StC_rv hC
  have hr := StC_ra hC
  have hvF := rvF_RvF hF.1 ok.1
  have hrF := StF_ra hF
  have ov := ok.1.1
  have oa := ok.2.2.2.2.2.2.1
  have h99 := ov.1
  have h8 := ov.2.2.1
  have ha : thA V R.1 0 < 256 := thA_lt h8
  have p16 : pop (thA V R.1 0) 16 = pop (thA V R.1 0) 8 := pop_more (n := 8) ha 8
  have p12 : pop (thA V R.1 0) 12 = pop (thA V R.1 0) 8 := pop_more (n := 8) ha 4
  have hp8 := pop_le (thA V R.1 0) 8
  unfold f_X11_plan
  rw [hasRiver_ok hv.1.1 h99]
  by_cases c0 : V 1 0 = 0
  · rw [if_pos c0, if_pos rfl]
    refine ⟨-4, mm, mm, rfl, ?_, hInv⟩
    unfold f_X12_plan
    rw [isRiver_ok hvF.1.1 h99, if_pos c0, if_pos rfl]
  · rw [if_neg c0, if_neg (show ¬ (1 : Int32) = 0 by decide)]
    have bad : f_X12_in x.toInt64 (-1 : Int64) (6 : Int64) = 0 → ∃ r m1 m2, some ((-4 : Int32), mm) = some (r, m1) ∧ f_X12_plan m1 x = some (r, m2) ∧ Inv m2 := fun h => by
      refine ⟨-4, mm, mm, rfl, ?_, hInv⟩
      unfold f_X12_plan
      rw [isRiver_ok hvF.1.1 h99, if_neg c0, if_neg (show ¬ (1 : Int32) = 0 by decide), if_pos h]
    have good : f_X12_in x.toInt64 (-1 : Int64) (6 : Int64) = 1 → (x = -1 ∨ ∃ j, j ≤ 6 ∧ x = nI j) → ¬ x < -1 → x < 7 → ∃ r m1 m2, (if x < (-1 : Int32) then some ((-4 : Int32), mm) else if x < (7 : Int32) then bi1 (f_X4_thingsAt mm 33 27 (0 : Int32)) fun r_5 => if (f_J6_bitCount_0f7a4 r_5) ≤ (7 : Int32) then bi1 (f_X1_find mm) fun mm_7 => if x = (-1 : Int32) then some ((mm_7.1 234 6), mm_7) else if (mm_7.1 234 6) ≤ 0 then some ((-2 : Int32), mm_7) else if (mm_7.1 234 5) ≤ x then some ((-2 : Int32), mm_7) else if x < 0 ∨ 8 ≤ x.toNatClampNeg then none else some ((mm_7.1 237 x.toNatClampNeg), mm_7) else some ((-3 : Int32), mm) else some ((-4 : Int32), mm)) = some (r, m1) ∧ f_X12_plan m1 x = some (r, m2) ∧ Inv m2 := fun hin hx1 hx2 hx3 => by
      rw [if_neg hx2, if_pos hx3, show f_X4_thingsAt mm 33 27 0 = some (nI (thA V R.1 0)) from thingsAt_c hv ov hr oa (w := 0) (by decide), bi1_s, bitc_ok _ (by omega), p12]
      by_cases c7 : pop (thA V R.1 0) 8 ≤ 7
      · rw [if_pos (by rw [K7, sN_le (by omega) (by omega)]; exact c7)]
        obtain ⟨m1, e1, f1, q1, w1⟩ := find_plan_c hv ov hr oa c7
        have f1' : ∀ i, ¬ scC i → m1.1 i = mm.1 i := fun i hi => f1 i (fun z => hi (by unfold scC; omega))
        have hInv1 := Inv_sc hInv f1'
        have hF1 : StF (fS m1) V R na P O xx := StF_cl (fun i hi => f1' i (sc_F hi)) hF
        have hv1 := rvF_RvF hF1.1 ok.1
        have hr1 := StF_ra hF1
        obtain ⟨m2, e2, f2, q2, w2⟩ := findsRows_f hv1 ov hr1 oa c7
        have hInv2 : Inv m2 := Inv_scF hInv1 (fun i hi h => f2.1 i h (fun z => hi (by unfold scF; omega))) (fun j hj => f2.2 j (by omega) (by omega))
        rw [e1, bi1_s, q1]
        obtain ⟨C, hCd⟩ : ∃ C, C = if gAll V R.1 (V 1 0 - R.1 0 1) then cntA V R.1 else 0 := ⟨_, rfl⟩
        rw [← hCd] at q1 q2 ⊢
        have hCb : C < 2 ^ 31 := by
          have h1 := cW_le (gps V R.1 (V 1 0 - R.1 0 1)) (thA V R.1 0) (pop (thA V R.1 0) 8) []
          have h2 := pw8 c7
          have h3 : cntA V R.1 ≤ 2097152 := Nat.le_trans h1 h2
          rw [hCd]
          split <;> omega
        have hCp : 0 < C → (m1.1 234 5 = nI (pop (thA V R.1 0) 8) ∧ ∀ i, i < pop (thA V R.1 0) 8 → m1.1 237 i = nI (gt' (rowA V R.1) i)) ∧ ∀ i, i < pop (thA V R.1 0) 8 → m2.1 1132 i = nI (gt' (rowA V R.1) i) := fun h => by
          rw [hCd] at h
          by_cases g : gAll V R.1 (V 1 0 - R.1 0 1) = true
          · rw [if_pos g] at h
            exact ⟨w1 g h, w2 g h⟩
          · rw [if_neg g] at h
            exact absurd h (by omega)
        have ref : f_X12_plan m1 x = if x = (-1 : Int32) then some (nI C, m2) else if nI C = 0 then some ((-2 : Int32), m2) else if x < nI (pop (thA V R.1 0) 8) then (if x < 0 ∨ 8 ≤ x.toNatClampNeg then none else some ((m2.1 1132 x.toNatClampNeg), m2)) else some ((-2 : Int32), m2) := by
          unfold f_X12_plan
          rw [isRiver_ok hv1.1.1 h99, if_neg c0, if_neg (show ¬ (1 : Int32) = 0 by decide), hin, if_neg (show ¬ (1 : Int32) = 0 by decide), afloat_f hv1 ov hr1 oa, bi1_s, bits_ok (by omega), bi1_s, p16, if_pos (by rw [K7, sN_le (by omega) (by omega)]; exact c7), e2, bi1_s, q2, bits_ok (by omega), bi1_s, p16]
        rcases hx1 with rfl | ⟨j, hj, rfl⟩
        · rw [if_pos rfl] at ref
          exact ⟨_, m1, m2, by rw [if_pos rfl], ref, hInv2⟩
        · rw [if_neg (nm1 (by omega))] at ref
          rw [if_neg (nm1 (by omega))]
          by_cases cz : C = 0
          · rw [if_pos (by rw [cz]; rfl)] at ref
            rw [if_pos ((nz_le hCb).mpr cz)]
            exact ⟨_, m1, m2, rfl, ref, hInv2⟩
          · obtain ⟨⟨h5, h7⟩, h2⟩ := hCp (by omega)
            rw [if_neg (show ¬ nI C = 0 from fun z => cz ((nI_eq (a := C) (b := 0) (by omega) (by omega)).mp z))] at ref
            rw [if_neg (fun z => cz ((nz_le hCb).mp z)), h5]
            by_cases cj : j < pop (thA V R.1 0) 8
            · rw [if_pos (by rw [sN_lt (by omega) (by omega)]; exact cj), if_neg (gd_ok (show j < 8 by omega) (by decide)), cl_ok (by omega), h2 j cj] at ref
              rw [if_neg (by rw [sN_le (by omega) (by omega)]; omega), if_neg (gd_ok (show j < 8 by omega) (by decide)), cl_ok (by omega), h7 j cj]
              exact ⟨_, m1, m2, rfl, ref, hInv2⟩
            · rw [if_neg (by rw [sN_lt (by omega) (by omega)]; exact cj)] at ref
              rw [if_pos (by rw [sN_le (by omega) (by omega)]; omega)]
              exact ⟨_, m1, m2, rfl, ref, hInv2⟩
      · rw [if_neg (by rw [K7, sN_le (by omega) (by omega)]; exact c7)]
        refine ⟨-3, mm, mm, rfl, ?_, hInv⟩
        unfold f_X12_plan
        rw [isRiver_ok hvF.1.1 h99, if_neg c0, if_neg (show ¬ (1 : Int32) = 0 by decide), hin, if_neg (show ¬ (1 : Int32) = 0 by decide), afloat_f hvF ov hrF oa, bi1_s, bits_ok (by omega), bi1_s, p16, if_neg (by rw [K7, sN_le (by omega) (by omega)]; exact c7)]
    rcases rngm x 6 (by decide) (h := (6 : Int64)) (by decide) with ⟨p1, p2⟩ | ⟨j, p1, p2, p3⟩ | ⟨p1, p2⟩
    · exact good p2 (Or.inl p1) (by rw [p1]; decide) (by rw [p1]; decide)
    · exact good p3 (Or.inr ⟨j, p1, p2⟩) (fun z => by
        rw [p2, Int32.lt_iff_toInt_lt, nI_toInt (by omega), show (-1 : Int32).toInt = -1 by decide] at z
        omega) (by rw [p2, K7, sN_lt (by omega) (by omega)]; omega)
    · rcases p1 with p1 | p1
      · rw [if_pos p1]
        exact bad p2
      · have h7 : ¬ x < 7 := fun z => by
          rw [Int32.lt_iff_toInt_lt] at z p1
          rw [show (nI 6).toInt = 6 by decide] at p1
          rw [show (7 : Int32).toInt = 7 by decide] at z
          omega
        rw [if_neg h7]
        by_cases d : x < -1
        · rw [if_pos d]
          exact bad p2
        · rw [if_neg d]
          exact bad p2
