/-! PHASE 2: river, the simulation -/
theorem begin_c {m : Mm} {X : Bv} (hX : bC m X) (hO : bO X) : ∃ m1, f_X9_begin m = some m1 ∧ (∀ i, ¬ (26 ≤ i ∧ i < 42) → m1.1 i = m.1 i) ∧ m1.1 27 2 = nI (X.1 1 2) ∧ ∀ ol P x, m.1 26 3 = nI ol → m.1 26 9 = x → StC (cS m1 26) ol X.1 X.2 0 P (fun _ _ => 0) x := by
  obtain ⟨⟨ov, r3, r4, r5, r6⟩, oa, z0, z1, z4⟩ := hO
  have h6 := ov.2.1
  have h8 := ov.2.2.1
  have hL := oa.2.1
  obtain ⟨a, ea, fa, va, vb, vc, vd⟩ := copyV_c (mm := m) (v := 27) (v2 := 4) (by decide)
  obtain ⟨b, eb, fb, wa, wb, wc, wd⟩ := copyR_c (mm := a) (r := 33) (r2 := 10) (v := 27) (v2 := 4) (by decide)
  obtain ⟨⟨x3, x4⟩, x5, x6, x7⟩ := hX
  obtain ⟨F, hF⟩ : ∃ F, F = wI (wI b 26 4 0) 26 5 0 := ⟨_, rfl⟩
  have F0 : ∀ i, ¬ i = 26 → F.1 i = b.1 i := fun i hi => by rw [hF, wI_ne hi, wI_ne hi]
  have c27 : ∀ k, k < 4 → F.1 27 k = m.1 4 k := fun k hk => by rw [F0 27 (by decide), fb 27 (by decide)]; exact va k hk
  refine ⟨F, ?_, fun i hi => by rw [F0 i (by omega), fb i (by omega), fa i (by omega)], (c27 2 (by decide)).trans x3.1.2.2, fun ol P x h3 h9 => ?_⟩
  · unfold f_X9_begin
    rw [ea, bi1_s, eb, bi1_s, vl_s, vl_s, ← hF]
  · have k26 : ∀ k, ¬ k = 4 → ¬ k = 5 → F.1 26 k = m.1 26 k := fun k k1 k2 => by rw [hF, wI_pl k2, wI_pl k1, fb 26 (by decide), fa 26 (by decide)]
    refine ⟨⟨⟨(c27 0 (by decide)).trans x3.1.1, (c27 1 (by decide)).trans x3.1.2.1, (c27 2 (by decide)).trans x3.1.2.2, (c27 3 (by decide)).trans x4⟩, fun o ho => ?_, fun u hu => ?_, fun k hk => ?_⟩, ⟨?_, fun k hk => absurd hk (Nat.not_lt_zero _)⟩, (k26 3 (by decide) (by decide)).trans h3, ?_, (k26 9 (by decide) (by decide)).trans h9, ⟨⟨?_, ?_, ⟨?_, fun k hk => ?_⟩, fun o ho => ?_, fun u hu => ?_⟩, fun u hu h2 => ?_⟩, fun a ha => absurd ha (Nat.not_lt_zero _)⟩
    · show F.1 28 o = _ ∧ F.1 29 o = _
      rw [F0 28 (by decide), fb 28 (by decide), F0 29 (by decide), fb 29 (by decide)]
      have := vb o (by omega)
      exact ⟨this.1.trans (x3.2.1 o ho).1, this.2.trans (x3.2.1 o ho).2⟩
    · show F.1 30 u = _ ∧ F.1 31 u = _
      rw [F0 30 (by decide), fb 30 (by decide), F0 31 (by decide), fb 31 (by decide)]
      have := vc u (by omega)
      exact ⟨this.1.trans (x3.2.2.1 u hu).1, this.2.trans (x3.2.2.1 u hu).2⟩
    · show F.1 32 k = _
      rw [F0 32 (by decide), fb 32 (by decide)]
      exact (vd k hk).trans (x3.2.2.2 k hk)
    · show F.1 26 5 = nI 0
      rw [hF, wI_at]
      rfl
    · show F.1 26 4 = nI 0
      rw [hF, wI_pl (by decide), wI_at]
      rfl
    · show F.1 33 1 = _
      rw [F0 33 (by decide), wa.1, fa 10 (by decide)]
      exact x5.1
    · show F.1 33 2 = _
      rw [F0 33 (by decide), wa.2.1, fa 10 (by decide)]
      exact x5.2.1
    · show F.1 33 3 = _
      rw [F0 33 (by decide), wa.2.2, fa 10 (by decide)]
      exact x5.2.2.1.1
    · show F.1 39 k = _ ∧ F.1 40 k = _ ∧ F.1 41 k = _
      have q := x5.2.2.1.2 k hk
      have w := wd k (by omega)
      rw [F0 39 (by decide), F0 40 (by decide), F0 41 (by decide)]
      exact ⟨w.1.trans (by rw [fa (10 + 6) (by decide)]; exact q.1), w.2.1.trans (by rw [fa (10 + 7) (by decide)]; exact q.2.1), w.2.2.trans (by rw [fa (10 + 8) (by decide)]; exact q.2.2)⟩
    · show F.1 34 o = _
      rw [F0 34 (by decide)]
      exact (wb o (by omega)).trans (by rw [fa (10 + 1) (by decide)]; exact x5.2.2.2.1 o ho)
    · show F.1 35 u = _ ∧ F.1 36 u = _ ∧ F.1 37 u = _
      have q := x5.2.2.2.2 u hu
      have w := wc u (by omega)
      rw [F0 35 (by decide), F0 36 (by decide), F0 37 (by decide)]
      exact ⟨w.1.trans (by rw [fa (10 + 2) (by decide)]; exact q.1), w.2.1.trans (by rw [fa (10 + 3) (by decide)]; exact q.2.1), w.2.2.1.trans (by rw [fa (10 + 4) (by decide)]; exact q.2.2)⟩
    · rw [z4 u] at h2
      exact absurd h2 (by decide)
theorem sm_river_ok : sm_river Inv := by
  intro mm hInv
  obtain ⟨n, t, tc, tf, ok⟩ := SimT_Tx hInv.1
  obtain ⟨ol, V, R, na, P, O, xx, hC, hF, hok⟩ := SimS_St hInv.2.2.1
  obtain ⟨m1, f1, hrd⟩ := read_c tc ok
  unfold f_X11_river
  rcases hrd with ⟨f, r1, r2, r3⟩ | ⟨X, r1, r2, r3, r4, r5⟩
  · rw [r2, bi2_s, vl_s, if_pos rfl, wI_pl (by decide), r3]
    obtain ⟨m2, hm2⟩ : ∃ m2, m2 = wI m1 1 1 0 := ⟨_, rfl⟩
    have g2 : ∀ i, ¬ (i = 1 ∨ (4 ≤ i ∧ i < 19)) → m2.1 i = mm.1 i := fun i hi => by rw [hm2, wI_ne (by omega), f1.1 i hi]
    have tf2 : TxF m2 n t := ⟨by rw [g2 1088 (by decide)]; exact tf.1, fun k hk => by rw [g2 1119 (by decide)]; exact tf.2 k hk⟩
    obtain ⟨m3, e3, f3, z3, h3⟩ := readsAll_f tf2 ok
    rcases h3 with ⟨f', s1, s2, s3, s4⟩ | ⟨X', s1, _⟩
    · rw [r1] at s1
      have hff := Sum.inl.inj s1
      refine ⟨_, m2, m3, by rw [hm2], ?_, ?_⟩
      · unfold f_X12_river
        rw [e3, bi1_s, s2, if_neg (fun z => by rw [sN_le0 (by omega)] at z; omega), hff]
      · have g : ∀ i, (i < 1088 ∨ (1089 ≤ i ∧ i < 1107) ∨ 1119 ≤ i) → ¬ (i = 1 ∨ (4 ≤ i ∧ i < 19)) → m3.1 i = mm.1 i := fun i hi h1 => by rw [f3.1 i (by omega) (by omega), g2 i h1]
        have g8 : ∀ k, k = 35 ∨ k = 40 ∨ k = 55 → m3.1 1088 k = mm.1 1088 k := fun k hk => by rw [f3.2 k (by omega), g2 1088 (by decide)]
        refine ⟨⟨0, by decide, ?_, z3, fun k hk => absurd hk (Nat.not_lt_zero _)⟩, SimL_eq (by rw [g 0 (by omega) (by omega)]) (g8 35 (by omega)) (g8 40 (by omega)) (fun i h1 h2 => g i (by omega) (by omega)) (fun i h1 h2 => g i (by omega) (by omega)) hInv.2.1, SimN_eq (fun i h1 h2 => g i (by omega) (by omega)) (fun i h1 h2 => g i (by omega) (by omega)) (g8 55 (by omega)) (g 1129 (by omega) (by omega)) hInv.2.2.1, SimI_eq (g 227 (by omega) (by omega)) (g 1140 (by omega) (by omega)) (fun i h1 h2 => g i (by omega) (by omega)) (g 1139 (by omega) (by omega)) hInv.2.2.2⟩
        rw [f3.1 1 (by decide) (by decide), hm2, wI_at]
        rfl
    · rw [r1] at s1
      cases s1
  · rw [r2, bi2_s, vl_s, if_neg (show ¬ (1 : Int32) = 0 by decide)]
    obtain ⟨m2, hm2⟩ : ∃ m2, m2 = wI m1 1 1 0 := ⟨_, rfl⟩
    have g2 : ∀ i, ¬ (i = 1 ∨ (4 ≤ i ∧ i < 19)) → m2.1 i = mm.1 i := fun i hi => by rw [hm2, wI_ne (by omega), f1.1 i hi]
    have x2 : bC m2 X := bC_eq (fun j j1 j2 => by rw [hm2, wI_ne (by omega)]) r3
    rw [← hm2]
    obtain ⟨m3, e3, f3, q3, st3⟩ := begin_c x2 r4
    have g3 : ∀ i, ¬ (i = 1 ∨ (4 ≤ i ∧ i < 19) ∨ (26 ≤ i ∧ i < 42)) → m3.1 i = mm.1 i := fun i hi => by rw [f3 i (by omega), g2 i (by omega)]
    have hC3 := st3 ol P xx (by rw [g2 26 (by decide)]; exact hC.2.2.1) (by rw [g2 26 (by decide)]; exact hC.2.2.2.2.1)
    rw [e3, bi1_s, q3]
    have tf3 : TxF m3 n t := ⟨by rw [g3 1088 (by decide)]; exact tf.1, fun k hk => by rw [g3 1119 (by decide)]; exact tf.2 k hk⟩
    obtain ⟨m4, e4, f4, z4, h4⟩ := readsAll_f tf3 ok
    rcases h4 with ⟨f', s1, _⟩ | ⟨X', s1, s2, s3⟩
    · rw [r1] at s1
      cases s1
    · rw [r1] at s1
      have hXX := Sum.inr.inj s1
      rw [← hXX] at s3
      obtain ⟨m5, e5, f5, f58, st5⟩ := riverEnd_f s3 r4
      have g4 : ∀ i, ¬ i = 1088 → ¬ (1107 ≤ i ∧ i < 1119) → ¬ (i = 1 ∨ (4 ≤ i ∧ i < 19) ∨ (26 ≤ i ∧ i < 42)) → m4.1 i = mm.1 i := fun i i1 i2 i3 => by rw [f4.1 i i1 i2, g3 i i3]
      have hF5 := st5 P xx (by rw [g4 1089 (by decide) (by decide) (by decide)]; exact hF.2.2.2.1)
      refine ⟨_, m3, m5, rfl, ?_, ?_⟩
      · unfold f_X12_river
        rw [e4, bi1_s, s2, if_pos (by decide)]
        exact e5
      · have g : ∀ i, (i < 1088 ∨ 1119 ≤ i) → ¬ (i = 1 ∨ (4 ≤ i ∧ i < 19) ∨ (26 ≤ i ∧ i < 42)) → m5.1 i = mm.1 i := fun i hi h1 => by rw [f5 i (by omega) (by omega), g4 i (by omega) (by omega) h1]
        have g8 : ∀ k, k = 35 ∨ k = 40 → m5.1 1088 k = mm.1 1088 k := fun k hk => by rw [f58 k (by omega), f4.2 k (by omega), g3 1088 (by decide)]
        have hok5 : StOk ol X.1 X.2 0 P (fun _ _ => 0) xx := ⟨r4.1, ⟨Nat.zero_le _, fun k hk => absurd hk (Nat.not_lt_zero _)⟩, hok.2.2.1, Nat.zero_le _, fun _ => rfl, hok.2.2.2.2.2.1, r4.2.1, fun a ha => absurd ha (Nat.not_lt_zero _)⟩
        have hC5 : StC (cS m5 26) ol X.1 X.2 0 P (fun _ _ => 0) xx := StC_sm (smC_rf (fun j hj => by
          funext k
          show m5.1 (26 + j) k = m3.1 (26 + j) k
          rw [f5 (26 + j) (by omega) (by omega), f4.1 (26 + j) (by omega) (by omega)])) hok5 hC3
        refine ⟨⟨0, by decide, ?_, ?_, fun k hk => absurd hk (Nat.not_lt_zero _)⟩, SimL_eq (by rw [g 0 (by omega) (by omega)]) (g8 35 (by omega)) (g8 40 (by omega)) (fun i h1 h2 => g i (by omega) (by omega)) (fun i h1 h2 => g i (by omega) (by omega)) hInv.2.1, St_SimS hC5 hF5 hok5, SimI_eq (g 227 (by omega) (by omega)) (g 1140 (by omega) (by omega)) (fun i h1 h2 => g i (by omega) (by omega)) (g 1139 (by omega) (by omega)) hInv.2.2.2⟩
        · rw [f5 1 (by decide) (by decide), f4.1 1 (by decide) (by decide), f3 1 (by decide), hm2, wI_at]
          rfl
        · rw [f58 31 (by decide)]
          exact z4
