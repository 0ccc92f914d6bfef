/-! PHASE 2: delta, the reference's side -/
def lea (s : Nat) : Nat := frst (fun t => s.testBit t) 8
theorem lea_ok {s : Nat} (hs : s < 256) (h0 : ¬ s = 0) : s.testBit (lea s) = true ∧ (∀ u, u < lea s → s.testBit u = false) ∧ lea s < 8 := by
  obtain ⟨k1, k2, k3⟩ := frst_ok 8 (fun t => s.testBit t)
  have hlt : frst (fun t => s.testBit t) 8 < 8 := by
    by_cases c : frst (fun t => s.testBit t) 8 < 8
    · exact c
    · exfalso
      refine h0 (zero_iff.mpr (fun t ht => ?_))
      by_cases d : t < 8
      · have := k2 t (by omega)
        have this : s.testBit t = false := this
        rw [ht] at this
        exact absurd this (by decide)
      · rw [Nat.testBit_lt_two_pow (Nat.lt_of_lt_of_le hs (Nat.pow_le_pow_right (n := 2) (i := 8) (by decide) (by omega)))] at ht
        exact absurd ht (by decide)
  exact ⟨k3 hlt, k2, hlt⟩
theorem groups_f {mm : Mm} {V A : Dat} {L : Rop} {S : Int32} (hv : RvF mm V) (ov : RvOk V) (hr : RaF mm V A L S) (oa : RaOk V A L) {y : Int32} : ∃ m1, lp (f_X12_delta_s21 y) ((0 : Int32), mm) = some m1 ∧ Gr m1 V (pOf V A L 0) ∧ ∀ i, ¬ i = 1137 → m1.1 i = mm.1 i := by
  have h8 := ov.2.2.1
  have pp := pOf_PP ov oa 0
  have hxr := row_loop (st := f_X12_delta_s21 y) (mm := mm) (fun i => i = 1137) (fun _ t => if pOf V A L 0 t = 0 then -1 else nI (lea (pOf V A L 0 t))) (V 1 2) (fun k m hk hm => ?_) (fun m hm => ?_)
  · obtain ⟨m1, e, g1, g2⟩ := hxr
    have hg : ∀ i, ¬ i = 1137 → m1.1 i = mm.1 i := fun i hi => by
      funext j
      exact g1 i j (fun z => hi z.1)
    refine ⟨m1, e, ⟨fun t ht h0 => by rw [g2 _ t rfl ht, if_pos h0], fun t ht h0 => ⟨lea (pOf V A L 0 t), (lea_ok (pp.1 t) h0).2.2, by rw [g2 _ t rfl ht, if_neg h0]⟩, fun t u ht hu t0 u0 => ?_⟩, hg⟩
    have l1 := lea_ok (pp.1 t) t0
    have l2 := lea_ok (pp.1 u) u0
    rw [g2 _ t rfl ht, g2 _ u rfl hu, if_neg t0, if_neg u0, nI_eq_iff (by omega) (by omega)]
    refine ⟨fun h => ?_, fun h => by rw [h]⟩
    rw [← (pp.2.2.2 t _ l1.1).1, h, (pp.2.2.2 u _ l2.1).1]
  · have hm2 : ∀ i, ¬ i = 1137 → m.1 i = mm.1 i := fun i h2 => by
      funext j
      rw [hm i j (fun z => h2 z.1)]
    have hvm : RvF m V := RvF_eq (fun i i1 i2 => hm2 i (by omega)) hv
    have hrm : RaF m V A L S := RaF_eq (fun i i1 i2 => hm2 i (by omega)) hr
    have e4 := (hrm.2.2.2.2 k hk).2.2
    have b4 := (oa.2.2.2.1 k hk).2.2
    unfold f_X12_delta_s21 f_X12_delta_j57
    dsimp only
    rw [hvm.1.2.2, if_neg (by rw [sN_le (by omega) (by omega)]; omega), if_neg (gd_ok (by omega) (by decide)), cl_ok (by omega), e4]
    by_cases c : A 4 k = 0
    · have h0 := (PP_ne pp k).mpr ⟨hk, c⟩
      have l1 := lea_ok (pp.1 k) h0
      rw [if_pos (by rw [c]; rfl), pieceOf_f hvm ov hrm oa ⟨hk, c⟩, bi1_s, least_f (pp.1 k) l1.1 l1.2.1, bi1_s, if_neg (show ¬ (nI k < 0 ∨ 8 ≤ k) from fun z => z.elim (nI_nn k (by omega)) (fun y => by omega)), vl_s]
      refine ⟨wI m 1137 k (nI (lea (pOf V A L 0 k))), by rw [sN_a1], fun i j h => by rw [wI_get, if_neg (fun z => h z)], fun i hi => ?_⟩
      rw [hi, wI_at, if_neg h0]
    · have h0 : pOf V A L 0 k = 0 := pp.2.2.1 k (fun z => c z.2)
      rw [if_neg (by rw [sN_eq0 (by omega)]; exact c), if_neg (show ¬ (nI k < 0 ∨ 8 ≤ k) from fun z => z.elim (nI_nn k (by omega)) (fun y => by omega)), vl_s]
      refine ⟨wI m 1137 k (-1), by rw [sN_a1], fun i j h => by rw [wI_get, if_neg (fun z => h z)], fun i hi => ?_⟩
      rw [hi, wI_at, if_pos h0]
  · have e27 : m.1 1089 3 = nI (V 1 2) := by rw [hm 1089 3 (fun z => by omega)]; exact hv.1.2.2
    unfold f_X12_delta_s21
    simp (disch := omega) only [↓reduceIte, decide_true, decide_false, Bool.false_eq_true, eq_self, s10, s01, cont_ok, has_ok, b2i0, b2i1, reduceCtorEq, Nat.or_zero, Nat.add_zero, sN_le, sN_lt, sN_eq, sN_lt0, sN_le0, sN_0le, sN_0lt, sN_eq0, sN_cl, sN_ad, sN_a1, K2, K3, K4, K5, K6, K7, K8, K9, K12, K16, K20, false_or, or_false, if_neg, if_pos, vl_s, bi1_s, bi2_s, nx_or, nx_and, nx_sh, e27]
theorem merge_f {mm : Mm} {V A : Dat} {p : Nat → Nat} (hv : RvF mm V) (ov : RvOk V) (pp : PP V A p) (hg : Gr mm V p) {c d : Nat} (hc : c < V 1 2) (hd : d < V 1 2) (c0 : ¬ p c = 0) (d0 : ¬ p d = 0) (hcd : ¬ p c = p d) {y1 y2 y3 y4 : Int32} : ∃ m1, lp (f_X12_delta_s262 y1 y2 y3 y4 (mm.1 1137 d) (mm.1 1137 c)) ((0 : Int32), mm) = some m1 ∧ Gr m1 V (Un p c d) ∧ ∀ i, ¬ i = 1137 → m1.1 i = mm.1 i := by
  have h8 := ov.2.2.1
  have hxr := row_loop (st := f_X12_delta_s262 y1 y2 y3 y4 (mm.1 1137 d) (mm.1 1137 c)) (mm := mm) (fun i => i = 1137) (fun _ t => if mm.1 1137 t = mm.1 1137 d then mm.1 1137 c else mm.1 1137 t) (V 1 2) (fun k m hk hm => ?_) (fun m hm => ?_)
  · obtain ⟨m1, e, g1, g2⟩ := hxr
    have hgi : ∀ i, ¬ i = 1137 → m1.1 i = mm.1 i := fun i hi => by
      funext j
      exact g1 i j (fun z => hi z.1)
    obtain ⟨lc, lcl, lce⟩ := hg.2.1 c hc c0
    obtain ⟨ld, ldl, lde⟩ := hg.2.1 d hd d0
    have U0 : ∀ t, Un p c d t = 0 ↔ p t = 0 := fun t => by
      rw [Un_at hcd]
      by_cases h : (p c ||| p d).testBit t = true
      · rw [if_pos h]
        refine ⟨fun z => ?_, fun z => absurd z ((Un_in pp t).mp h).1⟩
        rw [z, Nat.zero_testBit] at h
        exact absurd h (by decide)
      · rw [if_neg h]
    -- in: the new label is that of c; else the old one
    have inn : ∀ t, t < V 1 2 → (p c ||| p d).testBit t = true → m1.1 1137 t = mm.1 1137 c := fun t ht h => by
      obtain ⟨t0, ht2⟩ := (Un_in pp t).mp h
      rw [g2 _ t rfl ht]
      by_cases e : mm.1 1137 t = mm.1 1137 d
      · rw [if_pos e]
      · rw [if_neg e]
        rcases ht2 with h2 | h2
        · exact (hg.2.2 t c ht hc t0 c0).mpr h2
        · exact absurd ((hg.2.2 t d ht hd t0 d0).mpr h2) e
    have out : ∀ t, t < V 1 2 → ¬ p t = 0 → ¬ (p c ||| p d).testBit t = true → m1.1 1137 t = mm.1 1137 t ∧ ¬ mm.1 1137 t = mm.1 1137 c := fun t ht t0 h => by
      rw [g2 _ t rfl ht, if_neg (fun z => h ((Un_in pp t).mpr ⟨t0, Or.inr ((hg.2.2 t d ht hd t0 d0).mp z)⟩))]
      exact ⟨rfl, fun z => h ((Un_in pp t).mpr ⟨t0, Or.inl ((hg.2.2 t c ht hc t0 c0).mp z)⟩)⟩
    refine ⟨m1, e, ⟨fun t ht h0 => ?_, fun t ht h0 => ?_, fun t u ht hu t0 u0 => ?_⟩, hgi⟩
    · rw [U0] at h0
      have := hg.1 t ht h0
      rw [g2 _ t rfl ht, this, if_neg (by rw [lde]; exact fun z => nm1 (by omega) z.symm)]
    · rw [U0] at h0
      by_cases h : (p c ||| p d).testBit t = true
      · exact ⟨lc, lcl, by rw [inn t ht h, lce]⟩
      · obtain ⟨l, ll, le⟩ := hg.2.1 t ht h0
        exact ⟨l, ll, by rw [(out t ht h0 h).1, le]⟩
    · rw [U0] at t0 u0
      rw [Un_at hcd, Un_at hcd]
      by_cases h : (p c ||| p d).testBit t = true
      · by_cases k : (p c ||| p d).testBit u = true
        · rw [if_pos h, if_pos k, inn t ht h, inn u hu k]
          exact ⟨fun _ => rfl, fun _ => rfl⟩
        · rw [if_pos h, if_neg k, inn t ht h, (out u hu u0 k).1]
          refine ⟨fun z => absurd z.symm (out u hu u0 k).2, fun z => ?_⟩
          rw [z] at k
          exact absurd (pp.2.1 u ((PP_ne pp u).mp u0)) k
      · by_cases k : (p c ||| p d).testBit u = true
        · rw [if_neg h, if_pos k, inn u hu k, (out t ht t0 h).1]
          refine ⟨fun z => absurd z (out t ht t0 h).2, fun z => ?_⟩
          rw [← z] at h
          exact absurd (pp.2.1 t ((PP_ne pp t).mp t0)) h
        · rw [if_neg h, if_neg k, (out t ht t0 h).1, (out u hu u0 k).1]
          exact hg.2.2 t u ht hu t0 u0
  · have e27 : m.1 1089 3 = nI (V 1 2) := by rw [hm 1089 3 (fun z => by omega)]; exact hv.1.2.2
    have ek : m.1 1137 k = mm.1 1137 k := hm 1137 k (fun z => by omega)
    unfold f_X12_delta_s262 f_X12_delta_j303
    dsimp only
    rw [e27, if_neg (by rw [sN_le (by omega) (by omega)]; omega), if_neg (gd_ok (by omega) (by decide)), cl_ok (by omega), ek]
    by_cases c : mm.1 1137 k = mm.1 1137 d
    · rw [if_pos c, if_neg (show ¬ (nI k < 0 ∨ 8 ≤ k) from fun z => z.elim (nI_nn k (by omega)) (fun y => by omega)), vl_s]
      refine ⟨_, by rw [sN_a1], fun i j h => by rw [wI_get, if_neg (fun z => h z)], fun i hi => ?_⟩
      rw [hi, wI_at, if_pos c]
    · rw [if_neg c, if_neg (show ¬ (nI k < 0 ∨ 8 ≤ k) from fun z => z.elim (nI_nn k (by omega)) (fun y => by omega)), if_neg (show ¬ (nI k < 0 ∨ 8 ≤ k) from fun z => z.elim (nI_nn k (by omega)) (fun y => by omega)), vl_s]
      refine ⟨_, by rw [sN_a1], fun i j h => by rw [wI_get, if_neg (fun z => h z)], fun i hi => ?_⟩
      rw [hi, wI_at, if_neg c]
  · have e27 : m.1 1089 3 = nI (V 1 2) := by rw [hm 1089 3 (fun z => by omega)]; exact hv.1.2.2
    unfold f_X12_delta_s262
    simp (disch := omega) only [↓reduceIte, decide_true, decide_false, Bool.false_eq_true, eq_self, s10, s01, cont_ok, has_ok, b2i0, b2i1, reduceCtorEq, Nat.or_zero, Nat.add_zero, sN_le, sN_lt, sN_eq, sN_lt0, sN_le0, sN_0le, sN_0lt, sN_eq0, sN_cl, sN_ad, sN_a1, K2, K3, K4, K5, K6, K7, K8, K9, K12, K16, K20, false_or, or_false, if_neg, if_pos, vl_s, bi1_s, bi2_s, nx_or, nx_and, nx_sh, e27]
theorem deltaL_f {mm : Mm} {V A : Dat} {p : Nat → Nat} (hv : RvF mm V) (ov : RvOk V) (pp : PP V A p) (hg : Gr mm V p) {y : Int32} : ∃ m1, lp (f_X12_delta_s71 y) ((0 : Int32), (0 : Int32), (1 : Int32), mm) = some (nI (dIt V p (cnt (lst p) 8 - 1)).2.1, nI (dIt V p (cnt (lst p) 8 - 1)).2.2, m1) ∧ ∀ i, ¬ i = 1137 → m1.1 i = mm.1 i := by
  have h8 := ov.2.2.1
  have hx : ∃ z, lp (f_X12_delta_s71 y) ((0 : Int32), (0 : Int32), (1 : Int32), mm) = some z ∧ ∃ m1, z = (nI (dIt V p (cnt (lst p) 8 - 1)).2.1, nI (dIt V p (cnt (lst p) 8 - 1)).2.2, m1) ∧ ∀ i, ¬ i = 1137 → m1.1 i = mm.1 i := by
    refine lp_stop (fun k x => (∃ m, x = (nI (dIt V p k).2.1, nI (dIt V p k).2.2, (1 : Int32), m) ∧ Gr m V (dIt V p k).1 ∧ (∀ i, ¬ i = 1137 → m.1 i = mm.1 i) ∧ ∀ j, j < k → ¬ bpO V (dIt V p j).1 8 8 = none) ∨ (∃ m i, x = (nI (dIt V p i).2.1, nI (dIt V p i).2.2, (0 : Int32), m) ∧ (∀ i, ¬ i = 1137 → m.1 i = mm.1 i) ∧ bpO V (dIt V p i).1 8 8 = none ∧ ∀ j, j < i → ¬ bpO V (dIt V p j).1 8 8 = none)) _ (cnt (lst p) 8 + 2) (fun k x hk hx => ?_) 0 _ (Nat.zero_le _) (Or.inl ⟨mm, rfl, hg, fun _ _ => rfl, fun j hj => absurd hj (by omega)⟩)
    rcases hx with ⟨m, rfl, g1, g2, g3⟩ | ⟨m, i, rfl, g2, g4, g3⟩
    · have hc := dIt_cnt ov pp k g3
      have ppk := dIt_PP pp k
      have hvm : RvF m V := RvF_eq (fun i i1 i2 => g2 i (by omega)) hv
      have hsame := bpO_same (V := V) (p := (dIt V p k).1) (n := V 1 2) h8 (fun t ht => ppk.2.2.1 t (fun z => by omega))
      have hk2 : k < cnt (lst p) 8 + 2 := by
        by_cases c : 1 ≤ k
        · have := hc.2 c; omega
        · omega
      refine Or.inl ⟨hk2, ?_⟩
      unfold f_X12_delta_s71 f_X12_delta_j220
      dsimp only
      rw [if_neg (show ¬ (1 : Int32) = 0 by decide), scan_f hvm ov ppk g1, bi1_s, ← hsame]
      cases hb : bpO V (dIt V p k).1 8 8 with
      | none => exact ⟨_, rfl, Or.inr ⟨m, k, rfl, g2, hb, g3⟩⟩
      | some c =>
        have gd := bpO_gd (V := V) (p := (dIt V p k).1) (N := 8) 8 (Nat.le_refl _)
        rw [hb] at gd
        have gc := cand_iff gd.2.2
        have hc1 := ((PP_ne ppk c.1).mp gc.1).1
        have hc2 := ((PP_ne ppk c.2).mp gc.2.1).1
        have cl := cst_le ov hc1 hc2
        obtain ⟨m1, e1, k1, k2⟩ := merge_f hvm ov ppk g1 hc1 hc2 gc.1 gc.2.1 gc.2.2 (y1 := y) (y2 := nI (dIt V p k).2.1 + nI (cst V c.1 c.2)) (y3 := nI (dIt V p k).2.2 + 1) (y4 := 1)
        show ∃ y', (if nI c.1 = -1 then _ else _) = some (Sum.inl y') ∧ _
        rw [if_neg (nm1 (by omega)), if_neg (show ¬ (1 : Int32) = 0 by decide), show (encR (some c)).1 = nI c.1 from rfl, show (encR (some c)).2 = nI c.2 from rfl, ropeBetween_f hvm ov hc1 hc2, bi1_s, if_neg (gd_ok (show c.2 < 8 by omega) (by decide)), cl_ok (by omega), vl_s, if_neg (gd_ok (show c.1 < 8 by omega) (by decide)), cl_ok (by omega), vl_s, e1, bi1_s]
        refine ⟨_, rfl, Or.inl ⟨m1, ?_, ?_, fun i hi => by rw [k2 i hi, g2 i hi], fun j hj => ?_⟩⟩
        · rw [dIt_some hb, sN_ad, sN_a1]
        · rw [dIt_some hb]; exact k1
        · by_cases d : j = k
          · rw [d, hb]; exact fun z => by cases z
          · exact g3 j (by omega)
    · have hc := dIt_cnt ov pp i g3
      refine Or.inr ⟨_, rfl, m, ?_, g2⟩
      have hi : i ≤ cnt (lst p) 8 - 1 := by
        by_cases c : 1 ≤ i
        · have := hc.2 c; omega
        · omega
      have := dIt_none g4 (cnt (lst p) 8 - 1 - i)
      rw [show i + (cnt (lst p) 8 - 1 - i) = cnt (lst p) 8 - 1 by omega] at this
      rw [this]
  obtain ⟨z, e, m1, rfl, h1⟩ := hx
  exact ⟨m1, e, h1⟩
theorem sm_delta_ok : sm_delta Inv := by
  intro mm x hInv
  obtain ⟨ol, V, R, na, P, O, xx, hC, hF, ok⟩ := SimS_St hInv.2.2.1
  have hv := StC_rv hC
  have hr := StC_ra hC
  have hvF := rvF_RvF hF.1 ok.1
  have hrF := StF_ra hF
  have ov := ok.1.1
  have oa := ok.2.2.2.2.2.2.1
  have h99 := ov.1
  unfold f_X11_delta
  rw [hasRiver_ok hv.1.1 h99]
  by_cases c0 : V 1 0 = 0
  · rw [if_pos c0, if_pos rfl]
    refine ⟨-1, mm, mm, rfl, ?_, hInv⟩
    unfold f_X12_delta
    rw [isRiver_ok hvF.1.1 h99, if_pos c0, if_pos rfl]
  · rw [if_neg c0, if_neg (by decide)]
    obtain ⟨m1, e1, s1, s2, f1⟩ := findDelta_c hv ov hr oa
    have hF1 : StF (fS m1) V R na P O xx := StF_cl (fun i hi => f1 i (sc_F hi)) hF
    have hv1 := rvF_RvF hF1.1 ok.1
    obtain ⟨m2, e2, g2, f2⟩ := groups_f hv1 ov (StF_ra hF1) oa (y := x)
    obtain ⟨m3, e3, f3⟩ := deltaL_f (RvF_eq (fun i i1 i2 => f2 i (by omega)) hv1) ov (pOf_PP ov oa 0) g2 (y := x)
    have hInv3 : Inv m3 := Inv_scF (Inv_sc hInv f1) (fun i hi _ => by rw [f3 i (fun z => hi (by unfold scF; omega)), f2 i (fun z => hi (by unfold scF; omega))]) (fun j _ => by rw [f3 1088 (by decide), f2 1088 (by decide)])
    rcases in01 x with ⟨rfl, hin⟩ | ⟨rfl, hin⟩ | ⟨hw, hin⟩
    · refine ⟨_, m1, m3, by rw [if_neg (by decide), if_pos (by decide), e1, bi1_s, if_pos rfl, s1], ?_, hInv3⟩
      unfold f_X12_delta
      rw [isRiver_ok hv1.1.1 h99, if_neg c0, if_neg (show ¬ (1 : Int32) = 0 by decide), hin, if_neg (show ¬ (1 : Int32) = 0 by decide), e2, bi1_s, e3, bi1_s]
      rfl
    · refine ⟨_, m1, m3, by rw [if_neg (by decide), if_pos (by decide), e1, bi1_s, if_neg (by decide), s2], ?_, hInv3⟩
      unfold f_X12_delta
      rw [isRiver_ok hv1.1.1 h99, if_neg c0, if_neg (show ¬ (1 : Int32) = 0 by decide), hin, if_neg (show ¬ (1 : Int32) = 0 by decide), e2, bi1_s, e3, bi1_s]
      rfl
    · refine ⟨-1, mm, mm, ?_, ?_, hInv⟩
      · rcases hw with hw | ⟨hw1, hw2⟩
        · rw [if_pos hw]
        · rw [if_neg hw1, if_neg hw2]
      · unfold f_X12_delta
        rw [isRiver_ok hvF.1.1 h99, if_neg c0, if_neg (show ¬ (1 : Int32) = 0 by decide), hin, if_pos rfl]
