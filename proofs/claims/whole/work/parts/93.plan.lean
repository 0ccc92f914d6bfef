/-! PHASE 2: plan, the reference's groups -/
theorem grp_f {mm : Mm} {V A : Dat} {L : Rop} {S : Int32} (hv : RvF mm V) (ov : RvOk V) (hr : RaF mm V A L S) (oa : RaOk V A L) {m : Nat} (hm : m ≤ 99) {y : Int32} : lp (f_X12_laysLater_s53 mm (nI (thA V A 0)) y (nI m)) ((0 : Int32), (0 : Int32), (0 : Int32)) = some (nI (lat V A m), if lnA V A m (V 1 2) then 1 else 0) := by
  have h8 := ov.2.2.1
  have h6 := ov.2.1
  have ha : thA V A 0 < 256 := thA_lt h8
  refine lpf (fun k => (nI (bset (latp V A m) k), (if lnA V A m k then (1 : Int32) else 0), nI k)) (V 1 2) rfl (fun k hk => ?_) ?_
  · have h1 := hr.2.2.2.2 k hk
    have h2 := oa.2.2.2.1 k hk
    have h3 := hv.2.1 _ h2.1
    have hl : V 2 (A 2 k) ≤ 99 := by
      have := ov.2.2.2.1 _ (oa.2.2.2.1 k hk).1
      have := ov.1
      omega
    have etb := thA_af (V := V) (A := A) hk
    have e1 : bset (latp V A m) (k + 1) = bset (latp V A m) k ||| (if latp V A m k then 2 ^ k else 0) := rfl
    have e2 : lnA V A m (k + 1) = (lnA V A m k || lnp V A m k) := rfl
    unfold f_X12_laysLater_s53 f_X12_laysLater_j99 f_X12_laysLater_j123 f_X12_laysLater_j128
    rw [e1, e2]
    unfold latp lnp
    by_cases c0 : A 4 k = 0
    · by_cases c1 : V 2 (A 2 k) = m
      · cases hq : lnA V A m k <;> simp (disch := omega) only [hv.1.2.2, h1.1, h3.1, ↓reduceIte, decide_true, decide_false, Bool.false_eq_true, eq_self, s10, s01, cont_ok, has_ok, b2i0, b2i1, reduceCtorEq, Nat.or_zero, Nat.add_zero, sN_le, sN_lt, sN_eq, sN_lt0, sN_le0, sN_0le, sN_0lt, sN_eq0, sN_cl, sN_ad, sN_a1, K2, K3, K4, K5, K6, K7, K8, K9, K12, K16, K20, false_or, or_false, if_neg, if_pos, vl_s, bi1_s, bi2_s, nx_or, nx_and, nx_sh, etb, c0, c1, Bool.true_and, Bool.or_true, Nat.lt_irrefl, Nat.le_refl, Int32.or_zero]
      · by_cases c2 : m < V 2 (A 2 k)
        · cases hq : lnA V A m k <;> simp (disch := omega) only [hv.1.2.2, h1.1, h3.1, ↓reduceIte, decide_true, decide_false, Bool.false_eq_true, eq_self, s10, s01, cont_ok, has_ok, b2i0, b2i1, reduceCtorEq, Nat.or_zero, Nat.add_zero, sN_le, sN_lt, sN_eq, sN_lt0, sN_le0, sN_0le, sN_0lt, sN_eq0, sN_cl, sN_ad, sN_a1, K2, K3, K4, K5, K6, K7, K8, K9, K12, K16, K20, false_or, or_false, if_neg, if_pos, vl_s, bi1_s, bi2_s, nx_or, nx_and, nx_sh, etb, c0, c1, c2, Bool.true_and, Bool.or_false]
        · cases hq : lnA V A m k <;> simp (disch := omega) only [hv.1.2.2, h1.1, h3.1, ↓reduceIte, decide_true, decide_false, Bool.false_eq_true, eq_self, s10, s01, cont_ok, has_ok, b2i0, b2i1, reduceCtorEq, Nat.or_zero, Nat.add_zero, sN_le, sN_lt, sN_eq, sN_lt0, sN_le0, sN_0le, sN_0lt, sN_eq0, sN_cl, sN_ad, sN_a1, K2, K3, K4, K5, K6, K7, K8, K9, K12, K16, K20, false_or, or_false, if_neg, if_pos, vl_s, bi1_s, bi2_s, nx_or, nx_and, nx_sh, etb, c0, c1, c2, Bool.true_and, Bool.or_false, Int32.or_zero]
    · simp (disch := omega) only [hv.1.2.2, h1.1, h3.1, ↓reduceIte, decide_true, decide_false, Bool.false_eq_true, eq_self, s10, s01, cont_ok, has_ok, b2i0, b2i1, reduceCtorEq, Nat.or_zero, Nat.add_zero, sN_le, sN_lt, sN_eq, sN_lt0, sN_le0, sN_0le, sN_0lt, sN_eq0, sN_cl, sN_ad, sN_a1, K2, K3, K4, K5, K6, K7, K8, K9, K12, K16, K20, false_or, or_false, if_neg, if_pos, vl_s, bi1_s, bi2_s, nx_or, nx_and, nx_sh, etb, c0, Bool.false_and, Bool.or_false]
  · unfold f_X12_laysLater_s53
    simp (disch := omega) only [hv.1.2.2, ↓reduceIte, decide_true, decide_false, Bool.false_eq_true, eq_self, s10, s01, cont_ok, has_ok, b2i0, b2i1, reduceCtorEq, Nat.or_zero, Nat.add_zero, sN_le, sN_lt, sN_eq, sN_lt0, sN_le0, sN_0le, sN_0lt, sN_eq0, sN_cl, sN_ad, sN_a1, K2, K3, K4, K5, K6, K7, K8, K9, K12, K16, K20, false_or, or_false, if_neg, if_pos, vl_s, bi1_s, bi2_s, nx_or, nx_and, nx_sh]
    rfl
theorem skS_f {mm : Mm} {V A : Dat} {L : Rop} {S : Int32} (hv : RvF mm V) (ov : RvOk V) (hr : RaF mm V A L S) (oa : RaOk V A L) {s n : Nat} (hs : s < 2 ^ 31) (hn : n ≤ 99) {a b : Int32} {z : Int} : lp (f_X12_laysLater_s153 mm a b (nI (A 0 1 + n)) (nI s)) (zI z, (0 : Int32)) = some (zI (z + sumZ (skT V A s n) (V 1 2))) := by
  have h8 := ov.2.2.1
  refine lpf (fun k => (zI (z + sumZ (skT V A s n) k), nI k)) (V 1 2) (by show _ = (zI (z + 0), nI 0); rw [Int.add_zero]; rfl) (fun k hk => ?_) ?_
  · have h1 := hr.2.2.2.2 k hk
    have h2 := hv.2.2.1 k hk
    have b1 := oa.2.2.2.1 k hk
    have b2 := ov.2.2.2.2.1 k hk
    have h3 : 0 ≤ (n : Int) * V 5 k := Int.mul_nonneg (by omega) (by omega)
    have h4 : (n : Int) * V 5 k ≤ 900 := by
      have : n * V 5 k ≤ 100 * 9 := Nat.mul_le_mul (by omega) b2.2
      omega
    have ex : nI (A 3 k) - nI (V 5 k) * (nI (A 0 1 + n) - nI (A 0 1)) = zI ((A 3 k : Int) - n * V 5 k) := by
      rw [nI_sub' (by omega), show A 0 1 + n - A 0 1 = n by omega, zI_n (A 3 k), zI_n (V 5 k), zI_n n, zI_ml, zI_sb, Int.mul_comm (V 5 k : Int) n]
    unfold f_X12_laysLater_s153 f_X12_laysLater_j213 f_X12_laysLater_j214
    rw [show sumZ (skT V A s n) (k + 1) = sumZ (skT V A s n) k + (if s.testBit k then sk (A 3 k) (V 5 k) n else 0) from rfl]
    simp (disch := omega) only [hv.1.2.2, h1.2.1, h2.2, hr.1, ex, ↓reduceIte, decide_true, decide_false, Bool.false_eq_true, eq_self, s10, s01, cont_ok, has_ok, b2i0, b2i1, reduceCtorEq, Nat.or_zero, Nat.add_zero, sN_le, sN_lt, sN_eq, sN_lt0, sN_le0, sN_0le, sN_0lt, sN_eq0, sN_cl, sN_ad, sN_a1, K2, K3, K4, K5, K6, K7, K8, K9, K12, K16, K20, false_or, or_false, if_neg, if_pos, vl_s, bi1_s, bi2_s, nx_or, nx_and, nx_sh]
    unfold sk
    cases hc : s.testBit k
    · simp (disch := omega) only [↓reduceIte, decide_true, decide_false, Bool.false_eq_true, eq_self, s10, s01, cont_ok, has_ok, b2i0, b2i1, reduceCtorEq, Nat.or_zero, Nat.add_zero, sN_le, sN_lt, sN_eq, sN_lt0, sN_le0, sN_0le, sN_0lt, sN_eq0, sN_cl, sN_ad, sN_a1, K2, K3, K4, K5, K6, K7, K8, K9, K12, K16, K20, false_or, or_false, if_neg, if_pos, vl_s, bi1_s, bi2_s, nx_or, nx_and, nx_sh, Int.add_zero, Int32.add_zero]
    · by_cases c : 0 < (A 3 k : Int) - n * V 5 k
      · have c2 : ¬ zI ((A 3 k : Int) - n * V 5 k) ≤ 0 := by rw [zI_0, zI_le (by omega) (by omega) (by omega) (by omega)]; omega
        rw [if_neg (by decide), if_neg c2, if_pos rfl, if_pos c, zI_ad, Int.add_assoc]
      · have c2 : zI ((A 3 k : Int) - n * V 5 k) ≤ 0 := by rw [zI_0, zI_le (by omega) (by omega) (by omega) (by omega)]; omega
        rw [if_neg (by decide), if_pos c2, if_pos rfl, if_neg c, Int.add_zero, Int32.add_zero]
  · unfold f_X12_laysLater_s153
    simp (disch := omega) only [hv.1.2.2, ↓reduceIte, decide_true, decide_false, Bool.false_eq_true, eq_self, s10, s01, cont_ok, has_ok, b2i0, b2i1, reduceCtorEq, Nat.or_zero, Nat.add_zero, sN_le, sN_lt, sN_eq, sN_lt0, sN_le0, sN_0le, sN_0lt, sN_eq0, sN_cl, sN_ad, sN_a1, K2, K3, K4, K5, K6, K7, K8, K9, K12, K16, K20, false_or, or_false, if_neg, if_pos, vl_s, bi1_s, bi2_s, nx_or, nx_and, nx_sh]
def frP (m m1 : Mm) : Prop := (∀ i, ¬ i = 1088 → ¬ (i = 1131 ∨ i = 1132 ∨ i = 1133) → m1.1 i = m.1 i) ∧ ∀ k, ¬ k = 61 → ¬ k = 62 → m1.1 1088 k = m.1 1088 k
theorem frP.rf (m : Mm) : frP m m := ⟨fun _ _ _ => rfl, fun _ _ _ => rfl⟩
theorem frP.tr {a b c : Mm} (h1 : frP a b) (h2 : frP b c) : frP a c := ⟨fun i i1 i2 => (h2.1 i i1 i2).trans (h1.1 i i1 i2), fun k k1 k2 => (h2.2 k k1 k2).trans (h1.2 k k1 k2)⟩
theorem frP.rv {m m1 : Mm} {V : Dat} (f : frP m m1) (h : RvF m V) : RvF m1 V := RvF_eq (fun i h1 h2 => f.1 i (by omega) (by omega)) h
theorem frP.ra {m m1 : Mm} {V A : Dat} {L : Rop} {S : Int32} (f : frP m m1) (h : RaF m V A L S) : RaF m1 V A L S := RaF_eq (fun i h1 h2 => f.1 i (by omega) (by omega)) h
theorem frP_w {m : Mm} {i k : Nat} {x : Int32} (h : i = 1131 ∨ i = 1132 ∨ i = 1133) : frP m (wI m i k x) := ⟨fun j _ j2 => wI_ne (fun z => j2 (z ▸ h)), fun k _ _ => by rw [wI_ne (by omega)]⟩
theorem frP_8 {m : Mm} {k : Nat} {x : Int32} (h : k = 61 ∨ k = 62) : frP m (wI m 1088 k x) := ⟨fun j j1 _ => wI_ne j1, fun l l1 l2 => wI_pl (by omega)⟩
def gAll (V A : Dat) (k : Nat) : Bool := decide (0 ≤ lif V A (thA V A 0) 0) && gpG V A k
theorem laysLater_f {mm : Mm} {V A : Dat} {L : Rop} {S : Int32} (hv : RvF mm V) (ov : RvOk V) (hr : RaF mm V A L S) (oa : RaOk V A L) : ∃ m1, f_X12_laysLater mm (nI (thA V A 0)) = some (if gAll V A (V 1 0 - A 0 1) then 1 else 0, m1) ∧ frP mm m1 ∧ m1.1 1088 62 = mm.1 1088 62 ∧ m1.1 1088 61 = nI (gps V A (V 1 0 - A 0 1)).length ∧ hold (m1.1 1133) (gps V A (V 1 0 - A 0 1)) := by
  have h8 := ov.2.2.1
  have h99 := ov.1
  have hmi := oa.1
  have ha : thA V A 0 < 256 := thA_lt h8
  obtain ⟨N, hN⟩ : ∃ N, N = V 1 0 - A 0 1 := ⟨_, rfl⟩
  rw [← hN]
  have hx := lp_inv (st := f_X12_laysLater_s34 (nI (thA V A 0))) (fun k x => ∃ m, x = ((if gAll V A k then 1 else 0), nI (A 0 1 + 1 + k), m) ∧ frP mm m ∧ m.1 1088 62 = mm.1 1088 62 ∧ m.1 1088 61 = nI (gps V A k).length ∧ hold (m.1 1133) (gps V A k)) (fun r => ∃ m, r = ((if gAll V A N then 1 else 0), m) ∧ frP mm m ∧ m.1 1088 62 = mm.1 1088 62 ∧ m.1 1088 61 = nI (gps V A N).length ∧ hold (m.1 1133) (gps V A N)) N (fun k x hk hP => ?_) (fun x hP => ?_) 0 ((if gAll V A 0 then 1 else 0), nI (A 0 1 + 1), wI mm 1088 61 0) (Nat.zero_le _) ⟨_, rfl, frP_8 (Or.inl rfl), wI_pl (by decide), wI_at _ _ _ _, fun j hj => absurd hj (by show ¬ j < 0; omega)⟩
  · obtain ⟨r, e, m, rfl, f, q0, q1, q2⟩ := hx
    have f0 : frP mm (wI mm 1088 61 0) := frP_8 (Or.inl rfl)
    have hv0 := f0.rv hv
    have hr0 := f0.ra hr
    have hb := lif_bd ov oa (thA V A 0) 0
    have bw := sumZ_bd (f := wgs V A (thA V A 0)) (b := 100) (n := V 1 2) (by decide) (fun t ht => by
      have := ov.2.2.2.2.1 t ht
      unfold wgs
      split <;> omega)
    have bf := sumZ_bd (f := fls V A (thA V A 0)) (b := 100) (n := V 1 2) (by decide) (fun t ht => by
      have := (oa.2.2.2.1 t ht).2.1
      unfold fls
      split <;> omega)
    have hfw := lif_fw V A (thA V A 0)
    have j23 : f_X12_laysLater_j23 (wI mm 1088 61 0) (nI (thA V A 0)) (if gAll V A 0 then 1 else 0) = some ((if gAll V A N then 1 else 0), m) := by
      unfold f_X12_laysLater_j23
      rw [hr0.1, sN_a1, vl_s, e, bi1_s]
      dsimp only
      cases gAll V A N
      · rw [if_neg (show ¬ false = true by decide), if_neg (fun z => z.1 rfl)]
      · rw [if_pos rfl, if_neg (fun z => z.2 rfl)]
    refine ⟨m, ?_, f, q0, q1, q2⟩
    unfold f_X12_laysLater
    rw [vl_s, floatOf_f hv0 ov hr0 (by omega), bi1_s, weightOf_f (A := A) hv0 ov (by omega), bi1_s]
    by_cases c : 0 ≤ lif V A (thA V A 0) 0
    · have g0 : gAll V A 0 = true := by unfold gAll; rw [decide_eq_true c]; rfl
      rw [g0, if_pos rfl] at j23
      rw [if_neg (by rw [zI_lt (by omega) (by omega) (by omega) (by omega)]; omega)]
      exact j23
    · have g0 : gAll V A 0 = false := by unfold gAll; rw [decide_eq_false c]; rfl
      rw [g0, if_neg (by decide)] at j23
      rw [if_pos (by rw [zI_lt (by omega) (by omega) (by omega) (by omega)]; omega)]
      exact j23
  · obtain ⟨m, rfl, f, q0, q1, q2⟩ := hP
    have hv1 := f.rv hv
    have hr1 := f.ra hr
    have hlen := gps_len ov oa k
    have eg : gps V A (k + 1) = gps V A k ++ (if lnA V A (A 0 1 + 1 + k) (V 1 2) then [lat V A (A 0 1 + 1 + k)] else []) := rfl
    have ep : gAll V A (k + 1) = (gAll V A k && (!lnA V A (A 0 1 + 1 + k) (V 1 2) || decide (0 ≤ lif V A (lat V A (A 0 1 + 1 + k)) (k + 1)))) := (Bool.and_assoc _ _ _).symm
    have hlt := lat_lt (A := A) h8 (A 0 1 + 1 + k)
    have hb := lif_bd ov oa (lat V A (A 0 1 + 1 + k)) (k + 1)
    have hsw := lif_sw V A (lat V A (A 0 1 + 1 + k)) (k + 1)
    unfold f_X12_laysLater_s34
    dsimp only
    rw [hv1.1.1, if_neg (by rw [sN_lt (by omega) (by omega)]; omega), grp_f hv1 ov hr1 oa (by omega), bi1_s]
    dsimp only
    cases hl : lnA V A (A 0 1 + 1 + k) (V 1 2)
    · rw [hl, if_neg (by decide), List.append_nil] at eg
      rw [hl, Bool.not_false, Bool.true_or, Bool.and_true] at ep
      rw [if_neg (show ¬ false = true by decide), if_pos rfl, sN_a1]
      exact ⟨_, rfl, m, by rw [ep]; rfl, f, q0, by rw [eg]; exact q1, by rw [eg]; exact q2⟩
    · rw [hl, if_pos rfl] at eg
      rw [hl, Bool.not_true, Bool.false_or] at ep
      have hlen1 := gps_len ov oa (k + 1)
      rw [eg, List.length_append] at hlen1
      have hlen1 : (gps V A k).length + 1 ≤ 6 := hlen1
      have ez : ∀ W : Int, -zI W = zI (-W) := fun W => by
        have := zI_sb 0 W
        rw [← zI_0, Int32.zero_sub] at this
        rw [this, Int.zero_sub]
      rw [if_pos rfl, if_neg (show ¬ (1 : Int32) = 0 by decide), weightOf_f (A := A) hv1 ov (by omega), bi1_s, ez, show nI (A 0 1 + 1 + k) = nI (A 0 1 + (k + 1)) by rw [show A 0 1 + 1 + k = A 0 1 + (k + 1) by omega], skS_f hv1 ov hr1 oa (by omega) (by omega), bi1_s, show -sumZ (wgs V A (lat V A (A 0 1 + 1 + k))) (V 1 2) + sumZ (skT V A (lat V A (A 0 1 + 1 + k)) (k + 1)) (V 1 2) = lif V A (lat V A (A 0 1 + 1 + k)) (k + 1) by omega]
      have hj : ∀ b : Bool, gAll V A (k + 1) = b → ∃ y, f_X12_laysLater_j237 m (nI (thA V A 0)) (nI (A 0 1 + (k + 1))) (nI (lat V A (A 0 1 + 1 + k))) (if b then 1 else 0) = some (.inl y) ∧ ∃ m, y = ((if gAll V A (k + 1) then 1 else 0), nI (A 0 1 + 1 + (k + 1)), m) ∧ frP mm m ∧ m.1 1088 62 = mm.1 1088 62 ∧ m.1 1088 61 = nI (gps V A (k + 1)).length ∧ hold (m.1 1133) (gps V A (k + 1)) := fun b hb => by
        unfold f_X12_laysLater_j237
        rw [q1, if_neg (gd_ok (show (gps V A k).length < 7 by omega) (by decide)), cl_ok (by omega), vl_s, wI_ne (by decide), q1, sN_a1, vl_s, sN_a1]
        refine ⟨_, rfl, _, by rw [hb, show A 0 1 + (k + 1) + 1 = A 0 1 + 1 + (k + 1) by omega], f.tr ((frP_w (Or.inr (Or.inr rfl))).tr (frP_8 (Or.inl rfl))), ?_, ?_, ?_⟩
        · rw [wI_pl (by decide), wI_ne (by decide), q0]
        · rw [wI_at, eg, List.length_append]; rfl
        · rw [wI_ne (by decide), eg]
          exact hold_ap q2 (wI_at _ _ _ _) (fun j hj => wI_pl (by omega))
      unfold f_X12_laysLater_j236
      cases hg : gAll V A k
      · rw [hg, Bool.false_and] at ep
        rw [if_neg (show ¬ false = true by decide), if_pos rfl]
        exact hj false ep
      · rw [hg, Bool.true_and] at ep
        rw [if_pos rfl, if_neg (show ¬ (1 : Int32) = 0 by decide)]
        by_cases c : 0 ≤ lif V A (lat V A (A 0 1 + 1 + k)) (k + 1)
        · rw [decide_eq_true c] at ep
          rw [if_neg (by rw [zI_0, zI_lt (by omega) (by omega) (by omega) (by omega)]; omega)]
          exact hj true ep
        · rw [decide_eq_false c] at ep
          rw [if_pos (by rw [zI_0, zI_lt (by omega) (by omega) (by omega) (by omega)]; omega)]
          exact hj false ep
  · obtain ⟨m, rfl, f, q0, q1, q2⟩ := hP
    have hv1 := f.rv hv
    refine ⟨_, ?_, m, rfl, f, q0, q1, q2⟩
    unfold f_X12_laysLater_s34
    dsimp only
    rw [hv1.1.1, if_pos (by rw [sN_lt (by omega) (by omega)]; omega)]
