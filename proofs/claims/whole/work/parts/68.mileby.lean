/-! PHASE 2: a mile, the reference's side -/
def raM (mm : Mm) (V : Dat) (R : Rf) : Prop := RaF mm V R.1 R.2.1 R.2.2 ∧ ∀ t, t < V 1 2 → mm.1 1098 t = if R.1 4 t = 2 then nI (R.1 5 t) else -2
def frM (m m1 : Mm) : Prop := (∀ i, ¬ i = 1088 → ¬ i = 1089 → ¬ i = 1092 → ¬ i = 1095 → ¬ i = 1097 → ¬ i = 1098 → ¬ i = 1099 → ¬ i = 1100 → ¬ i = 1101 → m1.1 i = m.1 i) ∧ (∀ k, ¬ k = 51 → ¬ k = 52 → m1.1 1088 k = m.1 1088 k) ∧ ∀ k, ¬ k = 1 → ¬ k = 4 → ¬ k = 6 → m1.1 1089 k = m.1 1089 k
theorem frM.rf {m : Mm} : frM m m := ⟨fun _ _ _ _ _ _ _ _ _ _ => rfl, fun _ _ _ => rfl, fun _ _ _ _ => rfl⟩
theorem frM.tr {a b c : Mm} (h1 : frM a b) (h2 : frM b c) : frM a c := ⟨fun i i1 i2 i3 i4 i5 i6 i7 i8 i9 => (h2.1 i i1 i2 i3 i4 i5 i6 i7 i8 i9).trans (h1.1 i i1 i2 i3 i4 i5 i6 i7 i8 i9), fun k k1 k2 => (h2.2.1 k k1 k2).trans (h1.2.1 k k1 k2), fun k k1 k2 k3 => (h2.2.2 k k1 k2 k3).trans (h1.2.2 k k1 k2 k3)⟩
theorem RvF_eq2 {mm m' : Mm} {V : Dat} (h0 : ∀ k, ¬ k = 1 → ¬ k = 4 → ¬ k = 6 → m'.1 1089 k = mm.1 1089 k) (h : ∀ i, i = 1090 ∨ i = 1091 ∨ i = 1094 ∨ i = 1096 ∨ i = 1102 ∨ i = 1103 → m'.1 i = mm.1 i) (g : RvF mm V) : RvF m' V := by
  unfold RvF
  rw [h0 0 (by decide) (by decide) (by decide), h0 2 (by decide) (by decide) (by decide), h0 3 (by decide) (by decide) (by decide), h0 5 (by decide) (by decide) (by decide), h 1090 (by omega), h 1091 (by omega), h 1094 (by omega), h 1096 (by omega), h 1102 (by omega), h 1103 (by omega)]
  exact g
theorem frM.rv {mm m' : Mm} {V : Dat} (h : frM mm m') (g : RvF mm V) : RvF m' V := RvF_eq2 h.2.2 (fun i hi => h.1 i (by omega) (by omega) (by omega) (by omega) (by omega) (by omega) (by omega) (by omega) (by omega)) g
theorem mile1_f {mm : Mm} {V : Dat} {R : Rf} (hv : RvF mm V) (ov : RvOk V) (hr : raM mm V R) (oa : RaOk V R.1 R.2.1) {x : Int32} : ∃ m1, lp (f_X12_mileBy_s13 x) ((0 : Int32), wI mm 1089 6 (mm.1 1089 6 + 1)) = some m1 ∧ raM m1 V (st1 V R) ∧ frM mm m1 := by
  have h8 := ov.2.2.1
  have hn := hv.1.2.2
  have hr1 := hr.1
  have hxr := row_loop (st := f_X12_mileBy_s13 x) (mm := wI mm 1089 6 (mm.1 1089 6 + 1)) (fun i => i = 1095) (fun _ t => nI (if R.1 4 t = 0 then R.1 3 t - V 5 t else R.1 3 t)) (V 1 2) (fun k m hk hm => ?_) (fun m hm => ?_)
  · obtain ⟨m1, e, g1, g2⟩ := hxr
    have hg : ∀ i, ¬ i = 1089 → ¬ i = 1095 → m1.1 i = mm.1 i := fun i h1 h2 => by
      funext j
      rw [g1 i j (fun z => h2 z.1), wI_ne h1]
    have hgr : ∀ k, ¬ k = 6 → m1.1 1089 k = mm.1 1089 k := fun k hk => by rw [g1 1089 k (fun z => by omega), wI_pl hk]
    refine ⟨m1, e, ⟨⟨?_, ?_, ?_, fun o ho => ?_, fun t ht => ?_⟩, fun t ht => ?_⟩, fun i i1 i2 i3 i4 i5 i6 i7 i8 i9 => hg i i2 i4, fun k k1 k2 => by rw [hg 1088 (by decide) (by decide)], fun k k1 k2 k3 => hgr k k3⟩
    · show m1.1 1089 6 = nI (R.1 0 1 + 1)
      rw [g1 1089 6 (fun z => by omega), wI_at, hr1.1, sN_a1]
    · show m1.1 1089 1 = R.2.2
      rw [hgr 1 (by decide)]; exact hr1.2.1
    · show RpOk (m1.1 1089 4) (m1.1 1099) (m1.1 1100) (m1.1 1101) R.2.1
      rw [hgr 4 (by decide), hg _ (by decide) (by decide), hg _ (by decide) (by decide), hg _ (by decide) (by decide)]; exact hr1.2.2.1
    · show m1.1 1092 o = nI (R.1 1 o)
      rw [hg _ (by decide) (by decide)]; exact hr1.2.2.2.1 o ho
    · show m1.1 1093 t = nI (R.1 2 t) ∧ m1.1 1095 t = nI (if R.1 4 t = 0 then R.1 3 t - V 5 t else R.1 3 t) ∧ m1.1 1097 t = nI (R.1 4 t)
      rw [hg _ (by decide) (by decide), hg 1097 (by decide) (by decide), g2 _ t rfl ht]
      exact ⟨(hr1.2.2.2.2 t ht).1, rfl, (hr1.2.2.2.2 t ht).2.2⟩
    · show m1.1 1098 t = if R.1 4 t = 2 then nI (R.1 5 t) else -2
      rw [hg _ (by decide) (by decide)]; exact hr.2 t ht
  · have hm2 : ∀ i, ¬ i = 1089 → ¬ i = 1095 → m.1 i = mm.1 i := fun i h1 h2 => by
      funext j
      rw [hm i j (fun z => h2 z.1), wI_ne h1]
    have e27 : m.1 1089 3 = nI (V 1 2) := by rw [hm 1089 3 (fun z => by omega), wI_pl (by decide)]; exact hn
    have e31 : m.1 1096 k = nI (V 5 k) := by rw [hm2 1096 (by decide) (by decide)]; exact (hv.2.2.1 k hk).2
    have e3 : m.1 1095 k = nI (R.1 3 k) := by rw [hm 1095 k (fun z => by omega), wI_ne (by decide)]; exact (hr1.2.2.2.2 k hk).2.1
    have e4 : m.1 1097 k = nI (R.1 4 k) := by rw [hm2 1097 (by decide) (by decide)]; exact (hr1.2.2.2.2 k hk).2.2
    have b1 := oa.2.2.2.1 k hk
    have b2 := ov.2.2.2.2.1 k hk
    unfold f_X12_mileBy_s13 f_X12_mileBy_j69
    simp (disch := omega) only [↓reduceIte, decide_true, decide_false, Bool.false_eq_true, eq_self, s10, s01, cont_ok, has_ok, b2i0, b2i1, reduceCtorEq, Nat.or_zero, Nat.add_zero, sN_le, sN_lt, sN_eq, sN_lt0, sN_le0, sN_0le, sN_0lt, sN_eq0, sN_cl, sN_ad, sN_a1, K2, K3, K4, K5, K6, K7, K8, K9, K12, K16, K20, false_or, or_false, if_neg, if_pos, vl_s, bi1_s, bi2_s, nx_or, nx_and, nx_sh, e27, e4, e3, e31]
    by_cases c : R.1 4 k = 0
    · rw [if_pos c]
      by_cases c2 : R.1 3 k ≤ V 5 k
      · rw [if_pos c2]
        refine ⟨_, rfl, fun i j h => ?_, fun i hi => ?_⟩
        · rw [wI_get, if_neg (fun z => h z)]
        · rw [hi, wI_at, if_pos c, show R.1 3 k - V 5 k = 0 by omega]
          rfl
      · rw [if_neg c2]
        refine ⟨_, rfl, fun i j h => ?_, fun i hi => ?_⟩
        · rw [wI_get, if_neg (fun z => h z)]
        · rw [hi, wI_at, if_pos c, nI_sub' (by omega)]
    · rw [if_neg c]
      refine ⟨m, rfl, fun i j h => rfl, fun i hi => ?_⟩
      rw [hi, if_neg c]
      exact e3
  · have e27 : m.1 1089 3 = nI (V 1 2) := by rw [hm 1089 3 (fun z => by omega), wI_pl (by decide)]; exact hn
    unfold f_X12_mileBy_s13
    simp (disch := omega) only [↓reduceIte, decide_true, decide_false, Bool.false_eq_true, eq_self, s10, s01, cont_ok, has_ok, b2i0, b2i1, reduceCtorEq, Nat.or_zero, Nat.add_zero, sN_le, sN_lt, sN_eq, sN_lt0, sN_le0, sN_0le, sN_0lt, sN_eq0, sN_cl, sN_ad, sN_a1, K2, K3, K4, K5, K6, K7, K8, K9, K12, K16, K20, false_or, or_false, if_neg, if_pos, vl_s, bi1_s, bi2_s, nx_or, nx_and, nx_sh, e27]
theorem pop16 {s : Nat} (h : s < 256) : pop s 16 = pop s 12 := (pop_more (n := 8) h 8).trans (pop_more (n := 8) h 4).symm
theorem lands_f {mm : Mm} {V : Dat} {R : Rf} (hv : RvF mm V) (ov : RvOk V) (hr : raM mm V R) (oa : RaOk V R.1 R.2.1) : ∃ m1, f_X12_lands mm = some m1 ∧ raM m1 V (st3 V R) ∧ frM mm m1 ∧ m1.1 1088 51 = nI (pop (ash V R.1) 12) ∧ m1.1 1088 52 = mm.1 1088 52 := by
  have h8 := ov.2.2.1
  have h6 := ov.2.1
  have h99 := ov.1
  have hr1 := hr.1
  have hmi := oa.1
  have hlt := ash_lt (A := R.1) h8
  have hx : ∃ w, lp f_X12_lands_s4 ((0 : Int32), (0 : Int32), mm) = some w ∧ ∃ m, w = (nI (ash V R.1), m) ∧ (∀ i, ¬ i = 1092 → m.1 i = mm.1 i) ∧ ∀ o, o < V 1 1 → m.1 1092 o = nI (fa3 V R.1 o) := by
    refine lp_inv (fun k x => ∃ m, x = (nI (ashN V R.1 k), nI k, m) ∧ (∀ i, ¬ i = 1092 → m.1 i = mm.1 i) ∧ ∀ o, o < V 1 1 → m.1 1092 o = nI (faN V R.1 k o)) _ (V 1 1) (fun k x hk hx => ?_) (fun x hx => ?_) 0 _ (Nat.zero_le _) ⟨mm, by rw [ashN_0]; rfl, fun _ _ => rfl, fun o ho => hr1.2.2.2.1 o ho⟩
    · obtain ⟨m, rfl, m1, m2⟩ := hx
      have e27 : m.1 1089 2 = nI (V 1 1) := by rw [m1 1089 (by decide)]; exact hv.1.2.1
      have e28 : m.1 1090 k = nI (V 2 k) := by rw [m1 1090 (by decide)]; exact (hv.2.1 k hk).1
      have e1 : m.1 1092 k = nI (R.1 1 k) := by rw [m2 k hk]; unfold faN; rw [if_neg (by omega)]
      have e0 : m.1 1089 6 = nI (R.1 0 1) := by rw [m1 1089 (by decide)]; exact hr1.1
      have b1 := oa.2.2.1 k hk
      have b2 := ov.2.2.2.1 k hk
      have hla := ashN_lt (A := R.1) k h8
      rw [ashN_su (L := R.2.1)]
      unfold f_X12_lands_s4
      simp (disch := omega) only [↓reduceIte, decide_true, decide_false, Bool.false_eq_true, eq_self, s10, s01, cont_ok, has_ok, b2i0, b2i1, reduceCtorEq, Nat.or_zero, Nat.add_zero, sN_le, sN_lt, sN_eq, sN_lt0, sN_le0, sN_0le, sN_0lt, sN_eq0, sN_cl, sN_ad, sN_a1, K2, K3, K4, K5, K6, K7, K8, K9, K12, K16, K20, false_or, or_false, if_neg, if_pos, vl_s, bi1_s, bi2_s, nx_or, nx_and, nx_sh, e27, e28, e1, e0]
      by_cases c1 : R.1 1 k = 0
      · rw [if_pos c1]
        by_cases c2 : V 2 k = R.1 0 1
        · rw [if_pos c2, if_pos ⟨c1, c2⟩]
          have hm' : ∀ i, ¬ i = 1092 → (wI m 1092 k 1).1 i = mm.1 i := fun i hi => by rw [wI_ne hi, m1 i hi]
          have hf' : ∀ o, o < V 1 1 → (wI m 1092 k 1).1 1092 o = nI (faN V R.1 (k + 1) o) := fun o ho => by
            rw [wI_get]
            by_cases co : o = k
            · rw [if_pos ⟨rfl, co⟩, co]
              unfold faN fa3
              rw [if_pos (by omega), if_pos ⟨c1, c2⟩]
              rfl
            · rw [if_neg (fun z => co z.2), m2 o ho]
              unfold faN
              by_cases co2 : o < k
              · rw [if_pos co2, if_pos (by omega)]
              · rw [if_neg co2, if_neg (by omega)]
          have ei : lp (f_X12_lands_s48 (wI m 1092 k 1) (nI k)) (nI (ashN V R.1 k), (0 : Int32)) = some (nI (ashN V R.1 k ||| thO V R.1 k)) := by
            refine lpf (fun t => (nI (ashN V R.1 k ||| bset (fun t => decide (R.1 2 t = k) && decide (R.1 4 t = 0)) t), nI t)) (V 1 2) ?_ (fun t ht => ?_) ?_
            · show _ = (nI (ashN V R.1 k ||| 0), nI 0)
              rw [Nat.or_zero]
              rfl
            · have q := hr1.2.2.2.2 t ht
              have b3 := oa.2.2.2.1 t ht
              unfold f_X12_lands_s48 f_X12_lands_j84 f_X12_lands_j85
              rw [show bset (fun t => decide (R.1 2 t = k) && decide (R.1 4 t = 0)) (t + 1) = bset (fun t => decide (R.1 2 t = k) && decide (R.1 4 t = 0)) t ||| (if decide (R.1 2 t = k) && decide (R.1 4 t = 0) then 2 ^ t else 0) from rfl, hm' 1089 (by decide), hm' 1097 (by decide), hm' 1093 (by decide)]
              simp (disch := omega) only [↓reduceIte, decide_true, decide_false, Bool.false_eq_true, eq_self, s10, s01, cont_ok, has_ok, b2i0, b2i1, reduceCtorEq, Nat.or_zero, Nat.add_zero, sN_le, sN_lt, sN_eq, sN_lt0, sN_le0, sN_0le, sN_0lt, sN_eq0, sN_cl, sN_ad, sN_a1, K2, K3, K4, K5, K6, K7, K8, K9, K12, K16, K20, false_or, or_false, if_neg, if_pos, vl_s, bi1_s, bi2_s, nx_or, nx_and, nx_sh, hv.1.2.2, q.1, q.2.2]
              by_cases d1 : R.1 4 t = 0
              · rw [if_pos d1]
                by_cases d2 : R.1 2 t = k
                · simp (disch := omega) only [↓reduceIte, decide_true, decide_false, Bool.false_eq_true, eq_self, s10, s01, cont_ok, has_ok, b2i0, b2i1, reduceCtorEq, Nat.or_zero, Nat.add_zero, sN_le, sN_lt, sN_eq, sN_lt0, sN_le0, sN_0le, sN_0lt, sN_eq0, sN_cl, sN_ad, sN_a1, K2, K3, K4, K5, K6, K7, K8, K9, K12, K16, K20, false_or, or_false, if_neg, if_pos, vl_s, bi1_s, bi2_s, nx_or, nx_and, nx_sh, d1, d2, Bool.and_true, Nat.or_assoc]
                · simp (disch := omega) only [↓reduceIte, decide_true, decide_false, Bool.false_eq_true, eq_self, s10, s01, cont_ok, has_ok, b2i0, b2i1, reduceCtorEq, Nat.or_zero, Nat.add_zero, sN_le, sN_lt, sN_eq, sN_lt0, sN_le0, sN_0le, sN_0lt, sN_eq0, sN_cl, sN_ad, sN_a1, K2, K3, K4, K5, K6, K7, K8, K9, K12, K16, K20, false_or, or_false, if_neg, if_pos, vl_s, bi1_s, bi2_s, nx_or, nx_and, nx_sh, d1, d2, Bool.and_true, Int32.or_zero]
              · simp (disch := omega) only [↓reduceIte, decide_true, decide_false, Bool.false_eq_true, eq_self, s10, s01, cont_ok, has_ok, b2i0, b2i1, reduceCtorEq, Nat.or_zero, Nat.add_zero, sN_le, sN_lt, sN_eq, sN_lt0, sN_le0, sN_0le, sN_0lt, sN_eq0, sN_cl, sN_ad, sN_a1, K2, K3, K4, K5, K6, K7, K8, K9, K12, K16, K20, false_or, or_false, if_neg, if_pos, vl_s, bi1_s, bi2_s, nx_or, nx_and, nx_sh, d1, Bool.and_false, Int32.or_zero]
            · unfold f_X12_lands_s48
              rw [hm' 1089 (by decide)]
              simp (disch := omega) only [↓reduceIte, decide_true, decide_false, Bool.false_eq_true, eq_self, s10, s01, cont_ok, has_ok, b2i0, b2i1, reduceCtorEq, Nat.or_zero, Nat.add_zero, sN_le, sN_lt, sN_eq, sN_lt0, sN_le0, sN_0le, sN_0lt, sN_eq0, sN_cl, sN_ad, sN_a1, K2, K3, K4, K5, K6, K7, K8, K9, K12, K16, K20, false_or, or_false, if_neg, if_pos, vl_s, bi1_s, bi2_s, nx_or, nx_and, nx_sh, hv.1.2.2]
              rfl
          rw [ei, bi1_s]
          exact ⟨_, rfl, _, rfl, hm', hf'⟩
        · rw [if_neg c2, if_neg (fun z => c2 z.2), Nat.or_zero]
          refine ⟨_, rfl, m, rfl, m1, fun o ho => ?_⟩
          rw [m2 o ho]
          unfold faN
          by_cases co : o < k
          · rw [if_pos co, if_pos (by omega)]
          · rw [if_neg co]
            by_cases co2 : o < k + 1
            · unfold fa3
              rw [if_pos co2, if_neg (fun z => c2 (by have := z.2; rw [show o = k by omega] at this; exact this))]
            · rw [if_neg co2]
      · rw [if_neg c1, if_neg (fun z => c1 z.1), Nat.or_zero]
        refine ⟨_, rfl, m, rfl, m1, fun o ho => ?_⟩
        rw [m2 o ho]
        unfold faN
        by_cases co : o < k
        · rw [if_pos co, if_pos (by omega)]
        · rw [if_neg co]
          by_cases co2 : o < k + 1
          · unfold fa3
            rw [if_pos co2, if_neg (fun z => c1 (by have := z.1; rw [show o = k by omega] at this; exact this))]
          · rw [if_neg co2]
    · obtain ⟨m, rfl, m1, m2⟩ := hx
      have e27 : m.1 1089 2 = nI (V 1 1) := by rw [m1 1089 (by decide)]; exact hv.1.2.1
      refine ⟨_, ?_, m, rfl, m1, fun o ho => by rw [m2 o ho]; unfold faN; rw [if_pos ho]⟩
      unfold f_X12_lands_s4
      simp (disch := omega) only [↓reduceIte, decide_true, decide_false, Bool.false_eq_true, eq_self, s10, s01, cont_ok, has_ok, b2i0, b2i1, reduceCtorEq, Nat.or_zero, Nat.add_zero, sN_le, sN_lt, sN_eq, sN_lt0, sN_le0, sN_0le, sN_0lt, sN_eq0, sN_cl, sN_ad, sN_a1, K2, K3, K4, K5, K6, K7, K8, K9, K12, K16, K20, false_or, or_false, if_neg, if_pos, vl_s, bi1_s, bi2_s, nx_or, nx_and, nx_sh, e27]
      rw [ashN_all oa]
  obtain ⟨w, e1, m, rfl, m1, m2⟩ := hx
  have hb : ∀ k, k < R.2.1.length → (rp R.2.1 k).1 < 8 ∧ (rp R.2.1 k).2.1 < 8 := fun k hk => by
    have := oa.2.2.2.2 k hk
    omega
  have hrm : RaF m V (upA R.1 1 (fa3 V R.1)) R.2.1 R.2.2 := by
    refine ⟨?_, ?_, ?_, fun o ho => m2 o ho, fun t ht => ?_⟩
    · rw [m1 1089 (by decide)]; exact hr1.1
    · rw [m1 1089 (by decide)]; exact hr1.2.1
    · rw [m1 1089 (by decide), m1 _ (by decide), m1 _ (by decide), m1 _ (by decide)]; exact hr1.2.2.1
    · rw [m1 _ (by decide), m1 _ (by decide), m1 _ (by decide)]; exact hr1.2.2.2.2 t ht
  obtain ⟨n1, e2, r2, f2⟩ := ropesGoOf_f hrm oa.2.1 hb (s := ash V R.1) (by omega) true
  rw [if_pos rfl] at e2 r2
  have hxr := row_loop (st := f_X12_lands_s108 (nI (ash V R.1))) (mm := n1) (fun i => i = 1097) (fun _ t => nI (if (ash V R.1).testBit t then 1 else R.1 4 t)) (V 1 2) (fun k n hk hn => ?_) (fun n hn => ?_)
  · obtain ⟨n2, e3, g1, g2⟩ := hxr
    have hg : ∀ i, ¬ i = 1097 → n2.1 i = n1.1 i := fun i h1 => by
      funext j
      rw [g1 i j (fun z => h1 z.1)]
    have eb : f_X12_bits n2 (nI (ash V R.1)) = some (nI (pop (ash V R.1) 12)) := by rw [bits_ok (by omega), pop16 hlt]
    refine ⟨wI n2 1088 51 (nI (pop (ash V R.1) 12)), ?_, ⟨⟨?_, ?_, ?_, fun o ho => ?_, fun t ht => ?_⟩, fun t ht => ?_⟩, ⟨fun i i1 i2 i3 i4 i5 i6 i7 i8 i9 => ?_, fun k k1 k2 => ?_, fun k k1 k2 k3 => ?_⟩, wI_at _ _ _ _, ?_⟩
    · unfold f_X12_lands
      rw [e1, bi1_s]
      show bi2 (f_X12_ropesGoOf m (nI (ash V R.1)) (1 : Int32)) _ = _
      rw [e2, bi2_s, e3, bi1_s, eb, bi1_s]
      rfl
    · show (wI n2 1088 51 _).1 1089 6 = nI (R.1 0 1)
      rw [wI_ne (by decide), hg _ (by decide)]; exact r2.1
    · show (wI n2 1088 51 _).1 1089 1 = _
      rw [wI_ne (by decide), hg _ (by decide)]; exact r2.2.1
    · show RpOk ((wI n2 1088 51 _).1 1089 4) ((wI n2 1088 51 _).1 1099) ((wI n2 1088 51 _).1 1100) ((wI n2 1088 51 _).1 1101) _
      rw [wI_ne (by decide), wI_ne (by decide), wI_ne (by decide), wI_ne (by decide), hg _ (by decide), hg _ (by decide), hg _ (by decide), hg _ (by decide)]; exact r2.2.2.1
    · show (wI n2 1088 51 _).1 1092 o = nI (fa3 V R.1 o)
      rw [wI_ne (by decide), hg _ (by decide)]; exact r2.2.2.2.1 o ho
    · show (wI n2 1088 51 _).1 1093 t = nI (R.1 2 t) ∧ (wI n2 1088 51 _).1 1095 t = nI (R.1 3 t) ∧ (wI n2 1088 51 _).1 1097 t = nI (if (ash V R.1).testBit t then 1 else R.1 4 t)
      rw [wI_ne (by decide), wI_ne (by decide), wI_ne (by decide), hg _ (by decide), hg 1095 (by decide), g2 _ t rfl ht]
      exact ⟨(r2.2.2.2.2 t ht).1, (r2.2.2.2.2 t ht).2.1, rfl⟩
    · show (wI n2 1088 51 _).1 1098 t = if (if (ash V R.1).testBit t then 1 else R.1 4 t) = 2 then nI (R.1 5 t) else -2
      rw [wI_ne (by decide), hg _ (by decide), f2.1 _ (by decide) (by decide) (by decide) (by decide), m1 _ (by decide), hr.2 t ht]
      by_cases c : (ash V R.1).testBit t = true
      · have c2 : R.1 4 t = 0 := by
          unfold ash at c
          rw [bset_tb, Bool.and_eq_true] at c
          unfold lnd at c
          rw [Bool.and_eq_true] at c
          exact of_decide_eq_true c.2.2
        rw [if_pos c, c2]
        rfl
      · rw [if_neg c]
    · rw [wI_ne i1, hg i i5, f2.1 i i2 i7 i8 i9, m1 i i3]
    · rw [wI_pl k1, hg 1088 (by decide), f2.1 1088 (by decide) (by decide) (by decide) (by decide), m1 1088 (by decide)]
    · rw [wI_ne (by decide), hg 1089 (by decide), f2.2 k k2 k1, m1 1089 (by decide)]
    · rw [wI_pl (by decide), hg 1088 (by decide), f2.1 1088 (by decide) (by decide) (by decide) (by decide), m1 1088 (by decide)]
  · have e27 : n.1 1089 3 = nI (V 1 2) := by rw [hn 1089 3 (fun z => by omega), f2.2 3 (by decide) (by decide), m1 1089 (by decide)]; exact hv.1.2.2
    have e4 : n.1 1097 k = nI (R.1 4 k) := by rw [hn 1097 k (fun z => by omega), f2.1 _ (by decide) (by decide) (by decide) (by decide), m1 _ (by decide)]; exact (hr1.2.2.2.2 k hk).2.2
    unfold f_X12_lands_s108 f_X12_lands_j141
    simp (disch := omega) only [↓reduceIte, decide_true, decide_false, Bool.false_eq_true, eq_self, s10, s01, cont_ok, has_ok, b2i0, b2i1, reduceCtorEq, Nat.or_zero, Nat.add_zero, sN_le, sN_lt, sN_eq, sN_lt0, sN_le0, sN_0le, sN_0lt, sN_eq0, sN_cl, sN_ad, sN_a1, K2, K3, K4, K5, K6, K7, K8, K9, K12, K16, K20, false_or, or_false, if_neg, if_pos, vl_s, bi1_s, bi2_s, nx_or, nx_and, nx_sh, e27, e4]
    cases hc : (ash V R.1).testBit k
    · rw [if_pos rfl]
      refine ⟨_, rfl, fun i j h => ?_, fun i hi => ?_⟩
      · rw [wI_get, if_neg (fun z => h z)]
      · rw [hi, wI_at, if_neg (by decide)]
    · rw [if_neg (by decide)]
      refine ⟨_, rfl, fun i j h => ?_, fun i hi => ?_⟩
      · rw [wI_get, if_neg (fun z => h z)]
      · rw [hi, wI_at, if_pos rfl]
        rfl
  · have e27 : n.1 1089 3 = nI (V 1 2) := by rw [hn 1089 3 (fun z => by omega), f2.2 3 (by decide) (by decide), m1 1089 (by decide)]; exact hv.1.2.2
    unfold f_X12_lands_s108
    simp (disch := omega) only [↓reduceIte, decide_true, decide_false, Bool.false_eq_true, eq_self, s10, s01, cont_ok, has_ok, b2i0, b2i1, reduceCtorEq, Nat.or_zero, Nat.add_zero, sN_le, sN_lt, sN_eq, sN_lt0, sN_le0, sN_0le, sN_0lt, sN_eq0, sN_cl, sN_ad, sN_a1, K2, K3, K4, K5, K6, K7, K8, K9, K12, K16, K20, false_or, or_false, if_neg, if_pos, vl_s, bi1_s, bi2_s, nx_or, nx_and, nx_sh, e27]
noncomputable def wetB (V A : Dat) (L : Rop) (o : Nat) : Bool := decide (¬ rid V A (pOf V A L 0) o &&& los V A L = 0)
theorem mileBy_f {mm : Mm} {V : Dat} {R : Rf} (hv : RvF mm V) (ov : RvOk V) (hr : raM mm V R) (oa : RaOk V R.1 R.2.1) (hm : R.1 0 1 < V 1 0) {fc : Nat} (hfc : fc ≤ 9) : ∃ m1, f_X12_mileBy mm (nI fc) = some (nI (mSank V fc R), m1) ∧ raM m1 V (mil V fc R) ∧ frM mm m1 ∧ m1.1 1088 51 = nI (mLand V fc R) ∧ m1.1 1088 52 = nI (mBrok fc R) := by
  have h8 := ov.2.2.1
  have h6 := ov.2.1
  have h99 := ov.1
  obtain ⟨m1, e1, r1, f1⟩ := mile1_f hv ov hr oa (x := nI fc)
  have ok1 := st1_ok oa hm
  obtain ⟨m2, hm2⟩ : ∃ m2, m2 = wI m1 1088 52 0 := ⟨_, rfl⟩
  have fm2 : ∀ i, ¬ i = 1088 → m2.1 i = m1.1 i := fun i hi => by rw [hm2, wI_ne hi]
  have r2 : RaF m2 V (st1 V R).1 (st1 V R).2.1 (st1 V R).2.2 := RaF_eq (fun i i1 i2 => fm2 i (by omega)) r1.1
  have hb9 : ∀ k, k < (st1 V R).2.1.length → (rp (st1 V R).2.1 k).2.2 ≤ 9 := fun k hk => (ok1.2.2.2.2 k hk).2.2.2.1
  obtain ⟨m3, e3, r3, c3, f3, p3, q3⟩ := breaks_f r2 ok1.2.1 hb9 hfc (by rw [hm2, wI_at])
  have fr3 : frM mm m3 := f1.tr ⟨fun i i1 i2 i3 i4 i5 i6 i7 i8 i9 => by rw [f3 i i1 i2 i7 i8 i9, fm2 i i1], fun k k1 k2 => by rw [p3 k k2, hm2, wI_pl k2], fun k k1 k2 k3 => by rw [q3 k k2, fm2 1089 (by decide)]⟩
  have ok2 := st2_ok ok1 fc
  have r3' : raM m3 V (st2 fc (st1 V R)) := ⟨r3, fun t ht => by
    rw [f3 1098 (by decide) (by decide) (by decide) (by decide) (by decide), fm2 1098 (by decide)]
    exact r1.2 t ht⟩
  obtain ⟨m4, e4, r4, f4, l4, b4⟩ := lands_f (fr3.rv hv) ov r3' ok2
  have ok3 := st3_ok ok2
  have fr4 : frM mm m4 := fr3.tr f4
  have hv4 := fr4.rv hv
  obtain ⟨R3, hR3⟩ : ∃ R3, R3 = st3 V (st2 fc (st1 V R)) := ⟨_, rfl⟩
  rw [← hR3] at r4 ok3
  have r4a := r4.1
  have es : f_X12_sinking m4 (f_X12_allRopes m4) = some (nI (los V R3.1 R3.2.1)) := by
    rw [allRopes_f r4a ok3, sinking_f hv4 ov r4a ok3 (RR_all ok3.2.1)]
    rfl
  have hlt := los_lt V R3.1 R3.2.1
  have ew : lp (f_X12_mileBy_s143 m4 (nI (los V R3.1 R3.2.1))) ((0 : Int32), (0 : Int32)) = some (nI (bset (wetB V R3.1 R3.2.1) (V 1 1))) := by
    refine lpa (0 : Int32) (fun k => nI (bset (wetB V R3.1 R3.2.1) k)) (V 1 1) rfl (fun k hk => ?_) ?_
    · have hq := rid_lt (V := V) (A := R3.1) (fun t _ => pOf_lt V R3.1 R3.2.1 0 t) k
      have ha : rid V R3.1 (pOf V R3.1 R3.2.1 0) k &&& los V R3.1 R3.2.1 ≤ los V R3.1 R3.2.1 := Nat.and_le_right
      unfold f_X12_mileBy_s143 f_X12_mileBy_j178
      rw [show bset (wetB V R3.1 R3.2.1) (k + 1) = bset (wetB V R3.1 R3.2.1) k ||| (if decide (¬ rid V R3.1 (pOf V R3.1 R3.2.1 0) k &&& los V R3.1 R3.2.1 = 0) then 2 ^ k else 0) from rfl]
      dsimp only
      rw [hv4.1.2.1, allRopes_f r4a ok3, riddenBy_f hv4 ov r4a ok3 (RR_all ok3.2.1) hk, bi1_s]
      by_cases c : rid V R3.1 (pOf V R3.1 R3.2.1 0) k &&& los V R3.1 R3.2.1 = 0
      · simp (disch := omega) only [↓reduceIte, decide_true, decide_false, Bool.false_eq_true, eq_self, s10, s01, cont_ok, has_ok, b2i0, b2i1, reduceCtorEq, Nat.or_zero, Nat.add_zero, sN_le, sN_lt, sN_eq, sN_lt0, sN_le0, sN_0le, sN_0lt, sN_eq0, sN_cl, sN_ad, sN_a1, K2, K3, K4, K5, K6, K7, K8, K9, K12, K16, K20, false_or, or_false, if_neg, if_pos, vl_s, bi1_s, bi2_s, nx_or, nx_and, nx_sh, c, not_true_eq_false, Int32.or_zero]
      · simp (disch := omega) only [↓reduceIte, decide_true, decide_false, Bool.false_eq_true, eq_self, s10, s01, cont_ok, has_ok, b2i0, b2i1, reduceCtorEq, Nat.or_zero, Nat.add_zero, sN_le, sN_lt, sN_eq, sN_lt0, sN_le0, sN_0le, sN_0lt, sN_eq0, sN_cl, sN_ad, sN_a1, K2, K3, K4, K5, K6, K7, K8, K9, K12, K16, K20, false_or, or_false, if_neg, if_pos, vl_s, bi1_s, bi2_s, nx_or, nx_and, nx_sh, c, not_false_eq_true]
    · unfold f_X12_mileBy_s143
      simp (disch := omega) only [↓reduceIte, decide_true, decide_false, Bool.false_eq_true, eq_self, s10, s01, cont_ok, has_ok, b2i0, b2i1, reduceCtorEq, Nat.or_zero, Nat.add_zero, sN_le, sN_lt, sN_eq, sN_lt0, sN_le0, sN_0le, sN_0lt, sN_eq0, sN_cl, sN_ad, sN_a1, K2, K3, K4, K5, K6, K7, K8, K9, K12, K16, K20, false_or, or_false, if_neg, if_pos, vl_s, bi1_s, bi2_s, nx_or, nx_and, nx_sh, hv4.1.2.1]
  have hwl : bset (wetB V R3.1 R3.2.1) (V 1 1) < 2 ^ 31 := Nat.lt_of_lt_of_le (bset_lt _ _) (Nat.pow_le_pow_right (by decide) (by omega))
  have hxr := row_loop (st := f_X12_mileBy_s189 (nI (los V R3.1 R3.2.1)) (nI (bset (wetB V R3.1 R3.2.1) (V 1 1)))) (mm := m4) (fun i => i = 1092) (fun _ o => nI (fa4 V R3.1 R3.2.1 o)) (V 1 1) (fun k n hk hn => ?_) (fun n hn => ?_)
  · obtain ⟨m5, e5, g1, g2⟩ := hxr
    have f5 : ∀ i, ¬ i = 1092 → m5.1 i = m4.1 i := fun i h1 => by
      funext j
      rw [g1 i j (fun z => h1 z.1)]
    have r5 : RaF m5 V (upA R3.1 1 (fa4 V R3.1 R3.2.1)) R3.2.1 R3.2.2 := by
      refine ⟨?_, ?_, ?_, fun o ho => g2 _ o rfl ho, fun t ht => ?_⟩
      · rw [f5 1089 (by decide)]; exact r4a.1
      · rw [f5 1089 (by decide)]; exact r4a.2.1
      · rw [f5 1089 (by decide), f5 _ (by decide), f5 _ (by decide), f5 _ (by decide)]; exact r4a.2.2.1
      · rw [f5 _ (by decide), f5 _ (by decide), f5 _ (by decide)]; exact r4a.2.2.2.2 t ht
    have hb : ∀ k, k < R3.2.1.length → (rp R3.2.1 k).1 < 8 ∧ (rp R3.2.1 k).2.1 < 8 := fun k hk => by
      have := ok3.2.2.2.2 k hk
      omega
    obtain ⟨m6, e6, r6, f6⟩ := ropesGoOf_f r5 ok3.2.1 hb (s := los V R3.1 R3.2.1) (by omega) false
    rw [if_neg (by decide)] at e6 r6
    have fr6 : frM m4 m6 := ⟨fun i i1 i2 i3 i4 i5 i6 i7 i8 i9 => by rw [f6.1 i i2 i7 i8 i9, f5 i i3], fun k k1 k2 => by rw [f6.1 1088 (by decide) (by decide) (by decide) (by decide), f5 1088 (by decide)], fun k k1 k2 k3 => by rw [f6.2 k k2 k1, f5 1089 (by decide)]⟩
    have hv6 := fr6.rv hv4
    have hxr := row_loop (st := f_X12_mileBy_s243 (nI (los V R3.1 R3.2.1))) (mm := m6) (fun i => i = 1097 ∨ i = 1098) (fun i t => if i = 1097 then nI (if (los V R3.1 R3.2.1).testBit t then 2 else R3.1 4 t) else if (los V R3.1 R3.2.1).testBit t then nI (R3.1 0 1) else m4.1 1098 t) (V 1 2) (fun k n hk hn => ?_) (fun n hn => ?_)
    · obtain ⟨m7, e7, x1, x2⟩ := hxr
      have f7 : ∀ i, ¬ i = 1097 → ¬ i = 1098 → m7.1 i = m6.1 i := fun i h1 h2 => by
        funext j
        rw [x1 i j (fun z => z.1.elim h1 h2)]
      have eb : f_X12_bits m7 (nI (los V R3.1 R3.2.1)) = some (nI (pop (los V R3.1 R3.2.1) 12)) := by rw [bits_ok (by omega), pop16 hlt]
      have em : mil V fc R = st4 V R3 := by rw [hR3]; rfl
      have es2 : mSank V fc R = pop (los V R3.1 R3.2.1) 12 := by rw [hR3]; rfl
      have fr7 : frM mm m7 := fr4.tr (fr6.tr ⟨fun i i1 i2 i3 i4 i5 i6 i7 i8 i9 => f7 i i5 i6, fun k k1 k2 => by rw [f7 1088 (by decide) (by decide)], fun k k1 k2 k3 => by rw [f7 1089 (by decide) (by decide)]⟩)
      rw [em, es2]
      refine ⟨m7, ?_, ⟨⟨?_, ?_, ?_, fun o ho => ?_, fun t ht => ?_⟩, fun t ht => ?_⟩, fr7, ?_, ?_⟩
      · unfold f_X12_mileBy
        rw [vl_s, e1, bi1_s, vl_s, ← hm2, r2.2.2.1.1, vl_s, e3, bi1_s, e4, bi1_s, es, bi1_s, ew, bi1_s, e5, bi1_s, e6, bi2_s, e7, bi1_s, eb, bi1_s]
      · show m7.1 1089 6 = nI (R3.1 0 1)
        rw [f7 _ (by decide) (by decide)]; exact r6.1
      · show m7.1 1089 1 = R3.2.2
        rw [f7 _ (by decide) (by decide)]; exact r6.2.1
      · show RpOk (m7.1 1089 4) (m7.1 1099) (m7.1 1100) (m7.1 1101) _
        rw [f7 _ (by decide) (by decide), f7 _ (by decide) (by decide), f7 _ (by decide) (by decide), f7 _ (by decide) (by decide)]; exact r6.2.2.1
      · show m7.1 1092 o = nI (fa4 V R3.1 R3.2.1 o)
        rw [f7 _ (by decide) (by decide)]; exact r6.2.2.2.1 o ho
      · show m7.1 1093 t = nI (R3.1 2 t) ∧ m7.1 1095 t = nI (R3.1 3 t) ∧ m7.1 1097 t = nI (if (los V R3.1 R3.2.1).testBit t then 2 else R3.1 4 t)
        rw [f7 _ (by decide) (by decide), f7 1095 (by decide) (by decide), x2 _ t (Or.inl rfl) ht, if_pos rfl]
        exact ⟨(r6.2.2.2.2 t ht).1, (r6.2.2.2.2 t ht).2.1, rfl⟩
      · show m7.1 1098 t = if (if (los V R3.1 R3.2.1).testBit t then 2 else R3.1 4 t) = 2 then nI (if (los V R3.1 R3.2.1).testBit t then R3.1 0 1 else R3.1 5 t) else -2
        rw [x2 _ t (Or.inr rfl) ht, if_neg (by decide)]
        by_cases c : (los V R3.1 R3.2.1).testBit t = true
        · rw [if_pos c, if_pos c, if_pos c, if_pos rfl]
        · rw [if_neg c, if_neg c, if_neg c, r4.2 t ht]
      · rw [f7 1088 (by decide) (by decide), f6.1 1088 (by decide) (by decide) (by decide) (by decide), f5 1088 (by decide), l4]
        rfl
      · rw [f7 1088 (by decide) (by decide), f6.1 1088 (by decide) (by decide) (by decide) (by decide), f5 1088 (by decide), b4, c3]
        rfl
    · have e27 : n.1 1089 3 = nI (V 1 2) := by rw [hn 1089 3 (fun z => by omega)]; exact hv6.1.2.2
      have e4' : n.1 1097 k = nI (R3.1 4 k) := by rw [hn 1097 k (fun z => by omega)]; exact (r6.2.2.2.2 k hk).2.2
      have e5' : n.1 1098 k = m4.1 1098 k := by rw [hn 1098 k (fun z => by omega), f6.1 1098 (by decide) (by decide) (by decide) (by decide), f5 1098 (by decide)]
      have er : n.1 1089 6 = nI (R3.1 0 1) := by rw [hn 1089 6 (fun z => by omega)]; exact r6.1
      unfold f_X12_mileBy_s243
      simp (disch := omega) only [↓reduceIte, decide_true, decide_false, Bool.false_eq_true, eq_self, s10, s01, cont_ok, has_ok, b2i0, b2i1, reduceCtorEq, Nat.or_zero, Nat.add_zero, sN_le, sN_lt, sN_eq, sN_lt0, sN_le0, sN_0le, sN_0lt, sN_eq0, sN_cl, sN_ad, sN_a1, K2, K3, K4, K5, K6, K7, K8, K9, K12, K16, K20, false_or, or_false, if_neg, if_pos, vl_s, bi1_s, bi2_s, nx_or, nx_and, nx_sh, e27, wI_ne (show 1089 ≠ 1097 by decide), er]
      cases hc : (los V R3.1 R3.2.1).testBit k
      · rw [if_pos rfl]
        refine ⟨n, rfl, fun i j h => rfl, fun i hi => ?_⟩
        rcases hi with hi | hi
        · rw [if_pos hi, hi, e4', if_neg (by decide)]
        · rw [if_neg (by omega), hi, e5', if_neg (by decide)]
      · rw [if_neg (by decide)]
        refine ⟨_, rfl, fun i j h => ?_, fun i hi => ?_⟩
        · rw [wI_get, if_neg (fun z => h ⟨Or.inr z.1, z.2⟩), wI_get, if_neg (fun z => h ⟨Or.inl z.1, z.2⟩)]
        · rcases hi with hi | hi
          · rw [if_pos hi, hi, wI_ne (by omega), wI_at, if_pos rfl]
          · rw [if_neg (by omega), hi, wI_at, if_pos rfl]
    · have e27 : n.1 1089 3 = nI (V 1 2) := by rw [hn 1089 3 (fun z => by omega)]; exact hv6.1.2.2
      unfold f_X12_mileBy_s243
      simp (disch := omega) only [↓reduceIte, decide_true, decide_false, Bool.false_eq_true, eq_self, s10, s01, cont_ok, has_ok, b2i0, b2i1, reduceCtorEq, Nat.or_zero, Nat.add_zero, sN_le, sN_lt, sN_eq, sN_lt0, sN_le0, sN_0le, sN_0lt, sN_eq0, sN_cl, sN_ad, sN_a1, K2, K3, K4, K5, K6, K7, K8, K9, K12, K16, K20, false_or, or_false, if_neg, if_pos, vl_s, bi1_s, bi2_s, nx_or, nx_and, nx_sh, e27]
  · have e27 : n.1 1089 2 = nI (V 1 1) := by rw [hn 1089 2 (fun z => by omega)]; exact hv4.1.2.1
    have e4' : n.1 1092 k = nI (R3.1 1 k) := by rw [hn 1092 k (fun z => by omega)]; exact r4a.2.2.2.1 k hk
    unfold f_X12_mileBy_s189 f_X12_mileBy_j226
    simp (disch := omega) only [↓reduceIte, decide_true, decide_false, Bool.false_eq_true, eq_self, s10, s01, cont_ok, has_ok, b2i0, b2i1, reduceCtorEq, Nat.or_zero, Nat.add_zero, sN_le, sN_lt, sN_eq, sN_lt0, sN_le0, sN_0le, sN_0lt, sN_eq0, sN_cl, sN_ad, sN_a1, K2, K3, K4, K5, K6, K7, K8, K9, K12, K16, K20, false_or, or_false, if_neg, if_pos, vl_s, bi1_s, bi2_s, nx_or, nx_and, nx_sh, e27, e4']
    have et : (bset (wetB V R3.1 R3.2.1) (V 1 1)).testBit k = wetB V R3.1 R3.2.1 k := by rw [bset_tb, decide_eq_true hk, Bool.true_and]
    rw [et]
    by_cases c : rid V R3.1 (pOf V R3.1 R3.2.1 0) k &&& los V R3.1 R3.2.1 = 0
    · rw [show wetB V R3.1 R3.2.1 k = false from decide_eq_false (fun z => z c), if_pos rfl]
      refine ⟨_, rfl, fun i j h => ?_, fun i hi => ?_⟩
      · rw [wI_get, if_neg (fun z => h z)]
      · rw [hi, wI_at]
        unfold fa4
        rw [if_pos c]
    · rw [show wetB V R3.1 R3.2.1 k = true from decide_eq_true c, if_neg (by decide)]
      refine ⟨_, rfl, fun i j h => ?_, fun i hi => ?_⟩
      · rw [wI_get, if_neg (fun z => h z)]
      · rw [hi, wI_at]
        unfold fa4
        rw [if_neg c]
  · have e27 : n.1 1089 2 = nI (V 1 1) := by rw [hn 1089 2 (fun z => by omega)]; exact hv4.1.2.1
    unfold f_X12_mileBy_s189
    simp (disch := omega) only [↓reduceIte, decide_true, decide_false, Bool.false_eq_true, eq_self, s10, s01, cont_ok, has_ok, b2i0, b2i1, reduceCtorEq, Nat.or_zero, Nat.add_zero, sN_le, sN_lt, sN_eq, sN_lt0, sN_le0, sN_0le, sN_0lt, sN_eq0, sN_cl, sN_ad, sN_a1, K2, K3, K4, K5, K6, K7, K8, K9, K12, K16, K20, false_or, or_false, if_neg, if_pos, vl_s, bi1_s, bi2_s, nx_or, nx_and, nx_sh, e27]
