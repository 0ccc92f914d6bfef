/-! PHASE 2: the reference's images (written by carry.py) -/
theorem carry0_f {m : Mm} {a n p : Nat} (ha : ¬ a = 1088) (ha2 : ¬ a = 1139) (hn : n ≤ 1540) (h71 : m.1 1088 71 = nI p) (h72 : m.1 1088 72 = 0) (hp : p + n ≤ 9500) : ∃ m1, f_X12_carryRow m a n = some m1 ∧ Sto 1139 71 m m1 p n (m.1 a) := by
  have hx : ∃ w, lp (f_X12_carryRow_s2 a n) ((0 : Int32), m) = some w ∧ Sto 1139 71 m w p n (m.1 a) := by
    refine lp_inv (fun k x => ∃ w, x = (nI k, w) ∧ Sto 1139 71 m w p k (m.1 a)) _ n (fun k x hk hx => ?_) (fun x hx => ?_) 0 _ (Nat.zero_le _) ⟨m, rfl, fun k hk => absurd hk (by omega), fun _ _ => rfl, fun _ _ _ => rfl, fun _ _ => rfl, h71⟩
    · obtain ⟨w, rfl, s⟩ := hx
      have w71 := s.2.2.2.2
      have w72 : w.1 1088 72 = 0 := by rw [s.2.2.2.1 72 (by decide)]; exact h72
      have ew : w.1 a = m.1 a := s.2.2.1 a ha ha2
      refine ⟨(nI (k + 1), wI (wI w 1139 (p + k) (m.1 a k)) 1088 71 (nI (p + k + 1))), ?_, _, rfl, fun j hj => ?_, fun j hj => ?_, fun i i1 i2 => by rw [wI_ne i1, wI_ne i2, s.2.2.1 i i1 i2], fun j hj => by rw [wI_pl hj, wI_ne (by decide), s.2.2.2.1 j hj], by rw [wI_at]; rfl⟩
      · unfold f_X12_carryRow_s2 f_X12_carryRow_j42
        show (if nI n ≤ nI k then _ else _) = _
        simp (disch := omega) only [↓reduceIte, decide_true, decide_false, Bool.false_eq_true, eq_self, s10, s01, cont_ok, has_ok, b2i0, b2i1, reduceCtorEq, Nat.or_zero, Nat.add_zero, sN_le, sN_lt, sN_eq, sN_lt0, sN_le0, sN_0le, sN_0lt, sN_eq0, sN_cl, sN_ad, sN_a1, K2, K3, K4, K5, K6, K7, K8, K9, K12, K16, K20, false_or, or_false, if_neg, if_pos, vl_s, bi1_s, bi2_s, nx_or, nx_and, nx_sh, w72, w71, ew, wI_ne (show 1088 ≠ 1139 by decide)]
      · rw [wI_ne (by decide)]
        by_cases c : j = k
        · rw [c, wI_at]
        · rw [wI_pl (by omega), s.1 j (by omega)]
      · rw [wI_ne (by decide), wI_pl (by omega), s.2.1 j (by omega)]
    · obtain ⟨w, rfl, s⟩ := hx
      refine ⟨w, ?_, s⟩
      unfold f_X12_carryRow_s2
      show (if nI n ≤ nI n then _ else _) = _
      simp (disch := omega) only [↓reduceIte, decide_true, decide_false, Bool.false_eq_true, eq_self, s10, s01, cont_ok, has_ok, b2i0, b2i1, reduceCtorEq, Nat.or_zero, Nat.add_zero, sN_le, sN_lt, sN_eq, sN_lt0, sN_le0, sN_0le, sN_0lt, sN_eq0, sN_cl, sN_ad, sN_a1, K2, K3, K4, K5, K6, K7, K8, K9, K12, K16, K20, false_or, or_false, if_neg, if_pos, vl_s, bi1_s, bi2_s, nx_or, nx_and, nx_sh]
  obtain ⟨w, e, s⟩ := hx
  exact ⟨w, by unfold f_X12_carryRow; rw [e]; rfl, s⟩
theorem carry1_f {m : Mm} {a n p : Nat} (ha : ¬ a = 1088) (ha2 : ¬ a = 1139) (hn : n ≤ 1540) (h71 : m.1 1088 71 = nI p) (h72 : m.1 1088 72 = 1) (hp : p + n ≤ 9500) : ∃ m1, f_X12_carryRow m a n = some m1 ∧ Loa 1139 71 m m1 p n a := by
  have hx : ∃ w, lp (f_X12_carryRow_s2 a n) ((0 : Int32), m) = some w ∧ Loa 1139 71 m w p n a := by
    refine lp_inv (fun k x => ∃ w, x = (nI k, w) ∧ Loa 1139 71 m w p k a) _ n (fun k x hk hx => ?_) (fun x hx => ?_) 0 _ (Nat.zero_le _) ⟨m, rfl, fun k hk => absurd hk (by omega), fun _ _ _ => rfl, fun _ _ => rfl, h71⟩
    · obtain ⟨w, rfl, s1, s2, s3, s4⟩ := hx
      have w72 : w.1 1088 72 = 1 := by rw [s3 72 (by decide)]; exact h72
      refine ⟨(nI (k + 1), wI (wI w a k (w.1 1139 (p + k))) 1088 71 (nI (p + k + 1))), ?_, _, rfl, fun j hj => ?_, fun i i1 i2 => by rw [wI_ne i1, wI_ne i2, s2 i i1 i2], fun j hj => by rw [wI_pl hj, wI_ne (fun z => ha z.symm), s3 j hj], by rw [wI_at]; rfl⟩
      · unfold f_X12_carryRow_s2 f_X12_carryRow_j42
        show (if nI n ≤ nI k then _ else _) = _
        simp (disch := omega) only [↓reduceIte, decide_true, decide_false, Bool.false_eq_true, eq_self, s10, s01, cont_ok, has_ok, b2i0, b2i1, reduceCtorEq, Nat.or_zero, Nat.add_zero, sN_le, sN_lt, sN_eq, sN_lt0, sN_le0, sN_0le, sN_0lt, sN_eq0, sN_cl, sN_ad, sN_a1, K2, K3, K4, K5, K6, K7, K8, K9, K12, K16, K20, false_or, or_false, if_neg, if_pos, vl_s, bi1_s, bi2_s, nx_or, nx_and, nx_sh, w72, s4, wI_ne (show 1088 ≠ a from fun z => ha z.symm)]
      · rw [wI_ne ha]
        by_cases c : j = k
        · rw [c, wI_at, s2 1139 (by decide) (fun z => ha2 z.symm)]
        · rw [wI_pl c, s1 j (by omega)]
    · obtain ⟨w, rfl, s⟩ := hx
      refine ⟨w, ?_, s⟩
      unfold f_X12_carryRow_s2
      show (if nI n ≤ nI n then _ else _) = _
      simp (disch := omega) only [↓reduceIte, decide_true, decide_false, Bool.false_eq_true, eq_self, s10, s01, cont_ok, has_ok, b2i0, b2i1, reduceCtorEq, Nat.or_zero, Nat.add_zero, sN_le, sN_lt, sN_eq, sN_lt0, sN_le0, sN_0le, sN_0lt, sN_eq0, sN_cl, sN_ad, sN_a1, K2, K3, K4, K5, K6, K7, K8, K9, K12, K16, K20, false_or, or_false, if_neg, if_pos, vl_s, bi1_s, bi2_s, nx_or, nx_and, nx_sh]
  obtain ⟨w, e, s⟩ := hx
  exact ⟨w, by unfold f_X12_carryRow; rw [e]; rfl, s⟩
theorem carries0_f {mm : Mm} {k : Nat} (hk : k < 5) : ∃ m1, f_X12_carriesAll mm (nI k) 0 = some m1 ∧ smF (fI m1 k) (fS mm) ∧ (∀ j, j < 1900 * k ∨ 1900 * k + 1682 ≤ j → m1.1 1139 j = mm.1 1139 j) ∧ (∀ i, ¬ i = 1088 → ¬ i = 1130 → ¬ i = 1139 → m1.1 i = mm.1 i) ∧ ∀ j, ¬ j = 71 → ¬ j = 72 → m1.1 1088 j = mm.1 1088 j := by
  obtain ⟨m0', hm0⟩ : ∃ m0', m0' = wI (wI (wI mm 1088 71 (nI (1900 * k))) 1088 72 0) 1130 0 (mm.1 1088 55) := ⟨_, rfl⟩
  have z71 : m0'.1 1088 71 = nI (1900 * k) := by rw [hm0, wI_ne (by decide), wI_pl (by decide), wI_at]
  have z72 : m0'.1 1088 72 = 0 := by rw [hm0, wI_ne (by decide), wI_at]
  have z55 : m0'.1 1130 0 = mm.1 1088 55 := by rw [hm0, wI_at]
  have z1 : ∀ j, ¬ j = 71 → ¬ j = 72 → m0'.1 1088 j = mm.1 1088 j := fun j j1 j2 => by rw [hm0, wI_ne (by decide), wI_pl j2, wI_pl j1]
  have zi : ∀ i, ¬ i = 1088 → ¬ i = 1130 → m0'.1 i = mm.1 i := fun i i1 i2 => by rw [hm0, wI_ne i2, wI_ne i1, wI_ne i1]
  obtain ⟨m1, e1, t1⟩ := carry0_f (a := 1130) (n := 1) (by decide) (by decide) (by decide) z71 z72 (by omega)
  have q1 : Sto 1139 71 m0' m1 (1900 * k) 1 (m0'.1 1130) := t1
  obtain ⟨m2, e2, t2⟩ := carry0_f (a := 1089) (n := 9) (by decide) (by decide) (by decide) q1.2.2.2.2 (by rw [q1.2.2.2.1 72 (by decide)]; exact z72) (by omega)
  have q2 : Sto 1139 71 m0' m2 (1900 * k) 10 _ := q1.tr t2
  obtain ⟨m3, e3, t3⟩ := carry0_f (a := 1090) (n := 6) (by decide) (by decide) (by decide) q2.2.2.2.2 (by rw [q2.2.2.2.1 72 (by decide)]; exact z72) (by omega)
  have q3 : Sto 1139 71 m0' m3 (1900 * k) 16 _ := q2.tr t3
  obtain ⟨m4, e4, t4⟩ := carry0_f (a := 1091) (n := 6) (by decide) (by decide) (by decide) q3.2.2.2.2 (by rw [q3.2.2.2.1 72 (by decide)]; exact z72) (by omega)
  have q4 : Sto 1139 71 m0' m4 (1900 * k) 22 _ := q3.tr t4
  obtain ⟨m5, e5, t5⟩ := carry0_f (a := 1092) (n := 6) (by decide) (by decide) (by decide) q4.2.2.2.2 (by rw [q4.2.2.2.1 72 (by decide)]; exact z72) (by omega)
  have q5 : Sto 1139 71 m0' m5 (1900 * k) 28 _ := q4.tr t5
  obtain ⟨m6, e6, t6⟩ := carry0_f (a := 1093) (n := 8) (by decide) (by decide) (by decide) q5.2.2.2.2 (by rw [q5.2.2.2.1 72 (by decide)]; exact z72) (by omega)
  have q6 : Sto 1139 71 m0' m6 (1900 * k) 36 _ := q5.tr t6
  obtain ⟨m7, e7, t7⟩ := carry0_f (a := 1094) (n := 8) (by decide) (by decide) (by decide) q6.2.2.2.2 (by rw [q6.2.2.2.1 72 (by decide)]; exact z72) (by omega)
  have q7 : Sto 1139 71 m0' m7 (1900 * k) 44 _ := q6.tr t7
  obtain ⟨m8, e8, t8⟩ := carry0_f (a := 1095) (n := 8) (by decide) (by decide) (by decide) q7.2.2.2.2 (by rw [q7.2.2.2.1 72 (by decide)]; exact z72) (by omega)
  have q8 : Sto 1139 71 m0' m8 (1900 * k) 52 _ := q7.tr t8
  obtain ⟨m9, e9, t9⟩ := carry0_f (a := 1096) (n := 8) (by decide) (by decide) (by decide) q8.2.2.2.2 (by rw [q8.2.2.2.1 72 (by decide)]; exact z72) (by omega)
  have q9 : Sto 1139 71 m0' m9 (1900 * k) 60 _ := q8.tr t9
  obtain ⟨m10, e10, t10⟩ := carry0_f (a := 1097) (n := 8) (by decide) (by decide) (by decide) q9.2.2.2.2 (by rw [q9.2.2.2.1 72 (by decide)]; exact z72) (by omega)
  have q10 : Sto 1139 71 m0' m10 (1900 * k) 68 _ := q9.tr t10
  obtain ⟨m11, e11, t11⟩ := carry0_f (a := 1098) (n := 8) (by decide) (by decide) (by decide) q10.2.2.2.2 (by rw [q10.2.2.2.1 72 (by decide)]; exact z72) (by omega)
  have q11 : Sto 1139 71 m0' m11 (1900 * k) 76 _ := q10.tr t11
  obtain ⟨m12, e12, t12⟩ := carry0_f (a := 1099) (n := 12) (by decide) (by decide) (by decide) q11.2.2.2.2 (by rw [q11.2.2.2.1 72 (by decide)]; exact z72) (by omega)
  have q12 : Sto 1139 71 m0' m12 (1900 * k) 88 _ := q11.tr t12
  obtain ⟨m13, e13, t13⟩ := carry0_f (a := 1100) (n := 12) (by decide) (by decide) (by decide) q12.2.2.2.2 (by rw [q12.2.2.2.1 72 (by decide)]; exact z72) (by omega)
  have q13 : Sto 1139 71 m0' m13 (1900 * k) 100 _ := q12.tr t13
  obtain ⟨m14, e14, t14⟩ := carry0_f (a := 1101) (n := 12) (by decide) (by decide) (by decide) q13.2.2.2.2 (by rw [q13.2.2.2.1 72 (by decide)]; exact z72) (by omega)
  have q14 : Sto 1139 71 m0' m14 (1900 * k) 112 _ := q13.tr t14
  obtain ⟨m15, e15, t15⟩ := carry0_f (a := 1102) (n := 6) (by decide) (by decide) (by decide) q14.2.2.2.2 (by rw [q14.2.2.2.1 72 (by decide)]; exact z72) (by omega)
  have q15 : Sto 1139 71 m0' m15 (1900 * k) 118 _ := q14.tr t15
  obtain ⟨m16, e16, t16⟩ := carry0_f (a := 1103) (n := 6) (by decide) (by decide) (by decide) q15.2.2.2.2 (by rw [q15.2.2.2.1 72 (by decide)]; exact z72) (by omega)
  have q16 : Sto 1139 71 m0' m16 (1900 * k) 124 _ := q15.tr t16
  obtain ⟨m17, e17, t17⟩ := carry0_f (a := 1104) (n := 6) (by decide) (by decide) (by decide) q16.2.2.2.2 (by rw [q16.2.2.2.1 72 (by decide)]; exact z72) (by omega)
  have q17 : Sto 1139 71 m0' m17 (1900 * k) 130 _ := q16.tr t17
  obtain ⟨m18, e18, t18⟩ := carry0_f (a := 1105) (n := 6) (by decide) (by decide) (by decide) q17.2.2.2.2 (by rw [q17.2.2.2.1 72 (by decide)]; exact z72) (by omega)
  have q18 : Sto 1139 71 m0' m18 (1900 * k) 136 _ := q17.tr t18
  obtain ⟨m19, e19, t19⟩ := carry0_f (a := 1106) (n := 6) (by decide) (by decide) (by decide) q18.2.2.2.2 (by rw [q18.2.2.2.1 72 (by decide)]; exact z72) (by omega)
  have q19 : Sto 1139 71 m0' m19 (1900 * k) 142 _ := q18.tr t19
  obtain ⟨m20, e20, t20⟩ := carry0_f (a := 1129) (n := 1540) (by decide) (by decide) (by decide) q19.2.2.2.2 (by rw [q19.2.2.2.1 72 (by decide)]; exact z72) (by omega)
  have q20 : Sto 1139 71 m0' m20 (1900 * k) 1682 _ := q19.tr t20
  refine ⟨m20, ?_, fun j hj => ?_, fun j hj => ?_, fun i i1 i2 i3 => by rw [q20.2.2.1 i i1 i3, zi i i1 i2], fun j j1 j2 => by rw [q20.2.2.2.1 j j1, z1 j j1 j2]⟩
  · unfold f_X12_carriesAll
    rw [show (1900 : Int32) * nI k = nI (1900 * k) from pk_mul 1900 k, vl_s, if_neg (by decide), vl_s, vl_s, show (wI (wI mm 1088 71 (nI (1900 * k))) 1088 72 0).1 1088 55 = mm.1 1088 55 by rw [wI_pl (by decide), wI_pl (by decide)], ← hm0, e1, bi1_s, vl_s, wI_same (by rw [q1.2.2.1 1130 (by decide) (by decide), z55, q1.2.2.2.1 55 (by decide), z1 55 (by decide) (by decide)]), e2, bi1_s, e3, bi1_s, e4, bi1_s, e5, bi1_s, e6, bi1_s, e7, bi1_s, e8, bi1_s, e9, bi1_s, e10, bi1_s, e11, bi1_s, e12, bi1_s, e13, bi1_s, e14, bi1_s, e15, bi1_s, e16, bi1_s, e17, bi1_s, e18, bi1_s, e19, bi1_s, e20, bi1_s]
  · have key : ∀ l, l < lnF j → fI m20 k j l = fS mm j l := by
      have hcase : j = 0 ∨ j = 1 ∨ j = 2 ∨ j = 3 ∨ j = 4 ∨ j = 5 ∨ j = 6 ∨ j = 7 ∨ j = 8 ∨ j = 9 ∨ j = 10 ∨ j = 11 ∨ j = 12 ∨ j = 13 ∨ j = 14 ∨ j = 15 ∨ j = 16 ∨ j = 17 ∨ j = 18 ∨ j = 19 := by omega
      rcases hcase with rfl | rfl | rfl | rfl | rfl | rfl | rfl | rfl | rfl | rfl | rfl | rfl | rfl | rfl | rfl | rfl | rfl | rfl | rfl | rfl
      · intro l hl
        have hl : l < 1 := hl
        show m20.1 1139 (1900 * k + 0 + l) = mm.1 1088 55
        rw [t20.2.1 _ (by omega), t19.2.1 _ (by omega), t18.2.1 _ (by omega), t17.2.1 _ (by omega), t16.2.1 _ (by omega), t15.2.1 _ (by omega), t14.2.1 _ (by omega), t13.2.1 _ (by omega), t12.2.1 _ (by omega), t11.2.1 _ (by omega), t10.2.1 _ (by omega), t9.2.1 _ (by omega), t8.2.1 _ (by omega), t7.2.1 _ (by omega), t6.2.1 _ (by omega), t5.2.1 _ (by omega), t4.2.1 _ (by omega), t3.2.1 _ (by omega), t2.2.1 _ (by omega), Nat.add_zero, t1.1 l hl, show l = 0 by omega, z55]
      · intro l hl
        have hl : l < 9 := hl
        show m20.1 1139 (1900 * k + 1 + l) = mm.1 1089 l
        rw [t20.2.1 _ (by omega), t19.2.1 _ (by omega), t18.2.1 _ (by omega), t17.2.1 _ (by omega), t16.2.1 _ (by omega), t15.2.1 _ (by omega), t14.2.1 _ (by omega), t13.2.1 _ (by omega), t12.2.1 _ (by omega), t11.2.1 _ (by omega), t10.2.1 _ (by omega), t9.2.1 _ (by omega), t8.2.1 _ (by omega), t7.2.1 _ (by omega), t6.2.1 _ (by omega), t5.2.1 _ (by omega), t4.2.1 _ (by omega), t3.2.1 _ (by omega), t2.1 l hl, q1.2.2.1 1089 (by decide) (by decide), zi 1089 (by decide) (by decide)]
      · intro l hl
        have hl : l < 6 := hl
        show m20.1 1139 (1900 * k + 10 + l) = mm.1 1090 l
        rw [t20.2.1 _ (by omega), t19.2.1 _ (by omega), t18.2.1 _ (by omega), t17.2.1 _ (by omega), t16.2.1 _ (by omega), t15.2.1 _ (by omega), t14.2.1 _ (by omega), t13.2.1 _ (by omega), t12.2.1 _ (by omega), t11.2.1 _ (by omega), t10.2.1 _ (by omega), t9.2.1 _ (by omega), t8.2.1 _ (by omega), t7.2.1 _ (by omega), t6.2.1 _ (by omega), t5.2.1 _ (by omega), t4.2.1 _ (by omega), t3.1 l hl, q2.2.2.1 1090 (by decide) (by decide), zi 1090 (by decide) (by decide)]
      · intro l hl
        have hl : l < 6 := hl
        show m20.1 1139 (1900 * k + 16 + l) = mm.1 1091 l
        rw [t20.2.1 _ (by omega), t19.2.1 _ (by omega), t18.2.1 _ (by omega), t17.2.1 _ (by omega), t16.2.1 _ (by omega), t15.2.1 _ (by omega), t14.2.1 _ (by omega), t13.2.1 _ (by omega), t12.2.1 _ (by omega), t11.2.1 _ (by omega), t10.2.1 _ (by omega), t9.2.1 _ (by omega), t8.2.1 _ (by omega), t7.2.1 _ (by omega), t6.2.1 _ (by omega), t5.2.1 _ (by omega), t4.1 l hl, q3.2.2.1 1091 (by decide) (by decide), zi 1091 (by decide) (by decide)]
      · intro l hl
        have hl : l < 6 := hl
        show m20.1 1139 (1900 * k + 22 + l) = mm.1 1092 l
        rw [t20.2.1 _ (by omega), t19.2.1 _ (by omega), t18.2.1 _ (by omega), t17.2.1 _ (by omega), t16.2.1 _ (by omega), t15.2.1 _ (by omega), t14.2.1 _ (by omega), t13.2.1 _ (by omega), t12.2.1 _ (by omega), t11.2.1 _ (by omega), t10.2.1 _ (by omega), t9.2.1 _ (by omega), t8.2.1 _ (by omega), t7.2.1 _ (by omega), t6.2.1 _ (by omega), t5.1 l hl, q4.2.2.1 1092 (by decide) (by decide), zi 1092 (by decide) (by decide)]
      · intro l hl
        have hl : l < 8 := hl
        show m20.1 1139 (1900 * k + 28 + l) = mm.1 1093 l
        rw [t20.2.1 _ (by omega), t19.2.1 _ (by omega), t18.2.1 _ (by omega), t17.2.1 _ (by omega), t16.2.1 _ (by omega), t15.2.1 _ (by omega), t14.2.1 _ (by omega), t13.2.1 _ (by omega), t12.2.1 _ (by omega), t11.2.1 _ (by omega), t10.2.1 _ (by omega), t9.2.1 _ (by omega), t8.2.1 _ (by omega), t7.2.1 _ (by omega), t6.1 l hl, q5.2.2.1 1093 (by decide) (by decide), zi 1093 (by decide) (by decide)]
      · intro l hl
        have hl : l < 8 := hl
        show m20.1 1139 (1900 * k + 36 + l) = mm.1 1094 l
        rw [t20.2.1 _ (by omega), t19.2.1 _ (by omega), t18.2.1 _ (by omega), t17.2.1 _ (by omega), t16.2.1 _ (by omega), t15.2.1 _ (by omega), t14.2.1 _ (by omega), t13.2.1 _ (by omega), t12.2.1 _ (by omega), t11.2.1 _ (by omega), t10.2.1 _ (by omega), t9.2.1 _ (by omega), t8.2.1 _ (by omega), t7.1 l hl, q6.2.2.1 1094 (by decide) (by decide), zi 1094 (by decide) (by decide)]
      · intro l hl
        have hl : l < 8 := hl
        show m20.1 1139 (1900 * k + 44 + l) = mm.1 1095 l
        rw [t20.2.1 _ (by omega), t19.2.1 _ (by omega), t18.2.1 _ (by omega), t17.2.1 _ (by omega), t16.2.1 _ (by omega), t15.2.1 _ (by omega), t14.2.1 _ (by omega), t13.2.1 _ (by omega), t12.2.1 _ (by omega), t11.2.1 _ (by omega), t10.2.1 _ (by omega), t9.2.1 _ (by omega), t8.1 l hl, q7.2.2.1 1095 (by decide) (by decide), zi 1095 (by decide) (by decide)]
      · intro l hl
        have hl : l < 8 := hl
        show m20.1 1139 (1900 * k + 52 + l) = mm.1 1096 l
        rw [t20.2.1 _ (by omega), t19.2.1 _ (by omega), t18.2.1 _ (by omega), t17.2.1 _ (by omega), t16.2.1 _ (by omega), t15.2.1 _ (by omega), t14.2.1 _ (by omega), t13.2.1 _ (by omega), t12.2.1 _ (by omega), t11.2.1 _ (by omega), t10.2.1 _ (by omega), t9.1 l hl, q8.2.2.1 1096 (by decide) (by decide), zi 1096 (by decide) (by decide)]
      · intro l hl
        have hl : l < 8 := hl
        show m20.1 1139 (1900 * k + 60 + l) = mm.1 1097 l
        rw [t20.2.1 _ (by omega), t19.2.1 _ (by omega), t18.2.1 _ (by omega), t17.2.1 _ (by omega), t16.2.1 _ (by omega), t15.2.1 _ (by omega), t14.2.1 _ (by omega), t13.2.1 _ (by omega), t12.2.1 _ (by omega), t11.2.1 _ (by omega), t10.1 l hl, q9.2.2.1 1097 (by decide) (by decide), zi 1097 (by decide) (by decide)]
      · intro l hl
        have hl : l < 8 := hl
        show m20.1 1139 (1900 * k + 68 + l) = mm.1 1098 l
        rw [t20.2.1 _ (by omega), t19.2.1 _ (by omega), t18.2.1 _ (by omega), t17.2.1 _ (by omega), t16.2.1 _ (by omega), t15.2.1 _ (by omega), t14.2.1 _ (by omega), t13.2.1 _ (by omega), t12.2.1 _ (by omega), t11.1 l hl, q10.2.2.1 1098 (by decide) (by decide), zi 1098 (by decide) (by decide)]
      · intro l hl
        have hl : l < 12 := hl
        show m20.1 1139 (1900 * k + 76 + l) = mm.1 1099 l
        rw [t20.2.1 _ (by omega), t19.2.1 _ (by omega), t18.2.1 _ (by omega), t17.2.1 _ (by omega), t16.2.1 _ (by omega), t15.2.1 _ (by omega), t14.2.1 _ (by omega), t13.2.1 _ (by omega), t12.1 l hl, q11.2.2.1 1099 (by decide) (by decide), zi 1099 (by decide) (by decide)]
      · intro l hl
        have hl : l < 12 := hl
        show m20.1 1139 (1900 * k + 88 + l) = mm.1 1100 l
        rw [t20.2.1 _ (by omega), t19.2.1 _ (by omega), t18.2.1 _ (by omega), t17.2.1 _ (by omega), t16.2.1 _ (by omega), t15.2.1 _ (by omega), t14.2.1 _ (by omega), t13.1 l hl, q12.2.2.1 1100 (by decide) (by decide), zi 1100 (by decide) (by decide)]
      · intro l hl
        have hl : l < 12 := hl
        show m20.1 1139 (1900 * k + 100 + l) = mm.1 1101 l
        rw [t20.2.1 _ (by omega), t19.2.1 _ (by omega), t18.2.1 _ (by omega), t17.2.1 _ (by omega), t16.2.1 _ (by omega), t15.2.1 _ (by omega), t14.1 l hl, q13.2.2.1 1101 (by decide) (by decide), zi 1101 (by decide) (by decide)]
      · intro l hl
        have hl : l < 6 := hl
        show m20.1 1139 (1900 * k + 112 + l) = mm.1 1102 l
        rw [t20.2.1 _ (by omega), t19.2.1 _ (by omega), t18.2.1 _ (by omega), t17.2.1 _ (by omega), t16.2.1 _ (by omega), t15.1 l hl, q14.2.2.1 1102 (by decide) (by decide), zi 1102 (by decide) (by decide)]
      · intro l hl
        have hl : l < 6 := hl
        show m20.1 1139 (1900 * k + 118 + l) = mm.1 1103 l
        rw [t20.2.1 _ (by omega), t19.2.1 _ (by omega), t18.2.1 _ (by omega), t17.2.1 _ (by omega), t16.1 l hl, q15.2.2.1 1103 (by decide) (by decide), zi 1103 (by decide) (by decide)]
      · intro l hl
        have hl : l < 6 := hl
        show m20.1 1139 (1900 * k + 124 + l) = mm.1 1104 l
        rw [t20.2.1 _ (by omega), t19.2.1 _ (by omega), t18.2.1 _ (by omega), t17.1 l hl, q16.2.2.1 1104 (by decide) (by decide), zi 1104 (by decide) (by decide)]
      · intro l hl
        have hl : l < 6 := hl
        show m20.1 1139 (1900 * k + 130 + l) = mm.1 1105 l
        rw [t20.2.1 _ (by omega), t19.2.1 _ (by omega), t18.1 l hl, q17.2.2.1 1105 (by decide) (by decide), zi 1105 (by decide) (by decide)]
      · intro l hl
        have hl : l < 6 := hl
        show m20.1 1139 (1900 * k + 136 + l) = mm.1 1106 l
        rw [t20.2.1 _ (by omega), t19.1 l hl, q18.2.2.1 1106 (by decide) (by decide), zi 1106 (by decide) (by decide)]
      · intro l hl
        have hl : l < 1540 := hl
        show m20.1 1139 (1900 * k + 142 + l) = mm.1 1129 l
        rw [t20.1 l hl, q19.2.2.1 1129 (by decide) (by decide), zi 1129 (by decide) (by decide)]
    exact key
  · rw [q20.2.1 j (by omega), zi 1139 (by decide) (by decide)]
theorem carries1_f {mm : Mm} {k : Nat} (hk : k < 5) : ∃ m1, f_X12_carriesAll mm (nI k) 1 = some m1 ∧ smF (fS m1) (fI mm k) ∧ (∀ i, ¬ i = 1088 → ¬ (1089 ≤ i ∧ i < 1107) → ¬ i = 1129 → ¬ i = 1130 → m1.1 i = mm.1 i) ∧ ∀ j, ¬ j = 55 → ¬ j = 71 → ¬ j = 72 → m1.1 1088 j = mm.1 1088 j := by
  obtain ⟨m0', hm0⟩ : ∃ m0', m0' = wI (wI (wI mm 1088 71 (nI (1900 * k))) 1088 72 1) 1130 0 (mm.1 1088 55) := ⟨_, rfl⟩
  have z71 : m0'.1 1088 71 = nI (1900 * k) := by rw [hm0, wI_ne (by decide), wI_pl (by decide), wI_at]
  have z72 : m0'.1 1088 72 = 1 := by rw [hm0, wI_ne (by decide), wI_at]
  have z1 : ∀ j, ¬ j = 71 → ¬ j = 72 → m0'.1 1088 j = mm.1 1088 j := fun j j1 j2 => by rw [hm0, wI_ne (by decide), wI_pl j2, wI_pl j1]
  have zi : ∀ i, ¬ i = 1088 → ¬ i = 1130 → m0'.1 i = mm.1 i := fun i i1 i2 => by rw [hm0, wI_ne i2, wI_ne i1, wI_ne i1]
  obtain ⟨ma, e1, t1⟩ := carry1_f (a := 1130) (n := 1) (by decide) (by decide) (by decide) z71 z72 (by omega)
  obtain ⟨m1, hm1⟩ : ∃ m1, m1 = wI ma 1088 55 (ma.1 1130 0) := ⟨_, rfl⟩
  have a1 : ∀ i, ¬ i = 1088 → ¬ i = 1130 → m1.1 i = mm.1 i := fun i i1 i2 => by rw [hm1, wI_ne i1, t1.2.1 i i1 i2, zi i i1 i2]
  have a71 : m1.1 1088 71 = nI (1900 * k + 1) := by rw [hm1, wI_pl (by decide)]; exact t1.2.2.2
  have a72 : m1.1 1088 72 = 1 := by rw [hm1, wI_pl (by decide), t1.2.2.1 72 (by decide)]; exact z72
  have a55 : m1.1 1088 55 = mm.1 1139 (1900 * k) := by rw [hm1, wI_at, t1.1 0 (by decide), zi 1139 (by decide) (by decide)]; rfl
  have aj : ∀ j, ¬ j = 55 → ¬ j = 71 → ¬ j = 72 → m1.1 1088 j = mm.1 1088 j := fun j j0 j1 j2 => by rw [hm1, wI_pl j0, t1.2.2.1 j j1, z1 j j1 j2]
  have b1 : m1.1 1139 = mm.1 1139 := a1 1139 (by decide) (by decide)
  obtain ⟨m2, e2, t2⟩ := carry1_f (p := 1900 * k + 1) (a := 1089) (n := 9) (by decide) (by decide) (by decide) a71 a72 (by omega)
  have u2 : m2.1 1088 72 = 1 := by rw [t2.2.2.1 72 (by decide)]; exact a72
  have b2 : m2.1 1139 = mm.1 1139 := by rw [t2.2.1 1139 (by decide) (by decide)]; exact b1
  obtain ⟨m3, e3, t3⟩ := carry1_f (p := 1900 * k + 10) (a := 1090) (n := 6) (by decide) (by decide) (by decide) t2.2.2.2 u2 (by omega)
  have u3 : m3.1 1088 72 = 1 := by rw [t3.2.2.1 72 (by decide)]; exact u2
  have b3 : m3.1 1139 = mm.1 1139 := by rw [t3.2.1 1139 (by decide) (by decide)]; exact b2
  obtain ⟨m4, e4, t4⟩ := carry1_f (p := 1900 * k + 16) (a := 1091) (n := 6) (by decide) (by decide) (by decide) t3.2.2.2 u3 (by omega)
  have u4 : m4.1 1088 72 = 1 := by rw [t4.2.2.1 72 (by decide)]; exact u3
  have b4 : m4.1 1139 = mm.1 1139 := by rw [t4.2.1 1139 (by decide) (by decide)]; exact b3
  obtain ⟨m5, e5, t5⟩ := carry1_f (p := 1900 * k + 22) (a := 1092) (n := 6) (by decide) (by decide) (by decide) t4.2.2.2 u4 (by omega)
  have u5 : m5.1 1088 72 = 1 := by rw [t5.2.2.1 72 (by decide)]; exact u4
  have b5 : m5.1 1139 = mm.1 1139 := by rw [t5.2.1 1139 (by decide) (by decide)]; exact b4
  obtain ⟨m6, e6, t6⟩ := carry1_f (p := 1900 * k + 28) (a := 1093) (n := 8) (by decide) (by decide) (by decide) t5.2.2.2 u5 (by omega)
  have u6 : m6.1 1088 72 = 1 := by rw [t6.2.2.1 72 (by decide)]; exact u5
  have b6 : m6.1 1139 = mm.1 1139 := by rw [t6.2.1 1139 (by decide) (by decide)]; exact b5
  obtain ⟨m7, e7, t7⟩ := carry1_f (p := 1900 * k + 36) (a := 1094) (n := 8) (by decide) (by decide) (by decide) t6.2.2.2 u6 (by omega)
  have u7 : m7.1 1088 72 = 1 := by rw [t7.2.2.1 72 (by decide)]; exact u6
  have b7 : m7.1 1139 = mm.1 1139 := by rw [t7.2.1 1139 (by decide) (by decide)]; exact b6
  obtain ⟨m8, e8, t8⟩ := carry1_f (p := 1900 * k + 44) (a := 1095) (n := 8) (by decide) (by decide) (by decide) t7.2.2.2 u7 (by omega)
  have u8 : m8.1 1088 72 = 1 := by rw [t8.2.2.1 72 (by decide)]; exact u7
  have b8 : m8.1 1139 = mm.1 1139 := by rw [t8.2.1 1139 (by decide) (by decide)]; exact b7
  obtain ⟨m9, e9, t9⟩ := carry1_f (p := 1900 * k + 52) (a := 1096) (n := 8) (by decide) (by decide) (by decide) t8.2.2.2 u8 (by omega)
  have u9 : m9.1 1088 72 = 1 := by rw [t9.2.2.1 72 (by decide)]; exact u8
  have b9 : m9.1 1139 = mm.1 1139 := by rw [t9.2.1 1139 (by decide) (by decide)]; exact b8
  obtain ⟨m10, e10, t10⟩ := carry1_f (p := 1900 * k + 60) (a := 1097) (n := 8) (by decide) (by decide) (by decide) t9.2.2.2 u9 (by omega)
  have u10 : m10.1 1088 72 = 1 := by rw [t10.2.2.1 72 (by decide)]; exact u9
  have b10 : m10.1 1139 = mm.1 1139 := by rw [t10.2.1 1139 (by decide) (by decide)]; exact b9
  obtain ⟨m11, e11, t11⟩ := carry1_f (p := 1900 * k + 68) (a := 1098) (n := 8) (by decide) (by decide) (by decide) t10.2.2.2 u10 (by omega)
  have u11 : m11.1 1088 72 = 1 := by rw [t11.2.2.1 72 (by decide)]; exact u10
  have b11 : m11.1 1139 = mm.1 1139 := by rw [t11.2.1 1139 (by decide) (by decide)]; exact b10
  obtain ⟨m12, e12, t12⟩ := carry1_f (p := 1900 * k + 76) (a := 1099) (n := 12) (by decide) (by decide) (by decide) t11.2.2.2 u11 (by omega)
  have u12 : m12.1 1088 72 = 1 := by rw [t12.2.2.1 72 (by decide)]; exact u11
  have b12 : m12.1 1139 = mm.1 1139 := by rw [t12.2.1 1139 (by decide) (by decide)]; exact b11
  obtain ⟨m13, e13, t13⟩ := carry1_f (p := 1900 * k + 88) (a := 1100) (n := 12) (by decide) (by decide) (by decide) t12.2.2.2 u12 (by omega)
  have u13 : m13.1 1088 72 = 1 := by rw [t13.2.2.1 72 (by decide)]; exact u12
  have b13 : m13.1 1139 = mm.1 1139 := by rw [t13.2.1 1139 (by decide) (by decide)]; exact b12
  obtain ⟨m14, e14, t14⟩ := carry1_f (p := 1900 * k + 100) (a := 1101) (n := 12) (by decide) (by decide) (by decide) t13.2.2.2 u13 (by omega)
  have u14 : m14.1 1088 72 = 1 := by rw [t14.2.2.1 72 (by decide)]; exact u13
  have b14 : m14.1 1139 = mm.1 1139 := by rw [t14.2.1 1139 (by decide) (by decide)]; exact b13
  obtain ⟨m15, e15, t15⟩ := carry1_f (p := 1900 * k + 112) (a := 1102) (n := 6) (by decide) (by decide) (by decide) t14.2.2.2 u14 (by omega)
  have u15 : m15.1 1088 72 = 1 := by rw [t15.2.2.1 72 (by decide)]; exact u14
  have b15 : m15.1 1139 = mm.1 1139 := by rw [t15.2.1 1139 (by decide) (by decide)]; exact b14
  obtain ⟨m16, e16, t16⟩ := carry1_f (p := 1900 * k + 118) (a := 1103) (n := 6) (by decide) (by decide) (by decide) t15.2.2.2 u15 (by omega)
  have u16 : m16.1 1088 72 = 1 := by rw [t16.2.2.1 72 (by decide)]; exact u15
  have b16 : m16.1 1139 = mm.1 1139 := by rw [t16.2.1 1139 (by decide) (by decide)]; exact b15
  obtain ⟨m17, e17, t17⟩ := carry1_f (p := 1900 * k + 124) (a := 1104) (n := 6) (by decide) (by decide) (by decide) t16.2.2.2 u16 (by omega)
  have u17 : m17.1 1088 72 = 1 := by rw [t17.2.2.1 72 (by decide)]; exact u16
  have b17 : m17.1 1139 = mm.1 1139 := by rw [t17.2.1 1139 (by decide) (by decide)]; exact b16
  obtain ⟨m18, e18, t18⟩ := carry1_f (p := 1900 * k + 130) (a := 1105) (n := 6) (by decide) (by decide) (by decide) t17.2.2.2 u17 (by omega)
  have u18 : m18.1 1088 72 = 1 := by rw [t18.2.2.1 72 (by decide)]; exact u17
  have b18 : m18.1 1139 = mm.1 1139 := by rw [t18.2.1 1139 (by decide) (by decide)]; exact b17
  obtain ⟨m19, e19, t19⟩ := carry1_f (p := 1900 * k + 136) (a := 1106) (n := 6) (by decide) (by decide) (by decide) t18.2.2.2 u18 (by omega)
  have u19 : m19.1 1088 72 = 1 := by rw [t19.2.2.1 72 (by decide)]; exact u18
  have b19 : m19.1 1139 = mm.1 1139 := by rw [t19.2.1 1139 (by decide) (by decide)]; exact b18
  obtain ⟨m20, e20, t20⟩ := carry1_f (p := 1900 * k + 142) (a := 1129) (n := 1540) (by decide) (by decide) (by decide) t19.2.2.2 u19 (by omega)
  have u20 : m20.1 1088 72 = 1 := by rw [t20.2.2.1 72 (by decide)]; exact u19
  have b20 : m20.1 1139 = mm.1 1139 := by rw [t20.2.1 1139 (by decide) (by decide)]; exact b19
  refine ⟨m20, ?_, fun j hj => ?_, fun i i1 i2 i3 i4 => by rw [t20.2.1 i i1 (by omega), t19.2.1 i i1 (by omega), t18.2.1 i i1 (by omega), t17.2.1 i i1 (by omega), t16.2.1 i i1 (by omega), t15.2.1 i i1 (by omega), t14.2.1 i i1 (by omega), t13.2.1 i i1 (by omega), t12.2.1 i i1 (by omega), t11.2.1 i i1 (by omega), t10.2.1 i i1 (by omega), t9.2.1 i i1 (by omega), t8.2.1 i i1 (by omega), t7.2.1 i i1 (by omega), t6.2.1 i i1 (by omega), t5.2.1 i i1 (by omega), t4.2.1 i i1 (by omega), t3.2.1 i i1 (by omega), t2.2.1 i i1 (by omega), a1 i i1 i4], fun j j0 j1 j2 => by rw [t20.2.2.1 j j1, t19.2.2.1 j j1, t18.2.2.1 j j1, t17.2.2.1 j j1, t16.2.2.1 j j1, t15.2.2.1 j j1, t14.2.2.1 j j1, t13.2.2.1 j j1, t12.2.2.1 j j1, t11.2.2.1 j j1, t10.2.2.1 j j1, t9.2.2.1 j j1, t8.2.2.1 j j1, t7.2.2.1 j j1, t6.2.2.1 j j1, t5.2.2.1 j j1, t4.2.2.1 j j1, t3.2.2.1 j j1, t2.2.2.1 j j1, aj j j0 j1 j2]⟩
  · unfold f_X12_carriesAll
    rw [show (1900 : Int32) * nI k = nI (1900 * k) from pk_mul 1900 k, vl_s, if_neg (by decide), vl_s, vl_s, show (wI (wI mm 1088 71 (nI (1900 * k))) 1088 72 1).1 1088 55 = mm.1 1088 55 by rw [wI_pl (by decide), wI_pl (by decide)], ← hm0, e1, bi1_s, vl_s, ← hm1, e2, bi1_s, e3, bi1_s, e4, bi1_s, e5, bi1_s, e6, bi1_s, e7, bi1_s, e8, bi1_s, e9, bi1_s, e10, bi1_s, e11, bi1_s, e12, bi1_s, e13, bi1_s, e14, bi1_s, e15, bi1_s, e16, bi1_s, e17, bi1_s, e18, bi1_s, e19, bi1_s, e20, bi1_s]
  · have key : ∀ l, l < lnF j → fS m20 j l = fI mm k j l := by
      have hcase : j = 0 ∨ j = 1 ∨ j = 2 ∨ j = 3 ∨ j = 4 ∨ j = 5 ∨ j = 6 ∨ j = 7 ∨ j = 8 ∨ j = 9 ∨ j = 10 ∨ j = 11 ∨ j = 12 ∨ j = 13 ∨ j = 14 ∨ j = 15 ∨ j = 16 ∨ j = 17 ∨ j = 18 ∨ j = 19 := by omega
      rcases hcase with rfl | rfl | rfl | rfl | rfl | rfl | rfl | rfl | rfl | rfl | rfl | rfl | rfl | rfl | rfl | rfl | rfl | rfl | rfl | rfl
      · intro l hl
        have hl : l < 1 := hl
        show m20.1 1088 55 = mm.1 1139 (1900 * k + 0 + l)
        rw [t20.2.2.1 55 (by decide), t19.2.2.1 55 (by decide), t18.2.2.1 55 (by decide), t17.2.2.1 55 (by decide), t16.2.2.1 55 (by decide), t15.2.2.1 55 (by decide), t14.2.2.1 55 (by decide), t13.2.2.1 55 (by decide), t12.2.2.1 55 (by decide), t11.2.2.1 55 (by decide), t10.2.2.1 55 (by decide), t9.2.2.1 55 (by decide), t8.2.2.1 55 (by decide), t7.2.2.1 55 (by decide), t6.2.2.1 55 (by decide), t5.2.2.1 55 (by decide), t4.2.2.1 55 (by decide), t3.2.2.1 55 (by decide), t2.2.2.1 55 (by decide), a55, show l = 0 by omega]
        rfl
      · intro l hl
        have hl : l < 9 := hl
        show m20.1 1089 l = mm.1 1139 (1900 * k + 1 + l)
        rw [t20.2.1 _ (by decide) (by decide), t19.2.1 _ (by decide) (by decide), t18.2.1 _ (by decide) (by decide), t17.2.1 _ (by decide) (by decide), t16.2.1 _ (by decide) (by decide), t15.2.1 _ (by decide) (by decide), t14.2.1 _ (by decide) (by decide), t13.2.1 _ (by decide) (by decide), t12.2.1 _ (by decide) (by decide), t11.2.1 _ (by decide) (by decide), t10.2.1 _ (by decide) (by decide), t9.2.1 _ (by decide) (by decide), t8.2.1 _ (by decide) (by decide), t7.2.1 _ (by decide) (by decide), t6.2.1 _ (by decide) (by decide), t5.2.1 _ (by decide) (by decide), t4.2.1 _ (by decide) (by decide), t3.2.1 _ (by decide) (by decide), t2.1 l hl, b1]
      · intro l hl
        have hl : l < 6 := hl
        show m20.1 1090 l = mm.1 1139 (1900 * k + 10 + l)
        rw [t20.2.1 _ (by decide) (by decide), t19.2.1 _ (by decide) (by decide), t18.2.1 _ (by decide) (by decide), t17.2.1 _ (by decide) (by decide), t16.2.1 _ (by decide) (by decide), t15.2.1 _ (by decide) (by decide), t14.2.1 _ (by decide) (by decide), t13.2.1 _ (by decide) (by decide), t12.2.1 _ (by decide) (by decide), t11.2.1 _ (by decide) (by decide), t10.2.1 _ (by decide) (by decide), t9.2.1 _ (by decide) (by decide), t8.2.1 _ (by decide) (by decide), t7.2.1 _ (by decide) (by decide), t6.2.1 _ (by decide) (by decide), t5.2.1 _ (by decide) (by decide), t4.2.1 _ (by decide) (by decide), t3.1 l hl, b2]
      · intro l hl
        have hl : l < 6 := hl
        show m20.1 1091 l = mm.1 1139 (1900 * k + 16 + l)
        rw [t20.2.1 _ (by decide) (by decide), t19.2.1 _ (by decide) (by decide), t18.2.1 _ (by decide) (by decide), t17.2.1 _ (by decide) (by decide), t16.2.1 _ (by decide) (by decide), t15.2.1 _ (by decide) (by decide), t14.2.1 _ (by decide) (by decide), t13.2.1 _ (by decide) (by decide), t12.2.1 _ (by decide) (by decide), t11.2.1 _ (by decide) (by decide), t10.2.1 _ (by decide) (by decide), t9.2.1 _ (by decide) (by decide), t8.2.1 _ (by decide) (by decide), t7.2.1 _ (by decide) (by decide), t6.2.1 _ (by decide) (by decide), t5.2.1 _ (by decide) (by decide), t4.1 l hl, b3]
      · intro l hl
        have hl : l < 6 := hl
        show m20.1 1092 l = mm.1 1139 (1900 * k + 22 + l)
        rw [t20.2.1 _ (by decide) (by decide), t19.2.1 _ (by decide) (by decide), t18.2.1 _ (by decide) (by decide), t17.2.1 _ (by decide) (by decide), t16.2.1 _ (by decide) (by decide), t15.2.1 _ (by decide) (by decide), t14.2.1 _ (by decide) (by decide), t13.2.1 _ (by decide) (by decide), t12.2.1 _ (by decide) (by decide), t11.2.1 _ (by decide) (by decide), t10.2.1 _ (by decide) (by decide), t9.2.1 _ (by decide) (by decide), t8.2.1 _ (by decide) (by decide), t7.2.1 _ (by decide) (by decide), t6.2.1 _ (by decide) (by decide), t5.1 l hl, b4]
      · intro l hl
        have hl : l < 8 := hl
        show m20.1 1093 l = mm.1 1139 (1900 * k + 28 + l)
        rw [t20.2.1 _ (by decide) (by decide), t19.2.1 _ (by decide) (by decide), t18.2.1 _ (by decide) (by decide), t17.2.1 _ (by decide) (by decide), t16.2.1 _ (by decide) (by decide), t15.2.1 _ (by decide) (by decide), t14.2.1 _ (by decide) (by decide), t13.2.1 _ (by decide) (by decide), t12.2.1 _ (by decide) (by decide), t11.2.1 _ (by decide) (by decide), t10.2.1 _ (by decide) (by decide), t9.2.1 _ (by decide) (by decide), t8.2.1 _ (by decide) (by decide), t7.2.1 _ (by decide) (by decide), t6.1 l hl, b5]
      · intro l hl
        have hl : l < 8 := hl
        show m20.1 1094 l = mm.1 1139 (1900 * k + 36 + l)
        rw [t20.2.1 _ (by decide) (by decide), t19.2.1 _ (by decide) (by decide), t18.2.1 _ (by decide) (by decide), t17.2.1 _ (by decide) (by decide), t16.2.1 _ (by decide) (by decide), t15.2.1 _ (by decide) (by decide), t14.2.1 _ (by decide) (by decide), t13.2.1 _ (by decide) (by decide), t12.2.1 _ (by decide) (by decide), t11.2.1 _ (by decide) (by decide), t10.2.1 _ (by decide) (by decide), t9.2.1 _ (by decide) (by decide), t8.2.1 _ (by decide) (by decide), t7.1 l hl, b6]
      · intro l hl
        have hl : l < 8 := hl
        show m20.1 1095 l = mm.1 1139 (1900 * k + 44 + l)
        rw [t20.2.1 _ (by decide) (by decide), t19.2.1 _ (by decide) (by decide), t18.2.1 _ (by decide) (by decide), t17.2.1 _ (by decide) (by decide), t16.2.1 _ (by decide) (by decide), t15.2.1 _ (by decide) (by decide), t14.2.1 _ (by decide) (by decide), t13.2.1 _ (by decide) (by decide), t12.2.1 _ (by decide) (by decide), t11.2.1 _ (by decide) (by decide), t10.2.1 _ (by decide) (by decide), t9.2.1 _ (by decide) (by decide), t8.1 l hl, b7]
      · intro l hl
        have hl : l < 8 := hl
        show m20.1 1096 l = mm.1 1139 (1900 * k + 52 + l)
        rw [t20.2.1 _ (by decide) (by decide), t19.2.1 _ (by decide) (by decide), t18.2.1 _ (by decide) (by decide), t17.2.1 _ (by decide) (by decide), t16.2.1 _ (by decide) (by decide), t15.2.1 _ (by decide) (by decide), t14.2.1 _ (by decide) (by decide), t13.2.1 _ (by decide) (by decide), t12.2.1 _ (by decide) (by decide), t11.2.1 _ (by decide) (by decide), t10.2.1 _ (by decide) (by decide), t9.1 l hl, b8]
      · intro l hl
        have hl : l < 8 := hl
        show m20.1 1097 l = mm.1 1139 (1900 * k + 60 + l)
        rw [t20.2.1 _ (by decide) (by decide), t19.2.1 _ (by decide) (by decide), t18.2.1 _ (by decide) (by decide), t17.2.1 _ (by decide) (by decide), t16.2.1 _ (by decide) (by decide), t15.2.1 _ (by decide) (by decide), t14.2.1 _ (by decide) (by decide), t13.2.1 _ (by decide) (by decide), t12.2.1 _ (by decide) (by decide), t11.2.1 _ (by decide) (by decide), t10.1 l hl, b9]
      · intro l hl
        have hl : l < 8 := hl
        show m20.1 1098 l = mm.1 1139 (1900 * k + 68 + l)
        rw [t20.2.1 _ (by decide) (by decide), t19.2.1 _ (by decide) (by decide), t18.2.1 _ (by decide) (by decide), t17.2.1 _ (by decide) (by decide), t16.2.1 _ (by decide) (by decide), t15.2.1 _ (by decide) (by decide), t14.2.1 _ (by decide) (by decide), t13.2.1 _ (by decide) (by decide), t12.2.1 _ (by decide) (by decide), t11.1 l hl, b10]
      · intro l hl
        have hl : l < 12 := hl
        show m20.1 1099 l = mm.1 1139 (1900 * k + 76 + l)
        rw [t20.2.1 _ (by decide) (by decide), t19.2.1 _ (by decide) (by decide), t18.2.1 _ (by decide) (by decide), t17.2.1 _ (by decide) (by decide), t16.2.1 _ (by decide) (by decide), t15.2.1 _ (by decide) (by decide), t14.2.1 _ (by decide) (by decide), t13.2.1 _ (by decide) (by decide), t12.1 l hl, b11]
      · intro l hl
        have hl : l < 12 := hl
        show m20.1 1100 l = mm.1 1139 (1900 * k + 88 + l)
        rw [t20.2.1 _ (by decide) (by decide), t19.2.1 _ (by decide) (by decide), t18.2.1 _ (by decide) (by decide), t17.2.1 _ (by decide) (by decide), t16.2.1 _ (by decide) (by decide), t15.2.1 _ (by decide) (by decide), t14.2.1 _ (by decide) (by decide), t13.1 l hl, b12]
      · intro l hl
        have hl : l < 12 := hl
        show m20.1 1101 l = mm.1 1139 (1900 * k + 100 + l)
        rw [t20.2.1 _ (by decide) (by decide), t19.2.1 _ (by decide) (by decide), t18.2.1 _ (by decide) (by decide), t17.2.1 _ (by decide) (by decide), t16.2.1 _ (by decide) (by decide), t15.2.1 _ (by decide) (by decide), t14.1 l hl, b13]
      · intro l hl
        have hl : l < 6 := hl
        show m20.1 1102 l = mm.1 1139 (1900 * k + 112 + l)
        rw [t20.2.1 _ (by decide) (by decide), t19.2.1 _ (by decide) (by decide), t18.2.1 _ (by decide) (by decide), t17.2.1 _ (by decide) (by decide), t16.2.1 _ (by decide) (by decide), t15.1 l hl, b14]
      · intro l hl
        have hl : l < 6 := hl
        show m20.1 1103 l = mm.1 1139 (1900 * k + 118 + l)
        rw [t20.2.1 _ (by decide) (by decide), t19.2.1 _ (by decide) (by decide), t18.2.1 _ (by decide) (by decide), t17.2.1 _ (by decide) (by decide), t16.1 l hl, b15]
      · intro l hl
        have hl : l < 6 := hl
        show m20.1 1104 l = mm.1 1139 (1900 * k + 124 + l)
        rw [t20.2.1 _ (by decide) (by decide), t19.2.1 _ (by decide) (by decide), t18.2.1 _ (by decide) (by decide), t17.1 l hl, b16]
      · intro l hl
        have hl : l < 6 := hl
        show m20.1 1105 l = mm.1 1139 (1900 * k + 130 + l)
        rw [t20.2.1 _ (by decide) (by decide), t19.2.1 _ (by decide) (by decide), t18.1 l hl, b17]
      · intro l hl
        have hl : l < 6 := hl
        show m20.1 1106 l = mm.1 1139 (1900 * k + 136 + l)
        rw [t20.2.1 _ (by decide) (by decide), t19.1 l hl, b18]
      · intro l hl
        have hl : l < 1540 := hl
        show m20.1 1129 l = mm.1 1139 (1900 * k + 142 + l)
        rw [t20.1 l hl, b19]
    exact key
