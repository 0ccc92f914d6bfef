/-! PHASE 2: river -/
theorem copies_f {mm : Mm} {a b n : Nat} (hn : n < 1000) (hab : ¬ a = b) : ∃ m1, f_X12_copies mm a n b n = some m1 ∧ (∀ i, ¬ i = b → m1.1 i = mm.1 i) ∧ ∀ j, j < n → m1.1 b j = mm.1 a j := by
  obtain ⟨m1, e, g1, g2⟩ := row_loop (st := f_X12_copies_s2 a n b n) (mm := mm) (fun i => i = b) (fun _ j => mm.1 a j) n (fun k m hk hm => by
    unfold f_X12_copies_s2
    dsimp only
    rw [show Int32.ofNat n = nI n from rfl, if_neg (by rw [sN_le (by omega) (by omega)]; omega), if_neg (gd_ok hk (by omega)), if_neg (gd_ok hk (by omega)), cl_ok (by omega), hm a k (fun z => hab z.1), vl_s, sN_a1]
    exact ⟨_, rfl, fun i j hj => by rw [wI_get, if_neg (fun z => hj z)], fun i hi => by rw [hi, wI_at]⟩) (fun m hm => by
    unfold f_X12_copies_s2
    dsimp only
    rw [show Int32.ofNat n = nI n from rfl, if_pos (by rw [sN_le (by omega) (by omega)]; omega)])
  refine ⟨m1, ?_, fun i hi => funext fun j => g1 i j (fun z => hi z.1), fun j hj => g2 b j rfl hj⟩
  unfold f_X12_copies
  rw [e, bi1_s]
theorem riverEnd_f {m1 : Mm} {X : Bv} (hX : bF m1 X) (hO : bO X) : ∃ F : Mm, (bi1 (lp (f_X12_river_s21) ((0 : Int32), m1)) fun mm_11 =>
        bi1 (f_X12_copies mm_11 1108 6 1090 6) fun mm_12 =>
          bi1 (f_X12_copies mm_12 1109 6 1091 6) fun mm_14 =>
            bi1 (f_X12_copies mm_14 1110 8 1093 8) fun mm_16 =>
              bi1 (f_X12_copies mm_16 1111 8 1094 8) fun mm_18 =>
                bi1 (f_X12_copies mm_18 1112 8 1095 8) fun mm_20 =>
                  bi1 (f_X12_copies mm_20 1113 8 1096 8) fun mm_22 =>
                    bi1 (f_X12_copies mm_22 1114 12 1099 12) fun mm_24 =>
                      bi1 (f_X12_copies mm_24 1115 12 1100 12) fun mm_26 =>
                        bi1 (f_X12_copies mm_26 1116 12 1101 12) fun mm_28 =>
                          bi1 (f_X12_copies mm_28 1117 6 1102 6) fun mm_30 =>
                            bi1 (f_X12_copies mm_30 1118 6 1103 6) fun mm_32 =>
                              bi1 (lp (f_X12_river_s178) ((0 : Int32), mm_32)) fun mm_38 =>
                                bi1 (lp (f_X12_river_s199) ((0 : Int32), mm_38)) fun mm_45 =>
                                  vlet (wI mm_45 1088 55 (0 : Int32)) fun mm_46 => some ((mm_46.1 1089 3), mm_46)) = some (nI (X.1 1 2), F) ∧ (∀ i, ¬ i = 1088 → ¬ (1089 ≤ i ∧ i < 1104) → F.1 i = m1.1 i) ∧ (∀ k, ¬ k = 55 → F.1 1088 k = m1.1 1088 k) ∧ ∀ P x, m1.1 1089 8 = x → StF (fS F) X.1 X.2 0 P (fun _ _ => 0) x := by
  obtain ⟨⟨ov, r3, r4, r5, r6⟩, oa, z0, z1, z4⟩ := hO
  have h6 := ov.2.1
  have h8 := ov.2.2.1
  have hL := oa.2.1
  have hx := row_loop (st := f_X12_river_s21) (mm := m1) (fun i => i = 1089) (fun _ k => if k < 6 then m1.1 1107 k else 0) 8 (fun k m hk hm => by
    unfold f_X12_river_s21 f_X12_river_j48
    dsimp only
    rw [if_neg (by rw [K8, sN_le (by omega) (by omega)]; omega), if_neg (gd_ok (show k < 9 by omega) (by decide)), if_neg (gd_ok (show k < 9 by omega) (by decide)), cl_ok (by omega), sN_a1, vl_s, vl_s]
    by_cases q : k < 6
    · rw [if_neg (by rw [K6, sN_le (by omega) (by omega)]; omega), if_neg (show ¬ (nI k < 0 ∨ 6 ≤ k) from fun z => z.elim (nI_nn _ (by omega)) (fun y => by omega)), hm 1107 k (fun z => absurd z.1 (by decide))]
      exact ⟨_, rfl, fun i j hj => by rw [wI_get, if_neg (fun z => hj z)], fun i hi => by rw [hi, wI_at, if_pos q]⟩
    · rw [if_pos (by rw [K6, sN_le (by omega) (by omega)]; omega)]
      exact ⟨_, rfl, fun i j hj => by rw [wI_get, if_neg (fun z => hj z)], fun i hi => by rw [hi, wI_at, if_neg q]⟩) (fun m hm => by
    unfold f_X12_river_s21
    dsimp only
    rw [if_pos (by decide)])
  obtain ⟨a0, e0, u0, w0⟩ := hx
  have U0 : ∀ i, ¬ i = 1089 → a0.1 i = m1.1 i := fun i hi => funext fun j => u0 i j (fun z => hi z.1)
  obtain ⟨a1, e1, u1, w1⟩ := copies_f (mm := a0) (a := 1108) (b := 1090) (n := 6) (by decide) (by decide)
  obtain ⟨a2, e2, u2, w2⟩ := copies_f (mm := a1) (a := 1109) (b := 1091) (n := 6) (by decide) (by decide)
  obtain ⟨a3, e3, u3, w3⟩ := copies_f (mm := a2) (a := 1110) (b := 1093) (n := 8) (by decide) (by decide)
  obtain ⟨a4, e4, u4, w4⟩ := copies_f (mm := a3) (a := 1111) (b := 1094) (n := 8) (by decide) (by decide)
  obtain ⟨a5, e5, u5, w5⟩ := copies_f (mm := a4) (a := 1112) (b := 1095) (n := 8) (by decide) (by decide)
  obtain ⟨a6, e6, u6, w6⟩ := copies_f (mm := a5) (a := 1113) (b := 1096) (n := 8) (by decide) (by decide)
  obtain ⟨a7, e7, u7, w7⟩ := copies_f (mm := a6) (a := 1114) (b := 1099) (n := 12) (by decide) (by decide)
  obtain ⟨a8, e8, u8, w8⟩ := copies_f (mm := a7) (a := 1115) (b := 1100) (n := 12) (by decide) (by decide)
  obtain ⟨a9, e9, u9, w9⟩ := copies_f (mm := a8) (a := 1116) (b := 1101) (n := 12) (by decide) (by decide)
  obtain ⟨aa, ea, ua, wa⟩ := copies_f (mm := a9) (a := 1117) (b := 1102) (n := 6) (by decide) (by decide)
  obtain ⟨ab, eb, ub, wb⟩ := copies_f (mm := aa) (a := 1118) (b := 1103) (n := 6) (by decide) (by decide)
  have hx := row_loop (st := f_X12_river_s178) (mm := ab) (fun i => i = 1092) (fun _ _ => 0) 6 (fun k m hk hm => by
    unfold f_X12_river_s178
    dsimp only
    rw [if_neg (by rw [K6, sN_le (by omega) (by omega)]; omega), if_neg (gd_ok hk (by decide)), cl_ok (by omega), vl_s, sN_a1]
    exact ⟨_, rfl, fun i j hj => by rw [wI_get, if_neg (fun z => hj z)], fun i hi => by rw [hi, wI_at]⟩) (fun m hm => by
    unfold f_X12_river_s178
    dsimp only
    rw [if_pos (by decide)])
  obtain ⟨ac, ec, uc, wc⟩ := hx
  have hx := row_loop (st := f_X12_river_s199) (mm := ac) (fun i => i = 1097 ∨ i = 1098) (fun i _ => if i = 1097 then 0 else -2) 8 (fun k m hk hm => by
    have hg : ¬ (nI k < 0 ∨ 8 ≤ k) := fun z => z.elim (nI_nn _ (by omega)) (fun y => by omega)
    unfold f_X12_river_s199
    dsimp only
    rw [if_neg (by rw [K8, sN_le (by omega) (by omega)]; omega), cl_ok (by omega), if_neg hg, vl_s, if_neg hg, vl_s, sN_a1]
    refine ⟨_, rfl, fun i j hj => ?_, fun i hi => ?_⟩
    · rw [wI_get, if_neg (fun z => hj ⟨Or.inr z.1, z.2⟩), wI_get, if_neg (fun z => hj ⟨Or.inl z.1, z.2⟩)]
    · rcases hi with rfl | rfl
      · rw [wI_ne (by decide), wI_at, if_pos rfl]
      · rw [wI_at, if_neg (by decide)]) (fun m hm => by
    unfold f_X12_river_s199
    dsimp only
    rw [if_pos (by decide)])
  obtain ⟨ad, ed, ud, wd⟩ := hx
  have UC : ∀ i, ¬ i = 1092 → ac.1 i = ab.1 i := fun i hi => funext fun j => uc i j (fun z => hi z.1)
  have UD : ∀ i, ¬ (i = 1097 ∨ i = 1098) → ad.1 i = ac.1 i := fun i hi => funext fun j => ud i j (fun z => hi z.1)
  obtain ⟨F, hF⟩ : ∃ F, F = wI ad 1088 55 0 := ⟨_, rfl⟩
  have F0 : ∀ i, ¬ i = 1088 → F.1 i = ad.1 i := fun i hi => by rw [hF, wI_ne hi]
  have c89 : ∀ k, k < 8 → F.1 1089 k = if k < 6 then m1.1 1107 k else 0 := fun k hk => by
    rw [F0 1089 (by decide), UD 1089 (by decide), UC 1089 (by decide), ub 1089 (by decide), ua 1089 (by decide), u9 1089 (by decide), u8 1089 (by decide), u7 1089 (by decide), u6 1089 (by decide), u5 1089 (by decide), u4 1089 (by decide), u3 1089 (by decide), u2 1089 (by decide), u1 1089 (by decide)]
    exact w0 1089 k rfl hk
  have c898 : F.1 1089 8 = m1.1 1089 8 := by
    rw [F0 1089 (by decide), UD 1089 (by decide), UC 1089 (by decide), ub 1089 (by decide), ua 1089 (by decide), u9 1089 (by decide), u8 1089 (by decide), u7 1089 (by decide), u6 1089 (by decide), u5 1089 (by decide), u4 1089 (by decide), u3 1089 (by decide), u2 1089 (by decide), u1 1089 (by decide)]
    exact u0 1089 8 (fun z => absurd z.2 (by decide))
  have fr : ∀ i, ¬ i = 1088 → ¬ (1089 ≤ i ∧ i < 1104) → F.1 i = m1.1 i := fun i i1 i2 => by
    rw [F0 i i1, UD i (by omega), UC i (by omega), ub i (by omega), ua i (by omega), u9 i (by omega), u8 i (by omega), u7 i (by omega), u6 i (by omega), u5 i (by omega), u4 i (by omega), u3 i (by omega), u2 i (by omega), u1 i (by omega), U0 i (by omega)]
  have fr8 : ∀ k, ¬ k = 55 → F.1 1088 k = m1.1 1088 k := fun k hk => by
    rw [hF, wI_pl hk, UD 1088 (by decide), UC 1088 (by decide), ub 1088 (by decide), ua 1088 (by decide), u9 1088 (by decide), u8 1088 (by decide), u7 1088 (by decide), u6 1088 (by decide), u5 1088 (by decide), u4 1088 (by decide), u3 1088 (by decide), u2 1088 (by decide), u1 1088 (by decide), U0 1088 (by decide)]
  obtain ⟨x1, x2, x3, x4, x5⟩ := hX
  refine ⟨F, ?_, fr, fr8, fun P x hx8 => ?_⟩
  · rw [e0, bi1_s, e1, bi1_s, e2, bi1_s, e3, bi1_s, e4, bi1_s, e5, bi1_s, e6, bi1_s, e7, bi1_s, e8, bi1_s, e9, bi1_s, ea, bi1_s, eb, bi1_s, ec, bi1_s, ed, bi1_s, vl_s, ← hF, c89 3 (by decide), if_pos (by decide), x1.2.2.2.1]
  · have c90 : ∀ o, o < X.1 1 1 → F.1 1090 o = nI (X.1 2 o) := fun o ho => by
      rw [F0 1090 (by decide), UD 1090 (by decide), UC 1090 (by decide), ub 1090 (by decide), ua 1090 (by decide), u9 1090 (by decide), u8 1090 (by decide), u7 1090 (by decide), u6 1090 (by decide), u5 1090 (by decide), u4 1090 (by decide), u3 1090 (by decide), u2 1090 (by decide), w1 o (by omega), U0 1108 (by decide)]
      exact (x3 o ho).1
    have c91 : ∀ o, o < X.1 1 1 → F.1 1091 o = nI (X.1 3 o) := fun o ho => by
      rw [F0 1091 (by decide), UD 1091 (by decide), UC 1091 (by decide), ub 1091 (by decide), ua 1091 (by decide), u9 1091 (by decide), u8 1091 (by decide), u7 1091 (by decide), u6 1091 (by decide), u5 1091 (by decide), u4 1091 (by decide), u3 1091 (by decide), w2 o (by omega), u1 1109 (by decide), U0 1109 (by decide)]
      exact (x3 o ho).2
    have c92 : ∀ o, o < 6 → F.1 1092 o = 0 := fun o ho => by
      rw [F0 1092 (by decide), UD 1092 (by decide)]
      exact wc 1092 o rfl ho
    have c93 : ∀ u, u < X.1 1 2 → F.1 1093 u = nI (X.2.1 2 u) := fun u hu => by
      rw [F0 1093 (by decide), UD 1093 (by decide), UC 1093 (by decide), ub 1093 (by decide), ua 1093 (by decide), u9 1093 (by decide), u8 1093 (by decide), u7 1093 (by decide), u6 1093 (by decide), u5 1093 (by decide), u4 1093 (by decide), w3 u (by omega), u2 1110 (by decide), u1 1110 (by decide), U0 1110 (by decide)]
      exact (x4 u hu).1
    have c94 : ∀ u, u < X.1 1 2 → F.1 1094 u = nI (X.1 4 u) := fun u hu => by
      rw [F0 1094 (by decide), UD 1094 (by decide), UC 1094 (by decide), ub 1094 (by decide), ua 1094 (by decide), u9 1094 (by decide), u8 1094 (by decide), u7 1094 (by decide), u6 1094 (by decide), u5 1094 (by decide), w4 u (by omega), u3 1111 (by decide), u2 1111 (by decide), u1 1111 (by decide), U0 1111 (by decide)]
      exact (x4 u hu).2.1
    have c95 : ∀ u, u < X.1 1 2 → F.1 1095 u = nI (X.2.1 3 u) := fun u hu => by
      rw [F0 1095 (by decide), UD 1095 (by decide), UC 1095 (by decide), ub 1095 (by decide), ua 1095 (by decide), u9 1095 (by decide), u8 1095 (by decide), u7 1095 (by decide), u6 1095 (by decide), w5 u (by omega), u4 1112 (by decide), u3 1112 (by decide), u2 1112 (by decide), u1 1112 (by decide), U0 1112 (by decide)]
      exact (x4 u hu).2.2.1
    have c96 : ∀ u, u < X.1 1 2 → F.1 1096 u = nI (X.1 5 u) := fun u hu => by
      rw [F0 1096 (by decide), UD 1096 (by decide), UC 1096 (by decide), ub 1096 (by decide), ua 1096 (by decide), u9 1096 (by decide), u8 1096 (by decide), u7 1096 (by decide), w6 u (by omega), u5 1113 (by decide), u4 1113 (by decide), u3 1113 (by decide), u2 1113 (by decide), u1 1113 (by decide), U0 1113 (by decide)]
      exact (x4 u hu).2.2.2
    have c97 : ∀ u, u < 8 → F.1 1097 u = 0 := fun u hu => by
      rw [F0 1097 (by decide), wd 1097 u (Or.inl rfl) hu, if_pos rfl]
    have c98 : ∀ u, u < 8 → F.1 1098 u = -2 := fun u hu => by
      rw [F0 1098 (by decide), wd 1098 u (Or.inr rfl) hu, if_neg (by decide)]
    have c99 : ∀ k, k < 12 → F.1 1099 k = m1.1 1114 k := fun k hk => by
      rw [F0 1099 (by decide), UD 1099 (by decide), UC 1099 (by decide), ub 1099 (by decide), ua 1099 (by decide), u9 1099 (by decide), u8 1099 (by decide), w7 k hk, u6 1114 (by decide), u5 1114 (by decide), u4 1114 (by decide), u3 1114 (by decide), u2 1114 (by decide), u1 1114 (by decide), U0 1114 (by decide)]
    have c00 : ∀ k, k < 12 → F.1 1100 k = m1.1 1115 k := fun k hk => by
      rw [F0 1100 (by decide), UD 1100 (by decide), UC 1100 (by decide), ub 1100 (by decide), ua 1100 (by decide), u9 1100 (by decide), w8 k hk, u7 1115 (by decide), u6 1115 (by decide), u5 1115 (by decide), u4 1115 (by decide), u3 1115 (by decide), u2 1115 (by decide), u1 1115 (by decide), U0 1115 (by decide)]
    have c01 : ∀ k, k < 12 → F.1 1101 k = m1.1 1116 k := fun k hk => by
      rw [F0 1101 (by decide), UD 1101 (by decide), UC 1101 (by decide), ub 1101 (by decide), ua 1101 (by decide), w9 k hk, u8 1116 (by decide), u7 1116 (by decide), u6 1116 (by decide), u5 1116 (by decide), u4 1116 (by decide), u3 1116 (by decide), u2 1116 (by decide), u1 1116 (by decide), U0 1116 (by decide)]
    have c02 : ∀ k, k < X.1 1 3 → F.1 1102 k = nI (X.1 7 k) := fun k hk => by
      rw [F0 1102 (by decide), UD 1102 (by decide), UC 1102 (by decide), ub 1102 (by decide), wa k (by omega), u9 1117 (by decide), u8 1117 (by decide), u7 1117 (by decide), u6 1117 (by decide), u5 1117 (by decide), u4 1117 (by decide), u3 1117 (by decide), u2 1117 (by decide), u1 1117 (by decide), U0 1117 (by decide)]
      exact (x5 k hk).1
    have c03 : ∀ k, k < X.1 1 3 → F.1 1103 k = nI (X.1 8 k) := fun k hk => by
      rw [F0 1103 (by decide), UD 1103 (by decide), UC 1103 (by decide), wb k (by omega), ua 1118 (by decide), u9 1118 (by decide), u8 1118 (by decide), u7 1118 (by decide), u6 1118 (by decide), u5 1118 (by decide), u4 1118 (by decide), u3 1118 (by decide), u2 1118 (by decide), u1 1118 (by decide), U0 1118 (by decide)]
      exact (x5 k hk).2
    refine ⟨⟨⟨?_, ?_, ?_, ?_⟩, fun o ho => ⟨c90 o ho, c91 o ho⟩, fun u hu => ⟨c94 u hu, c96 u hu⟩, fun k hk => ⟨c02 k hk, c03 k hk⟩⟩, ⟨?_, fun k hk => absurd hk (Nat.not_lt_zero _)⟩, ?_, ?_, ⟨⟨?_, ?_, ⟨?_, fun k hk => ?_⟩, fun o ho => ?_, fun u hu => ?_⟩, fun u hu => ?_⟩, fun a ha => absurd ha (Nat.not_lt_zero _)⟩
    · exact (c89 0 (by decide)).trans x1.1
    · exact (c89 2 (by decide)).trans x1.2.2.1
    · exact (c89 3 (by decide)).trans x1.2.2.2.1
    · exact (c89 5 (by decide)).trans x1.2.2.2.2
    · exact c89 7 (by decide)
    · show F.1 1088 55 = nI 0
      rw [hF, wI_at]
      rfl
    · exact c898.trans hx8
    · show F.1 1089 6 = nI (X.2.1 0 1)
      rw [z0 1]
      exact c89 6 (by decide)
    · exact (c89 1 (by decide)).trans x1.2.1
    · exact (c89 4 (by decide)).trans x2.1
    · have := x2.2 k hk
      exact ⟨(c99 k (by omega)).trans this.1, (c00 k (by omega)).trans this.2.1, (c01 k (by omega)).trans this.2.2⟩
    · show F.1 1092 o = nI (X.2.1 1 o)
      rw [z1 o]
      exact c92 o (by omega)
    · refine ⟨c93 u hu, c95 u hu, ?_⟩
      show F.1 1097 u = nI (X.2.1 4 u)
      rw [z4 u]
      exact c97 u (by omega)
    · show F.1 1098 u = if X.2.1 4 u = 2 then nI (X.2.1 5 u) else -2
      rw [z4 u, if_neg (by decide)]
      exact c98 u (by omega)
