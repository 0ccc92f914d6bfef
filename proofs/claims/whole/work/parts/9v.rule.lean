/-! PHASE 2: rule, the class's facts and tests -/
theorem one_c {m : Mm} {i b p : Nat} {E : Es} (ha : atC m i) (hb : m.1 1 3 = nI b) (hE : eC m E p) (hp : p ≤ 60) (hl : E.length ≤ 400) : kC m (f_X8_isOnePartMore m (m.1 1 3)) (onePart b (i, E, p)) := by
  have G : ∀ (X : Option (Int32 × Mm)) (y : Int32 × Mm), bi2 X (fun r m1 => if ¬ r = 0 ∧ ¬ r = 1 then none else some (r, m1)) = some y → X = some y := fun X y h => by
    cases X with
    | none => exact absurd h (by intro z; cases z)
    | some a =>
      obtain ⟨r, m1⟩ := a
      rw [bi2_s] at h
      by_cases c : ¬ r = 0 ∧ ¬ r = 1
      · rw [if_pos c] at h
        exact absurd h (by intro z; cases z)
      · rw [if_neg c] at h
        exact h
  obtain ⟨m1, g1, ⟨f, g2, g3, g4⟩ | ⟨y, g2, g3, g4⟩⟩ := part_c ha hb hE hp hl
  · exact ⟨m1, g1, Or.inl ⟨f, g2, G _ _ g3, g4⟩⟩
  · exact ⟨m1, g1, Or.inr ⟨y, g2, G _ _ g3, g4⟩⟩
noncomputable def cmpC (mm_30 : Mm) : Option (Int32 × Mm) :=
  bi2 (f_X8_readSum mm_30) fun r_36 mm_34 =>
    if r_36 = 0 then
      some ((0 : Int32), mm_34)
    else
      bi2 (f_X8_acceptComparing mm_34) fun r_40 mm_38 =>
        if r_40 = (-1 : Int32) then
          bi2 (f_X10_wrong mm_38 (mm_38.1 1 2) (0 : Int32)) fun r_54 mm_52 =>
            if ¬ r_54 = 0 ∧ ¬ r_54 = 1 then none else some (r_54, mm_52)
        else
          bi2 (f_X8_isOnePartMore mm_38 (mm_38.1 1 3)) fun r_44 mm_42 =>
            if r_44 = 0 then
              some ((0 : Int32), mm_42)
            else
              bi2 (f_X8_readSum mm_42) fun r_48 mm_46 =>
                if r_48 = 0 then
                  some ((0 : Int32), mm_46)
                else
                  bi1 (f_X7_add mm_46 20 r_40 (0 : Int32)) fun mm_50 => some ((1 : Int32), mm_50)
theorem cmpd_c {n : Nat} {t : Nat → Nat} (ok : TxOk n t) {m : Mm} {x : Ps} (hz : cOk n t m x) : kC m (cmpC m) (cmpd n t x) := by
  have h400 := ok.1
  unfold cmpC cmpd
  rcases kC_ok hz (smv_c ok hz) (fun y hy => smv_sg hz.2.2.1 hy) (by decide) with ⟨f, m3, v1, v2, v3, v4, v5⟩ | ⟨y, m3, v1, v2, v3, v4, v5⟩
  · rw [v2, bi2_s, if_pos rfl, v1]
    exact ⟨m3, v3, Or.inl ⟨f, rfl, rfl, v4, v5⟩⟩
  rw [v2, bi2_s, if_neg (show ¬ (1 : Int32) = 0 by decide), v1]
  refine kC.tr v3 ?_
  have v4' := v4
  obtain ⟨r1, r2, r3, r4, r5, r6⟩ := v4'
  obtain ⟨b, hb⟩ : ∃ b, bl n t y.1 = b := ⟨_, rfl⟩
  show kC m3 _ (if (cpAt n t (bl n t y.1)).1 = 0 then .inl (1 + 8 * bl n t y.1) else sbd (onePart (bl n t y.1) (bl n t y.1 + (cpAt n t (bl n t y.1)).2, y.2.1, y.2.2)) fun z => sbd (smv n t z) fun w => .inr (apE w [((cpAt n t (bl n t y.1)).1, 0)]))
  rw [hb]
  obtain ⟨m4, f4, ⟨o, e, a⟩ | ⟨o, e, a, a3⟩⟩ := cpr_c r1 ok r2 (by omega) hb
  · rw [e, bi2_s, if_pos rfl, if_pos o, show m4.1 1 2 = nI b from a, show f_X10_wrong m4 (nI b) 0 = _ from wrong_c m4 b 0, bi2_s, if_neg (fun z => z.1 rfl)]
    exact ⟨_, f4.k.tr (frT_w _ (by decide)).k, Or.inl ⟨_, rfl, rfl, wI_at _ _ _ _, y.2.1.length, by omega, (eC_T (f4.tr (frT_w _ (by decide))) r4).1⟩⟩
  · obtain ⟨c1, c2, c3, c4, c5, c6⟩ := cpAt_ok o
    obtain ⟨s, hs⟩ : ∃ s, (cpAt n t b).1 = s := ⟨_, rfl⟩
    rw [hs] at c2 c3 o e ⊢
    have kk : ¬ kOf (nI s) = -1 := by
      rcases (show s = 4 ∨ s = 5 ∨ s = 6 ∨ s = 7 ∨ s = 8 by omega) with q | q | q | q | q <;> rw [q] <;> decide
    rw [e, bi2_s, if_neg kk, if_neg o]
    refine kC.tr f4.k ?_
    obtain ⟨m5, g1, ⟨f, g2, g3, g4, g5⟩ | ⟨z, g2, g3, g4, g5⟩⟩ := one_c a a3 (eC_T f4 r4) r5 (by omega)
    · rw [g3, bi2_s, if_pos rfl, g2]
      exact ⟨m5, g1, Or.inl ⟨f, rfl, rfl, g4, g5⟩⟩
    · rw [g3, bi2_s, if_neg (show ¬ (1 : Int32) = 0 by decide), g2]
      obtain ⟨q1, q2⟩ := onePart_r g2
      have q1 : y.2.2 < 60 := q1
      have q2 : z = (b + (cpAt n t b).2, y.2.1, y.2.2 + 1) := q2
      refine kC.tr g1 ?_
      have hz5 : cOk n t m5 z := by
        rw [q2] at g4 g5 ⊢
        exact ⟨g1.tx (f4.tx r1), g4, c6, g5, by show y.2.2 + 1 ≤ 60; omega, by show 3 * y.2.1.length ≤ 14 * (y.2.2 + 1); omega⟩
      show kC m5 _ (sbd (smv n t z) fun w => .inr (apE w [(s, 0)]))
      rcases kC_ok hz5 (smv_c ok hz5) (fun y hy => smv_sg hz5.2.2.1 hy) (by decide) with ⟨f, m6, v1, v2, v3, v4, v5⟩ | ⟨w, m6, v1, v2, v3, v4, v5⟩
      · rw [v2, bi2_s, if_pos rfl, v1]
        exact ⟨m6, v3, Or.inl ⟨f, rfl, rfl, v4, v5⟩⟩
      · obtain ⟨r1, r2, r3, r4, r5, r6⟩ := v4
        obtain ⟨m7, g1, g2, g3, g4⟩ := add_c r4 (by omega) (s := s) (v := 0) rfl
        rw [v2, bi2_s, if_neg (show ¬ (1 : Int32) = 0 by decide), show f_X7_add m6 20 (kOf (nI s)) 0 = some m7 from g1, bi1_s, v1]
        have fk : frK m6 m7 := ⟨fun i hi => g2 i (by omega), by rw [g2 1 (by decide)], g3⟩
        exact ⟨m7, v3.tr fk, Or.inr ⟨_, rfl, rfl, by unfold atC; rw [g2 1 (by decide)]; exact r2, g4⟩⟩
def tcI : Es → Int32
  | [] => 0
  | _ :: _ => 1
noncomputable def tesK (recF : Mm → Int32 → Option (Int32 × Mm)) : ((Int32 × Mm) ⊕ ((Mm) ⊕ (Int32 × Mm))) → Option (Int32 × Mm) := fun q => match q with
  | .inl (w1, m1) => f_X8_readTest_j107 recF m1 w1
  | .inr (.inl m1) => some (0, m1)
  | .inr (.inr (w1, m1)) => f_X8_readTest_j107 recF m1 w1
theorem j107_c {recF : Mm → Int32 → Option (Int32 × Mm)} {m : Mm} {i p : Nat} {E P : Es} (hP : P = [] ∨ P = [(11, 0)]) (ha : atC m i) (hE : eC m E p) (hl : E.length < 300) : kC m (f_X8_readTest_j107 recF m (tcI P)) (.inr (i, E ++ P, p)) := by
  unfold f_X8_readTest_j107
  rcases hP with q | q
  · rw [q, List.append_nil, if_pos (show tcI [] = 0 from rfl)]
    exact ⟨m, frK.rf m, Or.inr ⟨_, rfl, rfl, ha, hE⟩⟩
  · obtain ⟨m2, g1, g2, g3, g4⟩ := add_c hE hl (s := 11) (v := 0) (x := 14) (by decide)
    rw [q, if_neg (by decide), show f_X7_add m 20 14 0 = some m2 from g1, bi1_s]
    exact ⟨m2, ⟨fun i hi => g2 i (by omega), by rw [g2 1 (by decide)], g3⟩, Or.inr ⟨_, rfl, rfl, by unfold atC; rw [g2 1 (by decide)]; exact ha, g4⟩⟩
theorem tloop_c {n : Nat} {t : Nat → Nat} (ok : TxOk n t) {F : Ps → Nat ⊕ Ps} {recF : Mm → Int32 → Option (Int32 × Mm)} {y1 : Int32} {c : Int} (hc3 : 3 ≤ c) (hF : ∀ x y, x.1 ≤ n → F x = .inr y → rdg n c x y) (hR : ∀ m x, cOk n t m x → kC m (recF m y1) (F x)) : ∀ (g : Nat), g ≤ 400 → ∀ (P : Es) (x : Ps) (m : Mm), (P = [] ∨ P = [(11, 0)]) → cOk n t m x → 3 * (x.2.1.length + P.length) ≤ 14 * x.2.2 → kC m (bi1 (lp (f_X8_readTest_s14 recF y1) (tcI P, nI (400 - g), m)) (tesK recF)) (tloop n t F g P x)
  | 0, hg, P, x, m, hP, hx, hc => by
    obtain ⟨h1, h2, h3, h4, h5, h6⟩ := hx
    have hs : f_X8_readTest_s14 recF y1 (tcI P, nI (400 - 0), m) = some (.inr (.inr (.inr (tcI P, m)))) := by
      unfold f_X8_readTest_s14
      exact if_pos (by decide)
    rw [lp_end hs, bi1_s]
    exact j107_c (recF := recF) hP h2 h4 (by omega)
  | g + 1, hg, P, x, m, hP, hx, hc => by
    have h400 := ok.1
    obtain ⟨h1, h2, h3, h4, h5, h6⟩ := hx
    obtain ⟨b, hb⟩ : ∃ b, bl n t x.1 = b := ⟨_, rfl⟩
    have hbn : b ≤ n := by rw [← hb]; exact bl_le t h3
    have hid : bl n t b = b := by rw [← hb, bl_id]
    have hl := (lte_ok n t b).2.1 hbn
    have hcn : ¬ (400 : Int32) ≤ nI (400 - (g + 1)) := by
      rw [show (400 : Int32) = nI 400 from rfl, sN_le (by decide) (by omega)]
      omega
    have hc1 : nI (400 - (g + 1)) + 1 = nI (400 - g) := by
      rw [sN_a1, show 400 - (g + 1) + 1 = 400 - g by omega]
    unfold tloop
    rw [hb]
    obtain ⟨m1, f1, ⟨w5, e5, a5, _⟩ | ⟨w5, e5, a5⟩⟩ := acW_c h1 ok h2 (by omega) (k := 5) (by decide) (by decide) (by decide) hb
    · have hs1 : f_X8_readTest_s14 recF y1 (tcI P, nI (400 - (g + 1)), m) = f_X8_readTest_j71 recF m1 y1 (tcI P) (nI (400 - (g + 1))) 1 := by
        unfold f_X8_readTest_s14
        show (if (400 : Int32) ≤ nI (400 - (g + 1)) then _ else _) = _
        rw [if_neg hcn, e5, bi2_s, if_neg (show ¬ (1 : Int32) = 0 by decide)]
        unfold f_X8_readTest_j52
        rw [if_neg (show ¬ (1 : Int32) = 0 by decide)]
      rw [if_pos w5]
      have dl : lte n t b = b + 3 := ws_lte w5
      refine kC.tr f1.k ?_
      have hz : cOk n t m1 (b + 3, x.2.1, x.2.2) := ⟨f1.tx h1, a5, by show b + 3 ≤ n; omega, eC_T f1 h4, h5, h6⟩
      rcases kC_ok hz (hR m1 _ hz) (fun y hy => hF _ y hz.2.2.1 hy) (by omega) with ⟨f, m3, v1, v2, v3, v4, v5⟩ | ⟨y, m3, v1, v2, v3, v4, v5⟩
      · have hs : f_X8_readTest_s14 recF y1 (tcI P, nI (400 - (g + 1)), m) = some (.inr (.inr (.inl m3))) := by
          rw [hs1]
          unfold f_X8_readTest_j71
          rw [v2, bi2_s, if_pos rfl]
        rw [lp_end hs, bi1_s, v1]
        exact ⟨m3, v3, Or.inl ⟨f, rfl, rfl, v4, v5⟩⟩
      · obtain ⟨r1, r2, r3, r4, r5, r6⟩ := v4
        obtain ⟨m4, g1, g2, g3, g4⟩ := add_c r4 (by omega) (s := 10) (v := 0) (x := 13) (by decide)
        have hs : f_X8_readTest_s14 recF y1 (tcI P, nI (400 - (g + 1)), m) = some (.inl (tcI P, nI (400 - g), m4)) := by
          rw [hs1]
          unfold f_X8_readTest_j71
          rw [v2, bi2_s, if_neg (show ¬ (1 : Int32) = 0 by decide), if_neg (show ¬ (1 : Int32) = 0 by decide), show f_X7_add m3 20 13 0 = some m4 from g1, bi1_s, hc1]
        have fk : frK m3 m4 := ⟨fun i hi => g2 i (by omega), by rw [g2 1 (by decide)], g3⟩
        rw [lp_go hs, v1]
        have q1 : 14 * (x.2.2 : Int) - 3 * (x.2.1.length : Int) + c ≤ 14 * (y.2.2 : Int) - 3 * (y.2.1.length : Int) := v5.1.2.2.1
        have := tloop_c ok hc3 hF hR g (by omega) P (apE y [(10, 0)]) m4 hP ⟨fk.tx r1, by unfold atC; rw [g2 1 (by decide)]; exact r2, r3, g4, r5, by show 3 * (y.2.1 ++ [(10, 0)]).length ≤ 14 * y.2.2; rw [List.length_append]; simp; omega⟩ (by show 3 * ((y.2.1 ++ [(10, 0)]).length + P.length) ≤ 14 * y.2.2; rw [List.length_append]; simp; omega)
        exact kC.tr (v3.tr fk) this
    · rw [if_neg (by rw [w5]; decide)]
      obtain ⟨m2, f2, ⟨w6, e6, a6, _⟩ | ⟨w6, e6, a6⟩⟩ := acW_c (f1.tx h1) ok a5 (by omega) (k := 6) (by decide) (by decide) (by decide) hid
      · rw [if_pos w6]
        have f2 := f1.tr f2
        have dl : lte n t b = b + 2 := ws_lte w6
        have hA : ∃ m3, frK m2 m3 ∧ atC m3 (b + 2) ∧ eC m3 (x.2.1 ++ P) x.2.2 ∧ f_X8_readTest_s14 recF y1 (tcI P, nI (400 - (g + 1)), m) = f_X8_readTest_j71 recF m3 y1 (tcI P) (nI (400 - (g + 1))) 0 := by
          unfold f_X8_readTest_s14
          show ∃ m3, _ ∧ _ ∧ _ ∧ (if (400 : Int32) ≤ nI (400 - (g + 1)) then _ else _) = _
          rw [if_neg hcn, e5, bi2_s, if_pos rfl, e6, bi2_s, if_neg (show ¬ (1 : Int32) = 0 by decide)]
          unfold f_X8_readTest_j52
          rw [if_pos rfl]
          rcases hP with q | q
          · rw [q, List.append_nil, if_pos (show tcI [] = 0 from rfl)]
            exact ⟨m2, frK.rf _, a6, eC_T f2 h4, rfl⟩
          · obtain ⟨m3, g1, g2, g3, g4⟩ := add_c (eC_T f2 h4) (by omega) (s := 11) (v := 0) (x := 14) (by decide)
            rw [q, if_neg (by decide), show f_X7_add m2 20 14 0 = some m3 from g1, bi1_s]
            exact ⟨m3, ⟨fun i hi => g2 i (by omega), by rw [g2 1 (by decide)], g3⟩, by unfold atC; rw [g2 1 (by decide)]; exact a6, g4, rfl⟩
        obtain ⟨m3, k1, k2, k3, k4⟩ := hA
        have fk := f2.k.tr k1
        refine kC.tr fk ?_
        have hz : cOk n t m3 (b + 2, x.2.1 ++ P, x.2.2) := ⟨fk.tx h1, k2, by show b + 2 ≤ n; omega, k3, h5, by show 3 * (x.2.1 ++ P).length ≤ _; rw [List.length_append]; exact hc⟩
        rcases kC_ok hz (hR m3 _ hz) (fun y hy => hF _ y hz.2.2.1 hy) (by omega) with ⟨f, m4, v1, v2, v3, v4, v5⟩ | ⟨y, m4, v1, v2, v3, v4, v5⟩
        · have hs : f_X8_readTest_s14 recF y1 (tcI P, nI (400 - (g + 1)), m) = some (.inr (.inr (.inl m4))) := by
            rw [k4]
            unfold f_X8_readTest_j71
            rw [v2, bi2_s, if_pos rfl]
          rw [lp_end hs, bi1_s, v1]
          exact ⟨m4, v3, Or.inl ⟨f, rfl, rfl, v4, v5⟩⟩
        · have hs : f_X8_readTest_s14 recF y1 (tcI P, nI (400 - (g + 1)), m) = some (.inl (1, nI (400 - g), m4)) := by
            rw [k4]
            unfold f_X8_readTest_j71
            rw [v2, bi2_s, if_neg (show ¬ (1 : Int32) = 0 by decide), if_pos rfl, hc1]
          rw [lp_go hs, v1]
          have q1 := v5.1.2.2.1
          have q2 := hz.2.2.2.2.2
          have := tloop_c ok hc3 hF hR g (by omega) [(11, 0)] y m4 (Or.inr rfl) v4 (by
            simp
            simp at q1 q2
            omega)
          exact kC.tr v3 this
      · have hs : f_X8_readTest_s14 recF y1 (tcI P, nI (400 - (g + 1)), m) = some (.inr (.inl (tcI P, m2))) := by
          unfold f_X8_readTest_s14
          show (if (400 : Int32) ≤ nI (400 - (g + 1)) then _ else _) = _
          rw [if_neg hcn, e5, bi2_s, if_pos rfl, e6, bi2_s, if_pos rfl]
        rw [if_neg (by rw [w6]; decide), lp_end hs, bi1_s]
        exact kC.tr (f1.tr f2).k (j107_c (recF := recF) hP a6 (eC_T (f1.tr f2) h4) (by omega))
theorem readTest_K (recF : Mm → Int32 → Option (Int32 × Mm)) (m : Mm) (x1 : Int32) : f_X8_readTest_b recF m x1 = bi2 (recF m x1) fun r m1 => if r = 0 then some (0, m1) else bi1 (lp (f_X8_readTest_s14 recF x1) ((0 : Int32), (0 : Int32), m1)) (tesK recF) := rfl
theorem tst_c {n : Nat} {t : Nat → Nat} (ok : TxOk n t) {F : Ps → Nat ⊕ Ps} {recF : Mm → Int32 → Option (Int32 × Mm)} {y1 : Int32} {c : Int} (hc3 : 3 ≤ c) (hF : ∀ x y, x.1 ≤ n → F x = .inr y → rdg n c x y) (hR : ∀ m x, cOk n t m x → kC m (recF m y1) (F x)) {m : Mm} {x : Ps} (hz : cOk n t m x) : kC m (f_X8_readTest_b recF m y1) (tst n t F x) := by
  rw [readTest_K]
  unfold tst
  rcases kC_ok hz (hR m x hz) (fun y hy => hF x y hz.2.2.1 hy) (by omega) with ⟨f, m3, v1, v2, v3, v4, v5⟩ | ⟨y, m3, v1, v2, v3, v4, v5⟩
  · rw [v2, bi2_s, if_pos rfl, v1]
    exact ⟨m3, v3, Or.inl ⟨f, rfl, rfl, v4, v5⟩⟩
  · rw [v2, bi2_s, if_neg (show ¬ (1 : Int32) = 0 by decide), v1]
    exact kC.tr v3 (tloop_c ok hc3 hF hR 400 (Nat.le_refl _) [] y m3 (Or.inl rfl) v4 (by simpa using v4.2.2.2.2.2))
theorem addAny {m : Mm} {L : Nat} (hL : L ≤ 400) (h : m.1 20 1 = nI L) (x y : Int32) : ∃ m1, f_X7_add m 20 x y = some m1 ∧ frK m m1 ∧ m1.1 1 = m.1 1 ∧ ∃ L', L' ≤ 400 ∧ m1.1 20 1 = nI L' := by
  unfold f_X7_add
  rw [h]
  by_cases c : L = 400
  · rw [if_pos (by rw [c]; decide)]
    exact ⟨m, rfl, frK.rf m, rfl, L, hL, h⟩
  · rw [if_neg (by rw [show (400 : Int32) = nI 400 from rfl, sN_le (by decide) (by omega)]; omega), if_neg (gd_ok (show L < 400 by omega) (by decide)), cl_ok (by omega), vl_s, wI_ne (by decide), h, sN_a1, vl_s]
    exact ⟨_, rfl, ⟨fun i hi => by rw [wI_ne (by omega), wI_ne (by omega)], by rw [wI_ne (by decide), wI_ne (by decide)], fun k hk => by rw [wI_pl hk, wI_ne (by decide)]⟩, by rw [wI_ne (by decide), wI_ne (by decide)], L + 1, by omega, wI_at _ _ _ _⟩
theorem fct_c {n : Nat} {t : Nat → Nat} (ok : TxOk n t) : ∀ (r : Nat), r ≤ 10 → ∀ (k : Nat), 2 * r + 1 ≤ k → ∀ (m : Mm) (x : Ps), cOk n t m x → kC m ((fd_TF k).2 m (nI (10 - r))) (fct n t r x)
  | r, hr, 0, hk, m, x, hx => absurd hk (by omega)
  | 0, hr, k + 1, hk, m, x, hx => by
    have h400 := ok.1
    obtain ⟨h1, h2, h3, h4, h5, h6⟩ := hx
    obtain ⟨b, hb⟩ : ∃ b, bl n t x.1 = b := ⟨_, rfl⟩
    have hbn : b ≤ n := by rw [← hb]; exact bl_le t h3
    have hid : bl n t b = b := by rw [← hb, bl_id]
    show kC m (f_X8_readFact_b (fd_TF k).2 (fd_TF k).1 m (nI 10)) _
    have J : ∀ m1 y2, m1.1 1 3 = nI b → frT m m1 → kC m (f_X8_readFact_j26 (fd_TF k).2 (fd_TF k).1 m1 (nI 10) y2) (.inl (3 + 8 * b)) := fun m1 y2 g f1 => by
      unfold f_X8_readFact_j26
      rw [if_neg (show ¬ nI 10 < 10 by decide), g, show f_X10_wrong m1 (nI b) 2 = _ from wrong_c m1 b 2, bi2_s, if_neg (fun z => z.1 rfl), show 1 + 8 * b + 2 = 3 + 8 * b by omega]
      exact ⟨_, f1.k.tr (frT_w _ (by decide)).k, Or.inl ⟨_, rfl, rfl, wI_at _ _ _ _, x.2.1.length, by omega, (eC_T (f1.tr (frT_w _ (by decide))) h4).1⟩⟩
    unfold f_X8_readFact_b fct
    rw [hb]
    obtain ⟨m1, f1, ⟨w, e, a, a3⟩ | ⟨w, e, a⟩⟩ := acW_c h1 ok h2 (by omega) (k := 4) (by decide) (by decide) (by decide) hb
    · rw [e, bi2_s, if_neg (show ¬ (1 : Int32) = 0 by decide), if_pos (Or.inl w)]
      exact J m1 1 a3 f1
    · rw [e, bi2_s, if_pos rfl]
      obtain ⟨m2, f2, ⟨c1, c2, e2, a2, a3⟩ | ⟨c, e2, a2⟩⟩ := acc_c (f1.tx h1) ok a (by omega) (c := 91) (by decide) hid
      · rw [show f_X10_accept m1 91 = _ from e2, bi2_s, if_neg (show ¬ (1 : Int32) = 0 by decide), if_pos (Or.inr ⟨c1, c2⟩)]
        exact J m2 0 a3 (f1.tr f2)
      · rw [show f_X10_accept m1 91 = _ from e2, bi2_s, if_pos rfl, if_neg (fun z => z.elim (fun q => by rw [w] at q; exact absurd q (by decide)) c)]
        have f2 := f1.tr f2
        exact kC.tr f2.k (cmpd_c ok (x := (b, x.2.1, x.2.2)) ⟨f2.tx h1, a2, hbn, eC_T f2 h4, h5, h6⟩)
  | r + 1, hr, k + 1, hk, m, x, hx => by
    have h400 := ok.1
    obtain ⟨h1, h2, h3, h4, h5, h6⟩ := hx
    obtain ⟨b, hb⟩ : ∃ b, bl n t x.1 = b := ⟨_, rfl⟩
    have hbn : b ≤ n := by rw [← hb]; exact bl_le t h3
    have hid : bl n t b = b := by rw [← hb, bl_id]
    have hl := (lte_ok n t b).2.1 hbn
    have hd : nI (10 - (r + 1)) < 10 := by rw [show (10 : Int32) = nI 10 from rfl, sN_lt (by omega) (by decide)]; omega
    have hd1 : nI (10 - (r + 1)) + 1 = nI (10 - r) := by rw [sN_a1, show 10 - (r + 1) + 1 = 10 - r by omega]
    show kC m (f_X8_readFact_b (fd_TF k).2 (fd_TF k).1 m (nI (10 - (r + 1)))) _
    unfold f_X8_readFact_b fct
    rw [hb]
    obtain ⟨m1, f1, ⟨w, e, a, a3⟩ | ⟨w, e, a⟩⟩ := acW_c h1 ok h2 (by omega) (k := 4) (by decide) (by decide) (by decide) hb
    · rw [e, bi2_s, if_neg (show ¬ (1 : Int32) = 0 by decide), if_pos w]
      have dl : lte n t b = b + 3 := ws_lte w
      unfold f_X8_readFact_j26
      rw [if_pos hd, if_neg (show ¬ (1 : Int32) = 0 by decide), hd1]
      have hz : cOk n t m1 (b + 3, x.2.1, x.2.2) := ⟨f1.tx h1, a, by show b + 3 ≤ n; omega, eC_T f1 h4, h5, h6⟩
      refine kC.tr f1.k ?_
      rcases kC_ok hz (fct_c ok r (by omega) k (by omega) m1 _ hz) (fun y hy => fct_sg r (by omega) _ y hz.2.2.1 hy) (by omega) with ⟨f, m3, v1, v2, v3, v4, L, v5, v6⟩ | ⟨y, m3, v1, v2, v3, v4, v5⟩
      · obtain ⟨m4, g1, g2, g3, g4⟩ := addAny v5 v6 2 0
        rw [v2, bi2_s, g1, bi1_s, if_neg (fun z => z.1 rfl), v1]
        exact ⟨m4, v3.tr g2, Or.inl ⟨f, rfl, rfl, by rw [g3]; exact v4, g4⟩⟩
      · obtain ⟨r1, r2, r3, r4, r5, r6⟩ := v4
        obtain ⟨m4, g1, g2, g3, g4⟩ := add_c r4 (by omega) (s := 9) (v := 0) (x := 2) (by decide)
        rw [v2, bi2_s, show f_X7_add m3 20 2 0 = some m4 from g1, bi1_s, if_neg (fun z => z.2 rfl), v1]
        have fk : frK m3 m4 := ⟨fun i hi => g2 i (by omega), by rw [g2 1 (by decide)], g3⟩
        exact ⟨m4, v3.tr fk, Or.inr ⟨_, rfl, rfl, by unfold atC; rw [g2 1 (by decide)]; exact r2, g4⟩⟩
    · rw [e, bi2_s, if_pos rfl, if_neg (by rw [w]; decide)]
      obtain ⟨m2, f2, ⟨c1, c2, e2, a2, a3⟩ | ⟨c, e2, a2⟩⟩ := acc_c (f1.tx h1) ok a (by omega) (c := 91) (by decide) hid
      · rw [show f_X10_accept m1 91 = _ from e2, bi2_s, if_neg (show ¬ (1 : Int32) = 0 by decide), if_pos ⟨c1, c2⟩]
        have f2 := f1.tr f2
        unfold f_X8_readFact_j26
        rw [if_pos hd, if_pos rfl, hd1]
        have hz : cOk n t m2 (b + 1, x.2.1, x.2.2) := ⟨f2.tx h1, a2, by show b + 1 ≤ n; omega, eC_T f2 h4, h5, h6⟩
        refine kC.tr f2.k ?_
        obtain ⟨k', hk'⟩ : ∃ k', k = k' + 1 := ⟨k - 1, by omega⟩
        have hT : kC m2 ((fd_TF k).1 m2 (nI (10 - r))) (tst n t (fct n t r) (b + 1, x.2.1, x.2.2)) := by
          rw [hk']
          exact tst_c ok (c := 33 - 3 * (r : Int)) (by omega) (fun x y => fct_sg r (by omega) x y) (fun m x hm => fct_c ok r (by omega) k' (by omega) m x hm) hz
        rcases kC_ok hz hT (fun y hy => tst_sg (c := 33 - 3 * (r : Int)) (by omega) (fun x y => fct_sg r (by omega) x y) hz.2.2.1 hy) (by omega) with ⟨f, m3, v1, v2, v3, v4, v5⟩ | ⟨y, m3, v1, v2, v3, v4, v5⟩
        · rw [v2, bi2_s, if_pos rfl, v1]
          exact ⟨m3, v3, Or.inl ⟨f, rfl, rfl, v4, v5⟩⟩
        · rw [v2, bi2_s, if_neg (show ¬ (1 : Int32) = 0 by decide), v1]
          obtain ⟨r1, r2, r3, r4, r5, r6⟩ := v4
          refine kC.tr v3 ?_
          obtain ⟨b2, hb2⟩ : ∃ b2, bl n t y.1 = b2 := ⟨_, rfl⟩
          show kC m3 _ (if bl n t y.1 < n ∧ t (bl n t y.1) = 93 then .inr (bl n t y.1 + 1, y.2.1, y.2.2) else .inl (1 + 8 * bl n t y.1))
          rw [hb2]
          obtain ⟨m4, f4, ⟨c1, c2, e4, a4, _⟩ | ⟨c, e4, a4⟩⟩ := acc_c r1 ok r2 (by omega) (c := 93) (by decide) hb2
          · rw [show f_X10_accept m3 93 = _ from e4, bi2_s, if_neg (show ¬ (1 : Int32) = 0 by decide), if_pos ⟨c1, c2⟩]
            exact ⟨m4, f4.k, Or.inr ⟨_, rfl, rfl, a4, eC_T f4 r4⟩⟩
          · rw [show f_X10_accept m3 93 = _ from e4, bi2_s, if_pos rfl, if_neg c, show m4.1 1 2 = nI b2 from a4, show f_X10_wrong m4 (nI b2) 0 = _ from wrong_c m4 b2 0, bi2_s, if_pos rfl]
            exact ⟨_, f4.k.tr (frT_w _ (by decide)).k, Or.inl ⟨_, rfl, rfl, wI_at _ _ _ _, y.2.1.length, by omega, (eC_T (f4.tr (frT_w _ (by decide))) r4).1⟩⟩
      · rw [show f_X10_accept m1 91 = _ from e2, bi2_s, if_pos rfl, if_neg c]
        have f2 := f1.tr f2
        exact kC.tr f2.k (cmpd_c ok (x := (b, x.2.1, x.2.2)) ⟨f2.tx h1, a2, hbn, eC_T f2 h4, h5, h6⟩)
