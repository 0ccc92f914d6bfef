/-! PHASE 2: rule, the reference's facts and tests -/
theorem fact_pre {n : Nat} {t : Nat → Nat} (ok : TxOk n t) {u : Nat} {m : Mm} {x : Ps} (hx : fOk n t u m x) {b : Nat} (hb : bl n t x.1 = b) : ∃ m1, m1 = wI m 1088 32 (nI b) ∧ fOk n t u m1 (b, x.2.1, x.2.2) ∧ frU m m1 ∧ f_X12_test_s9 (1, 1, m) = (if ws n t b 4 = true then bi1 (f_X12_opens m1 9) fun m2 => vlet (wI m2 1088 32 (m2.1 1088 32 + 3)) fun m3 => some (.inl (1, 1, m3)) else if b < n ∧ t b = 91 then bi1 (f_X12_opens m1 12) fun m2 => vlet (wI m2 1088 32 (m2.1 1088 32 + 1)) fun m3 => some (.inl (1, 1, m3)) else bi1 (f_X12_compared m1) fun m2 => some (.inl (0, 1, m2))) := by
  have h400 := ok.1
  have hbn : b ≤ n := by rw [← hb]; exact bl_le t hx.2.2.2.1
  have h4 := hx.2.2.2.1
  have o1 := fOk_at hx hbn
  have bl3 : f_X12_blanks m = some (wI m 1088 32 (nI b)) := by rw [← hb]; exact blanks_f hx.1 ok (i := x.1) hx.2.2.1 (by omega)
  have st4 := stood_f o1.1 ok (i := b) o1.2.2.1 (by omega) (k := 4) (by decide)
  have sg := sign_f o1.1 ok (i := b) o1.2.2.1 (by omega)
  obtain ⟨m1, hm1⟩ : ∃ m1, m1 = wI m 1088 32 (nI b) := ⟨_, rfl⟩
  rw [← hm1] at o1 bl3 st4 sg
  refine ⟨m1, hm1, o1, by rw [hm1]; exact frU_w m (Or.inl rfl), ?_⟩
  unfold f_X12_test_s9
  show (if (1 : Int32) = 0 then _ else if m.1 1088 33 = 0 then (if (1 : Int32) = 0 then _ else _) else _) = _
  rw [if_neg (by decide), if_pos hx.2.2.2.2.1, if_neg (by decide)]
  unfold f_X12_fact f_X12_test_j36
  rw [bl3, bi1_s, st4, bi1_s, sg, bi1_s]
  by_cases w : ws n t b 4 = true
  · rw [if_pos w, if_pos w, if_neg (by decide)]
    cases f_X12_opens m1 9 <;> rfl
  · rw [if_neg w, if_neg w, if_pos rfl]
    by_cases c : b < n ∧ t b = 91
    · rw [if_pos c, if_pos (show sgI n t b = 91 by rw [show (91 : Int32) = nI 91 from rfl, sgI_eq ok (by decide)]; exact c)]
      cases f_X12_opens m1 12 <;> rfl
    · rw [if_neg c, if_neg (show ¬ sgI n t b = 91 by rw [show (91 : Int32) = nI 91 from rfl, sgI_eq ok (by decide)]; exact c)]
      cases f_X12_compared m1 <;> rfl
theorem fct_f {n : Nat} {t : Nat → Nat} (ok : TxOk n t) {u : Nat} (hu : u < 6) : ∀ (r : Nat), r ≤ 10 → fctF n t u r := by
  have h400 := ok.1
  have cmpc : ∀ (r : Nat) (m : Mm) (x : Ps) (S : List Nat) (b : Nat), fOk n t u m x → stk m S (10 - r) → S.length ≤ x.1 → bl n t x.1 = b → ¬ ws n t b 4 = true → ¬ (b < n ∧ t b = 91) → fct n t r x = cmpd n t (b, x.2.1, x.2.2) → (∃ f m1, fct n t r x = .inl f ∧ lp f_X12_test_s9 (1, 1, m) = some m1 ∧ frH u m m1 ∧ flB 430 m1 f) ∨ ∃ y m1 j E0, fct n t r x = .inr y ∧ lp f_X12_test_s9 (1, 1, m) = lp f_X12_test_s9 (0, 1, m1) ∧ frH u m m1 ∧ fOk n t u m1 (y.1, E0, y.2.2) ∧ stk m1 (List.replicate j 9 ++ S) (10 - r + j) ∧ y.2.1 = E0 ++ List.replicate j (9, 0) ∧ S.length + j ≤ y.1 := fun r m x S b hx hs hl hb w c e => by
    have hbg : x.1 ≤ b := by rw [← hb]; exact bl_ge n t x.1
    obtain ⟨m1, _, o1, f1, hs1⟩ := fact_pre ok hx hb
    rw [if_neg w, if_neg c] at hs1
    rw [e]
    rcases jQ_ok o1 (compared_f ok hu o1) (fun y hy => cmpd_sg o1.2.2.2.1 hy) (by decide) with ⟨f, m2, v1, v2, v3, v4⟩ | ⟨y, m2, v1, v2, v3, v4, v5⟩
    · rw [v2, bi1_s] at hs1
      exact Or.inl ⟨f, m2, v1, by rw [lp_go hs1]; exact s9_x v4, (f1.j.tr v3).h, v4⟩
    · rw [v2, bi1_s] at hs1
      have q : b < y.1 := v5.2.1
      exact Or.inr ⟨y, m2, 0, y.2.1, v1, lp_go hs1, (f1.j.tr v3).h, v4, stk_J (f1.j.tr v3) hs, by simp, by omega⟩
  intro r
  induction r with
  | zero =>
    intro hr m x S hx hs hl
    have hxn := hx.2.2.2.1
    obtain ⟨b, hb⟩ : ∃ b, bl n t x.1 = b := ⟨_, rfl⟩
    have hbn : b ≤ n := by rw [← hb]; exact bl_le t hxn
    have hlt := (lte_ok n t b).2.1 hbn
    by_cases c : ws n t b 4 = true ∨ (b < n ∧ t b = 91)
    · have e : fct n t 0 x = .inl (3 + 8 * b) := by
        unfold fct
        rw [hb, if_pos c]
      obtain ⟨m1, _, o1, f1, hs1⟩ := fact_pre ok hx hb
      have s1 := stk_J (u := u) f1.j hs
      by_cases w : ws n t b 4 = true
      · have dl : lte n t b = b + 3 := ws_lte w
        obtain ⟨m2, e1, e2, e3, e4⟩ := opens_x s1 (by omega) (a := 9) (Or.inl rfl) o1.2.2.2.2.1 o1.2.2.1 (by omega)
        rw [if_pos w, show f_X12_opens m1 9 = some m2 from e1, bi1_s, show m2.1 1088 32 = nI b from e4, show nI b + 3 = nI (b + 3) from sN_ad b 3, vl_s] at hs1
        have f3 : flB 430 (wI m2 1088 32 (nI (b + 3))) (3 + 8 * b) := ⟨by rw [wI_pl (by decide)]; exact e3.1, e3.2.1, e3.2.2.1, b + 3, by omega, wI_at _ _ _ _⟩
        exact Or.inl ⟨_, _, e, by rw [lp_go hs1]; exact s9_x f3, ((f1.j.h).tr (e2 u)).tr (frJ_w _ (by omega)).h, f3⟩
      · have c2 : b < n ∧ t b = 91 := c.elim (fun z => absurd z w) id
        obtain ⟨m2, e1, e2, e3, e4⟩ := opens_x s1 (by omega) (a := 12) (Or.inr rfl) o1.2.2.2.2.1 o1.2.2.1 (by omega)
        rw [if_neg w, if_pos c2, show f_X12_opens m1 12 = some m2 from e1, bi1_s, show m2.1 1088 32 = nI b from e4, sN_a1, vl_s] at hs1
        have f3 : flB 430 (wI m2 1088 32 (nI (b + 1))) (3 + 8 * b) := ⟨by rw [wI_pl (by decide)]; exact e3.1, e3.2.1, e3.2.2.1, b + 1, by omega, wI_at _ _ _ _⟩
        exact Or.inl ⟨_, _, e, by rw [lp_go hs1]; exact s9_x f3, ((f1.j.h).tr (e2 u)).tr (frJ_w _ (by omega)).h, f3⟩
    · exact cmpc 0 m x S b hx hs hl hb (fun z => c (Or.inl z)) (fun z => c (Or.inr z)) (by unfold fct; rw [hb, if_neg c])
  | succ r ih =>
    intro hr m x S hx hs hl
    have ih := ih (by omega)
    have hxn := hx.2.2.2.1
    obtain ⟨b, hb⟩ : ∃ b, bl n t x.1 = b := ⟨_, rfl⟩
    have hbn : b ≤ n := by rw [← hb]; exact bl_le t hxn
    have hbg : x.1 ≤ b := by rw [← hb]; exact bl_ge n t x.1
    have hlt := (lte_ok n t b).2.1 hbn
    by_cases w : ws n t b 4 = true
    · have dl : lte n t b = b + 3 := ws_lte w
      have e : fct n t (r + 1) x = sbd (fct n t r (b + 3, x.2.1, x.2.2)) fun y => .inr (apE y [(9, 0)]) := by
        rw [fct, hb, if_pos w]
      obtain ⟨m1, _, o1, f1, hs1⟩ := fact_pre ok hx hb
      have s1 := stk_J (u := u) f1.j hs
      obtain ⟨m2, e1, e2, e3⟩ := opens_2 s1 (by omega) (a := 9) (Or.inl rfl) (by omega)
      have o2 := fOk_S e2 o1
      have o3 := fOk_at o2 (i := b + 3) (by omega)
      have f3 : frU m2 (wI m2 1088 32 (nI (b + 3))) := frU_w m2 (Or.inl rfl)
      have s3 := stk_J (u := u) f3.j e3
      rw [if_pos w, show f_X12_opens m1 9 = some m2 from e1, bi1_s, show m2.1 1088 32 = nI b from o2.2.2.1, show nI b + 3 = nI (b + 3) from sN_ad b 3, vl_s] at hs1
      obtain ⟨m3, hm3⟩ : ∃ m3, wI m2 1088 32 (nI (b + 3)) = m3 := ⟨_, rfl⟩
      rw [hm3] at hs1 o3 f3 s3
      rw [show 10 - (r + 1) + 1 = 10 - r by omega] at s3
      have fr3 : frH u m m3 := (f1.j.h.tr e2.h).tr f3.j.h
      rw [lp_go hs1, e]
      rcases ih m3 (b + 3, x.2.1, x.2.2) (9 :: S) o3 s3 (by show S.length + 1 ≤ b + 3; omega) with ⟨f, m4, r1, r2, r3, r4⟩ | ⟨y, m4, j, E0, r1, r2, r3, r4, r5, r6, r7⟩
      · exact Or.inl ⟨f, m4, by rw [r1]; rfl, r2, fr3.tr r3, r4⟩
      · have r7 : S.length + 1 + j ≤ y.1 := r7
        refine Or.inr ⟨apE y [(9, 0)], m4, j + 1, E0, by rw [r1]; rfl, r2, fr3.tr r3, r4, ?_, ?_, by show S.length + (j + 1) ≤ y.1; omega⟩
        · rw [show List.replicate (j + 1) 9 ++ S = List.replicate j 9 ++ 9 :: S by rw [List.replicate_succ']; simp, show 10 - (r + 1) + (j + 1) = 10 - r + j by omega]
          exact r5
        · show y.2.1 ++ [(9, 0)] = _
          rw [r6, List.replicate_succ', List.append_assoc]
    · by_cases c : b < n ∧ t b = 91
      · have e : fct n t (r + 1) x = sbd (tst n t (fct n t r) (b + 1, x.2.1, x.2.2)) fun y => if bl n t y.1 < n ∧ t (bl n t y.1) = 93 then .inr (bl n t y.1 + 1, y.2.1, y.2.2) else .inl (1 + 8 * bl n t y.1) := by
          rw [fct, hb, if_neg w, if_pos c]
        obtain ⟨m1, _, o1, f1, hs1⟩ := fact_pre ok hx hb
        have s1 := stk_J (u := u) f1.j hs
        obtain ⟨m2, e1, e2, e3⟩ := opens_2 s1 (by omega) (a := 12) (Or.inr rfl) (by omega)
        have o2 := fOk_S e2 o1
        have o3 := fOk_at o2 (i := b + 1) (by omega)
        have f3 : frU m2 (wI m2 1088 32 (nI (b + 1))) := frU_w m2 (Or.inl rfl)
        have s3 := stk_J (u := u) f3.j e3
        rw [if_neg w, if_pos c, show f_X12_opens m1 12 = some m2 from e1, bi1_s, show m2.1 1088 32 = nI b from o2.2.2.1, sN_a1, vl_s] at hs1
        obtain ⟨m3, hm3⟩ : ∃ m3, wI m2 1088 32 (nI (b + 1)) = m3 := ⟨_, rfl⟩
        rw [hm3] at hs1 o3 f3 s3
        rw [show 10 - (r + 1) + 1 = 10 - r by omega] at s3
        have fr3 : frH u m m3 := (f1.j.h.tr e2.h).tr f3.j.h
        rw [lp_go hs1]
        rcases ih m3 (b + 1, x.2.1, x.2.2) (12 :: S) o3 s3 (by show S.length + 1 ≤ b + 1; omega) with ⟨f, m4, r1, r2, r3, r4⟩ | ⟨y, m4, j, E0, r1, r2, r3, r4, r5, r6, r7⟩
        · exact Or.inl ⟨f, m4, by rw [e]; unfold tst; rw [r1]; rfl, r2, fr3.tr r3, r4⟩
        · have r7 : S.length + 1 + j ≤ y.1 := r7
          have sg := fct_sg r (by omega) _ y o3.2.2.2.1 r1
          have q1 : 14 * (x.2.2 : Int) - 3 * (x.2.1.length : Int) + (33 - 3 * (r : Int)) ≤ 14 * (y.2.2 : Int) - 3 * (y.2.1.length : Int) := sg.1.2.2.1
          have q2 : b + 1 < y.1 := sg.2.1
          have q3 := hx.2.2.2.2.2.2.2
          have et : tst n t (fct n t r) (b + 1, x.2.1, x.2.2) = tloop n t (fct n t r) 400 [] y := by unfold tst; rw [r1]; rfl
          rw [r2]
          rcases tloop_f ok hu (by omega) ih (S := 12 :: S) (by refine ⟨?_, ?_, ?_⟩ <;> (show ¬ nI 12 = _; decide)) 400 y m4 j E0 [] [] (Or.inl rfl) (Or.inl rfl) r4 (by rw [r6]; simp) r5 (by show j + (0 + (0 + (S.length + 1))) ≤ y.1; omega) (by omega) (by show 3 * (y.2.1.length + 0) ≤ 14 * y.2.2; omega) with ⟨f, m5, k1, k2, k3, k4⟩ | ⟨z, m5, m6, k1, k2, k3, k4, k5, k6, k7, k8⟩
          · exact Or.inl ⟨f, m5, by rw [e, et, show tloop n t (fct n t r) 400 [] y = .inl f from k1]; rfl, k2, (fr3.tr r3).tr k3, k4⟩
          · have k8 : S.length + 1 ≤ z.1 := k8
            have kz := k5.2.2.2.1
            have e5 : fct n t (r + 1) x = if z.1 < n ∧ t z.1 = 93 then .inr (z.1 + 1, z.2.1, z.2.2) else .inl (1 + 8 * z.1) := by
              rw [e, et, show tloop n t (fct n t r) 400 [] y = .inr z from k1]
              show (if bl n t z.1 < n ∧ t (bl n t z.1) = 93 then _ else _) = _
              rw [k7]
            rw [k2, e5]
            have fr6 := (fr3.tr r3).tr k4
            have top := top_f k6 (by show S.length + 1 ≤ 401; omega)
            have sgn := sign_f k5.1 ok (i := z.1) k5.2.2.1 (by omega)
            unfold endK f_X12_test_j164 at k3
            rw [top, bi1_s, if_pos (show topI (12 :: S) = 12 from rfl), sgn, bi1_s] at k3
            by_cases d : z.1 < n ∧ t z.1 = 93
            · rw [if_pos (show sgI n t z.1 = 93 by rw [show (93 : Int32) = nI 93 from rfl, sgI_eq ok (by decide)]; exact d), k5.2.2.1, sN_a1, vl_s, wI_pl (by decide), k6.1, show nI (12 :: S).length - 1 = nI S.length from nI_s1 _, vl_s, wI_pl (by decide), wI_pl (by decide), k6.2.2, show 10 - r = 10 - (r + 1) + 1 by omega, nI_s1, vl_s] at k3
              have fs : frS (wI m6 1088 32 (nI (z.1 + 1))) (wI (wI (wI m6 1088 32 (nI (z.1 + 1))) 1088 39 (nI S.length)) 1088 37 (nI (10 - (r + 1)))) := (frS_w _ (by omega)).tr (frS_w _ (by omega))
              have o7 := fOk_S fs (fOk_at k5 (i := z.1 + 1) (by omega))
              rw [if_pos d, lp_go k3]
              exact Or.inr ⟨_, _, 0, z.2.1, rfl, rfl, (fr6.tr (frJ_w _ (by omega)).h).tr fs.h, o7, ⟨by rw [wI_pl (by decide), wI_at]; rfl, fun k hk => by rw [wI_ne (by decide), wI_ne (by decide), wI_ne (by decide)]; exact stk_cons k6 k hk, wI_at _ _ _ _⟩, by simp, by show S.length + 0 ≤ z.1 + 1; omega⟩
            · rw [if_neg (show ¬ sgI n t z.1 = 93 by rw [show (93 : Int32) = nI 93 from rfl, sgI_eq ok (by decide)]; exact d), k5.2.2.1, show f_X12_fails m6 0 (nI z.1) = _ from fails_0 z.1 0 k5.2.2.2.2.1, bi1_s, wI_pl (by decide), k5.2.2.1, sN_a1, vl_s, vl_s, vl_s] at k3
              rw [if_neg d, lp_go k3]
              have fl : flB 430 (wI (wI (wI (wI m6 1088 33 (nI (1 + 8 * z.1 + 0))) 1088 32 (nI (z.1 + 1))) 1088 39 ((wI (wI m6 1088 33 (nI (1 + 8 * z.1 + 0))) 1088 32 (nI (z.1 + 1))).1 1088 39 - 1)) 1088 37 ((wI (wI (wI m6 1088 33 (nI (1 + 8 * z.1 + 0))) 1088 32 (nI (z.1 + 1))) 1088 39 ((wI (wI m6 1088 33 (nI (1 + 8 * z.1 + 0))) 1088 32 (nI (z.1 + 1))).1 1088 39 - 1)).1 1088 37 - 1)) (1 + 8 * z.1) := ⟨by rw [wI_pl (by decide), wI_pl (by decide), wI_pl (by decide), wI_at]; rfl, by omega, by omega, z.1 + 1, by omega, by rw [wI_pl (by decide), wI_pl (by decide), wI_at]⟩
              exact Or.inl ⟨_, _, rfl, s9_x fl, (((fr6.tr (frJ_w _ (by omega)).h).tr (frJ_w _ (by omega)).h).tr (frS_w _ (by omega)).h).tr (frS_w _ (by omega)).h, fl⟩
      · exact cmpc (r + 1) m x S b hx hs hl hb w c (by rw [fct, hb, if_neg w, if_neg c])
theorem test_f {n : Nat} {t : Nat → Nat} (ok : TxOk n t) {u : Nat} (hu : u < 6) {m : Mm} {x : Ps} (hx : fOk n t u m x) (h37 : m.1 1088 37 = 0) : (∃ f m1, tst n t (fct n t 10) x = .inl f ∧ f_X12_test m = some m1 ∧ frH u m m1 ∧ flB 430 m1 f) ∨ ∃ y m1, tst n t (fct n t 10) x = .inr y ∧ f_X12_test m = some m1 ∧ frH u m m1 ∧ fOk n t u m1 y ∧ m1.1 1088 37 = 0 := by
  have h400 := ok.1
  have fs : frS m (wI m 1088 39 0) := frS_w m (by omega)
  have o1 := fOk_S fs hx
  have s1 : stk (wI m 1088 39 0) [] (10 - 10) := ⟨wI_at _ _ _ _, fun k hk => absurd hk (Nat.not_lt_zero _), by rw [wI_pl (by decide)]; exact h37⟩
  unfold f_X12_test
  rw [vl_s]
  obtain ⟨m0, hm0⟩ : ∃ m0, wI m 1088 39 0 = m0 := ⟨_, rfl⟩
  rw [hm0] at fs o1 s1 ⊢
  rcases fct_f ok hu 10 (Nat.le_refl _) m0 x [] o1 s1 (Nat.zero_le _) with ⟨f, m4, r1, r2, r3, r4⟩ | ⟨y, m4, j, E0, r1, r2, r3, r4, r5, r6, r7⟩
  · rw [r2, bi1_s]
    exact Or.inl ⟨f, m4, by unfold tst; rw [r1]; rfl, rfl, fs.h.tr r3, r4⟩
  · have sg := fct_sg 10 (Nat.le_refl _) _ y o1.2.2.2.1 r1
    have q1 := sg.1.2.2.1
    have q2 := sg.2.1
    have q3 := hx.2.2.2.2.2.2.2
    have r7 : 0 + j ≤ y.1 := r7
    have et : tst n t (fct n t 10) x = tloop n t (fct n t 10) 400 [] y := by unfold tst; rw [r1]; rfl
    rw [et, r2]
    rcases tloop_f ok hu (Nat.le_refl _) (fct_f ok hu 10 (Nat.le_refl _)) (S := []) (by refine ⟨?_, ?_, ?_⟩ <;> (show ¬ (-1 : Int32) = _; decide)) 400 y m4 j E0 [] [] (Or.inl rfl) (Or.inl rfl) r4 (by rw [r6]; simp) r5 (by show j + (0 + (0 + 0)) ≤ y.1; omega) (by omega) (by show 3 * (y.2.1.length + 0) ≤ 14 * y.2.2; omega) with ⟨f, m5, k1, k2, k3, k4⟩ | ⟨z, m5, m6, k1, k2, k3, k4, k5, k6, k7, k8⟩
    · rw [k2, bi1_s]
      exact Or.inl ⟨f, m5, k1, rfl, (fs.h.tr r3).tr k3, k4⟩
    · unfold endK at k3
      rw [top_f k6 (by decide), bi1_s, if_neg (show ¬ topI [] = 12 by decide)] at k3
      have e9 : lp f_X12_test_s9 (0, 0, m6) = some m6 := lp_end (by unfold f_X12_test_s9; exact if_pos rfl)
      rw [k2, lp_go k3, e9, bi1_s]
      exact Or.inr ⟨z, m6, k1, rfl, (fs.h.tr r3).tr k4, k5, k6.2.2⟩
