/-! PHASE 2: rule, the reference's sums and comparisons -/
def fOk (n : Nat) (t : Nat → Nat) (u : Nat) (m : Mm) (x : Ps) : Prop := TxF m n t ∧ m.1 1088 40 = 12 ∧ m.1 1088 32 = nI x.1 ∧ x.1 ≤ n ∧ m.1 1088 33 = 0 ∧ eF m u x.2.1 x.2.2 ∧ x.2.2 ≤ 60 ∧ 3 * x.2.1.length ≤ 14 * x.2.2
theorem jQ_ok {n : Nat} {t : Nat → Nat} {u B : Nat} {m : Mm} {x : Ps} {c : Int} {res : Option Mm} {p : Nat ⊕ Ps} (h : fOk n t u m x) (g : jQ u B m res p) (hr : ∀ y, p = .inr y → rdg n c x y) (hc : 0 ≤ c) : (∃ f m1, p = .inl f ∧ res = some m1 ∧ frJ u m m1 ∧ flB B m1 f) ∨ ∃ y m1, p = .inr y ∧ res = some m1 ∧ frJ u m m1 ∧ fOk n t u m1 y ∧ rdg n c x y := by
  rcases g with ⟨f, g1, m1, g2, g3, g4⟩ | ⟨m1, y, g1, g2, g3, g4, g5, g6⟩
  · exact Or.inl ⟨f, m1, g1, g2, g3, g4⟩
  · have q := hr y g1
    obtain ⟨h1, h2, h3, h4, h5, h6, h7, h8⟩ := h
    refine Or.inr ⟨y, m1, g1, g2, g3, ⟨g3.tx h1, by rw [g3.2.1 40 (by decide)]; exact h2, g4, q.2.2.1, g5, g6, q.2.2.2, ?_⟩, q⟩
    have := q.1.2.2.1
    omega
theorem fOk_at {n : Nat} {t : Nat → Nat} {u : Nat} {m : Mm} {x : Ps} (h : fOk n t u m x) {i : Nat} (hi : i ≤ n) : fOk n t u (wI m 1088 32 (nI i)) (i, x.2.1, x.2.2) := by
  have f : frU m (wI m 1088 32 (nI i)) := frU_w m (Or.inl rfl)
  obtain ⟨h1, h2, h3, h4, h5, h6, h7, h8⟩ := h
  exact ⟨f.tx h1, by rw [f.2 40 (by decide) (by decide)]; exact h2, wI_at _ _ _ _, hi, by rw [wI_pl (by decide)]; exact h5, eF_U f h6, h7, h8⟩
theorem fOk_e {n : Nat} {t : Nat → Nat} {u : Nat} (hu : u < 6) {m : Mm} {x : Ps} (h : fOk n t u m x) (s : Nat) (hc : 3 * (x.2.1.length + 1) ≤ 14 * x.2.2) : ∃ m1, f_X12_entry m (nI s) 0 = some m1 ∧ frJ u m m1 ∧ fOk n t u m1 (apE x [(s, 0)]) := by
  obtain ⟨h1, h2, h3, h4, h5, h6, h7, h8⟩ := h
  obtain ⟨m3, l1, l2, l3, l4, l5⟩ := entry_f h6 hu (by omega) h5 (s := s) (v := 0)
  have fj : frJ u m m3 := ⟨fun i hi => l2 i (by omega), fun k hk => l3 k (by omega), fun k hk => l4 k hk⟩
  exact ⟨m3, l1, fj, fj.tx h1, by rw [l3 40 (by decide)]; exact h2, by rw [l3 32 (by decide)]; exact h3, h4, by rw [l3 33 (by decide)]; exact h5, l5, h7, by show 3 * (x.2.1 ++ [(s, 0)]).length ≤ 14 * x.2.2; rw [List.length_append]; exact hc⟩
theorem flat_bl {n : Nat} {t : Nat → Nat} {g : Nat} {P : Es} {i : Nat} {E : Es} {p : Nat} : flat n t (g + 1) P (bl n t i, E, p) = flat n t (g + 1) P (i, E, p) := by
  unfold flat
  show (if opAt n t (bl n t (bl n t i)) = 0 then _ else _) = (if opAt n t (bl n t i) = 0 then _ else _)
  simp only [bl_id]
theorem flat_P {n : Nat} {t : Nat → Nat} {g : Nat} {P : Es} {x : Ps} (h : opAt n t (bl n t x.1) < 4) : flat n t (g + 1) P x = flat n t (g + 1) [] (apE x P) := by
  unfold flat
  show (if opAt n t (bl n t x.1) = 0 then _ else if opAt n t (bl n t x.1) < 4 then _ else _) = (if opAt n t (bl n t x.1) = 0 then .inr (bl n t x.1, (x.2.1 ++ P) ++ [], x.2.2) else if opAt n t (bl n t x.1) < 4 then sbd (val n t (bl n t x.1 + 1, (x.2.1 ++ P) ++ [], x.2.2)) _ else _)
  rw [if_pos h, if_pos h, List.append_nil]
  rfl
/-- blanks behind a fault -/
theorem blanks_x {m : Mm} {n B f : Nat} {t : Nat → Nat} (h : TxF m n t) (ok : TxOk n t) (hf : flB B m f) (hB : 400 ≤ B) (hB' : B ≤ 500) : ∃ m1, f_X12_blanks m = some m1 ∧ frU m m1 ∧ flB B m1 f := by
  obtain ⟨j1, j2, j3, j, j4, j5⟩ := hf
  exact ⟨_, blanks_f h ok j5 (by omega), frU_w m (Or.inl rfl), by rw [wI_pl (by decide)]; exact j1, j2, j3, _, bl_B ok j4 hB, wI_at _ _ _ _⟩
theorem term_end {m : Mm} {B f : Nat} (hf : flB B m f) : lp f_X12_term_s8 m = some m := lp_end (by unfold f_X12_term_s8; exact if_neg (flB_ne hf))
theorem sum_end {m : Mm} {B f : Nat} (hf : flB B m f) : lp f_X12_sum_s4 m = some m := lp_end (by unfold f_X12_sum_s4; exact if_neg (flB_ne hf))
theorem term_f {n : Nat} {t : Nat → Nat} (ok : TxOk n t) {u : Nat} (hu : u < 6) : ∀ (g : Nat) (P : Es) (x : Ps) (m : Mm), fOk n t u m x → bl n t x.1 = x.1 → n < g + x.1 → 3 * (x.2.1.length + P.length) ≤ 14 * x.2.2 → (∃ f m1, flat n t g P x = .inl f ∧ lp f_X12_term_s8 m = some m1 ∧ frJ u m m1 ∧ flB 410 m1 f) ∨ ∃ y m1 g', lp f_X12_term_s8 m = some m1 ∧ frJ u m m1 ∧ fOk n t u m1 y ∧ bl n t y.1 = y.1 ∧ x.1 ≤ y.1 ∧ n < g' + y.1 ∧ g' ≤ g ∧ opAt n t y.1 < 4 ∧ flat n t g P x = flat n t g' P y ∧ 3 * (y.2.1.length + P.length) ≤ 14 * y.2.2
  | 0, P, x, m, hx, hbl, hg, hc => absurd hx.2.2.2.1 (by omega)
  | g + 1, P, x, m, hx, hbl, hg, hc => by
    have h400 := ok.1
    have hx' := hx
    obtain ⟨h1, h2, h3, h4, h5, h6, h7, h8⟩ := hx'
    have hsg : ∀ c, c < 1000 → (sgI n t x.1 = nI c) = (x.1 < n ∧ t x.1 = c) := fun c hc => sgI_eq ok hc
    have sg := sign_f h1 ok h3 (by omega)
    by_cases o : opAt n t x.1 < 4
    · refine Or.inr ⟨x, m, g + 1, lp_end ?_, frJ.rf _ _, hx, hbl, Nat.le_refl _, hg, Nat.le_refl _, o, rfl, hc⟩
      have no : ∀ c, (c = 42 ∨ c = 47 ∨ c = 37) → ¬ sgI n t x.1 = nI c := fun c hcc z => by
        rw [hsg c (by omega)] at z
        unfold opAt at o
        rw [if_pos z.1, z.2] at o
        rcases hcc with q | q | q <;> rw [q] at o <;> exact absurd o (by decide)
      unfold f_X12_term_s8
      rw [if_pos h5, sg, bi1_s, if_neg (show ¬ sgI n t x.1 = 42 from no 42 (by omega)), bi1_s, if_neg (show ¬ sgI n t x.1 = 47 from no 47 (by omega)), bi1_s, if_neg (show ¬ sgI n t x.1 = 37 from no 37 (by omega))]
    · obtain ⟨o1, o2, o3, o4, o5, o6, o7⟩ := opAt_ok (show ¬ opAt n t x.1 = 0 by omega)
      have o7 := o7 o
      have hs1 : f_X12_term_s8 m = f_X12_term_j72 m (nI (opAt n t x.1)) := by
        unfold f_X12_term_s8 f_X12_term_j42
        rw [if_pos h5, sg]
        simp only [bi1_s]
        by_cases c1 : t x.1 = 42
        · have e : sgI n t x.1 = 42 := by rw [show (42 : Int32) = nI 42 from rfl, hsg 42 (by decide)]; exact ⟨o1, c1⟩
          rw [if_pos e, if_pos e, show opAt n t x.1 = 13 by unfold opAt; rw [if_pos o1, c1]; rfl]
          rfl
        · have e : ¬ sgI n t x.1 = 42 := by rw [show (42 : Int32) = nI 42 from rfl, hsg 42 (by decide)]; exact fun z => c1 z.2
          rw [if_neg e, if_neg e]
          by_cases c2 : t x.1 = 47
          · have e2 : sgI n t x.1 = 47 := by rw [show (47 : Int32) = nI 47 from rfl, hsg 47 (by decide)]; exact ⟨o1, c2⟩
            rw [if_pos e2, if_pos e2, show opAt n t x.1 = 14 by unfold opAt; rw [if_pos o1, c2]; rfl]
            rfl
          · have e2 : ¬ sgI n t x.1 = 47 := by rw [show (47 : Int32) = nI 47 from rfl, hsg 47 (by decide)]; exact fun z => c2 z.2
            have c3 : t x.1 = 37 := by
              by_cases c3 : t x.1 = 37
              · exact c3
              · exfalso
                unfold opAt at o7
                rw [if_pos o1, if_neg c1, if_neg c2, if_neg c3] at o7
                split at o7
                · omega
                · split at o7 <;> omega
            have e3 : sgI n t x.1 = 37 := by rw [show (37 : Int32) = nI 37 from rfl, hsg 37 (by decide)]; exact ⟨o1, c3⟩
            rw [if_neg e2, if_neg e2, if_pos e3, show opAt n t x.1 = 15 by unfold opAt; rw [if_pos o1, c3]; rfl]
            rfl
      obtain ⟨w, hw⟩ : ∃ w, opAt n t x.1 = w := ⟨_, rfl⟩
      have ef : flat n t (g + 1) P x = sbd (val n t (x.1 + 1, x.2.1, x.2.2)) fun y => flat n t g P (apE y [(w, 0)]) := by
        rw [hw] at o o7
        conv => lhs; unfold flat
        rw [hbl, hw, if_neg (by omega), if_neg o]
      rw [hw] at hs1
      have hz := fOk_at hx (i := x.1 + 1) (by omega)
      have f0 : frU m (wI m 1088 32 (nI (x.1 + 1))) := frU_w m (Or.inl rfl)
      unfold f_X12_term_j72 at hs1
      rw [h3, sN_a1, vl_s] at hs1
      obtain ⟨m0, hm0⟩ : ∃ m0, wI m 1088 32 (nI (x.1 + 1)) = m0 := ⟨_, rfl⟩
      rw [hm0] at hs1 hz f0
      rcases jQ_ok hz (val_f hz.1 ok hz.2.1 hu hz.2.2.1 hz.2.2.2.1 hz.2.2.2.2.1 hz.2.2.2.2.2.1 hz.2.2.2.2.2.2.1 (by have := hz.2.2.2.2.2.2.2; have := hz.2.2.2.2.2.2.1; omega)) (fun y hy => val_sg hz.2.2.2.1 hy) (by decide) with ⟨f, m1, v1, v2, v3, v4⟩ | ⟨y, m1, v1, v2, v3, v4, v5⟩
      · obtain ⟨m2, b1, b2, b3⟩ := blanks_x ((f0.j.tr v3).tx h1) ok v4 (by decide) (by decide)
        rw [v2, bi1_s, entry_x (flB_ne v4), bi1_s, b1, bi1_s] at hs1
        exact Or.inl ⟨f, m2, by rw [ef, v1]; rfl, by rw [lp_go hs1]; exact term_end b3, (f0.j.tr v3).tr b2.j, b3⟩
      · have q1 : 14 * (x.2.2 : Int) - 3 * (x.2.1.length : Int) + 11 ≤ 14 * (y.2.2 : Int) - 3 * (y.2.1.length : Int) := v5.1.2.2.1
        have q2 : x.1 + 1 < y.1 := v5.2.1
        obtain ⟨m2, e1, e2, e3⟩ := fOk_e hu v4 w (by omega)
        have hbb := bl_le t v4.2.2.2.1
        have hbg := bl_ge n t y.1
        have e4 := fOk_at e3 (i := bl n t y.1) hbb
        have f3 : frU m2 (wI m2 1088 32 (nI (bl n t y.1))) := frU_w m2 (Or.inl rfl)
        rw [v2, bi1_s, e1, bi1_s, blanks_f e3.1 ok (i := y.1) e3.2.2.1 (by have := v4.2.2.2.1; omega), bi1_s] at hs1
        obtain ⟨g0, hg0⟩ : ∃ g0, g = g0 + 1 := ⟨g - 1, by omega⟩
        have ef2 : flat n t (g + 1) P x = flat n t g P (bl n t y.1, y.2.1 ++ [(w, 0)], y.2.2) := by
          rw [ef, v1, hg0]
          exact flat_bl.symm
        rw [lp_go hs1, ef2]
        have len : 3 * ((y.2.1 ++ [(w, 0)]).length + P.length) ≤ 14 * y.2.2 := by rw [List.length_append]; simp; omega
        rcases term_f ok hu g P (bl n t y.1, y.2.1 ++ [(w, 0)], y.2.2) _ e4 (bl_id _ _ _) (by show n < g + bl n t y.1; omega) len with ⟨f, m3, r1, r2, r3, r4⟩ | ⟨z, m3, g', r1, r2, r3, r4, r5, r6, r7, r8, r9, r10⟩
        · exact Or.inl ⟨f, m3, r1, r2, (((f0.j.tr v3).tr e2).tr f3.j).tr r3, r4⟩
        · have r5 : bl n t y.1 ≤ z.1 := r5
          exact Or.inr ⟨z, m3, g', r1, (((f0.j.tr v3).tr e2).tr f3.j).tr r2, r3, r4, by omega, r6, by omega, r8, r9, r10⟩
/-- the reference's term, from a value on -/
theorem sumg_f {n : Nat} {t : Nat → Nat} (ok : TxOk n t) {u : Nat} (hu : u < 6) : ∀ (G g : Nat) (x : Ps) (m : Mm), g ≤ G → fOk n t u m x → bl n t x.1 = x.1 → opAt n t x.1 < 4 → n < g + x.1 → (∃ f m1, flat n t g [] x = .inl f ∧ lp f_X12_sum_s4 m = some m1 ∧ frJ u m m1 ∧ flB 410 m1 f) ∨ ∃ y m1, flat n t g [] x = .inr y ∧ lp f_X12_sum_s4 m = some m1 ∧ frJ u m m1 ∧ fOk n t u m1 y ∧ bl n t y.1 = y.1
  | G, 0, x, m, hG, hx, hbl, ho, hg => absurd hx.2.2.2.1 (by omega)
  | 0, g + 1, x, m, hG, hx, hbl, ho, hg => absurd hG (by omega)
  | G + 1, g + 1, x, m, hG, hx, hbl, ho, hg => by
    have h400 := ok.1
    have hx' := hx
    obtain ⟨h1, h2, h3, h4, h5, h6, h7, h8⟩ := hx'
    have hsg : ∀ c, c < 1000 → (sgI n t x.1 = nI c) = (x.1 < n ∧ t x.1 = c) := fun c hc => sgI_eq ok hc
    have sg := sign_f h1 ok h3 (by omega)
    by_cases o : opAt n t x.1 = 0
    · have ef : flat n t (g + 1) [] x = .inr x := by
        unfold flat
        rw [hbl, if_pos o, List.append_nil]
      refine Or.inr ⟨x, m, ef, lp_end ?_, frJ.rf _ _, hx, hbl⟩
      have no : ∀ c, (c = 43 ∨ c = 45) → ¬ sgI n t x.1 = nI c := fun c hcc z => by
        rw [hsg c (by omega)] at z
        unfold opAt at o
        rw [if_pos z.1, z.2] at o
        rcases hcc with q | q <;> rw [q] at o <;> exact absurd o (by decide)
      unfold f_X12_sum_s4
      rw [if_pos h5, sg, bi1_s, if_neg (show ¬ sgI n t x.1 = 43 from no 43 (by omega)), bi1_s, if_neg (show ¬ sgI n t x.1 = 45 from no 45 (by omega))]
    · obtain ⟨o1, o2, o3, o4, o5, o6, o7⟩ := opAt_ok o
      have o6 := o6 ho
      have hs1 : f_X12_sum_s4 m = f_X12_sum_j43 m (nI (opAt n t x.1)) := by
        unfold f_X12_sum_s4 f_X12_sum_j29
        rw [if_pos h5, sg]
        simp only [bi1_s]
        by_cases c1 : t x.1 = 43
        · have e : sgI n t x.1 = 43 := by rw [show (43 : Int32) = nI 43 from rfl, hsg 43 (by decide)]; exact ⟨o1, c1⟩
          rw [if_pos e, if_pos e, show opAt n t x.1 = 2 by unfold opAt; rw [if_pos o1, c1]; rfl]
          rfl
        · have e : ¬ sgI n t x.1 = 43 := by rw [show (43 : Int32) = nI 43 from rfl, hsg 43 (by decide)]; exact fun z => c1 z.2
          have c3 : t x.1 = 45 := by
            by_cases c3 : t x.1 = 45
            · exact c3
            · exfalso
              unfold opAt at o6
              rw [if_pos o1, if_neg c1, if_neg c3] at o6
              split at o6
              · omega
              · split at o6
                · omega
                · split at o6 <;> omega
          have e3 : sgI n t x.1 = 45 := by rw [show (45 : Int32) = nI 45 from rfl, hsg 45 (by decide)]; exact ⟨o1, c3⟩
          rw [if_neg e, if_neg e, if_pos e3, show opAt n t x.1 = 3 by unfold opAt; rw [if_pos o1, c3]; rfl]
          rfl
      obtain ⟨w, hw⟩ : ∃ w, opAt n t x.1 = w := ⟨_, rfl⟩
      have ef : flat n t (g + 1) [] x = sbd (val n t (x.1 + 1, x.2.1, x.2.2)) (flat n t g [(w, 0)]) := by
        rw [hw] at o ho
        conv => lhs; unfold flat
        rw [hbl, hw, if_neg o, if_pos ho, List.append_nil]
      rw [hw] at hs1
      have hz := fOk_at hx (i := x.1 + 1) (by omega)
      have f0 : frU m (wI m 1088 32 (nI (x.1 + 1))) := frU_w m (Or.inl rfl)
      unfold f_X12_sum_j43 f_X12_term at hs1
      rw [h3, sN_a1, vl_s] at hs1
      obtain ⟨m0, hm0⟩ : ∃ m0, wI m 1088 32 (nI (x.1 + 1)) = m0 := ⟨_, rfl⟩
      rw [hm0] at hs1 hz f0
      rcases jQ_ok hz (val_f hz.1 ok hz.2.1 hu hz.2.2.1 hz.2.2.2.1 hz.2.2.2.2.1 hz.2.2.2.2.2.1 hz.2.2.2.2.2.2.1 (by have := hz.2.2.2.2.2.2.2; have := hz.2.2.2.2.2.2.1; omega)) (fun y hy => val_sg hz.2.2.2.1 hy) (by decide) with ⟨f, m1, v1, v2, v3, v4⟩ | ⟨y, m1, v1, v2, v3, v4, v5⟩
      · obtain ⟨m2, b1, b2, b3⟩ := blanks_x ((f0.j.tr v3).tx h1) ok v4 (by decide) (by decide)
        rw [v2, bi1_s, b1, bi1_s, term_end b3, bi1_s, bi1_s, entry_x (flB_ne b3), bi1_s] at hs1
        exact Or.inl ⟨f, m2, by rw [ef, v1]; rfl, by rw [lp_go hs1]; exact sum_end b3, (f0.j.tr v3).tr b2.j, b3⟩
      · have q1 : 14 * (x.2.2 : Int) - 3 * (x.2.1.length : Int) + 11 ≤ 14 * (y.2.2 : Int) - 3 * (y.2.1.length : Int) := v5.1.2.2.1
        have q2 : x.1 + 1 < y.1 := v5.2.1
        have hbb := bl_le t v4.2.2.2.1
        have hbg := bl_ge n t y.1
        have e4 := fOk_at v4 (i := bl n t y.1) hbb
        have f3 : frU m1 (wI m1 1088 32 (nI (bl n t y.1))) := frU_w m1 (Or.inl rfl)
        rw [v2, bi1_s, blanks_f v4.1 ok (i := y.1) v4.2.2.1 (by have := v4.2.2.2.1; omega), bi1_s] at hs1
        obtain ⟨g0, hg0⟩ : ∃ g0, g = g0 + 1 := ⟨g - 1, by omega⟩
        have ef2 : flat n t (g + 1) [] x = flat n t g [(w, 0)] (bl n t y.1, y.2.1, y.2.2) := by
          rw [ef, v1, hg0]
          exact flat_bl.symm
        rcases term_f ok hu g [(w, 0)] (bl n t y.1, y.2.1, y.2.2) _ e4 (bl_id _ _ _) (by show n < g + bl n t y.1; omega) (by show 3 * (y.2.1.length + 1) ≤ 14 * y.2.2; omega) with ⟨f, m3, r1, r2, r3, r4⟩ | ⟨z, m3, g', r1, r2, r3, r4, r5, r6, r7, r8, r9, r10⟩
        · rw [r2, bi1_s, bi1_s, entry_x (flB_ne r4), bi1_s] at hs1
          exact Or.inl ⟨f, m3, by rw [ef2]; exact r1, by rw [lp_go hs1]; exact sum_end r4, ((f0.j.tr v3).tr f3.j).tr r3, r4⟩
        · have r10 : 3 * (z.2.1.length + 1) ≤ 14 * z.2.2 := r10
          obtain ⟨m4, e1, e2, e3⟩ := fOk_e hu r3 w r10
          rw [r1, bi1_s, bi1_s, e1, bi1_s] at hs1
          have hzn := r3.2.2.2.1
          obtain ⟨g1, hg1⟩ : ∃ g1, g' = g1 + 1 := ⟨g' - 1, by omega⟩
          have ef3 : flat n t (g + 1) [] x = flat n t g' [] (apE z [(w, 0)]) := by
            rw [ef2, r9, hg1]
            exact flat_P (by rw [r4]; exact r8)
          rw [lp_go hs1, ef3]
          rcases sumg_f ok hu G g' (apE z [(w, 0)]) m4 (by omega) e3 r4 r8 r6 with ⟨f, m5, s1, s2, s3, s4⟩ | ⟨y5, m5, s1, s2, s3, s4, s5⟩
          · exact Or.inl ⟨f, m5, s1, s2, ((((f0.j.tr v3).tr f3.j).tr r2).tr e2).tr s3, s4⟩
          · exact Or.inr ⟨y5, m5, s1, s2, ((((f0.j.tr v3).tr f3.j).tr r2).tr e2).tr s3, s4, s5⟩
theorem sum_f {n : Nat} {t : Nat → Nat} (ok : TxOk n t) {u : Nat} (hu : u < 6) {m : Mm} {x : Ps} (hz : fOk n t u m x) : (∃ f m1, smv n t x = .inl f ∧ f_X12_sum m = some m1 ∧ frJ u m m1 ∧ flB 410 m1 f) ∨ ∃ y m1, smv n t x = .inr y ∧ f_X12_sum m = some m1 ∧ frJ u m m1 ∧ fOk n t u m1 y ∧ bl n t y.1 = y.1 := by
  have h400 := ok.1
  unfold f_X12_sum f_X12_term smv
  rcases jQ_ok hz (val_f hz.1 ok hz.2.1 hu hz.2.2.1 hz.2.2.2.1 hz.2.2.2.2.1 hz.2.2.2.2.2.1 hz.2.2.2.2.2.2.1 (by have := hz.2.2.2.2.2.2.2; have := hz.2.2.2.2.2.2.1; omega)) (fun y hy => val_sg hz.2.2.2.1 hy) (by decide) with ⟨f, m1, v1, v2, v3, v4⟩ | ⟨y, m1, v1, v2, v3, v4, v5⟩
  · obtain ⟨m2, b1, b2, b3⟩ := blanks_x (v3.tx hz.1) ok v4 (by decide) (by decide)
    rw [v2, bi1_s, b1, bi1_s, term_end b3, bi1_s, bi1_s, sum_end b3, bi1_s, v1]
    exact Or.inl ⟨f, m2, rfl, rfl, v3.tr b2.j, b3⟩
  · have q2 := v5.2.1
    have hbb := bl_le t v4.2.2.2.1
    have hbg := bl_ge n t y.1
    have e4 := fOk_at v4 (i := bl n t y.1) hbb
    have f3 : frU m1 (wI m1 1088 32 (nI (bl n t y.1))) := frU_w m1 (Or.inl rfl)
    rw [v2, bi1_s, blanks_f v4.1 ok (i := y.1) v4.2.2.1 (by have := v4.2.2.2.1; omega), bi1_s, v1]
    show (∃ f m1, flat n t 400 [] (y.1, y.2.1, y.2.2) = .inl f ∧ _) ∨ ∃ y5 m1, flat n t 400 [] (y.1, y.2.1, y.2.2) = .inr y5 ∧ _
    rw [← flat_bl (g := 399)]
    rcases term_f ok hu 400 [] (bl n t y.1, y.2.1, y.2.2) _ e4 (bl_id _ _ _) (by show n < 400 + bl n t y.1; omega) (by simpa using v4.2.2.2.2.2.2.2) with ⟨f, m3, r1, r2, r3, r4⟩ | ⟨z, m3, g', r1, r2, r3, r4, r5, r6, r7, r8, r9, r10⟩
    · rw [r2, bi1_s, bi1_s, sum_end r4, bi1_s]
      exact Or.inl ⟨f, m3, r1, rfl, (v3.tr f3.j).tr r3, r4⟩
    · rw [r1, bi1_s, bi1_s, r9]
      rcases sumg_f ok hu g' g' z m3 (Nat.le_refl _) r3 r4 r8 r6 with ⟨f, m5, s1, s2, s3, s4⟩ | ⟨y5, m5, s1, s2, s3, s4, s5⟩
      · rw [s2, bi1_s]
        exact Or.inl ⟨f, m5, s1, rfl, ((v3.tr f3.j).tr r2).tr s3, s4⟩
      · rw [s2, bi1_s]
        exact Or.inr ⟨y5, m5, s1, rfl, ((v3.tr f3.j).tr r2).tr s3, s4, s5⟩
theorem sum_x {m : Mm} {u n B f : Nat} {t : Nat → Nat} (h : TxF m n t) (ok : TxOk n t) (h12 : m.1 1088 40 = 12) (hf : flB B m f) (hB : 400 ≤ B) (hB' : B ≤ 480) : jX u (B + 7) m (f_X12_sum m) f := by
  obtain ⟨m1, v2, v3, v4⟩ := value_x (u := u) h ok h12 hf hB hB'
  obtain ⟨m2, b1, b2, b3⟩ := blanks_x (v3.tx h) ok v4 (by omega) (by omega)
  unfold f_X12_sum f_X12_term
  rw [v2, bi1_s, b1, bi1_s, term_end b3, bi1_s, bi1_s, sum_end b3, bi1_s]
  exact ⟨m2, rfl, v3.tr b2.j, b3⟩
noncomputable def cmpT (mm_15 : Mm) (y1 : Int32) : Option Mm :=
  vlet (wI mm_15 1088 32 ((mm_15.1 1088 32) + (1 : Int32))) fun mm_17 =>
    if y1 = (61 : Int32) then
      f_X12_compared_j74 mm_17 y1
    else
      bi1 (f_X12_sign mm_17) fun r_20 =>
        if r_20 = (61 : Int32) then
          f_X12_compared_j75 mm_17 y1 (1 : Int32)
        else
          f_X12_compared_j74 mm_17 y1
theorem cmpT_f {m : Mm} {n : Nat} {t : Nat → Nat} (h : TxF m n t) (ok : TxOk n t) {j : Nat} (ha : m.1 1088 32 = nI j) (hj : j ≤ 490) (y1 : Int32) : ∃ s d, d ≤ 1 ∧ cmpT m y1 = (bi1 (f_X12_sum (wI m 1088 32 (nI (j + 1 + d)))) fun m5 => bi1 (f_X12_entry m5 (nI s) 0) fun m => some m) ∧ ∀ c, (c = 60 ∨ c = 61 ∨ c = 62) → y1 = nI c → j < n → t j = c → cpAt n t j = (s, 1 + d) := by
  unfold cmpT
  rw [ha, sN_a1, vl_s]
  have t1 : TxF (wI m 1088 32 (nI (j + 1))) n t := (frU_w m (Or.inl rfl)).tx h
  have a1 : (wI m 1088 32 (nI (j + 1))).1 1088 32 = nI (j + 1) := wI_at _ _ _ _
  have i0 : ∀ y, f_X12_compared_j75 (wI m 1088 32 (nI (j + 1))) y 0 = f_X12_compared_j90 (wI m 1088 32 (nI (j + 1))) y 0 0 (nI (j + 1)) := fun y => by
    unfold f_X12_compared_j75
    rw [if_pos rfl, a1]
  have i1 : ∀ y, f_X12_compared_j75 (wI m 1088 32 (nI (j + 1))) y 1 = f_X12_compared_j90 (wI m 1088 32 (nI (j + 1))) y 1 1 (nI (j + 1)) := fun y => by
    unfold f_X12_compared_j75
    rw [if_neg (show ¬ (1 : Int32) = 0 by decide), a1]
  have w0 : wI (wI m 1088 32 (nI (j + 1))) 1088 32 (nI (j + 1) + 0) = wI m 1088 32 (nI (j + 1 + 0)) := by
    rw [wI_wI, show (0 : Int32) = nI 0 from rfl, sN_ad]
  have w1 : wI (wI m 1088 32 (nI (j + 1))) 1088 32 (nI (j + 1) + 1) = wI m 1088 32 (nI (j + 1 + 1)) := by
    rw [wI_wI, sN_a1]
  have ne : ∀ c, (c = 60 ∨ c = 61 ∨ c = 62) → (nI c = (61 : Int32) ↔ c = 61) ∧ (nI c = (60 : Int32) ↔ c = 60) := fun c hc => by
    rcases hc with q | q | q <;> rw [q] <;> decide
  by_cases c : y1 = 61
  · rw [if_pos c]
    refine ⟨6, 0, by decide, ?_, fun k k1 k2 k3 k4 => ?_⟩
    · unfold f_X12_compared_j74
      rw [i0]
      unfold f_X12_compared_j90 f_X12_compared_j139
      rw [w0, vl_s]
      simp only [if_pos c]
      rfl
    · have k5 := ((ne k k1).1.1 (k2 ▸ c))
      unfold cpAt
      rw [if_pos k3, if_pos (by omega)]
  · rw [if_neg c, sign_f t1 ok a1 (by omega), bi1_s]
    by_cases d : j + 1 < n ∧ t (j + 1) = 61
    · rw [if_pos (show sgI n t (j + 1) = 61 by rw [show (61 : Int32) = nI 61 from rfl, sgI_eq ok (by decide)]; exact d), i1]
      unfold f_X12_compared_j90 f_X12_compared_j139
      rw [w1, vl_s]
      by_cases c2 : y1 = 60
      · refine ⟨5, 1, by decide, ?_, fun k k1 k2 k3 k4 => ?_⟩
        · simp only [if_neg c, if_pos c2, if_neg (show ¬ (1 : Int32) = 0 by decide)]
          rfl
        · have k5 := ((ne k k1).2.1 (k2 ▸ c2))
          unfold cpAt
          rw [if_pos k3, if_neg (by omega), if_pos (by omega), if_pos d]
      · refine ⟨7, 1, by decide, ?_, fun k k1 k2 k3 k4 => ?_⟩
        · simp only [if_neg c, if_neg c2, if_neg (show ¬ (1 : Int32) = 0 by decide)]
          rfl
        · have k5 : ¬ k = 61 := fun z => c (by rw [k2]; exact (ne k k1).1.2 z)
          have k6 : ¬ k = 60 := fun z => c2 (by rw [k2]; exact (ne k k1).2.2 z)
          unfold cpAt
          rw [if_pos k3, if_neg (by omega), if_neg (by omega), if_pos (by omega), if_pos d]
    · rw [if_neg (show ¬ sgI n t (j + 1) = 61 by rw [show (61 : Int32) = nI 61 from rfl, sgI_eq ok (by decide)]; exact d)]
      unfold f_X12_compared_j74
      rw [i0]
      unfold f_X12_compared_j90 f_X12_compared_j139
      rw [w0, vl_s]
      by_cases c2 : y1 = 60
      · refine ⟨4, 0, by decide, ?_, fun k k1 k2 k3 k4 => ?_⟩
        · simp only [if_neg c, if_pos c2, if_pos]
          rfl
        · have k5 := ((ne k k1).2.1 (k2 ▸ c2))
          unfold cpAt
          rw [if_pos k3, if_neg (by omega), if_pos (by omega), if_neg d]
      · refine ⟨8, 0, by decide, ?_, fun k k1 k2 k3 k4 => ?_⟩
        · simp only [if_neg c, if_neg c2, if_pos]
          rfl
        · have k5 : ¬ k = 61 := fun z => c (by rw [k2]; exact (ne k k1).1.2 z)
          have k6 : ¬ k = 60 := fun z => c2 (by rw [k2]; exact (ne k k1).2.2 z)
          unfold cpAt
          rw [if_pos k3, if_neg (by omega), if_neg (by omega), if_pos (by omega), if_neg d]
theorem cmpT_x {m : Mm} {u n B f : Nat} {t : Nat → Nat} (h : TxF m n t) (ok : TxOk n t) (h12 : m.1 1088 40 = 12) (hf : flB B m f) (hB : 400 ≤ B) (hB' : B ≤ 470) (y1 : Int32) : jX u (B + 9) m (cmpT m y1) f := by
  obtain ⟨j1, j2, j3, j, j4, j5⟩ := hf
  obtain ⟨s, d, hd, e, _⟩ := cmpT_f h ok j5 (by omega) y1
  have f1 : frU m (wI m 1088 32 (nI (j + 1 + d))) := frU_w m (Or.inl rfl)
  obtain ⟨m1, v2, v3, v4⟩ := sum_x (u := u) (B := B + 2) (f := f) (f1.tx h) ok (by rw [wI_pl (by decide)]; exact h12) ⟨by rw [wI_pl (by decide)]; exact j1, j2, j3, j + 1 + d, by omega, wI_at _ _ _ _⟩ (by omega) (by omega)
  rw [e, v2, bi1_s, entry_x (flB_ne v4), bi1_s]
  exact ⟨m1, rfl, f1.j.tr v3, v4.mo (by omega)⟩
theorem compared_f {n : Nat} {t : Nat → Nat} (ok : TxOk n t) {u : Nat} (hu : u < 6) {m : Mm} {x : Ps} (hz : fOk n t u m x) : jQ u 430 m (f_X12_compared m) (cmpd n t x) := by
  have h400 := ok.1
  have cT : ∀ m y, f_X12_compared_j37 m y = bi1 (f_X12_isCounted m (m.1 1088 32)) fun m2 => cmpT m2 y := fun _ _ => rfl
  unfold f_X12_compared cmpd
  rcases sum_f ok hu hz with ⟨f, m1, v1, v2, v3, v4⟩ | ⟨y, m1, v1, v2, v3, v4, v5⟩
  · rw [v2, bi1_s, v1]
    refine Or.inl ⟨f, rfl, ?_⟩
    refine jX.tr v3 ?_
    have t1 := v3.tx hz.1
    have h12 : m1.1 1088 40 = 12 := by rw [v3.2.1 40 (by decide)]; exact hz.2.1
    have nz := flB_ne v4
    have v4' := v4
    obtain ⟨j1, j2, j3, j, j4, j5⟩ := v4'
    have J : ∀ y, jX u 430 m1 (f_X12_compared_j37 m1 y) f := fun y => by
      rw [cT, (counted_x v4).1, bi1_s]
      have f2 : frJ u m1 (wI m1 1088 38 (m1.1 1088 38 + 1)) := frJ_w m1 (by omega)
      obtain ⟨m3, r1, r2, r3⟩ := cmpT_x (u := u) (f2.tx t1) ok (by rw [wI_pl (by decide)]; exact h12) (counted_x (x := 0) v4).2 (by decide) (by decide) y
      exact ⟨m3, r1, f2.tr r2, r3.mo (by decide)⟩
    rw [sign_f t1 ok j5 (by omega), bi1_s]
    by_cases c1 : sgI n t j = 60
    · rw [if_pos c1]
      exact J _
    · rw [if_neg c1]
      by_cases c2 : sgI n t j = 61
      · rw [if_pos c2]
        exact J _
      · rw [if_neg c2]
        by_cases c3 : sgI n t j = 62
        · rw [if_pos c3]
          exact J _
        · rw [if_neg c3, fails_x nz, bi1_s]
          exact ⟨m1, rfl, frJ.rf _ _, v4.mo (by decide)⟩
  · rw [v2, bi1_s, v1]
    refine jQ.tr v3 ?_
    have v4' := v4
    obtain ⟨h1, h2, h3, h4, h5, h6, h7, h8⟩ := v4'
    show jQ u 430 m1 _ (if (cpAt n t (bl n t y.1)).1 = 0 then .inl (1 + 8 * bl n t y.1) else sbd (onePart (bl n t y.1) (bl n t y.1 + (cpAt n t (bl n t y.1)).2, y.2.1, y.2.2)) fun z => sbd (smv n t z) fun w => .inr (apE w [((cpAt n t (bl n t y.1)).1, 0)]))
    rw [v5]
    obtain ⟨b, hb⟩ : ∃ b, y.1 = b := ⟨_, rfl⟩
    rw [hb] at h3 h4 ⊢
    rw [sign_f h1 ok h3 (by omega), bi1_s]
    have hsg : ∀ c, c < 1000 → (sgI n t b = nI c) = (b < n ∧ t b = c) := fun c hc => sgI_eq ok hc
    have J : ∀ c, (c = 60 ∨ c = 61 ∨ c = 62) → b < n → t b = c → jQ u 430 m1 (f_X12_compared_j37 m1 (nI c)) (if (cpAt n t b).1 = 0 then .inl (1 + 8 * b) else sbd (onePart b (b + (cpAt n t b).2, y.2.1, y.2.2)) fun z => sbd (smv n t z) fun w => .inr (apE w [((cpAt n t b).1, 0)])) := fun c hc hbn htb => by
      have cp0 : ¬ (cpAt n t b).1 = 0 := by
        unfold cpAt
        rw [if_pos hbn]
        rcases hc with q | q | q
        · rw [if_neg (by omega), if_pos (by omega)]
          split <;> decide
        · rw [if_pos (by omega)]
          decide
        · rw [if_neg (by omega), if_neg (by omega), if_pos (by omega)]
          split <;> decide
      obtain ⟨k1, k2, k3, k4, k5, k6⟩ := cpAt_ok cp0
      rw [if_neg cp0, cT, h3]
      rcases counted_f (B := 400) h6 h3 (by omega) (b := b) (by omega) h5 h7 with ⟨f, g1, m2, g2, g3, g4⟩ | ⟨m2, z, g1, g2, g3, g4, g5, g6⟩
      · rw [g2, bi1_s, onePart_l g1 (b + (cpAt n t b).2, y.2.1, y.2.2) rfl]
        obtain ⟨m3, r1, r2, r3⟩ := cmpT_x (u := u) (g3.tx h1) ok (by rw [g3.2.1 40 (by decide)]; exact h2) g4 (by decide) (by decide) (nI c)
        exact Or.inl ⟨f, rfl, m3, r1, g3.tr r2, r3.mo (by decide)⟩
      · obtain ⟨q1, q2⟩ := onePart_r g1
        have q1 : y.2.2 < 60 := q1
        subst q2
        have g4 : m2.1 1088 32 = nI b := g4
        rw [g2, bi1_s, show onePart b (b + (cpAt n t b).2, y.2.1, y.2.2) = .inr (b + (cpAt n t b).2, y.2.1, y.2.2 + 1) by unfold onePart; rw [if_pos q1]]
        obtain ⟨s, d, hd, e, e2⟩ := cmpT_f (g3.tx h1) ok g4 (by omega) (nI c)
        have e2 := e2 c hc rfl hbn htb
        rw [e2] at k6 k2 k3 ⊢
        rw [e]
        have k6 : b + (1 + d) ≤ n := k6
        have o2 : fOk n t u m2 (b, y.2.1, y.2.2 + 1) := ⟨g3.tx h1, by rw [g3.2.1 40 (by decide)]; exact h2, g4, h4, g5, g6, by show y.2.2 + 1 ≤ 60; omega, by show 3 * y.2.1.length ≤ 14 * (y.2.2 + 1); omega⟩
        have o3 := fOk_at o2 (i := b + (1 + d)) k6
        rw [show b + 1 + d = b + (1 + d) by omega]
        have f3 : frU m2 (wI m2 1088 32 (nI (b + (1 + d)))) := frU_w m2 (Or.inl rfl)
        refine jQ.tr (g3.tr f3.j) ?_
        show jQ u 430 (wI m2 1088 32 (nI (b + (1 + d)))) _ (sbd (smv n t (b + (1 + d), y.2.1, y.2.2 + 1)) fun w => .inr (apE w [(s, 0)]))
        rcases sum_f ok hu o3 with ⟨f, m4, r1, r2, r3, r4⟩ | ⟨w, m4, r1, r2, r3, r4, r5⟩
        · rw [r2, bi1_s, entry_x (flB_ne r4), bi1_s, r1]
          exact Or.inl ⟨f, rfl, m4, rfl, r3, r4.mo (by decide)⟩
        · have sg := (smv_sg (by exact k6) r1).1.2.2.1
          have sg : 14 * ((y.2.2 + 1 : Nat) : Int) - 3 * (y.2.1.length : Int) + 11 ≤ 14 * (w.2.2 : Int) - 3 * (w.2.1.length : Int) := sg
          obtain ⟨m5, e1, e3, e4⟩ := fOk_e hu r4 s (by omega)
          rw [r2, bi1_s, e1, bi1_s, r1]
          exact Or.inr ⟨m5, _, rfl, rfl, r3.tr e3, e4.2.2.1, e4.2.2.2.2.1, e4.2.2.2.2.2.1⟩
    by_cases c1 : sgI n t b = 60
    · rw [if_pos c1, c1]
      have := (hsg 60 (by decide)).mp c1
      exact J 60 (by omega) this.1 this.2
    · rw [if_neg c1]
      by_cases c2 : sgI n t b = 61
      · rw [if_pos c2, c2]
        have := (hsg 61 (by decide)).mp c2
        exact J 61 (by omega) this.1 this.2
      · rw [if_neg c2]
        by_cases c3 : sgI n t b = 62
        · rw [if_pos c3, c3]
          have := (hsg 62 (by decide)).mp c3
          exact J 62 (by omega) this.1 this.2
        · have cp0 : (cpAt n t b).1 = 0 := by
            unfold cpAt
            by_cases q : b < n
            · rw [if_pos q, if_neg (fun z => c2 ((hsg 61 (by decide)).mpr ⟨q, z⟩)), if_neg (fun z => c1 ((hsg 60 (by decide)).mpr ⟨q, z⟩)), if_neg (fun z => c3 ((hsg 62 (by decide)).mpr ⟨q, z⟩))]
            · rw [if_neg q]
          rw [if_neg c3, if_pos cp0, h3, show f_X12_fails m1 0 (nI b) = _ from fails_0 b 0 h5, bi1_s]
          exact Or.inl ⟨_, rfl, _, rfl, frJ_w _ (by omega), wI_at _ _ _ _, by omega, by omega, b, by omega, by rw [wI_pl (by decide)]; exact h3⟩
