/-! PHASE 2: rule, how entries grow -/
theorem opAt_ok {n : Nat} {t : Nat → Nat} {b : Nat} (h : ¬ opAt n t b = 0) : b < n ∧ 2 ≤ opAt n t b ∧ opAt n t b ≤ 15 ∧ ¬ opAt n t b = 9 ∧ ¬ opAt n t b = 12 ∧ (opAt n t b < 4 → opAt n t b = 2 ∨ opAt n t b = 3) ∧ (¬ opAt n t b < 4 → opAt n t b = 13 ∨ opAt n t b = 14 ∨ opAt n t b = 15) := by
  unfold opAt at h ⊢
  by_cases c : b < n
  · rw [if_pos c] at h ⊢
    refine ⟨c, ?_⟩
    split
    · decide
    · split
      · decide
      · split
        · decide
        · split
          · decide
          · split
            · decide
            · rename_i a1 a2 a3 a4 a5
              rw [if_neg a1, if_neg a2, if_neg a3, if_neg a4, if_neg a5] at h
              exact absurd rfl h
  · rw [if_neg c] at h
    exact absurd rfl h
theorem cpAt_ok {n : Nat} {t : Nat → Nat} {b : Nat} (h : ¬ (cpAt n t b).1 = 0) : b < n ∧ 4 ≤ (cpAt n t b).1 ∧ (cpAt n t b).1 ≤ 8 ∧ 1 ≤ (cpAt n t b).2 ∧ (cpAt n t b).2 ≤ 2 ∧ b + (cpAt n t b).2 ≤ n := by
  unfold cpAt at h ⊢
  by_cases c : b < n
  · rw [if_pos c] at h ⊢
    refine ⟨c, ?_⟩
    by_cases c1 : t b = 61
    · rw [if_pos c1]
      exact ⟨by decide, by decide, by decide, by decide, by show b + 1 ≤ n; omega⟩
    · rw [if_neg c1] at h ⊢
      by_cases c2 : t b = 60
      · rw [if_pos c2]
        by_cases d : b + 1 < n ∧ t (b + 1) = 61
        · rw [if_pos d]
          exact ⟨by decide, by decide, by decide, by decide, by show b + 2 ≤ n; omega⟩
        · rw [if_neg d]
          exact ⟨by decide, by decide, by decide, by decide, by show b + 1 ≤ n; omega⟩
      · rw [if_neg c2] at h ⊢
        by_cases c3 : t b = 62
        · rw [if_pos c3]
          by_cases d : b + 1 < n ∧ t (b + 1) = 61
          · rw [if_pos d]
            exact ⟨by decide, by decide, by decide, by decide, by show b + 2 ≤ n; omega⟩
          · rw [if_neg d]
            exact ⟨by decide, by decide, by decide, by decide, by show b + 1 ≤ n; omega⟩
        · rw [if_neg c3] at h
          exact absurd rfl h
  · rw [if_neg c] at h
    exact absurd rfl h
/-- nothing, or one sign of two values kept back -/
def Pok (P : Es) : Prop := P = [] ∨ ∃ s, P = [(s, 0)] ∧ (s = 2 ∨ s = 3 ∨ s = 11)
theorem sgm_P {x : Ps} {i : Nat} {P : Es} (h : Pok P) : sgm x (i, x.2.1 ++ P, x.2.2) (1 + P.length) 1 (-3 * (P.length : Int)) := by
  rcases h with h | ⟨s, h, hs⟩
  · rw [h, List.append_nil]
    exact sgm_0
  · rw [h]
    exact sgm_e (by omega) (by omega) (by omega) (by omega)
theorem flat_sg {n : Nat} {t : Nat → Nat} : ∀ (g : Nat) (P : Es) (x y : Ps), Pok P → x.1 ≤ n → x.2.2 ≤ 60 → flat n t g P x = .inr y → sgm x y (1 + P.length) 1 (-3 * (P.length : Int)) ∧ x.1 ≤ y.1 ∧ y.1 ≤ n ∧ y.2.2 ≤ 60
  | 0, P, x, y, hP, hi, hp, h => by
    have h : (Sum.inr (apE x P) : Nat ⊕ Ps) = .inr y := h
    rw [← Sum.inr.inj h]
    exact ⟨sgm_P hP, Nat.le_refl _, hi, hp⟩
  | g + 1, P, x, y, hP, hi, hp, h => by
    have hb := bl_ge n t x.1
    have hb2 := bl_le t hi
    unfold flat at h
    by_cases c : opAt n t (bl n t x.1) = 0
    · rw [if_pos c] at h
      rw [← Sum.inr.inj h]
      exact ⟨sgm_P hP, hb, hb2, hp⟩
    · rw [if_neg c] at h
      obtain ⟨o1, o2, o3, o4, o5, o6, o7⟩ := opAt_ok c
      by_cases d : opAt n t (bl n t x.1) < 4
      · rw [if_pos d] at h
        obtain ⟨z, h1, h2⟩ := sbd_r h
        obtain ⟨v1, v2, v3, v4⟩ := val_sg (by show bl n t x.1 + 1 ≤ n; omega) h1
        obtain ⟨f1, f2, f3, f4⟩ := flat_sg g _ z y (Or.inr ⟨_, rfl, by have := o6 d; omega⟩) v3 v4 h2
        have v2 : bl n t x.1 + 1 < z.1 := v2
        refine ⟨((sgm_P (i := bl n t x.1 + 1) hP).tr (v1.up 1) (Int.le_refl _)).tr f1 ?_, by omega, f3, f4⟩
        simp
        omega
      · rw [if_neg d] at h
        obtain ⟨z, h1, h2⟩ := sbd_r h
        obtain ⟨v1, v2, v3, v4⟩ := val_sg (by show bl n t x.1 + 1 ≤ n; omega) h1
        obtain ⟨f1, f2, f3, f4⟩ := flat_sg g _ (apE z [(opAt n t (bl n t x.1), 0)]) y hP v3 v4 h2
        have v2 : bl n t x.1 + 1 < z.1 := v2
        have f2 : z.1 ≤ y.1 := f2
        have v1' : sgm x z (1 + P.length) (1 + P.length + 1) 11 := sgm.up (1 + P.length) v1
        have e1 : sgm z (apE z [(opAt n t (bl n t x.1), 0)]) 2 1 (-3) := sgm_e o2 o3 o4 o5
        have e2 : sgm z (apE z [(opAt n t (bl n t x.1), 0)]) (1 + P.length + 1) (1 + P.length) (-3) := by
          have := sgm.up P.length e1
          rw [show 1 + P.length + 1 = P.length + 2 by omega, show 1 + P.length = P.length + 1 by omega]
          exact this
        exact ⟨(v1'.tr e2 (Int.le_refl _)).tr f1 (by omega), by omega, f3, f4⟩
theorem smv_sg {n : Nat} {t : Nat → Nat} {x y : Ps} (hi : x.1 ≤ n) (h : smv n t x = .inr y) : rdg n 11 x y := by
  obtain ⟨z, h1, h2⟩ := sbd_r h
  obtain ⟨v1, v2, v3, v4⟩ := val_sg hi h1
  obtain ⟨f1, f2, f3, f4⟩ := flat_sg 400 [] z y (Or.inl rfl) v3 v4 h2
  exact ⟨v1.tr f1 (by simp), by omega, f3, f4⟩
theorem cmpd_sg {n : Nat} {t : Nat → Nat} {x y : Ps} (hi : x.1 ≤ n) (h : cmpd n t x = .inr y) : rdg n 33 x y := by
  obtain ⟨z, h1, h2⟩ := sbd_r h
  obtain ⟨v1, v2, v3, v4⟩ := smv_sg hi h1
  have hb := bl_ge n t z.1
  by_cases c : (cpAt n t (bl n t z.1)).1 = 0
  · rw [if_pos c] at h2
    exact absurd h2 (by intro z; cases z)
  · rw [if_neg c] at h2
    obtain ⟨c1, c2, c3, c4, c5, c6⟩ := cpAt_ok c
    obtain ⟨w, h3, h4⟩ := sbd_r h2
    obtain ⟨h5, h6⟩ := onePart_r h3
    have h5 : z.2.2 < 60 := h5
    have h6 : w = (bl n t z.1 + (cpAt n t (bl n t z.1)).2, z.2.1, z.2.2 + 1) := h6
    obtain ⟨w2, h7, h8⟩ := sbd_r h4
    obtain ⟨u1, u2, u3, u4⟩ := smv_sg (by rw [h6]; exact c6) h7
    have u2 : w.1 < w2.1 := u2
    rw [h6] at u2 u1
    have u2 : bl n t z.1 + (cpAt n t (bl n t z.1)).2 < w2.1 := u2
    have h8 : (Sum.inr (apE w2 [((cpAt n t (bl n t z.1)).1, 0)]) : Nat ⊕ Ps) = .inr y := h8
    rw [← Sum.inr.inj h8]
    refine ⟨((v1.tr (sgm_p (i := bl n t z.1 + (cpAt n t (bl n t z.1)).2)) (Int.le_refl _)).tr (u1.up 1) (Int.le_refl _)).tr (sgm_e (by omega) (by omega) (by omega) (by omega)) (by decide), by show x.1 < w2.1; omega, u3, u4⟩
theorem tloop_sg {n : Nat} {t : Nat → Nat} {F : Ps → Nat ⊕ Ps} {c : Int} (hc : 3 ≤ c) (hF : ∀ x y, x.1 ≤ n → F x = .inr y → rdg n c x y) : ∀ (g : Nat) (P : Es) (x y : Ps), Pok P → x.1 ≤ n → x.2.2 ≤ 60 → tloop n t F g P x = .inr y → sgm x y (1 + P.length) 1 (-3 * (P.length : Int)) ∧ x.1 ≤ y.1 ∧ y.1 ≤ n ∧ y.2.2 ≤ 60
  | 0, P, x, y, hP, hi, hp, h => by
    have h : (Sum.inr (apE x P) : Nat ⊕ Ps) = .inr y := h
    rw [← Sum.inr.inj h]
    exact ⟨sgm_P hP, Nat.le_refl _, hi, hp⟩
  | g + 1, P, x, y, hP, hi, hp, h => by
    have hb := bl_ge n t x.1
    have hb2 := bl_le t hi
    have hl := (lte_ok n t (bl n t x.1)).2.1 hb2
    unfold tloop at h
    by_cases d : ws n t (bl n t x.1) 5 = true
    · rw [if_pos d] at h
      have dl : lte n t (bl n t x.1) = bl n t x.1 + 3 := ws_lte d
      obtain ⟨z, h1, h2⟩ := sbd_r h
      obtain ⟨v1, v2, v3, v4⟩ := hF (bl n t x.1 + 3, x.2.1, x.2.2) z (by show bl n t x.1 + 3 ≤ n; omega) h1
      obtain ⟨f1, f2, f3, f4⟩ := tloop_sg hc hF g P (apE z [(10, 0)]) y hP v3 v4 h2
      have v2 : bl n t x.1 + 3 < z.1 := v2
      have f2 : z.1 ≤ y.1 := f2
      have v1' : sgm x z (1 + P.length) (1 + P.length + 1) c := sgm.up (1 + P.length) v1
      have e1 : sgm z (apE z [(10, 0)]) 2 1 (-3) := sgm_e (by decide) (by decide) (by decide) (by decide)
      have e2 : sgm z (apE z [(10, 0)]) (1 + P.length + 1) (1 + P.length) (-3) := by
        have := sgm.up P.length e1
        rw [show 1 + P.length + 1 = P.length + 2 by omega, show 1 + P.length = P.length + 1 by omega]
        exact this
      exact ⟨(v1'.tr e2 (Int.le_refl _)).tr f1 (by omega), by omega, f3, f4⟩
    · rw [if_neg d] at h
      by_cases d2 : ws n t (bl n t x.1) 6 = true
      · rw [if_pos d2] at h
        have dl : lte n t (bl n t x.1) = bl n t x.1 + 2 := ws_lte d2
        obtain ⟨z, h1, h2⟩ := sbd_r h
        obtain ⟨v1, v2, v3, v4⟩ := hF (bl n t x.1 + 2, x.2.1 ++ P, x.2.2) z (by show bl n t x.1 + 2 ≤ n; omega) h1
        obtain ⟨f1, f2, f3, f4⟩ := tloop_sg hc hF g [(11, 0)] z y (Or.inr ⟨11, rfl, by decide⟩) v3 v4 h2
        have v2 : bl n t x.1 + 2 < z.1 := v2
        refine ⟨((sgm_P (i := bl n t x.1 + 2) hP).tr (v1.up 1) (Int.le_refl _)).tr f1 ?_, by omega, f3, f4⟩
        simp
        omega
      · rw [if_neg d2] at h
        rw [← Sum.inr.inj h]
        exact ⟨sgm_P hP, hb, hb2, hp⟩
theorem tst_sg {n : Nat} {t : Nat → Nat} {F : Ps → Nat ⊕ Ps} {c : Int} (hc : 3 ≤ c) (hF : ∀ x y, x.1 ≤ n → F x = .inr y → rdg n c x y) {x y : Ps} (hi : x.1 ≤ n) (h : tst n t F x = .inr y) : rdg n c x y := by
  obtain ⟨z, h1, h2⟩ := sbd_r h
  obtain ⟨v1, v2, v3, v4⟩ := hF x z hi h1
  obtain ⟨f1, f2, f3, f4⟩ := tloop_sg hc hF 400 [] z y (Or.inl rfl) v3 v4 h2
  exact ⟨v1.tr f1 (by simp), by omega, f3, f4⟩
theorem fct_sg {n : Nat} {t : Nat → Nat} : ∀ (r : Nat), r ≤ 10 → ∀ (x y : Ps), x.1 ≤ n → fct n t r x = .inr y → rdg n (33 - 3 * (r : Int)) x y
  | 0, hr, x, y, hi, h => by
    have hb := bl_ge n t x.1
    have hb2 := bl_le t hi
    unfold fct at h
    split at h
    · exact absurd h (by intro z; cases z)
    · obtain ⟨a1, a2, a3, a4⟩ := cmpd_sg (by exact hb2) h
      have a2 : bl n t x.1 < y.1 := a2
      exact ⟨a1, by omega, a3, a4⟩
  | r + 1, hr, x, y, hi, h => by
    have hb := bl_ge n t x.1
    have hb2 := bl_le t hi
    have hl := (lte_ok n t (bl n t x.1)).2.1 hb2
    unfold fct at h
    by_cases d : ws n t (bl n t x.1) 4 = true
    · rw [if_pos d] at h
      have dl : lte n t (bl n t x.1) = bl n t x.1 + 3 := ws_lte d
      obtain ⟨z, h1, h2⟩ := sbd_r h
      obtain ⟨a1, a2, a3, a4⟩ := fct_sg r (by omega) _ z (by show bl n t x.1 + 3 ≤ n; omega) h1
      have a2 : bl n t x.1 + 3 < z.1 := a2
      have h2 : (Sum.inr (apE z [(9, 0)]) : Nat ⊕ Ps) = .inr y := h2
      rw [← Sum.inr.inj h2]
      exact ⟨sgm.tr (x := x) a1 sgm_9 (by omega), by show x.1 < z.1; omega, a3, a4⟩
    · rw [if_neg d] at h
      by_cases d2 : bl n t x.1 < n ∧ t (bl n t x.1) = 91
      · rw [if_pos d2] at h
        obtain ⟨z, h1, h2⟩ := sbd_r h
        obtain ⟨a1, a2, a3, a4⟩ := tst_sg (c := 33 - 3 * (r : Int)) (by omega) (fun x y => fct_sg r (by omega) x y) (by show bl n t x.1 + 1 ≤ n; omega) h1
        have a2 : bl n t x.1 + 1 < z.1 := a2
        have hz := bl_ge n t z.1
        by_cases d3 : bl n t z.1 < n ∧ t (bl n t z.1) = 93
        · rw [if_pos d3] at h2
          rw [← Sum.inr.inj h2]
          exact ⟨sgm.tr (x := x) a1 sgm_0 (by omega), by show x.1 < bl n t z.1 + 1; omega, by show bl n t z.1 + 1 ≤ n; omega, a4⟩
        · rw [if_neg d3] at h2
          exact absurd h2 (by intro z; cases z)
      · rw [if_neg d2] at h
        obtain ⟨a1, a2, a3, a4⟩ := cmpd_sg (by exact hb2) h
        have a2 : bl n t x.1 < y.1 := a2
        exact ⟨sgm.tr (x := x) a1 (sgm_0 (x := y) (i := y.1)) (by omega), by omega, a3, a4⟩
