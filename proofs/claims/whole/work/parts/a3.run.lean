/-! PHASE 2: run, what a rule wants -/
theorem lgE (x y : Int64) : lg_cmp x y = 0 ↔ x = y := by
  unfold lg_cmp
  by_cases h : x > y
  · rw [if_pos h]
    refine ⟨fun z => absurd z (by decide), fun z => ?_⟩
    rw [z] at h
    exact absurd h (by rw [gt_iff_lt, Int64.lt_iff_toInt_lt]; omega)
  · rw [if_neg h]
    by_cases h2 : x = y
    · rw [if_pos h2]
      exact ⟨fun _ => h2, fun _ => rfl⟩
    · rw [if_neg h2]
      exact ⟨fun z => absurd z (by decide), fun z => absurd z h2⟩
theorem ans_f {u : Nat} (hu : u < 6) {W : Nat → Int64} {sF vF : Nat → Nat} {len : Nat} (hlen : len ≤ 300) {m0 : Mm} (h0 : ∀ k, k < len → m0.1 1120 (300 * u + k) = nI (sF k) ∧ m0.1 1121 (300 * u + k) = nI (vF k)) (hg : ∀ k, k < len → gdE (sF k) (vF k)) : ∀ (c i : Nat) (st : List Int64) (m : Mm) (h' : Nat), i + c ≤ len → m.1 = m0.1 → (∀ w, w < 12 → m.2 1127 w = W w) → stkL (m.2 1128) st → st.length ≤ 60 → hOf ((List.range c).map (fun k => nI (sF (i + k)))) st.length = some h' → ∃ m1, lp (f_X12_answer_s6 (nI u) (nI (i + c))) (nI st.length, nI i, m) = some m1 ∧ m1.1 = m0.1 ∧ m1.2 1127 = m.2 1127 ∧ stkL (m1.2 1128) (ev W sF vF c i st) ∧ (ev W sF vF c i st).length = h'
  | 0, i, st, m, h', hi, hm, hw, hs, hl, hh => by
    refine ⟨m, lp_end ?_, hm, rfl, hs, Option.some.inj hh⟩
    unfold f_X12_answer_s6
    exact if_pos (by rw [sN_le (by omega) (by omega)]; omega)
  | c + 1, i, st, m, h', hi, hm, hw, hs, hl, hh => by
    have g := hg i (by omega)
    rw [show (List.range (c + 1)).map (fun k => nI (sF (i + k))) = _ from rngS (fun z => nI (sF z)) c i] at hh
    have hy : ¬ nI (i + (c + 1)) ≤ nI i := by
      rw [sN_le (by omega) (by omega)]
      omega
    have e3 : (300 : Int32) * nI u + nI i = nI (300 * u + i) := by
      rw [show (300 : Int32) = nI 300 from rfl, show nI 300 * nI u = nI (300 * u) from (Int32.ofNat_mul _ _).symm, sN_ad]
    have gd := gd_ok (show 300 * u + i < 1800 by omega) (by decide)
    have gd' := gd
    rw [cl_ok (by omega)] at gd'
    have pre : f_X12_answer_s6 (nI u) (nI (i + (c + 1))) (nI st.length, nI i, m) = if nI (sF i) = 0 then f_X12_answer_j53 m (nI u) (nI (i + (c + 1))) (nI st.length) (nI i) (nI (sF i)) (nI (vF i)) else if nI (sF i) = 1 then f_X12_answer_j53 m (nI u) (nI (i + (c + 1))) (nI st.length) (nI i) (nI (sF i)) (nI (vF i)) else if nI (sF i) = 9 then (if (nI st.length - (1 : Int32)) < 0 ∨ 300 ≤ (nI st.length - (1 : Int32)).toNatClampNeg then none else if (nI st.length - (1 : Int32)) < 0 ∨ 300 ≤ (nI st.length - (1 : Int32)).toNatClampNeg then none else vlet (wL m 1128 (nI st.length - (1 : Int32)).toNatClampNeg ((1 : Int64) - (m.2 1128 (nI st.length - (1 : Int32)).toNatClampNeg))) fun mm_22 => some (.inl (nI st.length, (nI i + 1), mm_22))) else (if ((nI st.length + (-1)) - (1 : Int32)) < 0 ∨ 300 ≤ ((nI st.length + (-1)) - (1 : Int32)).toNatClampNeg then none else if (nI st.length + (-1)) < 0 ∨ 300 ≤ (nI st.length + (-1)).toNatClampNeg then none else bi1 (f_X12_both m (nI (sF i)) (m.2 1128 ((nI st.length + (-1)) - (1 : Int32)).toNatClampNeg) (m.2 1128 (nI st.length + (-1)).toNatClampNeg)) fun r_18 => if ((nI st.length + (-1)) - (1 : Int32)) < 0 ∨ 300 ≤ ((nI st.length + (-1)) - (1 : Int32)).toNatClampNeg then none else vlet (wL m 1128 ((nI st.length + (-1)) - (1 : Int32)).toNatClampNeg r_18) fun mm_19 => some (.inl ((nI st.length + (-1)), (nI i + 1), mm_19))) := by
      unfold f_X12_answer_s6
      show (if nI (i + (c + 1)) ≤ nI i then _ else _) = _
      rw [if_neg hy, e3, if_neg gd, cl_ok (by omega), hm, (h0 i (by omega)).1, vl_s, if_neg gd', (h0 i (by omega)).2, vl_s]
    have nx : ∀ (st' : List Int64) (m' : Mm) (h : Nat), ev W sF vF (c + 1) i st = ev W sF vF c (i + 1) st' → st'.length = h → f_X12_answer_s6 (nI u) (nI (i + (c + 1))) (nI st.length, nI i, m) = some (.inl (nI h, nI i + 1, m')) → m'.1 = m.1 → m'.2 1127 = m.2 1127 → stkL (m'.2 1128) st' → h ≤ 60 → hOf ((List.range c).map (fun k => nI (sF (i + 1 + k)))) h = some h' → ∃ m1, lp (f_X12_answer_s6 (nI u) (nI (i + (c + 1)))) (nI st.length, nI i, m) = some m1 ∧ m1.1 = m0.1 ∧ m1.2 1127 = m.2 1127 ∧ stkL (m1.2 1128) (ev W sF vF (c + 1) i st) ∧ (ev W sF vF (c + 1) i st).length = h' := fun st' m' h e1 e2 e3 e4 e4' e5 e6 e7 => by
      rw [lp_go e3, e1, ← e2, sN_a1]
      obtain ⟨m1, r1, r2, r3, r4⟩ := ans_f (W := W) hu hlen h0 hg c (i + 1) st' m' h' (by omega) (e4.trans hm) (fun w hw' => by rw [e4']; exact hw w hw') e5 (by omega) (by rw [e2]; exact e7)
      rw [show i + 1 + c = i + (c + 1) by omega] at r1
      exact ⟨m1, r1, r2, r3.trans e4', r4⟩
    have s15 := g.1
    rcases hOf_cons g hh with ⟨q1, q2, q3⟩ | ⟨q1, q2, q3⟩ | ⟨q1, q2, q3⟩
    · have hw' : ∀ x : Int64, f_X12_answer_s6 (nI u) (nI (i + (c + 1))) (nI st.length, nI i, m) = some (.inl (nI (st.length + 1), nI i + 1, wL m 1128 st.length x)) → ev W sF vF (c + 1) i st = ev W sF vF c (i + 1) (x :: st) → ∃ m1, lp (f_X12_answer_s6 (nI u) (nI (i + (c + 1)))) (nI st.length, nI i, m) = some m1 ∧ m1.1 = m0.1 ∧ m1.2 1127 = m.2 1127 ∧ stkL (m1.2 1128) (ev W sF vF (c + 1) i st) ∧ (ev W sF vF (c + 1) i st).length = h' := fun x e1 e2 => nx (x :: st) _ (st.length + 1) e2 rfl e1 rfl (wL_ne (by decide)) (stkL_pu hs (wL_at _ _ _ _) (fun k hk => wL_pl (by omega))) (by omega) q3
      rcases (show sF i = 0 ∨ sF i = 1 by omega) with s0 | s1
      · refine hw' (nI (vF i)).toInt64 ?_ (by show ev W sF vF c (i + 1) (eS W (sF i) (vF i) st) = _; unfold eS; rw [if_pos s0])
        rw [pre, if_pos (show nI (sF i) = 0 by rw [s0]; rfl)]
        unfold f_X12_answer_j53 f_X12_answer_j77
        rw [if_pos (show nI (sF i) = 0 by rw [s0]; rfl), if_neg (gd_ok (show st.length < 300 by omega) (by decide)), cl_ok (by omega), vl_s, sN_a1]
      · refine hw' (W (vF i)) ?_ (by show ev W sF vF c (i + 1) (eS W (sF i) (vF i) st) = _; unfold eS; rw [if_neg (by omega), if_pos s1])
        rw [pre, if_neg (show ¬ nI (sF i) = 0 by rw [s1]; decide), if_pos (show nI (sF i) = 1 by rw [s1]; rfl)]
        unfold f_X12_answer_j53 f_X12_answer_j77
        have gv := g.2.2.2 s1
        rw [if_neg (show ¬ nI (sF i) = 0 by rw [s1]; decide), if_neg (gd_ok gv (by decide)), if_neg (gd_ok (show st.length < 300 by omega) (by decide)), cl_ok (by omega), cl_ok (by omega), vl_s, hw _ gv, sN_a1]
    · obtain ⟨x, r, hst⟩ : ∃ x r, st = x :: r := by
        cases st with
        | nil => exact absurd q2 (by decide)
        | cons x r => exact ⟨x, r, rfl⟩
      subst hst
      have ll : (x :: r).length = r.length + 1 := rfl
      rw [ll] at hl q3
      refine nx ((1 - x) :: r) (wL m 1128 r.length (1 - x)) (r.length + 1) (by show ev W sF vF c (i + 1) (eS W (sF i) (vF i) (x :: r)) = _; unfold eS; rw [if_neg (by omega), if_neg (by omega), if_pos q1]) rfl ?_ rfl (wL_ne (by decide)) (stkL_pu (stkL_tl hs) (wL_at _ _ _ _) (fun k hk => wL_pl (by omega))) (by omega) q3
      have gd2 := gd_ok (show r.length < 300 by omega) (by decide)
      rw [pre, if_neg (show ¬ nI (sF i) = 0 by rw [q1]; decide), if_neg (show ¬ nI (sF i) = 1 by rw [q1]; decide), if_pos (show nI (sF i) = 9 by rw [q1]; rfl), ll, nI_s1, if_neg gd2, if_neg gd2, cl_ok (by omega), vl_s, stkL_top hs]
    · obtain ⟨y, x, r, hst⟩ : ∃ y x r, st = y :: x :: r := by
        cases st with
        | nil => exact absurd q2 (by decide)
        | cons y st =>
          cases st with
          | nil => exact absurd q2 (by show ¬ 2 ≤ 1; decide)
          | cons x r => exact ⟨y, x, r, rfl⟩
      subst hst
      have ll : (y :: x :: r).length = r.length + 2 := rfl
      rw [ll] at hl q3
      obtain ⟨j1, j2⟩ := jn_ok q1 x y
      have sne : ∀ j, j < 100 → ¬ sF i = j → ¬ nI (sF i) = nI j := fun j hj hn z => hn (by rw [sN_eq (by omega) (by omega)] at z; exact z)
      refine nx (jn (sF i) x y :: r) (wL m 1128 r.length (jn (sF i) x y)) (r.length + 1) (by show ev W sF vF c (i + 1) (eS W (sF i) (vF i) (y :: x :: r)) = _; unfold eS; rw [if_neg (by have := q1.1; omega), if_neg (by have := q1.1; omega), if_neg q1.2.2.1]) rfl ?_ rfl (wL_ne (by decide)) (stkL_pu (stkL_tl (stkL_tl hs)) (wL_at _ _ _ _) (fun k hk => wL_pl (by omega))) (by omega) q3
      have gd2 := gd_ok (show r.length < 300 by omega) (by decide)
      have gd1 := gd_ok (show r.length + 1 < 300 by omega) (by decide)
      have gd3 := gd2
      rw [cl_ok (by omega)] at gd3
      rw [pre, if_neg (show ¬ nI (sF i) = 0 from sne 0 (by decide) (by have := q1.1; omega)), if_neg (show ¬ nI (sF i) = 1 from sne 1 (by decide) (by have := q1.1; omega)), if_neg (show ¬ nI (sF i) = 9 from sne 9 (by decide) q1.2.2.1), ll, nI_m1, show nI (r.length + 2) - 1 = nI (r.length + 1) from nI_s1 (r.length + 1), nI_s1, if_neg gd2, if_neg gd1, cl_ok (by omega), cl_ok (by omega), stkL_top (stkL_tl hs), show m.2 1128 (r.length + 1) = y from stkL_top hs, j2, bi1_s, if_neg gd3, vl_s]
/-! which values are 0 or 1 -/
def oB : List Bool → List Int64 → Prop
  | [], [] => True
  | b :: fl, x :: st => (b = true → x = 0 ∨ x = 1) ∧ oB fl st
  | _, _ => False
theorem oB_2 {b : Bool} {fl : List Bool} {x : Int64} {st : List Int64} (h : oB (b :: fl) (x :: st)) : (b = true → x = 0 ∨ x = 1) ∧ oB fl st := h
theorem jn_b {s : Nat} (h : 4 ≤ s ∧ s ≤ 8) (x y : Int64) : jn s x y = 0 ∨ jn s x y = 1 := by
  have I : ∀ (p : Prop) [Decidable p], (if p then some (0 : Int64) else some 1).getD 0 = 0 ∨ (if p then some (0 : Int64) else some 1).getD 0 = 1 := fun p _ => by
    split
    · exact Or.inl rfl
    · exact Or.inr rfl
  have I' : ∀ (p : Prop) [Decidable p], (if p then some (1 : Int64) else some 0).getD 0 = 0 ∨ (if p then some (1 : Int64) else some 0).getD 0 = 1 := fun p _ => by
    split
    · exact Or.inr rfl
    · exact Or.inl rfl
  unfold jn
  rcases (show s = 4 ∨ s = 5 ∨ s = 6 ∨ s = 7 ∨ s = 8 by omega) with q | q | q | q | q <;> subst q
  · exact I (0 ≤ lg_cmp x y)
  · exact I (0 < lg_cmp x y)
  · exact I' (lg_cmp x y = 0)
  · exact I (lg_cmp x y < 0)
  · exact I (lg_cmp x y ≤ 0)
theorem oB_s {W : Nat → Int64} {s v : Nat} (hg : gdE s v) {l : List Int32} {fl : List Bool} {st : List Int64} {h' : Nat} (h : oB fl st) (ho : hOf (nI s :: l) st.length = some h') : oB (bS (nI s) fl) (eS W s v st) ∧ hOf l (eS W s v st).length = some h' := by
  have s15 := hg.1
  rcases hOf_cons hg ho with ⟨q1, q2, q3⟩ | ⟨q1, q2, q3⟩ | ⟨q1, q2, q3⟩
  · have e : bS (nI s) fl = false :: fl := by
      unfold bS
      rw [if_pos (by rcases (show s = 0 ∨ s = 1 by omega) with q | q <;> rw [q]; exact Or.inl rfl; exact Or.inr rfl)]
    rw [e]
    rcases (show s = 0 ∨ s = 1 by omega) with q | q
    · have e2 : eS W s v st = (nI v).toInt64 :: st := by unfold eS; rw [if_pos q]
      rw [e2]
      exact ⟨⟨fun z => absurd z (by decide), h⟩, q3⟩
    · have e2 : eS W s v st = W v :: st := by unfold eS; rw [if_neg (by omega), if_pos q]
      rw [e2]
      exact ⟨⟨fun z => absurd z (by decide), h⟩, q3⟩
  · have e : bS (nI s) fl = fl := by rw [q1]; rfl
    rw [e]
    cases st with
    | nil => exact absurd q2 (by decide)
    | cons x r =>
      have e2 : eS W s v (x :: r) = (1 - x) :: r := by unfold eS; rw [if_neg (by omega), if_neg (by omega), if_pos q1]
      rw [e2]
      cases fl with
      | nil => exact h.elim
      | cons b fl =>
        refine ⟨⟨fun z => ?_, h.2⟩, q3⟩
        rcases h.1 z with q | q <;> rw [q]
        · exact Or.inr rfl
        · exact Or.inl rfl
  · cases st with
    | nil => exact absurd q2 (by decide)
    | cons y st =>
      cases st with
      | nil => exact absurd q2 (by show ¬ 2 ≤ 1; decide)
      | cons x r =>
        cases fl with
        | nil => exact h.elim
        | cons b fl =>
          cases fl with
          | nil => exact h.2.elim
          | cons a fl =>
            have e2 : eS W s v (y :: x :: r) = jn s x y :: r := by unfold eS; rw [if_neg (by have := q1.1; omega), if_neg (by have := q1.1; omega), if_neg q1.2.2.1]
            have e : bS (nI s) (b :: a :: fl) = (if nI s = 10 ∨ nI s = 11 then (a && b) else decide (nI s = 4 ∨ nI s = 5 ∨ nI s = 6 ∨ nI s = 7 ∨ nI s = 8)) :: fl := by
              unfold bS
              rw [if_neg (by rw [show (0 : Int32) = nI 0 from rfl, K1, sN_eq (by omega) (by decide), sN_eq (by omega) (by decide)]; have := q1.1; omega), if_neg (by rw [K9, sN_eq (by omega) (by decide)]; exact q1.2.2.1)]
            rw [e, e2]
            refine ⟨⟨fun z => ?_, h.2.2⟩, q3⟩
            by_cases c : nI s = 10 ∨ nI s = 11
            · rw [if_pos c, Bool.and_eq_true] at z
              have hy := h.1 z.2
              have hx := h.2.1 z.1
              rw [show (10 : Int32) = nI 10 from rfl, show (11 : Int32) = nI 11 from rfl, sN_eq (by omega) (by decide), sN_eq (by omega) (by decide)] at c
              rcases c with c | c <;> subst c <;> rcases hx with hx | hx <;> rcases hy with hy | hy <;> rw [hx, hy]
              · exact Or.inl rfl
              · exact Or.inl rfl
              · exact Or.inl rfl
              · exact Or.inr rfl
              · exact Or.inl rfl
              · exact Or.inr rfl
              · exact Or.inr rfl
              · exact Or.inr rfl
            · rw [if_neg c] at z
              have z := of_decide_eq_true z
              rw [K4, K5, K6, K7, K8, sN_eq (by omega) (by decide), sN_eq (by omega) (by decide), sN_eq (by omega) (by decide), sN_eq (by omega) (by decide), sN_eq (by omega) (by decide)] at z
              exact jn_b (by omega) x y
theorem oB_ev {W : Nat → Int64} {sF vF : Nat → Nat} {len : Nat} (hg : ∀ k, k < len → gdE (sF k) (vF k)) : ∀ (c i : Nat) (fl : List Bool) (st : List Int64) (h' : Nat), i + c ≤ len → oB fl st → hOf ((List.range c).map (fun k => nI (sF (i + k)))) st.length = some h' → oB (bOf ((List.range c).map (fun k => nI (sF (i + k)))) fl) (ev W sF vF c i st)
  | 0, i, fl, st, h', hi, h, hh => h
  | c + 1, i, fl, st, h', hi, h, hh => by
    rw [show (List.range (c + 1)).map (fun k => nI (sF (i + k))) = _ from rngS (fun z => nI (sF z)) c i] at hh ⊢
    obtain ⟨k1, k2⟩ := oB_s (W := W) (hg i (by omega)) h hh
    exact oB_ev hg c (i + 1) (bS (nI (sF i)) fl) (eS W (sF i) (vF i) st) h' (by omega) k1 k2
