/-! PHASE 2: who rides what, what does not float: the class's side -/
def rid (V A : Dat) (p : Nat → Nat) (o : Nat) : Nat := if o < V 1 1 ∧ A 1 o = 0 then (wmo p (thO V A o) 8).1 else 0
theorem rid_lt {V A : Dat} {p : Nat → Nat} (hp : ∀ t, t < 8 → p t < 256) (o : Nat) : rid V A p o < 256 := by
  unfold rid
  split
  · exact (wmo_bd hp 8 (by decide)).1
  · decide
theorem find_c {mm : Mm} {r v : Nat} {V A : Dat} {L : Rop} {S : Int32} (hv : RvC mm v V) (ov : RvOk V) (hr : RaC mm r V A L S) (oa : RaOk V A L) (hrr : r + 9 ≤ 230 ∨ 231 < r) (hvv : v + 6 ≤ 230) {g : Nat} (hg : g < 2 ^ 31) : f_X2_find mm r v (nI g) = some (wA (wA mm 230 (rowN 8 (pOf V A L g) (mm.1 230))) 231 (rowN 6 (rid V A (pOf V A L g)) (mm.1 231))) := by
  have h8 := ov.2.1
  have hn := hv.1.2.1
  unfold f_X2_find
  rw [join_c hv ov hr oa hrr hvv hg, bi1_s]
  have e : lp (f_X2_find_s8 r v) ((0 : Int32), wA mm 230 (rowN 8 (pOf V A L g) (mm.1 230))) = some (wA (wA mm 230 (rowN 8 (pOf V A L g) (mm.1 230))) 231 (rowN 6 (rid V A (pOf V A L g)) (mm.1 231))) := by
    refine lpf (fun k => (nI k, wA (wA mm 230 (rowN 8 (pOf V A L g) (mm.1 230))) 231 (rowN k (rid V A (pOf V A L g)) (mm.1 231)))) 6 ?_ (fun k hk => ?_) ?_
    · rw [rowN_0]
      refine congrArg (fun z => ((0 : Int32), z)) ?_
      conv => lhs; rw [← wA_self (wA mm 230 (rowN 8 (pOf V A L g) (mm.1 230))) 231]
      rw [wA_ne (by decide)]
    · unfold f_X2_find_s8 f_X2_find_j38 f_X2_find_j39 f_X2_find_j64
      simp (disch := omega) only [↓reduceIte, decide_true, decide_false, Bool.false_eq_true, eq_self, s10, s01, cont_ok, has_ok, b2i0, b2i1, reduceCtorEq, Nat.or_zero, Nat.add_zero, sN_le, sN_lt, sN_eq, sN_lt0, sN_le0, sN_0le, sN_0lt, sN_eq0, sN_cl, sN_ad, sN_a1, K2, K3, K4, K5, K6, K7, K8, K9, K12, K16, K20, false_or, or_false, if_neg, if_pos, vl_s, bi1_s, bi2_s, nx_or, nx_and, nx_sh, wA_ne (show v ≠ 231 by omega), wA_ne (show v ≠ 230 by omega), wA_ne (show r + 1 ≠ 231 by omega), wA_ne (show r + 1 ≠ 230 by omega), hn, wI_wA]
      by_cases h1 : V 1 1 ≤ k
      · rw [if_pos h1, show (0 : Int32) = nI (rid V A (pOf V A L g) k) from by unfold rid; rw [if_neg (fun z => absurd z.1 (by omega))]; rfl, rowN_su]
      · rw [if_neg h1, hr.2.2.2.1 k (by omega)]
        have := oa.2.2.1 k (by omega)
        simp (disch := omega) only [↓reduceIte, decide_true, decide_false, Bool.false_eq_true, eq_self, s10, s01, cont_ok, has_ok, b2i0, b2i1, reduceCtorEq, Nat.or_zero, Nat.add_zero, sN_le, sN_lt, sN_eq, sN_lt0, sN_le0, sN_0le, sN_0lt, sN_eq0, sN_cl, sN_ad, sN_a1, K2, K3, K4, K5, K6, K7, K8, K9, K12, K16, K20, false_or, or_false, if_neg, if_pos, vl_s, bi1_s, bi2_s, nx_or, nx_and, nx_sh]
        by_cases h2 : A 1 k = 0
        · rw [if_pos h2]
          have hv' : RvC (wA (wA mm 230 (rowN 8 (pOf V A L g) (mm.1 230))) 231 (rowN k (rid V A (pOf V A L g)) (mm.1 231))) v V := RvC_eq (fun j hj => by rw [wA_ne (by omega), wA_ne (by omega)]) hv
          have hr' : RaC (wA (wA mm 230 (rowN 8 (pOf V A L g) (mm.1 230))) 231 (rowN k (rid V A (pOf V A L g)) (mm.1 231))) r V A L S := RaC_eq (fun j hj => by rw [wA_ne (by omega), wA_ne (by omega)]) hr
          rw [thingsOf_c hv' ov hr' oa (by omega), bi1_s, withMostOf_c (p := pOf V A L g) (fun t ht => ⟨by rw [wA_ne (by decide), wA_at, rowN_at _ _ ht], pOf_lt _ _ _ _ _⟩), bi1_s]
          rw [show (wmo (pOf V A L g) (thO V A k) 8).1 = rid V A (pOf V A L g) k from by unfold rid; rw [if_pos ⟨by omega, h2⟩], rowN_su]
        · rw [if_neg h2, show (0 : Int32) = nI (rid V A (pOf V A L g) k) from by unfold rid; rw [if_neg (fun z => h2 z.2)]; rfl, rowN_su]
    · unfold f_X2_find_s8
      simp (disch := omega) only [↓reduceIte, decide_true, decide_false, Bool.false_eq_true, eq_self, s10, s01, cont_ok, has_ok, b2i0, b2i1, reduceCtorEq, Nat.or_zero, Nat.add_zero, sN_le, sN_lt, sN_eq, sN_lt0, sN_le0, sN_0le, sN_0lt, sN_eq0, sN_cl, sN_ad, sN_a1, K2, K3, K4, K5, K6, K7, K8, K9, K12, K16, K20, false_or, or_false, if_neg, if_pos, vl_s, bi1_s, bi2_s, nx_or, nx_and, nx_sh]
  rw [e, bi1_s]
def cnt (q : Nat → Bool) : Nat → Nat
  | 0 => 0
  | k + 1 => if q k then cnt q k + 1 else cnt q k
theorem cnt_le (q : Nat → Bool) : ∀ k, cnt q k ≤ k
  | 0 => Nat.le_refl _
  | k + 1 => by
    have := cnt_le q k
    unfold cnt
    split <;> omega
theorem howMany_c {mm : Mm} {p : Nat → Nat} (hp : ∀ t, t < 8 → mm.1 230 t = nI (p t) ∧ p t < 256) : f_X2_howMany mm = some (nI (cnt (lst p) 8)) := by
  unfold f_X2_howMany
  rw [lpa (0 : Int32) (fun k => nI (cnt (lst p) k)) 8 rfl (fun k hk => ?_) (r := nI (cnt (lst p) 8)) ?_]
  · rfl
  · unfold f_X2_howMany_s4
    simp (disch := omega) only [↓reduceIte, decide_true, decide_false, Bool.false_eq_true, eq_self, s10, s01, cont_ok, has_ok, b2i0, b2i1, reduceCtorEq, Nat.or_zero, Nat.add_zero, sN_le, sN_lt, sN_eq, sN_lt0, sN_le0, sN_0le, sN_0lt, sN_eq0, sN_cl, sN_ad, sN_a1, K2, K3, K4, K5, K6, K7, K8, K9, K12, K16, K20, false_or, or_false, if_neg, if_pos, vl_s, bi1_s, bi2_s, nx_or, nx_and, nx_sh]
  · have := cnt_le (lst p) k
    unfold f_X2_howMany_s4
    rw [show cnt (lst p) (k + 1) = if lst p k then cnt (lst p) k + 1 else cnt (lst p) k from rfl]
    simp (disch := omega) only [↓reduceIte, decide_true, decide_false, Bool.false_eq_true, eq_self, s10, s01, cont_ok, has_ok, b2i0, b2i1, reduceCtorEq, Nat.or_zero, Nat.add_zero, sN_le, sN_lt, sN_eq, sN_lt0, sN_le0, sN_0le, sN_0lt, sN_eq0, sN_cl, sN_ad, sN_a1, K2, K3, K4, K5, K6, K7, K8, K9, K12, K16, K20, false_or, or_false, if_neg, if_pos, vl_s, bi1_s, bi2_s, nx_or, nx_and, nx_sh, isLeast_c hp]
    cases hc : lst p k
    · simp (disch := omega) only [↓reduceIte, decide_true, decide_false, Bool.false_eq_true, eq_self, s10, s01, cont_ok, has_ok, b2i0, b2i1, reduceCtorEq, Nat.or_zero, Nat.add_zero, sN_le, sN_lt, sN_eq, sN_lt0, sN_le0, sN_0le, sN_0lt, sN_eq0, sN_cl, sN_ad, sN_a1, K2, K3, K4, K5, K6, K7, K8, K9, K12, K16, K20, false_or, or_false, if_neg, if_pos, vl_s, bi1_s, bi2_s, nx_or, nx_and, nx_sh]
    · simp (disch := omega) only [↓reduceIte, decide_true, decide_false, Bool.false_eq_true, eq_self, s10, s01, cont_ok, has_ok, b2i0, b2i1, reduceCtorEq, Nat.or_zero, Nat.add_zero, sN_le, sN_lt, sN_eq, sN_lt0, sN_le0, sN_0le, sN_0lt, sN_eq0, sN_cl, sN_ad, sN_a1, K2, K3, K4, K5, K6, K7, K8, K9, K12, K16, K20, false_or, or_false, if_neg, if_pos, vl_s, bi1_s, bi2_s, nx_or, nx_and, nx_sh]
/-- the weight of those who ride a piece -/
def rdw (V : Dat) (q : Nat → Nat) (s : Nat) (n : Nat) : Nat := match n with
  | 0 => 0
  | k + 1 => if ¬ q k = 0 ∧ q k = s then rdw V q s k + V 3 k else rdw V q s k
theorem rdw_le {V : Dat} (ov : RvOk V) (q : Nat → Nat) (s : Nat) : ∀ k, k ≤ V 1 1 → rdw V q s k ≤ 20 * k
  | 0, _ => Nat.le_refl _
  | k + 1, hk => by
    have h1 := rdw_le ov q s k (by omega)
    have h2 := ov.2.2.2.1 k (by omega)
    unfold rdw
    split <;> omega
theorem ridersWeight_c {mm : Mm} {r v : Nat} {V : Dat} (hv : RvC mm v V) (ov : RvOk V) {q : Nat → Nat} (hq : ∀ o, o < 6 → mm.1 231 o = nI (q o) ∧ q o < 256) {s : Nat} (hs : s < 100000) : f_X2_ridersWeight mm r v (nI s) = some (nI (rdw V q s (V 1 1))) := by
  have h6 := ov.2.1
  have hn := hv.1.2.1
  unfold f_X2_ridersWeight
  rw [lpa (0 : Int32) (fun k => nI (rdw V q s k)) (V 1 1) rfl (fun k hk => ?_) (r := nI (rdw V q s (V 1 1))) ?_]
  · rfl
  · unfold f_X2_ridersWeight_s5
    simp (disch := omega) only [↓reduceIte, decide_true, decide_false, Bool.false_eq_true, eq_self, s10, s01, cont_ok, has_ok, b2i0, b2i1, reduceCtorEq, Nat.or_zero, Nat.add_zero, sN_le, sN_lt, sN_eq, sN_lt0, sN_le0, sN_0le, sN_0lt, sN_eq0, sN_cl, sN_ad, sN_a1, K2, K3, K4, K5, K6, K7, K8, K9, K12, K16, K20, false_or, or_false, if_neg, if_pos, vl_s, bi1_s, bi2_s, nx_or, nx_and, nx_sh, hn]
  · have h1 := hq k (by omega)
    unfold f_X2_ridersWeight_s5
    rw [show rdw V q s (k + 1) = if ¬ q k = 0 ∧ q k = s then rdw V q s k + V 3 k else rdw V q s k from rfl]
    simp (disch := omega) only [↓reduceIte, decide_true, decide_false, Bool.false_eq_true, eq_self, s10, s01, cont_ok, has_ok, b2i0, b2i1, reduceCtorEq, Nat.or_zero, Nat.add_zero, sN_le, sN_lt, sN_eq, sN_lt0, sN_le0, sN_0le, sN_0lt, sN_eq0, sN_cl, sN_ad, sN_a1, K2, K3, K4, K5, K6, K7, K8, K9, K12, K16, K20, false_or, or_false, if_neg, if_pos, vl_s, bi1_s, bi2_s, nx_or, nx_and, nx_sh, hn, h1.1, (hv.2.1 k hk).2]
    by_cases hc : q k = 0
    · simp (disch := omega) only [↓reduceIte, decide_true, decide_false, Bool.false_eq_true, eq_self, s10, s01, cont_ok, has_ok, b2i0, b2i1, reduceCtorEq, Nat.or_zero, Nat.add_zero, sN_le, sN_lt, sN_eq, sN_lt0, sN_le0, sN_0le, sN_0lt, sN_eq0, sN_cl, sN_ad, sN_a1, K2, K3, K4, K5, K6, K7, K8, K9, K12, K16, K20, false_or, or_false, if_neg, if_pos, vl_s, bi1_s, bi2_s, nx_or, nx_and, nx_sh, hc, not_true_eq_false, false_and]
    · by_cases hd : q k = s
      · rw [if_neg hc, if_pos hd, if_pos ⟨hc, hd⟩]
      · rw [if_neg hc, if_neg hd, if_neg (fun z => hd z.2)]
/-- the margin of a piece -/
def mrg (V A : Dat) (q : Nat → Nat) (s : Nat) : Int := lif V A s 0 - rdw V q s (V 1 1)
theorem mrg_bd {V A : Dat} {L : Rop} (ov : RvOk V) (oa : RaOk V A L) (q : Nat → Nat) (s : Nat) : -1000 ≤ mrg V A q s ∧ mrg V A q s ≤ 1000 := by
  have h1 := lif_bd ov oa s 0
  have h2 := rdw_le ov q s (V 1 1) (Nat.le_refl _)
  have h6 := ov.2.1
  unfold mrg
  omega
theorem marginOf_c {mm : Mm} {r v : Nat} {V A : Dat} {L : Rop} {S : Int32} (hv : RvC mm v V) (ov : RvOk V) (hr : RaC mm r V A L S) (oa : RaOk V A L) {q : Nat → Nat} (hq : ∀ o, o < 6 → mm.1 231 o = nI (q o) ∧ q o < 256) {s : Nat} (hs : s < 100000) : f_X2_marginOf mm r v (nI s) = some (zI (mrg V A q s)) := by
  unfold f_X2_marginOf
  rw [show (0 : Int32) = nI 0 from rfl, lift_c hv ov hr oa (by omega) (by decide), bi1_s, ridersWeight_c hv ov hq hs, bi1_s, zI_n, zI_sb]
  rfl
/-- what does not float -/
def nfl (V A : Dat) (p q : Nat → Nat) : Nat → Nat
  | 0 => 0
  | k + 1 => if lst p k && decide (mrg V A q (p k) < 0) then nfl V A p q k ||| p k else nfl V A p q k
theorem nfl_lt {V A : Dat} {p q : Nat → Nat} (hp : ∀ t, t < 8 → p t < 256) : ∀ k, k ≤ 8 → nfl V A p q k < 256
  | 0, _ => (show 0 < 256 by decide)
  | k + 1, hk => by
    have h1 := nfl_lt hp (V := V) (A := A) (q := q) k (by omega)
    have h2 := hp k (by omega)
    unfold nfl
    split
    · exact Nat.or_lt_two_pow (n := 8) h1 h2
    · exact h1
theorem notFloating_c {mm : Mm} {r v : Nat} {V A : Dat} {L : Rop} {S : Int32} (hv : RvC mm v V) (ov : RvOk V) (hr : RaC mm r V A L S) (oa : RaOk V A L) {p q : Nat → Nat} (hp : ∀ t, t < 8 → mm.1 230 t = nI (p t) ∧ p t < 256) (hq : ∀ o, o < 6 → mm.1 231 o = nI (q o) ∧ q o < 256) : f_X2_notFloating mm r v = some (nI (nfl V A p q 8)) := by
  unfold f_X2_notFloating
  rw [lpa (0 : Int32) (fun k => nI (nfl V A p q k)) 8 rfl (fun k hk => ?_) (r := nI (nfl V A p q 8)) ?_]
  · rfl
  · unfold f_X2_notFloating_s4
    simp (disch := omega) only [↓reduceIte, decide_true, decide_false, Bool.false_eq_true, eq_self, s10, s01, cont_ok, has_ok, b2i0, b2i1, reduceCtorEq, Nat.or_zero, Nat.add_zero, sN_le, sN_lt, sN_eq, sN_lt0, sN_le0, sN_0le, sN_0lt, sN_eq0, sN_cl, sN_ad, sN_a1, K2, K3, K4, K5, K6, K7, K8, K9, K12, K16, K20, false_or, or_false, if_neg, if_pos, vl_s, bi1_s, bi2_s, nx_or, nx_and, nx_sh]
  · have h1 := hp k hk
    have hm := mrg_bd ov oa q (p k)
    unfold f_X2_notFloating_s4
    rw [show nfl V A p q (k + 1) = if lst p k && decide (mrg V A q (p k) < 0) then nfl V A p q k ||| p k else nfl V A p q k from rfl]
    simp (disch := omega) only [↓reduceIte, decide_true, decide_false, Bool.false_eq_true, eq_self, s10, s01, cont_ok, has_ok, b2i0, b2i1, reduceCtorEq, Nat.or_zero, Nat.add_zero, sN_le, sN_lt, sN_eq, sN_lt0, sN_le0, sN_0le, sN_0lt, sN_eq0, sN_cl, sN_ad, sN_a1, K2, K3, K4, K5, K6, K7, K8, K9, K12, K16, K20, false_or, or_false, if_neg, if_pos, vl_s, bi1_s, bi2_s, nx_or, nx_and, nx_sh, isLeast_c hp, h1.1]
    cases hc : lst p k
    · simp (disch := omega) only [↓reduceIte, decide_true, decide_false, Bool.false_eq_true, eq_self, s10, s01, cont_ok, has_ok, b2i0, b2i1, reduceCtorEq, Nat.or_zero, Nat.add_zero, sN_le, sN_lt, sN_eq, sN_lt0, sN_le0, sN_0le, sN_0lt, sN_eq0, sN_cl, sN_ad, sN_a1, K2, K3, K4, K5, K6, K7, K8, K9, K12, K16, K20, false_or, or_false, if_neg, if_pos, vl_s, bi1_s, bi2_s, nx_or, nx_and, nx_sh, Bool.false_and]
    · rw [marginOf_c hv ov hr oa hq (by omega), bi1_s]
      by_cases hd : mrg V A q (p k) < 0
      · rw [if_neg (show ¬ (0 : Int32) ≤ zI (mrg V A q (p k)) by rw [zI_0, zI_le (by omega) (by omega) (by omega) (by omega)]; omega)]
        simp (disch := omega) only [↓reduceIte, decide_true, decide_false, Bool.false_eq_true, eq_self, s10, s01, cont_ok, has_ok, b2i0, b2i1, reduceCtorEq, Nat.or_zero, Nat.add_zero, sN_le, sN_lt, sN_eq, sN_lt0, sN_le0, sN_0le, sN_0lt, sN_eq0, sN_cl, sN_ad, sN_a1, K2, K3, K4, K5, K6, K7, K8, K9, K12, K16, K20, false_or, or_false, if_neg, if_pos, vl_s, bi1_s, bi2_s, nx_or, nx_and, nx_sh, hd, Bool.true_and]
      · rw [if_pos (show (0 : Int32) ≤ zI (mrg V A q (p k)) by rw [zI_0, zI_le (by omega) (by omega) (by omega) (by omega)]; omega)]
        simp (disch := omega) only [↓reduceIte, decide_true, decide_false, Bool.false_eq_true, eq_self, s10, s01, cont_ok, has_ok, b2i0, b2i1, reduceCtorEq, Nat.or_zero, Nat.add_zero, sN_le, sN_lt, sN_eq, sN_lt0, sN_le0, sN_0le, sN_0lt, sN_eq0, sN_cl, sN_ad, sN_a1, K2, K3, K4, K5, K6, K7, K8, K9, K12, K16, K20, false_or, or_false, if_neg, if_pos, vl_s, bi1_s, bi2_s, nx_or, nx_and, nx_sh, hd, Bool.true_and]
/-- the least of a set, or none -/
theorem leastOf_some {mm : Mm} {s t : Nat} (hs : s < 256) (h : s.testBit t = true) (hm : ∀ u, u < t → s.testBit u = false) : f_X11_leastOf mm (nI s) = some (nI t) := by
  have ht : t < 8 := Nat.lt_of_not_le (fun z => by
    rw [Nat.testBit_lt_two_pow (Nat.lt_of_lt_of_le hs (Nat.pow_le_pow_right (n := 2) (i := 8) (by decide) z))] at h
    exact absurd h (by decide))
  have e : lp (f_X11_leastOf_s2 mm (nI s)) (0 : Int32) = some (.inl (nI t)) := by
    refine lpf (fun k => nI k) t rfl (fun k hk => ?_) ?_
    · unfold f_X11_leastOf_s2
      simp (disch := omega) only [↓reduceIte, decide_true, decide_false, Bool.false_eq_true, eq_self, s10, s01, cont_ok, has_ok, b2i0, b2i1, reduceCtorEq, Nat.or_zero, Nat.add_zero, sN_le, sN_lt, sN_eq, sN_lt0, sN_le0, sN_0le, sN_0lt, sN_eq0, sN_cl, sN_ad, sN_a1, K2, K3, K4, K5, K6, K7, K8, K9, K12, K16, K20, false_or, or_false, if_neg, if_pos, vl_s, bi1_s, bi2_s, nx_or, nx_and, nx_sh, hm k hk]
    · unfold f_X11_leastOf_s2
      simp (disch := omega) only [↓reduceIte, decide_true, decide_false, Bool.false_eq_true, eq_self, s10, s01, cont_ok, has_ok, b2i0, b2i1, reduceCtorEq, Nat.or_zero, Nat.add_zero, sN_le, sN_lt, sN_eq, sN_lt0, sN_le0, sN_0le, sN_0lt, sN_eq0, sN_cl, sN_ad, sN_a1, K2, K3, K4, K5, K6, K7, K8, K9, K12, K16, K20, false_or, or_false, if_neg, if_pos, vl_s, bi1_s, bi2_s, nx_or, nx_and, nx_sh, h]
  unfold f_X11_leastOf
  rw [e]
  rfl
theorem leastOf_none {mm : Mm} : f_X11_leastOf mm (nI 0) = some (-1) := by
  have e : lp (f_X11_leastOf_s2 mm (nI 0)) (0 : Int32) = some (.inr ()) := by
    refine lpf (fun k => nI k) 8 rfl (fun k hk => ?_) ?_
    · unfold f_X11_leastOf_s2
      simp (disch := omega) only [↓reduceIte, decide_true, decide_false, Bool.false_eq_true, eq_self, s10, s01, cont_ok, has_ok, b2i0, b2i1, reduceCtorEq, Nat.or_zero, Nat.add_zero, sN_le, sN_lt, sN_eq, sN_lt0, sN_le0, sN_0le, sN_0lt, sN_eq0, sN_cl, sN_ad, sN_a1, K2, K3, K4, K5, K6, K7, K8, K9, K12, K16, K20, false_or, or_false, if_neg, if_pos, vl_s, bi1_s, bi2_s, nx_or, nx_and, nx_sh, Nat.zero_testBit]
    · unfold f_X11_leastOf_s2
      simp (disch := omega) only [↓reduceIte, decide_true, decide_false, Bool.false_eq_true, eq_self, s10, s01, cont_ok, has_ok, b2i0, b2i1, reduceCtorEq, Nat.or_zero, Nat.add_zero, sN_le, sN_lt, sN_eq, sN_lt0, sN_le0, sN_0le, sN_0lt, sN_eq0, sN_cl, sN_ad, sN_a1, K2, K3, K4, K5, K6, K7, K8, K9, K12, K16, K20, false_or, or_false, if_neg, if_pos, vl_s, bi1_s, bi2_s, nx_or, nx_and, nx_sh]
  unfold f_X11_leastOf
  rw [e]
  rfl
