/-! PHASE 2: the reference's riders and what sinks -/
/-- the ropes that are left, as a set -/
def RR (L : Rop) (g R : Nat) : Prop := R < 2 ^ 31 ∧ ∀ k, R.testBit k = (decide (k < L.length) && !g.testBit k)
theorem RR_all {L : Rop} (hl : L.length ≤ 12) : RR L 0 (2 ^ L.length - 1) := by
  refine ⟨?_, fun k => ?_⟩
  · have : 2 ^ L.length ≤ 2 ^ 12 := Nat.pow_le_pow_right (by decide) hl
    omega
  · rw [full_tb, Nat.zero_testBit, Bool.not_false, Bool.and_true]
theorem RR_less {L : Rop} (hl : L.length ≤ 12) (g : Nat) : RR L g (ndf (2 ^ L.length - 1) g) := by
  have h2 : 2 ^ L.length ≤ 2 ^ 12 := Nat.pow_le_pow_right (by decide) hl
  have h3 := ndf_le (2 ^ L.length - 1) g
  exact ⟨by omega, fun k => by rw [ndf_tb, full_tb]⟩
theorem thA_tb {V A : Dat} (t : Nat) : (thA V A 0).testBit t = true ↔ t < V 1 2 ∧ A 4 t = 0 := by
  unfold thA
  rw [bset_tb, Bool.and_eq_true, decide_eq_true_iff, decide_eq_true_iff]
theorem EdW_N {V A : Dat} {L : Rop} (oa : RaOk V A L) {g R : Nat} (hR : RR L g R) (x y : Nat) : EdW L (thA V A 0) R x y ↔ EdN L g L.length x y := by
  constructor
  · rintro ⟨k, h1, h2, _, _, h5⟩
    rw [hR.2, Bool.and_eq_true] at h2
    exact ⟨k, h1, by simpa using h2.2, h5⟩
  · rintro ⟨k, h1, h2, h3⟩
    have h4 := oa.2.2.2.2 k h1
    refine ⟨k, h1, ?_, thA_tb _ |>.mpr ⟨by omega, h4.2.2.2.2.1⟩, thA_tb _ |>.mpr ⟨by omega, h4.2.2.2.2.2⟩, h3⟩
    rw [hR.2, decide_eq_true h1, h2]
    rfl
theorem hangsP_f {mm : Mm} {V A : Dat} {L : Rop} {S : Int32} (ov : RvOk V) (hr : RaF mm V A L S) (oa : RaOk V A L) {g R t : Nat} (hR : RR L g R) (ht : t < V 1 2 ∧ A 4 t = 0) : f_X12_hangsWith mm (nI t) (nI (thA V A 0)) (nI R) = some (nI (pOf V A L g t)) := by
  have h8 := ov.2.2.1
  rw [hangs_f h8 oa.2.1 hr.2.2.1 (fun k hk => by have := oa.2.2.2.2 k hk; omega) hR.1 (by omega), pcs_cg (EdW_N oa hR)]
  unfold pOf pOfN
  rw [if_pos ht]
/-- what has been met before -/
def uni (p : Nat → Nat) : Nat → Nat
  | 0 => 0
  | k + 1 => uni p k ||| p k
theorem uni_tb (p : Nat → Nat) (t : Nat) : ∀ k, (uni p k).testBit t = true ↔ ∃ u, u < k ∧ (p u).testBit t = true
  | 0 => by
    show (0 : Nat).testBit t = true ↔ _
    rw [Nat.zero_testBit]
    exact ⟨fun h => absurd h (by decide), fun ⟨u, h, _⟩ => absurd h (by omega)⟩
  | k + 1 => by
    show (uni p k ||| p k).testBit t = true ↔ _
    rw [Nat.testBit_or, Bool.or_eq_true, uni_tb p t k]
    constructor
    · rintro (⟨u, h1, h2⟩ | h)
      · exact ⟨u, by omega, h2⟩
      · exact ⟨k, by omega, h⟩
    · rintro ⟨u, h1, h2⟩
      by_cases e : u = k
      · subst e; exact Or.inr h2
      · exact Or.inl ⟨u, by omega, h2⟩
theorem uni_lt {p : Nat → Nat} (hp : ∀ t, p t < 256) : ∀ k, uni p k < 256
  | 0 => (show 0 < 256 by decide)
  | k + 1 => Nat.or_lt_two_pow (n := 8) (uni_lt hp k) (hp k)
theorem PP_ne {V A : Dat} {p : Nat → Nat} (h : PP V A p) (t : Nat) : ¬ p t = 0 ↔ t < V 1 2 ∧ A 4 t = 0 := by
  constructor
  · intro h0
    by_cases c : t < V 1 2 ∧ A 4 t = 0
    · exact c
    · exact absurd (h.2.2.1 t c) h0
  · intro c e
    have := h.2.1 t c
    rw [e, Nat.zero_testBit] at this
    exact absurd this (by decide)
theorem PP_sy {V A : Dat} {p : Nat → Nat} (h : PP V A p) {t u : Nat} (ht : (p t).testBit u = true) : (p u).testBit t = true := by
  have h1 := h.2.2.2 t u ht
  have h2 : ¬ p t = 0 := fun e => by rw [e, Nat.zero_testBit] at ht; exact absurd ht (by decide)
  rw [h1.1]
  exact h.2.1 t ((PP_ne h t).mp h2)
theorem low_and {a t : Nat} : a &&& (2 ^ t - 1) = 0 ↔ ∀ u, u < t → ¬ a.testBit u = true := by
  rw [zero_iff]
  constructor
  · intro h u hu hc
    refine h u ?_
    rw [Nat.testBit_and, hc, full_tb, decide_eq_true hu]
    rfl
  · intro h u hc
    rw [Nat.testBit_and, Bool.and_eq_true, full_tb, decide_eq_true_iff] at hc
    exact h u hc.2 hc.1
/-- the least of a piece is met first -/
theorem lst_uni {V A : Dat} {p : Nat → Nat} (h : PP V A p) (t : Nat) : lst p t = true ↔ (t < V 1 2 ∧ A 4 t = 0) ∧ ¬ (uni p t).testBit t = true := by
  unfold lst
  rw [Bool.and_eq_true, decide_eq_true_iff, decide_eq_true_iff, PP_ne h, uni_tb, low_and]
  refine and_congr_right (fun _ => ⟨fun h1 ⟨u, h2, h3⟩ => h1 u h2 (PP_sy h h3), fun h1 u h2 h3 => h1 ⟨u, h2, PP_sy h h3⟩⟩)
theorem uni_met {V A : Dat} {p : Nat → Nat} (h : PP V A p) {t : Nat} (hm : (uni p t).testBit t = true) : uni p t ||| p t = uni p t := tb_iff (fun z => by
  rw [Nat.testBit_or, Bool.or_eq_true]
  constructor
  · rintro (h1 | h1)
    · exact h1
    · obtain ⟨u, u1, u2⟩ := (uni_tb p t t).mp hm
      exact (uni_tb p z t).mpr ⟨u, u1, by rw [← (h.2.2.2 u t u2).1]; exact h1⟩
  · exact Or.inl)
theorem own_f {mm : Mm} {V A : Dat} {L : Rop} {S : Int32} (hv : RvF mm V) (ov : RvOk V) (hr : RaF mm V A L S) (oa : RaOk V A L) {s q : Nat} (hs : s < 256) (hs2 : ∀ t, s.testBit t = true → t < V 1 2 ∧ A 4 t = 0) (hq : q < 100) {y2 y3 y4 y5 y6 y7 : Int32} : lp (f_X12_riddenBy_s81 mm (nI q) y2 y3 y4 y5 y6 y7 (nI s)) ((0 : Int32), (0 : Int32)) = some (nI (pop (s &&& thO V A q) 12)) := by
  have h8 := ov.2.2.1
  have h6 := ov.2.1
  have hn := hv.1.2.2
  have hb : s &&& thO V A q < 2 ^ V 1 2 := by
    refine Nat.lt_of_le_of_lt Nat.and_le_right ?_
    unfold thO
    exact bset_lt _ _
  rw [show pop (s &&& thO V A q) 12 = pop (s &&& thO V A q) (V 1 2 + (12 - V 1 2)) from by rw [show V 1 2 + (12 - V 1 2) = 12 by omega], pop_more hb]
  refine lpa (0 : Int32) (fun k => nI (pop (s &&& thO V A q) k)) (V 1 2) rfl (fun k hk => ?_) ?_
  · have h1 := hr.2.2.2.2 k hk
    have h2 := oa.2.2.2.1 k hk
    have hp := pop_le (s &&& thO V A q) k
    have et : (s &&& thO V A q).testBit k = (s.testBit k && decide (A 2 k = q)) := by
      unfold thO
      rw [Nat.testBit_and, bset_tb, decide_eq_true hk, Bool.true_and]
      cases hc : s.testBit k
      · rfl
      · rw [decide_eq_true (hs2 k hc).2, Bool.and_true]
    unfold f_X12_riddenBy_s81 f_X12_riddenBy_j119 f_X12_riddenBy_j120
    rw [show pop (s &&& thO V A q) (k + 1) = pop (s &&& thO V A q) k + (if (s &&& thO V A q).testBit k then 1 else 0) from rfl, et]
    simp (disch := omega) only [↓reduceIte, decide_true, decide_false, Bool.false_eq_true, eq_self, s10, s01, cont_ok, has_ok, b2i0, b2i1, reduceCtorEq, Nat.or_zero, Nat.add_zero, sN_le, sN_lt, sN_eq, sN_lt0, sN_le0, sN_0le, sN_0lt, sN_eq0, sN_cl, sN_ad, sN_a1, K2, K3, K4, K5, K6, K7, K8, K9, K12, K16, K20, false_or, or_false, if_neg, if_pos, vl_s, bi1_s, bi2_s, nx_or, nx_and, nx_sh, hn, h1.1]
    cases hc : s.testBit k
    · simp (disch := omega) only [↓reduceIte, decide_true, decide_false, Bool.false_eq_true, eq_self, s10, s01, cont_ok, has_ok, b2i0, b2i1, reduceCtorEq, Nat.or_zero, Nat.add_zero, sN_le, sN_lt, sN_eq, sN_lt0, sN_le0, sN_0le, sN_0lt, sN_eq0, sN_cl, sN_ad, sN_a1, K2, K3, K4, K5, K6, K7, K8, K9, K12, K16, K20, false_or, or_false, if_neg, if_pos, vl_s, bi1_s, bi2_s, nx_or, nx_and, nx_sh, Bool.false_and, Int32.add_zero]
    · by_cases hd : A 2 k = q
      · simp (disch := omega) only [↓reduceIte, decide_true, decide_false, Bool.false_eq_true, eq_self, s10, s01, cont_ok, has_ok, b2i0, b2i1, reduceCtorEq, Nat.or_zero, Nat.add_zero, sN_le, sN_lt, sN_eq, sN_lt0, sN_le0, sN_0le, sN_0lt, sN_eq0, sN_cl, sN_ad, sN_a1, K2, K3, K4, K5, K6, K7, K8, K9, K12, K16, K20, false_or, or_false, if_neg, if_pos, vl_s, bi1_s, bi2_s, nx_or, nx_and, nx_sh, hd, Bool.true_and]
      · simp (disch := omega) only [↓reduceIte, decide_true, decide_false, Bool.false_eq_true, eq_self, s10, s01, cont_ok, has_ok, b2i0, b2i1, reduceCtorEq, Nat.or_zero, Nat.add_zero, sN_le, sN_lt, sN_eq, sN_lt0, sN_le0, sN_0le, sN_0lt, sN_eq0, sN_cl, sN_ad, sN_a1, K2, K3, K4, K5, K6, K7, K8, K9, K12, K16, K20, false_or, or_false, if_neg, if_pos, vl_s, bi1_s, bi2_s, nx_or, nx_and, nx_sh, hd, Bool.true_and, Int32.add_zero]
  · unfold f_X12_riddenBy_s81
    simp (disch := omega) only [↓reduceIte, decide_true, decide_false, Bool.false_eq_true, eq_self, s10, s01, cont_ok, has_ok, b2i0, b2i1, reduceCtorEq, Nat.or_zero, Nat.add_zero, sN_le, sN_lt, sN_eq, sN_lt0, sN_le0, sN_0le, sN_0lt, sN_eq0, sN_cl, sN_ad, sN_a1, K2, K3, K4, K5, K6, K7, K8, K9, K12, K16, K20, false_or, or_false, if_neg, if_pos, vl_s, bi1_s, bi2_s, nx_or, nx_and, nx_sh, hn]
theorem PP_sub {V A : Dat} {p : Nat → Nat} (h : PP V A p) (t u : Nat) (hu : (p t).testBit u = true) : u < V 1 2 ∧ A 4 u = 0 := (h.2.2.2 t u hu).2
theorem wmo_skip {V A : Dat} {p : Nat → Nat} (h : PP V A p) (s : Nat) : ∀ k, wmo p s (V 1 2 + k) = wmo p s (V 1 2)
  | 0 => rfl
  | k + 1 => by
    show (if lst p (V 1 2 + k) && decide ((wmo p s (V 1 2 + k)).2 < pop (p (V 1 2 + k) &&& s) 12) then (p (V 1 2 + k), pop (p (V 1 2 + k) &&& s) 12) else wmo p s (V 1 2 + k)) = _
    have : lst p (V 1 2 + k) = false := Bool.eq_false_iff.mpr (fun z => by have := ((lst_uni h _).mp z).1.1; omega)
    rw [this, Bool.false_and, if_neg (by decide), wmo_skip h s k]
theorem riddenBy_f {mm : Mm} {V A : Dat} {L : Rop} {S : Int32} (hv : RvF mm V) (ov : RvOk V) (hr : RaF mm V A L S) (oa : RaOk V A L) {g R q : Nat} (hR : RR L g R) (hq : q < V 1 1) : f_X12_riddenBy mm (nI q) (nI R) = some (nI (rid V A (pOf V A L g) q)) := by
  have h8 := ov.2.2.1
  have h6 := ov.2.1
  have hn := hv.1.2.2
  have hf := hr.2.2.2.1 q hq
  have hf2 := oa.2.2.1 q hq
  have pp := pOf_PP ov oa g
  unfold f_X12_riddenBy
  rw [afloat_f hv ov hr oa, bi1_s]
  have hlt := thA_lt (A := A) (w := 0) h8
  by_cases ha : A 1 q = 0
  · have er : rid V A (pOf V A L g) q = (wmo (pOf V A L g) (thO V A q) (V 1 2)).1 := by
      unfold rid
      rw [if_pos ⟨hq, ha⟩, ← wmo_skip pp _ (8 - V 1 2), show V 1 2 + (8 - V 1 2) = 8 by omega]
    rw [er, lpf (x0 := ((0 : Int32), (0 : Int32), (0 : Int32), (0 : Int32))) (fun k => (nI (wmo (pOf V A L g) (thO V A q) k).1, nI (wmo (pOf V A L g) (thO V A q) k).2, nI (uni (pOf V A L g) k), nI k)) (V 1 2) rfl (fun k hk => ?_) (r := nI (wmo (pOf V A L g) (thO V A q) (V 1 2)).1) ?_]
    · rfl
    · unfold f_X12_riddenBy_s17
      simp (disch := omega) only [↓reduceIte, decide_true, decide_false, Bool.false_eq_true, eq_self, s10, s01, cont_ok, has_ok, b2i0, b2i1, reduceCtorEq, Nat.or_zero, Nat.add_zero, sN_le, sN_lt, sN_eq, sN_lt0, sN_le0, sN_0le, sN_0lt, sN_eq0, sN_cl, sN_ad, sN_a1, K2, K3, K4, K5, K6, K7, K8, K9, K12, K16, K20, false_or, or_false, if_neg, if_pos, vl_s, bi1_s, bi2_s, nx_or, nx_and, nx_sh, hn]
    · have hw := wmo_bd (s := thO V A q) (fun t _ => pp.1 t) k (by omega)
      have hu := uni_lt pp.1 k
      have hpk := pp.1 k
      have hpo := pop_le (pOf V A L g k &&& thO V A q) 12
      have eu : wmo (pOf V A L g) (thO V A q) (k + 1) = if lst (pOf V A L g) k && decide ((wmo (pOf V A L g) (thO V A q) k).2 < pop (pOf V A L g k &&& thO V A q) 12) then (pOf V A L g k, pop (pOf V A L g k &&& thO V A q) 12) else wmo (pOf V A L g) (thO V A q) k := rfl
      have e2 : uni (pOf V A L g) (k + 1) = uni (pOf V A L g) k ||| pOf V A L g k := rfl
      unfold f_X12_riddenBy_s17 f_X12_riddenBy_j142 f_X12_riddenBy_j157
      rw [eu, e2]
      simp (disch := omega) only [↓reduceIte, decide_true, decide_false, Bool.false_eq_true, eq_self, s10, s01, cont_ok, has_ok, b2i0, b2i1, reduceCtorEq, Nat.or_zero, Nat.add_zero, sN_le, sN_lt, sN_eq, sN_lt0, sN_le0, sN_0le, sN_0lt, sN_eq0, sN_cl, sN_ad, sN_a1, K2, K3, K4, K5, K6, K7, K8, K9, K12, K16, K20, false_or, or_false, if_neg, if_pos, vl_s, bi1_s, bi2_s, nx_or, nx_and, nx_sh, hn, hf, ha]
      by_cases c1 : (thA V A 0).testBit k = true
      · have c1' := (thA_tb k).mp c1
        rw [c1, if_neg (by decide)]
        by_cases c2 : (uni (pOf V A L g) k).testBit k = true
        · have hl : lst (pOf V A L g) k = false := Bool.eq_false_iff.mpr (fun z => ((lst_uni pp k).mp z).2 c2)
          rw [c2, if_neg (by decide), hl, uni_met pp c2]
          simp (disch := omega) only [↓reduceIte, decide_true, decide_false, Bool.false_eq_true, eq_self, s10, s01, cont_ok, has_ok, b2i0, b2i1, reduceCtorEq, Nat.or_zero, Nat.add_zero, sN_le, sN_lt, sN_eq, sN_lt0, sN_le0, sN_0le, sN_0lt, sN_eq0, sN_cl, sN_ad, sN_a1, K2, K3, K4, K5, K6, K7, K8, K9, K12, K16, K20, false_or, or_false, if_neg, if_pos, vl_s, bi1_s, bi2_s, nx_or, nx_and, nx_sh, Bool.false_and]
        · have hl : lst (pOf V A L g) k = true := (lst_uni pp k).mpr ⟨c1', c2⟩
          rw [if_pos (Bool.eq_false_iff.mpr c2), hangsP_f ov hr oa hR c1', bi1_s, own_f hv ov hr oa hpk (PP_sub pp k) (by omega), bi1_s, hl]
          by_cases c3 : pop (pOf V A L g k &&& thO V A q) 12 ≤ (wmo (pOf V A L g) (thO V A q) k).2
          · simp (disch := omega) only [↓reduceIte, decide_true, decide_false, Bool.false_eq_true, eq_self, s10, s01, cont_ok, has_ok, b2i0, b2i1, reduceCtorEq, Nat.or_zero, Nat.add_zero, sN_le, sN_lt, sN_eq, sN_lt0, sN_le0, sN_0le, sN_0lt, sN_eq0, sN_cl, sN_ad, sN_a1, K2, K3, K4, K5, K6, K7, K8, K9, K12, K16, K20, false_or, or_false, if_neg, if_pos, vl_s, bi1_s, bi2_s, nx_or, nx_and, nx_sh, c3, Bool.true_and, decide_eq_true_eq]
          · simp (disch := omega) only [↓reduceIte, decide_true, decide_false, Bool.false_eq_true, eq_self, s10, s01, cont_ok, has_ok, b2i0, b2i1, reduceCtorEq, Nat.or_zero, Nat.add_zero, sN_le, sN_lt, sN_eq, sN_lt0, sN_le0, sN_0le, sN_0lt, sN_eq0, sN_cl, sN_ad, sN_a1, K2, K3, K4, K5, K6, K7, K8, K9, K12, K16, K20, false_or, or_false, if_neg, if_pos, vl_s, bi1_s, bi2_s, nx_or, nx_and, nx_sh, c3, Bool.true_and, decide_eq_true_eq]
      · have c1' : ¬ (k < V 1 2 ∧ A 4 k = 0) := fun z => c1 ((thA_tb k).mpr z)
        have hl : lst (pOf V A L g) k = false := Bool.eq_false_iff.mpr (fun z => c1' ((lst_uni pp k).mp z).1)
        rw [if_pos (Bool.eq_false_iff.mpr c1), hl, pp.2.2.1 k c1']
        simp (disch := omega) only [↓reduceIte, decide_true, decide_false, Bool.false_eq_true, eq_self, s10, s01, cont_ok, has_ok, b2i0, b2i1, reduceCtorEq, Nat.or_zero, Nat.add_zero, sN_le, sN_lt, sN_eq, sN_lt0, sN_le0, sN_0le, sN_0lt, sN_eq0, sN_cl, sN_ad, sN_a1, K2, K3, K4, K5, K6, K7, K8, K9, K12, K16, K20, false_or, or_false, if_neg, if_pos, vl_s, bi1_s, bi2_s, nx_or, nx_and, nx_sh, Bool.false_and]
  · have er : rid V A (pOf V A L g) q = 0 := by
      unfold rid
      rw [if_neg (fun z => ha z.2)]
    rw [er, show lp (f_X12_riddenBy_s17 mm (nI q) (nI R) (nI (thA V A 0))) ((0 : Int32), (0 : Int32), (0 : Int32), (0 : Int32)) = some (nI 0) from lp_end ?_]
    · rfl
    · unfold f_X12_riddenBy_s17
      dsimp only
      rw [hn]
      by_cases hz : nI (V 1 2) ≤ 0
      · rw [if_pos hz]; rfl
      · rw [if_neg hz]
        simp (disch := omega) only [↓reduceIte, decide_true, decide_false, Bool.false_eq_true, eq_self, s10, s01, cont_ok, has_ok, b2i0, b2i1, reduceCtorEq, Nat.or_zero, Nat.add_zero, sN_le, sN_lt, sN_eq, sN_lt0, sN_le0, sN_0le, sN_0lt, sN_eq0, sN_cl, sN_ad, sN_a1, K2, K3, K4, K5, K6, K7, K8, K9, K12, K16, K20, false_or, or_false, if_neg, if_pos, vl_s, bi1_s, bi2_s, nx_or, nx_and, nx_sh, hf]
        rfl
def fls (V A : Dat) (s t : Nat) : Int := if s.testBit t then (A 3 t : Int) else 0
def wgs (V A : Dat) (s t : Nat) : Int := if s.testBit t then (V 4 t : Int) else 0
theorem floatOf_f {mm : Mm} {V A : Dat} {L : Rop} {S : Int32} (hv : RvF mm V) (ov : RvOk V) (hr : RaF mm V A L S) {s : Nat} (hs : s < 2 ^ 31) : f_X12_floatOf mm (nI s) = some (zI (sumZ (fls V A s) (V 1 2))) := by
  have h8 := ov.2.2.1
  have hn := hv.1.2.2
  unfold f_X12_floatOf
  rw [lpa (0 : Int32) (fun k => zI (sumZ (fls V A s) k)) (V 1 2) rfl (fun k hk => ?_) (r := zI (sumZ (fls V A s) (V 1 2))) ?_]
  · rfl
  · unfold f_X12_floatOf_s4
    simp (disch := omega) only [hn, ↓reduceIte, decide_true, decide_false, Bool.false_eq_true, eq_self, s10, s01, cont_ok, has_ok, b2i0, b2i1, reduceCtorEq, Nat.or_zero, Nat.add_zero, sN_le, sN_lt, sN_eq, sN_lt0, sN_le0, sN_0le, sN_0lt, sN_eq0, sN_cl, sN_ad, sN_a1, K2, K3, K4, K5, K6, K7, K8, K9, K12, K16, K20, false_or, or_false, if_neg, if_pos, vl_s, bi1_s, bi2_s, nx_or, nx_and, nx_sh]
  · have h1 := hr.2.2.2.2 k hk
    unfold f_X12_floatOf_s4 f_X12_floatOf_j33
    rw [show sumZ (fls V A s) (k + 1) = sumZ (fls V A s) k + (if s.testBit k then (A 3 k : Int) else 0) from rfl]
    simp (disch := omega) only [hn, h1.2.1, ↓reduceIte, decide_true, decide_false, Bool.false_eq_true, eq_self, s10, s01, cont_ok, has_ok, b2i0, b2i1, reduceCtorEq, Nat.or_zero, Nat.add_zero, sN_le, sN_lt, sN_eq, sN_lt0, sN_le0, sN_0le, sN_0lt, sN_eq0, sN_cl, sN_ad, sN_a1, K2, K3, K4, K5, K6, K7, K8, K9, K12, K16, K20, false_or, or_false, if_neg, if_pos, vl_s, bi1_s, bi2_s, nx_or, nx_and, nx_sh]
    cases hc : s.testBit k
    · simp (disch := omega) only [↓reduceIte, decide_true, decide_false, Bool.false_eq_true, eq_self, s10, s01, cont_ok, has_ok, b2i0, b2i1, reduceCtorEq, Nat.or_zero, Nat.add_zero, sN_le, sN_lt, sN_eq, sN_lt0, sN_le0, sN_0le, sN_0lt, sN_eq0, sN_cl, sN_ad, sN_a1, K2, K3, K4, K5, K6, K7, K8, K9, K12, K16, K20, false_or, or_false, if_neg, if_pos, vl_s, bi1_s, bi2_s, nx_or, nx_and, nx_sh, Int.add_zero, Int32.add_zero]
    · simp (disch := omega) only [↓reduceIte, decide_true, decide_false, Bool.false_eq_true, eq_self, s10, s01, cont_ok, has_ok, b2i0, b2i1, reduceCtorEq, Nat.or_zero, Nat.add_zero, sN_le, sN_lt, sN_eq, sN_lt0, sN_le0, sN_0le, sN_0lt, sN_eq0, sN_cl, sN_ad, sN_a1, K2, K3, K4, K5, K6, K7, K8, K9, K12, K16, K20, false_or, or_false, if_neg, if_pos, vl_s, bi1_s, bi2_s, nx_or, nx_and, nx_sh, zI_n, zI_ad]
theorem weightOf_f {mm : Mm} {V A : Dat} (hv : RvF mm V) (ov : RvOk V) {s : Nat} (hs : s < 2 ^ 31) : f_X12_weightOf mm (nI s) = some (zI (sumZ (wgs V A s) (V 1 2))) := by
  have h8 := ov.2.2.1
  have hn := hv.1.2.2
  unfold f_X12_weightOf
  rw [lpa (0 : Int32) (fun k => zI (sumZ (wgs V A s) k)) (V 1 2) rfl (fun k hk => ?_) (r := zI (sumZ (wgs V A s) (V 1 2))) ?_]
  · rfl
  · unfold f_X12_weightOf_s4
    simp (disch := omega) only [hn, ↓reduceIte, decide_true, decide_false, Bool.false_eq_true, eq_self, s10, s01, cont_ok, has_ok, b2i0, b2i1, reduceCtorEq, Nat.or_zero, Nat.add_zero, sN_le, sN_lt, sN_eq, sN_lt0, sN_le0, sN_0le, sN_0lt, sN_eq0, sN_cl, sN_ad, sN_a1, K2, K3, K4, K5, K6, K7, K8, K9, K12, K16, K20, false_or, or_false, if_neg, if_pos, vl_s, bi1_s, bi2_s, nx_or, nx_and, nx_sh]
  · have h1 := hv.2.2.1 k hk
    unfold f_X12_weightOf_s4 f_X12_weightOf_j33
    rw [show sumZ (wgs V A s) (k + 1) = sumZ (wgs V A s) k + (if s.testBit k then (V 4 k : Int) else 0) from rfl]
    simp (disch := omega) only [hn, h1.1, ↓reduceIte, decide_true, decide_false, Bool.false_eq_true, eq_self, s10, s01, cont_ok, has_ok, b2i0, b2i1, reduceCtorEq, Nat.or_zero, Nat.add_zero, sN_le, sN_lt, sN_eq, sN_lt0, sN_le0, sN_0le, sN_0lt, sN_eq0, sN_cl, sN_ad, sN_a1, K2, K3, K4, K5, K6, K7, K8, K9, K12, K16, K20, false_or, or_false, if_neg, if_pos, vl_s, bi1_s, bi2_s, nx_or, nx_and, nx_sh]
    cases hc : s.testBit k
    · simp (disch := omega) only [↓reduceIte, decide_true, decide_false, Bool.false_eq_true, eq_self, s10, s01, cont_ok, has_ok, b2i0, b2i1, reduceCtorEq, Nat.or_zero, Nat.add_zero, sN_le, sN_lt, sN_eq, sN_lt0, sN_le0, sN_0le, sN_0lt, sN_eq0, sN_cl, sN_ad, sN_a1, K2, K3, K4, K5, K6, K7, K8, K9, K12, K16, K20, false_or, or_false, if_neg, if_pos, vl_s, bi1_s, bi2_s, nx_or, nx_and, nx_sh, Int.add_zero, Int32.add_zero]
    · simp (disch := omega) only [↓reduceIte, decide_true, decide_false, Bool.false_eq_true, eq_self, s10, s01, cont_ok, has_ok, b2i0, b2i1, reduceCtorEq, Nat.or_zero, Nat.add_zero, sN_le, sN_lt, sN_eq, sN_lt0, sN_le0, sN_0le, sN_0lt, sN_eq0, sN_cl, sN_ad, sN_a1, K2, K3, K4, K5, K6, K7, K8, K9, K12, K16, K20, false_or, or_false, if_neg, if_pos, vl_s, bi1_s, bi2_s, nx_or, nx_and, nx_sh, zI_n, zI_ad]
theorem lif_fw (V A : Dat) (s : Nat) : sumZ (fls V A s) (V 1 2) - sumZ (wgs V A s) (V 1 2) = lif V A s 0 := by
  rw [sumZ_sub]
  unfold lif
  refine sumZ_ext (fun t ht => ?_)
  unfold fls wgs lifT
  by_cases hc : s.testBit t = true
  · rw [if_pos hc, if_pos hc, if_pos hc]
    by_cases hd : 0 < (A 3 t : Int) - (0 : Nat) * V 5 t
    · rw [if_pos hd]; omega
    · rw [if_neg hd]; omega
  · rw [if_neg hc, if_neg hc, if_neg hc]; rfl
theorem ridersOf_f {mm : Mm} {V A : Dat} {L : Rop} {S : Int32} (hv : RvF mm V) (ov : RvOk V) (hr : RaF mm V A L S) (oa : RaOk V A L) {g R s : Nat} (hR : RR L g R) (hs : s < 100000) (h0 : ¬ s = 0) : f_X12_ridersOf mm (nI s) (nI R) = some (nI (rdw V (rid V A (pOf V A L g)) s (V 1 1))) := by
  have h6 := ov.2.1
  have hn := hv.1.2.1
  unfold f_X12_ridersOf
  rw [lpa (0 : Int32) (fun k => nI (rdw V (rid V A (pOf V A L g)) s k)) (V 1 1) rfl (fun k hk => ?_) (r := nI (rdw V (rid V A (pOf V A L g)) s (V 1 1))) ?_]
  · rfl
  · unfold f_X12_ridersOf_s5
    simp (disch := omega) only [hn, ↓reduceIte, decide_true, decide_false, Bool.false_eq_true, eq_self, s10, s01, cont_ok, has_ok, b2i0, b2i1, reduceCtorEq, Nat.or_zero, Nat.add_zero, sN_le, sN_lt, sN_eq, sN_lt0, sN_le0, sN_0le, sN_0lt, sN_eq0, sN_cl, sN_ad, sN_a1, K2, K3, K4, K5, K6, K7, K8, K9, K12, K16, K20, false_or, or_false, if_neg, if_pos, vl_s, bi1_s, bi2_s, nx_or, nx_and, nx_sh]
  · have h1 := (hv.2.1 k hk).2
    have hl := rid_lt (V := V) (A := A) (fun t _ => pOf_lt V A L g t) k
    unfold f_X12_ridersOf_s5 f_X12_ridersOf_j39
    rw [show rdw V (rid V A (pOf V A L g)) s (k + 1) = if ¬ rid V A (pOf V A L g) k = 0 ∧ rid V A (pOf V A L g) k = s then rdw V (rid V A (pOf V A L g)) s k + V 3 k else rdw V (rid V A (pOf V A L g)) s k from rfl]
    simp (disch := omega) only [hn, h1, ↓reduceIte, decide_true, decide_false, Bool.false_eq_true, eq_self, s10, s01, cont_ok, has_ok, b2i0, b2i1, reduceCtorEq, Nat.or_zero, Nat.add_zero, sN_le, sN_lt, sN_eq, sN_lt0, sN_le0, sN_0le, sN_0lt, sN_eq0, sN_cl, sN_ad, sN_a1, K2, K3, K4, K5, K6, K7, K8, K9, K12, K16, K20, false_or, or_false, if_neg, if_pos, vl_s, bi1_s, bi2_s, nx_or, nx_and, nx_sh, riddenBy_f hv ov hr oa hR hk]
    by_cases hc : rid V A (pOf V A L g) k = s
    · simp (disch := omega) only [↓reduceIte, decide_true, decide_false, Bool.false_eq_true, eq_self, s10, s01, cont_ok, has_ok, b2i0, b2i1, reduceCtorEq, Nat.or_zero, Nat.add_zero, sN_le, sN_lt, sN_eq, sN_lt0, sN_le0, sN_0le, sN_0lt, sN_eq0, sN_cl, sN_ad, sN_a1, K2, K3, K4, K5, K6, K7, K8, K9, K12, K16, K20, false_or, or_false, if_neg, if_pos, vl_s, bi1_s, bi2_s, nx_or, nx_and, nx_sh, hc, h0, not_false_eq_true, and_self]
    · simp (disch := omega) only [↓reduceIte, decide_true, decide_false, Bool.false_eq_true, eq_self, s10, s01, cont_ok, has_ok, b2i0, b2i1, reduceCtorEq, Nat.or_zero, Nat.add_zero, sN_le, sN_lt, sN_eq, sN_lt0, sN_le0, sN_0le, sN_0lt, sN_eq0, sN_cl, sN_ad, sN_a1, K2, K3, K4, K5, K6, K7, K8, K9, K12, K16, K20, false_or, or_false, if_neg, if_pos, vl_s, bi1_s, bi2_s, nx_or, nx_and, nx_sh, hc, and_false, Int32.add_zero]
theorem marginOf_f {mm : Mm} {V A : Dat} {L : Rop} {S : Int32} (hv : RvF mm V) (ov : RvOk V) (hr : RaF mm V A L S) (oa : RaOk V A L) {g R s : Nat} (hR : RR L g R) (hs : s < 100000) (h0 : ¬ s = 0) : f_X12_marginOf mm (nI s) (nI R) = some (zI (mrg V A (rid V A (pOf V A L g)) s)) := by
  unfold f_X12_marginOf
  rw [floatOf_f hv ov hr (by omega), bi1_s, weightOf_f (A := A) hv ov (by omega), bi1_s, ridersOf_f hv ov hr oa hR hs h0, bi1_s, zI_n, zI_sb, lif_fw, zI_sb]
  rfl
theorem nfl_skip {V A : Dat} {p q : Nat → Nat} (h : PP V A p) : ∀ k, nfl V A p q (V 1 2 + k) = nfl V A p q (V 1 2)
  | 0 => rfl
  | k + 1 => by
    show (if lst p (V 1 2 + k) && decide (mrg V A q (p (V 1 2 + k)) < 0) then nfl V A p q (V 1 2 + k) ||| p (V 1 2 + k) else nfl V A p q (V 1 2 + k)) = _
    have : lst p (V 1 2 + k) = false := Bool.eq_false_iff.mpr (fun z => by have := ((lst_uni h _).mp z).1.1; omega)
    rw [this, Bool.false_and, if_neg (by decide), nfl_skip h k]
theorem sinking_f {mm : Mm} {V A : Dat} {L : Rop} {S : Int32} (hv : RvF mm V) (ov : RvOk V) (hr : RaF mm V A L S) (oa : RaOk V A L) {g R : Nat} (hR : RR L g R) : f_X12_sinking mm (nI R) = some (nI (nfl V A (pOf V A L g) (rid V A (pOf V A L g)) 8)) := by
  have h8 := ov.2.2.1
  have hn := hv.1.2.2
  have pp := pOf_PP ov oa g
  have hlt := thA_lt (A := A) (w := 0) h8
  unfold f_X12_sinking
  rw [afloat_f hv ov hr oa, bi1_s, ← show V 1 2 + (8 - V 1 2) = 8 by omega, nfl_skip pp, lpf (x0 := ((0 : Int32), (0 : Int32), (0 : Int32))) (fun k => (nI (nfl V A (pOf V A L g) (rid V A (pOf V A L g)) k), nI (uni (pOf V A L g) k), nI k)) (V 1 2) rfl (fun k hk => ?_) (r := nI (nfl V A (pOf V A L g) (rid V A (pOf V A L g)) (V 1 2))) ?_]
  · rfl
  · unfold f_X12_sinking_s13
    simp (disch := omega) only [↓reduceIte, decide_true, decide_false, Bool.false_eq_true, eq_self, s10, s01, cont_ok, has_ok, b2i0, b2i1, reduceCtorEq, Nat.or_zero, Nat.add_zero, sN_le, sN_lt, sN_eq, sN_lt0, sN_le0, sN_0le, sN_0lt, sN_eq0, sN_cl, sN_ad, sN_a1, K2, K3, K4, K5, K6, K7, K8, K9, K12, K16, K20, false_or, or_false, if_neg, if_pos, vl_s, bi1_s, bi2_s, nx_or, nx_and, nx_sh, hn]
  · have hu := uni_lt pp.1 k
    have hpk := pp.1 k
    have hm := mrg_bd ov oa (rid V A (pOf V A L g)) (pOf V A L g k)
    unfold f_X12_sinking_s13 f_X12_sinking_j77
    rw [show uni (pOf V A L g) (k + 1) = uni (pOf V A L g) k ||| pOf V A L g k from rfl, show nfl V A (pOf V A L g) (rid V A (pOf V A L g)) (k + 1) = if lst (pOf V A L g) k && decide (mrg V A (rid V A (pOf V A L g)) (pOf V A L g k) < 0) then nfl V A (pOf V A L g) (rid V A (pOf V A L g)) k ||| pOf V A L g k else nfl V A (pOf V A L g) (rid V A (pOf V A L g)) k from rfl]
    simp (disch := omega) only [↓reduceIte, decide_true, decide_false, Bool.false_eq_true, eq_self, s10, s01, cont_ok, has_ok, b2i0, b2i1, reduceCtorEq, Nat.or_zero, Nat.add_zero, sN_le, sN_lt, sN_eq, sN_lt0, sN_le0, sN_0le, sN_0lt, sN_eq0, sN_cl, sN_ad, sN_a1, K2, K3, K4, K5, K6, K7, K8, K9, K12, K16, K20, false_or, or_false, if_neg, if_pos, vl_s, bi1_s, bi2_s, nx_or, nx_and, nx_sh, hn]
    by_cases c1 : (thA V A 0).testBit k = true
    · have c1' := (thA_tb k).mp c1
      rw [c1, if_neg (by decide)]
      by_cases c2 : (uni (pOf V A L g) k).testBit k = true
      · have hl : lst (pOf V A L g) k = false := Bool.eq_false_iff.mpr (fun z => ((lst_uni pp k).mp z).2 c2)
        rw [c2, if_neg (by decide), hl, uni_met pp c2]
        simp (disch := omega) only [↓reduceIte, decide_true, decide_false, Bool.false_eq_true, eq_self, s10, s01, cont_ok, has_ok, b2i0, b2i1, reduceCtorEq, Nat.or_zero, Nat.add_zero, sN_le, sN_lt, sN_eq, sN_lt0, sN_le0, sN_0le, sN_0lt, sN_eq0, sN_cl, sN_ad, sN_a1, K2, K3, K4, K5, K6, K7, K8, K9, K12, K16, K20, false_or, or_false, if_neg, if_pos, vl_s, bi1_s, bi2_s, nx_or, nx_and, nx_sh, Bool.false_and]
      · have hl : lst (pOf V A L g) k = true := (lst_uni pp k).mpr ⟨c1', c2⟩
        rw [if_pos (Bool.eq_false_iff.mpr c2), hangsP_f ov hr oa hR c1', bi1_s, marginOf_f hv ov hr oa hR (by omega) ((PP_ne pp k).mpr c1'), bi1_s, hl]
        by_cases c3 : mrg V A (rid V A (pOf V A L g)) (pOf V A L g k) < 0
        · rw [if_neg (show ¬ (0 : Int32) ≤ zI _ by rw [zI_0, zI_le (by omega) (by omega) (by omega) (by omega)]; omega)]
          simp (disch := omega) only [↓reduceIte, decide_true, decide_false, Bool.false_eq_true, eq_self, s10, s01, cont_ok, has_ok, b2i0, b2i1, reduceCtorEq, Nat.or_zero, Nat.add_zero, sN_le, sN_lt, sN_eq, sN_lt0, sN_le0, sN_0le, sN_0lt, sN_eq0, sN_cl, sN_ad, sN_a1, K2, K3, K4, K5, K6, K7, K8, K9, K12, K16, K20, false_or, or_false, if_neg, if_pos, vl_s, bi1_s, bi2_s, nx_or, nx_and, nx_sh, c3, Bool.true_and]
        · rw [if_pos (show (0 : Int32) ≤ zI _ by rw [zI_0, zI_le (by omega) (by omega) (by omega) (by omega)]; omega)]
          simp (disch := omega) only [↓reduceIte, decide_true, decide_false, Bool.false_eq_true, eq_self, s10, s01, cont_ok, has_ok, b2i0, b2i1, reduceCtorEq, Nat.or_zero, Nat.add_zero, sN_le, sN_lt, sN_eq, sN_lt0, sN_le0, sN_0le, sN_0lt, sN_eq0, sN_cl, sN_ad, sN_a1, K2, K3, K4, K5, K6, K7, K8, K9, K12, K16, K20, false_or, or_false, if_neg, if_pos, vl_s, bi1_s, bi2_s, nx_or, nx_and, nx_sh, c3, Bool.true_and, Int32.or_zero]
    · have c1' : ¬ (k < V 1 2 ∧ A 4 k = 0) := fun z => c1 ((thA_tb k).mpr z)
      have hl : lst (pOf V A L g) k = false := Bool.eq_false_iff.mpr (fun z => c1' ((lst_uni pp k).mp z).1)
      rw [if_pos (Bool.eq_false_iff.mpr c1), hl, pp.2.2.1 k c1']
      simp (disch := omega) only [↓reduceIte, decide_true, decide_false, Bool.false_eq_true, eq_self, s10, s01, cont_ok, has_ok, b2i0, b2i1, reduceCtorEq, Nat.or_zero, Nat.add_zero, sN_le, sN_lt, sN_eq, sN_lt0, sN_le0, sN_0le, sN_0lt, sN_eq0, sN_cl, sN_ad, sN_a1, K2, K3, K4, K5, K6, K7, K8, K9, K12, K16, K20, false_or, or_false, if_neg, if_pos, vl_s, bi1_s, bi2_s, nx_or, nx_and, nx_sh, Bool.false_and]
theorem pieceOf_f {mm : Mm} {V A : Dat} {L : Rop} {S : Int32} (hv : RvF mm V) (ov : RvOk V) (hr : RaF mm V A L S) (oa : RaOk V A L) {t : Nat} (ht : t < V 1 2 ∧ A 4 t = 0) : f_X12_pieceOf mm (nI t) = some (nI (pOf V A L 0 t)) := by
  unfold f_X12_pieceOf
  rw [afloat_f hv ov hr oa, bi1_s, allRopes_f hr oa, hangsP_f ov hr oa (RR_all oa.2.1) ht, bi1_s]
/-- the least of a set that is not empty -/
theorem least_f {mm : Mm} {s t : Nat} (hs : s < 256) (h : s.testBit t = true) (hm : ∀ u, u < t → s.testBit u = false) : f_X12_least mm (nI s) = some (nI t) := by
  have ht : t < 8 := Nat.lt_of_not_le (fun z => by
    rw [Nat.testBit_lt_two_pow (Nat.lt_of_lt_of_le hs (Nat.pow_le_pow_right (n := 2) (i := 8) (by decide) z))] at h
    exact absurd h (by decide))
  have e : lp (f_X12_least_s2 mm (nI s)) (0 : Int32) = some (nI t) := by
    refine lpf (fun k => nI k) t rfl (fun k hk => ?_) ?_
    · unfold f_X12_least_s2
      simp (disch := omega) only [↓reduceIte, decide_true, decide_false, Bool.false_eq_true, eq_self, s10, s01, cont_ok, has_ok, b2i0, b2i1, reduceCtorEq, Nat.or_zero, Nat.add_zero, sN_le, sN_lt, sN_eq, sN_lt0, sN_le0, sN_0le, sN_0lt, sN_eq0, sN_cl, sN_ad, sN_a1, K2, K3, K4, K5, K6, K7, K8, K9, K12, K16, K20, false_or, or_false, if_neg, if_pos, vl_s, bi1_s, bi2_s, nx_or, nx_and, nx_sh, hm k hk]
    · unfold f_X12_least_s2
      simp (disch := omega) only [↓reduceIte, decide_true, decide_false, Bool.false_eq_true, eq_self, s10, s01, cont_ok, has_ok, b2i0, b2i1, reduceCtorEq, Nat.or_zero, Nat.add_zero, sN_le, sN_lt, sN_eq, sN_lt0, sN_le0, sN_0le, sN_0lt, sN_eq0, sN_cl, sN_ad, sN_a1, K2, K3, K4, K5, K6, K7, K8, K9, K12, K16, K20, false_or, or_false, if_neg, if_pos, vl_s, bi1_s, bi2_s, nx_or, nx_and, nx_sh, h]
  unfold f_X12_least
  rw [e]
  rfl
theorem least_ex {s : Nat} (h : ¬ s = 0) : ∃ t, s.testBit t = true ∧ ∀ u, u < t → s.testBit u = false := by
  obtain ⟨t, h1, h2⟩ := pk_least (fun t => s.testBit t = true) (by
    by_cases c : ∃ t, s.testBit t = true
    · exact c
    · exact absurd (zero_iff.mpr (fun t ht => c ⟨t, ht⟩)) h)
  exact ⟨t, h1, fun u hu => Bool.eq_false_iff.mpr (h2 u hu)⟩
