/-! PHASE 2: the reference's side: rows, sets, who hangs with whom -/
def RvF (mm : Mm) (V : Dat) : Prop := (mm.1 1089 0 = nI (V 1 0) ∧ mm.1 1089 2 = nI (V 1 1) ∧ mm.1 1089 3 = nI (V 1 2)) ∧ (∀ o, o < V 1 1 → mm.1 1090 o = nI (V 2 o) ∧ mm.1 1091 o = nI (V 3 o)) ∧ (∀ t, t < V 1 2 → mm.1 1094 t = nI (V 4 t) ∧ mm.1 1096 t = nI (V 5 t)) ∧ ∃ ra : Nat, ra ≤ 6 ∧ mm.1 1089 5 = nI ra ∧ ∀ m, m < 100 → (∃ k, k < ra ∧ mm.1 1102 k = nI m ∧ mm.1 1103 k = nI (V 6 m) ∧ ∀ j, j < k → ¬ mm.1 1102 j = nI m) ∨ (V 6 m = 0 ∧ ∀ k, k < ra → ¬ mm.1 1102 k = nI m)
def RaF (mm : Mm) (V A : Dat) (L : Rop) (S : Int32) : Prop := mm.1 1089 6 = nI (A 0 1) ∧ mm.1 1089 1 = S ∧ RpOk (mm.1 1089 4) (mm.1 1099) (mm.1 1100) (mm.1 1101) L ∧ (∀ o, o < V 1 1 → mm.1 1092 o = nI (A 1 o)) ∧ ∀ t, t < V 1 2 → mm.1 1093 t = nI (A 2 t) ∧ mm.1 1095 t = nI (A 3 t) ∧ mm.1 1097 t = nI (A 4 t)
theorem forceAt_f {mm : Mm} {V : Dat} (h : RvF mm V) {m : Nat} (hm : m < 100) : f_X12_forceAt mm (nI m) = some (nI (V 6 m)) := by
  obtain ⟨ra, h1, h2, h3⟩ := h.2.2.2
  rcases h3 m hm with ⟨k, g1, g2, g3, g4⟩ | ⟨g1, g2⟩
  · rw [forceAt_some h2 h1 g1 g2 g4, g3]
  · rw [forceAt_none h2 h1 g2, g1]
    rfl
theorem afloat_f {mm : Mm} {V A : Dat} {L : Rop} {S : Int32} (hv : RvF mm V) (ov : RvOk V) (hr : RaF mm V A L S) (oa : RaOk V A L) : f_X12_afloat mm = some (nI (thA V A 0)) := by
  have h8 := ov.2.2.1
  have hn := hv.1.2.2
  unfold f_X12_afloat
  rw [lpa (0 : Int32) (fun k => nI (bset (fun t => decide (A 4 t = 0)) k)) (V 1 2) rfl (fun k hk => ?_) (r := nI (thA V A 0)) ?_]
  · rfl
  · unfold f_X12_afloat_s4
    simp (disch := omega) only [hn, ↓reduceIte, decide_true, decide_false, Bool.false_eq_true, eq_self, s10, s01, cont_ok, has_ok, b2i0, b2i1, reduceCtorEq, Nat.or_zero, Nat.add_zero, sN_le, sN_lt, sN_eq, sN_lt0, sN_le0, sN_0le, sN_0lt, sN_eq0, sN_cl, sN_ad, sN_a1, K2, K3, K4, K5, K6, K7, K8, K9, K12, K16, K20, false_or, or_false, if_neg, if_pos, vl_s, bi1_s, bi2_s, nx_or, nx_and, nx_sh]
    rfl
  · have h1 := (hr.2.2.2.2 k hk).2.2
    have h2 := (oa.2.2.2.1 k hk).2.2
    unfold f_X12_afloat_s4 f_X12_afloat_j31
    simp (disch := omega) only [hn, h1, ↓reduceIte, decide_true, decide_false, Bool.false_eq_true, eq_self, s10, s01, cont_ok, has_ok, b2i0, b2i1, reduceCtorEq, Nat.or_zero, Nat.add_zero, sN_le, sN_lt, sN_eq, sN_lt0, sN_le0, sN_0le, sN_0lt, sN_eq0, sN_cl, sN_ad, sN_a1, K2, K3, K4, K5, K6, K7, K8, K9, K12, K16, K20, false_or, or_false, if_neg, if_pos, vl_s, bi1_s, bi2_s, nx_or, nx_and, nx_sh]
    by_cases hc : A 4 k = 0
    · simp (disch := omega) only [hc, ↓reduceIte, decide_true, decide_false, Bool.false_eq_true, eq_self, s10, s01, cont_ok, has_ok, b2i0, b2i1, reduceCtorEq, Nat.or_zero, Nat.add_zero, sN_le, sN_lt, sN_eq, sN_lt0, sN_le0, sN_0le, sN_0lt, sN_eq0, sN_cl, sN_ad, sN_a1, K2, K3, K4, K5, K6, K7, K8, K9, K12, K16, K20, false_or, or_false, if_neg, if_pos, vl_s, bi1_s, bi2_s, nx_or, nx_and, nx_sh, bset]
    · simp (disch := omega) only [hc, ↓reduceIte, decide_true, decide_false, Bool.false_eq_true, eq_self, s10, s01, cont_ok, has_ok, b2i0, b2i1, reduceCtorEq, Nat.or_zero, Nat.add_zero, sN_le, sN_lt, sN_eq, sN_lt0, sN_le0, sN_0le, sN_0lt, sN_eq0, sN_cl, sN_ad, sN_a1, K2, K3, K4, K5, K6, K7, K8, K9, K12, K16, K20, false_or, or_false, if_neg, if_pos, vl_s, bi1_s, bi2_s, nx_or, nx_and, nx_sh, bset, Int32.or_zero]
theorem allRopes_f {mm : Mm} {V A : Dat} {L : Rop} {S : Int32} (hr : RaF mm V A L S) (oa : RaOk V A L) : f_X12_allRopes mm = nI (2 ^ L.length - 1) := by
  have hl := oa.2.1
  unfold f_X12_allRopes
  rw [hr.2.2.1.1, nx_sh _ (by omega)]
  exact nI_sub' (b := 1) (Nat.two_pow_pos _)
theorem full_tb (n k : Nat) : (2 ^ n - 1).testBit k = decide (k < n) := Nat.testBit_two_pow_sub_one n k
theorem two_tb (a b t : Nat) : (2 ^ a ||| 2 ^ b).testBit t = true ↔ t = a ∨ t = b := by
  rw [Nat.testBit_or, Bool.or_eq_true, Nat.testBit_two_pow, Nat.testBit_two_pow, decide_eq_true_iff, decide_eq_true_iff]
  exact ⟨fun h => h.elim (fun z => Or.inl z.symm) (fun z => Or.inr z.symm), fun h => h.elim (fun z => Or.inl z.symm) (fun z => Or.inr z.symm)⟩
theorem zero_iff {a : Nat} : a = 0 ↔ ∀ t, ¬ a.testBit t = true := by
  constructor
  · rintro rfl t
    rw [Nat.zero_testBit]
    decide
  · intro h
    refine tb_ext (fun t => ?_)
    rw [Nat.zero_testBit]
    exact Bool.eq_false_iff.mpr (h t)
theorem two_ndf {a b W : Nat} : ndf (2 ^ a ||| 2 ^ b) W = 0 ↔ W.testBit a = true ∧ W.testBit b = true := by
  rw [zero_iff]
  constructor
  · intro h
    have ha := h a
    have hb := h b
    rw [ndf_tb, Bool.and_eq_true, two_tb] at ha hb
    refine ⟨?_, ?_⟩
    · cases hw : W.testBit a
      · exact absurd ⟨Or.inl rfl, by rw [hw]; rfl⟩ ha
      · rfl
    · cases hw : W.testBit b
      · exact absurd ⟨Or.inr rfl, by rw [hw]; rfl⟩ hb
      · rfl
  · rintro ⟨h1, h2⟩ t ht
    rw [ndf_tb, Bool.and_eq_true, two_tb] at ht
    obtain ⟨h3 | h3, h4⟩ := ht
    · rw [h3, h1] at h4; exact absurd h4 (by decide)
    · rw [h3, h2] at h4; exact absurd h4 (by decide)
theorem two_and {a b s : Nat} : (2 ^ a ||| 2 ^ b) &&& s = 0 ↔ ¬ s.testBit a = true ∧ ¬ s.testBit b = true := by
  rw [zero_iff]
  constructor
  · intro h
    have ha := h a
    have hb := h b
    rw [Nat.testBit_and, Bool.and_eq_true, two_tb] at ha hb
    exact ⟨fun z => ha ⟨Or.inl rfl, z⟩, fun z => hb ⟨Or.inr rfl, z⟩⟩
  · rintro ⟨h1, h2⟩ t ht
    rw [Nat.testBit_and, Bool.and_eq_true, two_tb] at ht
    obtain ⟨h3 | h3, h4⟩ := ht
    · rw [h3] at h4; exact h1 h4
    · rw [h3] at h4; exact h2 h4
/-- s goes over into s' by one pass -/
def Pass (L : Rop) (W R s n s' : Nat) : Prop := s' < 256 ∧ (∀ u, s.testBit u = true → s'.testBit u = true) ∧ (∀ u, s'.testBit u = true → ∃ z, s.testBit z = true ∧ Rch (EdW L W R) z u) ∧ ∀ k, k < n → R.testBit k = true → W.testBit (rp L k).1 = true → W.testBit (rp L k).2.1 = true → (s.testBit (rp L k).1 = true ∨ s.testBit (rp L k).2.1 = true) → s'.testBit (rp L k).1 = true ∧ s'.testBit (rp L k).2.1 = true
theorem pass_ok {mm : Mm} {L : Rop} {nt : Nat} (h8 : nt ≤ 8) (hl : L.length ≤ 12) (hr : RpOk (mm.1 1089 4) (mm.1 1099) (mm.1 1100) (mm.1 1101) L) (ok : ∀ k, k < L.length → (rp L k).1 < nt ∧ (rp L k).2.1 < nt) {W R s : Nat} (hR : R < 2 ^ 31) (hs : s < 256) {y6 : Int32} : ∃ w, lp (f_X12_hangsWith_s20 mm (nI W) (nI R) y6) (nI s, (0 : Int32)) = some w ∧ ∃ s', w = nI s' ∧ Pass L W R s L.length s' := by
  refine lp_inv (fun n x => ∃ s', x = (nI s', nI n) ∧ Pass L W R s n s') (fun w => ∃ s', w = nI s' ∧ Pass L W R s L.length s') L.length (fun k x hk hx => ?_) (fun x hx => ?_) 0 _ (Nat.zero_le _) ⟨s, rfl, hs, fun u h => h, fun u h => ⟨u, h, Rch_rf⟩, fun k hk => absurd hk (by omega)⟩
  · obtain ⟨s', rfl, q1, q2, q3, q4⟩ := hx
    have h1 := hr.2 k hk
    have h2 := ok k hk
    have hor : (2 ^ (rp L k).1 ||| 2 ^ (rp L k).2.1) < 256 := Nat.or_lt_two_pow (n := 8) (Nat.pow_lt_pow_right (by decide) (by omega)) (Nat.pow_lt_pow_right (by decide) (by omega))
    have hl1 : (2 ^ (rp L k).1 ||| 2 ^ (rp L k).2.1) &&& s' ≤ s' := Nat.and_le_right
    have hl2 := ndf_le (2 ^ (rp L k).1 ||| 2 ^ (rp L k).2.1) W
    unfold f_X12_hangsWith_s20
    simp (disch := omega) only [hr.1, h1.1, h1.2.1, ↓reduceIte, decide_true, decide_false, Bool.false_eq_true, eq_self, s10, s01, cont_ok, has_ok, b2i0, b2i1, reduceCtorEq, Nat.or_zero, Nat.add_zero, sN_le, sN_lt, sN_eq, sN_lt0, sN_le0, sN_0le, sN_0lt, sN_eq0, sN_cl, sN_ad, sN_a1, K2, K3, K4, K5, K6, K7, K8, K9, K12, K16, K20, false_or, or_false, if_neg, if_pos, vl_s, bi1_s, bi2_s, nx_or, nx_and, nx_sh, nx_ndf]
    by_cases c1 : R.testBit k = true
    · rw [if_neg (show ¬ R.testBit k = false by rw [c1]; decide)]
      by_cases c2 : ndf (2 ^ (rp L k).1 ||| 2 ^ (rp L k).2.1) W = 0
      · rw [if_pos c2]
        obtain ⟨w1, w2⟩ := two_ndf.mp c2
        by_cases c3 : (2 ^ (rp L k).1 ||| 2 ^ (rp L k).2.1) &&& s' = 0
        · rw [if_pos c3]
          obtain ⟨u1, u2⟩ := two_and.mp c3
          refine ⟨_, rfl, s', rfl, q1, q2, q3, fun j hj g1 g2 g3 g4 => ?_⟩
          by_cases ej : j = k
          · subst ej
            rcases g4 with g4 | g4
            · exact absurd (q2 _ g4) u1
            · exact absurd (q2 _ g4) u2
          · exact q4 j (by omega) g1 g2 g3 g4
        · rw [if_neg c3]
          have e12 : EdW L W R (rp L k).1 (rp L k).2.1 := ⟨k, hk, c1, w1, w2, Or.inl ⟨rfl, rfl⟩⟩
          have e21 : EdW L W R (rp L k).2.1 (rp L k).1 := ⟨k, hk, c1, w1, w2, Or.inr ⟨rfl, rfl⟩⟩
          refine ⟨_, rfl, s' ||| (2 ^ (rp L k).1 ||| 2 ^ (rp L k).2.1), rfl, Nat.or_lt_two_pow (n := 8) q1 hor, fun u hu => ?_, fun u hu => ?_, fun j hj g1 g2 g3 g4 => ?_⟩
          · rw [Nat.testBit_or, q2 u hu, Bool.true_or]
          · rw [Nat.testBit_or, Bool.or_eq_true, two_tb] at hu
            rcases hu with hu | hu
            · exact q3 u hu
            · have : s'.testBit (rp L k).1 = true ∨ s'.testBit (rp L k).2.1 = true := by
                by_cases z1 : s'.testBit (rp L k).1 = true
                · exact Or.inl z1
                · by_cases z2 : s'.testBit (rp L k).2.1 = true
                  · exact Or.inr z2
                  · exact absurd (two_and.mpr ⟨z1, z2⟩) c3
              rcases this with z | z
              · obtain ⟨y, y1, y2⟩ := q3 _ z
                rcases hu with rfl | rfl
                · exact ⟨y, y1, y2⟩
                · exact ⟨y, y1, Rch_tr y2 (Rch_st e12)⟩
              · obtain ⟨y, y1, y2⟩ := q3 _ z
                rcases hu with rfl | rfl
                · exact ⟨y, y1, Rch_tr y2 (Rch_st e21)⟩
                · exact ⟨y, y1, y2⟩
          · by_cases ej : j = k
            · subst ej
              refine ⟨?_, ?_⟩
              · rw [Nat.testBit_or, (two_tb _ _ _).mpr (Or.inl rfl), Bool.or_true]
              · rw [Nat.testBit_or, (two_tb _ _ _).mpr (Or.inr rfl), Bool.or_true]
            · obtain ⟨y1, y2⟩ := q4 j (by omega) g1 g2 g3 g4
              refine ⟨?_, ?_⟩
              · rw [Nat.testBit_or, y1, Bool.true_or]
              · rw [Nat.testBit_or, y2, Bool.true_or]
      · rw [if_neg c2]
        refine ⟨_, rfl, s', rfl, q1, q2, q3, fun j hj g1 g2 g3 g4 => ?_⟩
        by_cases ej : j = k
        · subst ej
          exact absurd (two_ndf.mpr ⟨g2, g3⟩) c2
        · exact q4 j (by omega) g1 g2 g3 g4
    · rw [if_pos (Bool.eq_false_iff.mpr c1)]
      refine ⟨_, rfl, s', rfl, q1, q2, q3, fun j hj g1 g2 g3 g4 => ?_⟩
      by_cases ej : j = k
      · subst ej
        exact absurd g1 c1
      · exact q4 j (by omega) g1 g2 g3 g4
  · obtain ⟨s', rfl, hq⟩ := hx
    refine ⟨nI s', ?_, s', rfl, hq⟩
    unfold f_X12_hangsWith_s20
    simp (disch := omega) only [hr.1, ↓reduceIte, decide_true, decide_false, Bool.false_eq_true, eq_self, s10, s01, cont_ok, has_ok, b2i0, b2i1, reduceCtorEq, Nat.or_zero, Nat.add_zero, sN_le, sN_lt, sN_eq, sN_lt0, sN_le0, sN_0le, sN_0lt, sN_eq0, sN_cl, sN_ad, sN_a1, K2, K3, K4, K5, K6, K7, K8, K9, K12, K16, K20, false_or, or_false, if_neg, if_pos, vl_s, bi1_s, bi2_s, nx_or, nx_and, nx_sh]
theorem hangs_f {mm : Mm} {L : Rop} {nt : Nat} (h8 : nt ≤ 8) (hl : L.length ≤ 12) (hr : RpOk (mm.1 1089 4) (mm.1 1099) (mm.1 1100) (mm.1 1101) L) (ok : ∀ k, k < L.length → (rp L k).1 < nt ∧ (rp L k).2.1 < nt) {W R t : Nat} (hR : R < 2 ^ 31) (ht : t < 8) : f_X12_hangsWith mm (nI t) (nI W) (nI R) = some (nI (pcs (EdW L W R) t)) := by
  have hx : ∃ r, lp (f_X12_hangsWith_s8 mm (nI W) (nI R)) (nI (2 ^ t), (1 : Int32)) = some r ∧ r = nI (pcs (EdW L W R) t) := by
    refine lp_meas (fun x => ∃ s f, x = (nI s, f) ∧ s < 256 ∧ s.testBit t = true ∧ (∀ u, s.testBit u = true → Rch (EdW L W R) t u) ∧ (f = 1 ∨ f = 0 ∧ ∀ x y, EdW L W R x y → s.testBit x = true → s.testBit y = true)) (fun r => r = nI (pcs (EdW L W R) t)) (fun x => if x.2 = 0 then 0 else 1 + (256 - x.1.toNatClampNeg)) (fun x hx => ?_) _ ⟨2 ^ t, 1, rfl, (show 2 ^ t < 2 ^ 8 from Nat.pow_lt_pow_right (by decide) ht), Nat.testBit_two_pow_self, fun u hu => ?_, Or.inl rfl⟩
    · obtain ⟨s, f, rfl, h1, h2, h3, h4⟩ := hx
      rcases h4 with rfl | ⟨rfl, h4⟩
      · obtain ⟨w, e, s', rfl, p1, p2, p3, p4⟩ := pass_ok h8 hl hr ok (W := W) (R := R) hR h1 (y6 := nI s)
        unfold f_X12_hangsWith_s8 f_X12_hangsWith_j103
        dsimp only
        rw [if_neg (by decide), e, bi1_s]
        refine Or.inl ?_
        have n2 : s'.testBit t = true := p2 t h2
        have n3 : ∀ u, s'.testBit u = true → Rch (EdW L W R) t u := fun u hu => by
          obtain ⟨z, z1, z2⟩ := p3 u hu
          exact Rch_tr (h3 z z1) z2
        by_cases hs : s' = s
        · subst hs
          rw [if_pos rfl]
          refine ⟨_, rfl, ⟨s', 0, rfl, h1, h2, h3, Or.inr ⟨rfl, fun x y hxy hx => ?_⟩⟩, ?_⟩
          · obtain ⟨k, k1, k2, k3, k4, k5⟩ := hxy
            rcases k5 with ⟨rfl, rfl⟩ | ⟨rfl, rfl⟩
            · exact (p4 k k1 k2 k3 k4 (Or.inl hx)).2
            · exact (p4 k k1 k2 k3 k4 (Or.inr hx)).1
          · show (if (0 : Int32) = 0 then 0 else _) < (if (1 : Int32) = 0 then 0 else _)
            rw [if_pos rfl, if_neg (by decide)]
            omega
        · rw [if_neg (by rw [nI_eq_iff (by omega) (by omega)]; exact hs)]
          refine ⟨_, rfl, ⟨s', 1, rfl, p1, n2, n3, Or.inl rfl⟩, ?_⟩
          show (if (1 : Int32) = 0 then 0 else 1 + (256 - (nI s').toNatClampNeg)) < (if (1 : Int32) = 0 then 0 else 1 + (256 - (nI s).toNatClampNeg))
          rw [if_neg (by decide), if_neg (by decide), cl_ok (by omega), cl_ok (by omega)]
          have : s ≤ s' := Nat.le_of_testBit p2
          omega
      · refine Or.inr ⟨nI s, ?_, ?_⟩
        · unfold f_X12_hangsWith_s8
          dsimp only
          rw [if_pos rfl]
        · refine congrArg nI (tb_iff (fun u => ?_))
          rw [pcs_tb]
          constructor
          · intro hu
            refine ⟨Nat.lt_of_not_le (fun z => ?_), h3 u hu⟩
            rw [Nat.testBit_lt_two_pow (Nat.lt_of_lt_of_le h1 (Nat.pow_le_pow_right (n := 2) (i := 8) (by decide) z))] at hu
            exact absurd hu (by decide)
          · rintro ⟨_, hu⟩
            exact hu (fun w => s.testBit w = true) h2 h4
    · by_cases e : u = t
      · rw [e]; exact Rch_rf
      · rw [Nat.testBit_two_pow_of_ne (fun z => e z.symm)] at hu
        exact absurd hu (by decide)
  obtain ⟨r, e, rfl⟩ := hx
  unfold f_X12_hangsWith
  rw [nx_sh t (by omega), vl_s, e]
  rfl
