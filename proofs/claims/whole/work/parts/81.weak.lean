/-! PHASE 2: weak -/
noncomputable def wkR (V A : Dat) (L : Rop) (k : Nat) : Bool := !(pOf V A L (2 ^ k) (rp L k).1).testBit (rp L k).2.1
theorem weakRopes_c {mm : Mm} {V A : Dat} {L : Rop} {S : Int32} (hv : RvC mm 27 V) (ov : RvOk V) (hr : RaC mm 33 V A L S) (oa : RaOk V A L) : ∃ m1, f_X3_weakRopes mm = some (nI (bset (wkR V A L) L.length), m1) ∧ ∀ i, ¬ scC i → m1.1 i = mm.1 i := by
  have h8 := ov.2.2.1
  have hl := oa.2.1
  have hx : ∃ w, lp f_X3_weakRopes_s4 ((0 : Int32), (0 : Int32), mm) = some w ∧ ∃ m1, w = (nI (bset (wkR V A L) L.length), m1) ∧ ∀ i, ¬ scC i → m1.1 i = mm.1 i := by
    refine lp_inv (fun k x => ∃ w, x = (nI (bset (wkR V A L) k), nI k, w) ∧ ∀ i, ¬ scC i → w.1 i = mm.1 i) _ L.length (fun k x hk hx => ?_) (fun x hx => ?_) 0 _ (Nat.zero_le _) ⟨mm, rfl, fun _ _ => rfl⟩
    · obtain ⟨w, rfl, w1⟩ := hx
      have hvw : RvC w 27 V := RvC_eq (fun j hj => w1 _ (fun z => by unfold scC at z; omega)) hv
      have hrw : RaC w 33 V A L S := RaC_eq (fun j hj => w1 _ (fun z => by unfold scC at z; omega)) hr
      have hk2 := oa.2.2.2.2 k hk
      have hp : 2 ^ k < 2 ^ 31 := Nat.pow_lt_pow_right (by decide) (by omega)
      have e3 : w.1 33 3 = nI L.length := hrw.2.2.1.1
      have ej := join_c hvw ov hrw oa (by decide) (by decide) (g := 2 ^ k) hp
      obtain ⟨m, hm⟩ : ∃ m, m = wA w 230 (rowN 8 (pOf V A L (2 ^ k)) (w.1 230)) := ⟨_, rfl⟩
      rw [← hm] at ej
      have fm : ∀ i, ¬ i = 230 → m.1 i = w.1 i := fun i h1 => by rw [hm, wA_ne h1]
      have e39 : m.1 39 k = nI (rp L k).1 := by rw [fm 39 (by decide)]; exact (hrw.2.2.1.2 k hk).1
      have e40 : m.1 40 k = nI (rp L k).2.1 := by rw [fm 40 (by decide)]; exact (hrw.2.2.1.2 k hk).2.1
      have e230 : m.1 230 (rp L k).1 = nI (pOf V A L (2 ^ k) (rp L k).1) := by rw [hm, wA_at, rowN_at _ _ (by omega)]
      have hpl := pOf_lt V A L (2 ^ k) (rp L k).1
      have fr : ∀ i, ¬ scC i → m.1 i = mm.1 i := fun i hi => by rw [fm i (fun z => hi (by unfold scC; omega)), w1 i hi]
      unfold f_X3_weakRopes_s4
      rw [show bset (wkR V A L) (k + 1) = bset (wkR V A L) k ||| (if wkR V A L k then 2 ^ k else 0) from rfl]
      dsimp only
      rw [e3, if_neg (by rw [sN_le (by omega) (by omega)]; omega), nx_sh k (by omega), ej, bi1_s]
      simp (disch := omega) only [↓reduceIte, decide_true, decide_false, Bool.false_eq_true, eq_self, s10, s01, cont_ok, has_ok, b2i0, b2i1, reduceCtorEq, Nat.or_zero, Nat.add_zero, sN_le, sN_lt, sN_eq, sN_lt0, sN_le0, sN_0le, sN_0lt, sN_eq0, sN_cl, sN_ad, sN_a1, K2, K3, K4, K5, K6, K7, K8, K9, K12, K16, K20, false_or, or_false, if_neg, if_pos, vl_s, bi1_s, bi2_s, nx_or, nx_and, nx_sh, e39, e40, e230]
      have hw : wkR V A L k = !(pOf V A L (2 ^ k) (rp L k).1).testBit (rp L k).2.1 := rfl
      rw [hw]
      cases hc : (pOf V A L (2 ^ k) (rp L k).1).testBit (rp L k).2.1
      · rw [if_pos rfl]
        exact ⟨_, rfl, m, by simp (disch := omega) only [↓reduceIte, decide_true, decide_false, Bool.false_eq_true, eq_self, s10, s01, cont_ok, has_ok, b2i0, b2i1, reduceCtorEq, Nat.or_zero, Nat.add_zero, sN_le, sN_lt, sN_eq, sN_lt0, sN_le0, sN_0le, sN_0lt, sN_eq0, sN_cl, sN_ad, sN_a1, K2, K3, K4, K5, K6, K7, K8, K9, K12, K16, K20, false_or, or_false, if_neg, if_pos, vl_s, bi1_s, bi2_s, nx_or, nx_and, nx_sh, Bool.not_false], fr⟩
      · rw [if_neg (by decide)]
        exact ⟨_, rfl, m, by simp (disch := omega) only [↓reduceIte, decide_true, decide_false, Bool.false_eq_true, eq_self, s10, s01, cont_ok, has_ok, b2i0, b2i1, reduceCtorEq, Nat.or_zero, Nat.add_zero, sN_le, sN_lt, sN_eq, sN_lt0, sN_le0, sN_0le, sN_0lt, sN_eq0, sN_cl, sN_ad, sN_a1, K2, K3, K4, K5, K6, K7, K8, K9, K12, K16, K20, false_or, or_false, if_neg, if_pos, vl_s, bi1_s, bi2_s, nx_or, nx_and, nx_sh, Bool.not_true], fr⟩
    · obtain ⟨w, rfl, w1⟩ := hx
      have e3 : w.1 33 3 = nI L.length := by rw [w1 33 (fun z => by unfold scC at z; omega)]; exact hr.2.2.1.1
      refine ⟨_, ?_, w, rfl, w1⟩
      unfold f_X3_weakRopes_s4
      dsimp only
      rw [e3, if_pos (by rw [sN_le (by omega) (by omega)]; omega)]
  obtain ⟨w, e, m1, rfl, h1⟩ := hx
  refine ⟨m1, ?_, h1⟩
  unfold f_X3_weakRopes
  rw [e]
  rfl
theorem weakRopes_f {mm : Mm} {V A : Dat} {L : Rop} {S : Int32} (hv : RvF mm V) (ov : RvOk V) (hr : RaF mm V A L S) (oa : RaOk V A L) : lp (f_X12_weak_s23 mm 0) ((0 : Int32), (0 : Int32)) = some (nI (bset (wkR V A L) L.length)) := by
  have h8 := ov.2.2.1
  have hl := oa.2.1
  refine lpa (0 : Int32) (fun k => nI (bset (wkR V A L) k)) L.length rfl (fun k hk => ?_) ?_
  · have hk2 := oa.2.2.2.2 k hk
    have q := hr.2.2.1.2 k hk
    have hpl := pOf_lt V A L (2 ^ k) (rp L k).1
    have hw : wkR V A L k = !(pOf V A L (2 ^ k) (rp L k).1).testBit (rp L k).2.1 := rfl
    unfold f_X12_weak_s23 f_X12_weak_j81
    rw [show bset (wkR V A L) (k + 1) = bset (wkR V A L) k ||| (if wkR V A L k then 2 ^ k else 0) from rfl]
    dsimp only
    rw [hr.2.2.1.1, if_neg (by rw [sN_le (by omega) (by omega)]; omega), if_pos rfl, if_neg (gd_ok (by omega) (by decide)), cl_ok (by omega), afloat_f hv ov hr oa, bi1_s, q.1, q.2.1, nx_sh k (by omega), allRopes_f hr oa, nx_ndf, hangsP_f ov hr oa (RR_less hl (2 ^ k)) ⟨by omega, hk2.2.2.2.2.1⟩, bi1_s, hw]
    simp (disch := omega) only [↓reduceIte, decide_true, decide_false, Bool.false_eq_true, eq_self, s10, s01, cont_ok, has_ok, b2i0, b2i1, reduceCtorEq, Nat.or_zero, Nat.add_zero, sN_le, sN_lt, sN_eq, sN_lt0, sN_le0, sN_0le, sN_0lt, sN_eq0, sN_cl, sN_ad, sN_a1, K2, K3, K4, K5, K6, K7, K8, K9, K12, K16, K20, false_or, or_false, if_neg, if_pos, vl_s, bi1_s, bi2_s, nx_or, nx_and, nx_sh]
    cases hc : (pOf V A L (2 ^ k) (rp L k).1).testBit (rp L k).2.1
    · simp (disch := omega) only [↓reduceIte, decide_true, decide_false, Bool.false_eq_true, eq_self, s10, s01, cont_ok, has_ok, b2i0, b2i1, reduceCtorEq, Nat.or_zero, Nat.add_zero, sN_le, sN_lt, sN_eq, sN_lt0, sN_le0, sN_0le, sN_0lt, sN_eq0, sN_cl, sN_ad, sN_a1, K2, K3, K4, K5, K6, K7, K8, K9, K12, K16, K20, false_or, or_false, if_neg, if_pos, vl_s, bi1_s, bi2_s, nx_or, nx_and, nx_sh, Bool.not_false]
    · simp (disch := omega) only [↓reduceIte, decide_true, decide_false, Bool.false_eq_true, eq_self, s10, s01, cont_ok, has_ok, b2i0, b2i1, reduceCtorEq, Nat.or_zero, Nat.add_zero, sN_le, sN_lt, sN_eq, sN_lt0, sN_le0, sN_0le, sN_0lt, sN_eq0, sN_cl, sN_ad, sN_a1, K2, K3, K4, K5, K6, K7, K8, K9, K12, K16, K20, false_or, or_false, if_neg, if_pos, vl_s, bi1_s, bi2_s, nx_or, nx_and, nx_sh, Bool.not_true, Int32.or_zero]
  · unfold f_X12_weak_s23
    dsimp only
    rw [hr.2.2.1.1, if_pos (by rw [sN_le (by omega) (by omega)]; omega)]
/-- what is left of a piece without one of its things -/
noncomputable def rsT (V A : Dat) (L : Rop) (t : Nat) : Nat := ndf (pOf V A L 0 t) (2 ^ t)
noncomputable def wkT (V A : Dat) (L : Rop) (t : Nat) : Bool := pb (∃ f, (rsT V A L t).testBit f = true ∧ (∀ u, u < f → (rsT V A L t).testBit u = false) ∧ ¬ pOf V A L (rpO L (2 ^ t)) f = rsT V A L t)
theorem rsT_tb {V A : Dat} {L : Rop} {t u : Nat} : (rsT V A L t).testBit u = true ↔ (pOf V A L 0 t).testBit u = true ∧ ¬ u = t := by
  unfold rsT
  rw [ndf_tb, one_tb, Bool.and_eq_true]
  refine and_congr_right (fun _ => ?_)
  by_cases c : t = u
  · rw [decide_eq_true c]
    exact ⟨fun z => absurd z (by decide), fun z => absurd c.symm z⟩
  · rw [decide_eq_false c]
    exact ⟨fun _ z => c z.symm, fun _ => rfl⟩
theorem rpO_tb {L : Rop} {t k : Nat} : (rpO L (2 ^ t)).testBit k = false ↔ ¬ k < L.length ∨ (¬ (rp L k).1 = t ∧ ¬ (rp L k).2.1 = t) := by
  unfold rpO
  rw [bset_tb, one_tb, one_tb]
  by_cases c : k < L.length
  · rw [decide_eq_true c, Bool.true_and, Bool.or_eq_false_iff, decide_eq_false_iff_not, decide_eq_false_iff_not]
    exact ⟨fun z => Or.inr ⟨fun w => z.1 w.symm, fun w => z.2 w.symm⟩, fun z => z.elim (fun w => absurd c w) (fun w => ⟨fun y => w.1 y.symm, fun y => w.2 y.symm⟩)⟩
  · rw [decide_eq_false c, Bool.false_and]
    exact ⟨fun _ => Or.inl c, fun _ => rfl⟩
/-- the piece of another thing of the rest: without the ropes of t, or within the rest -/
theorem rest_pcs {V A : Dat} {L : Rop} (ov : RvOk V) (oa : RaOk V A L) {t f : Nat} (ht : t < V 1 2 ∧ A 4 t = 0) (hf : (rsT V A L t).testBit f = true) : pcs (EdW L (rsT V A L t) (2 ^ L.length - 1)) f = pOf V A L (rpO L (2 ^ t)) f := by
  have pp := pOf_PP ov oa 0
  have hf1 := (rsT_tb (V := V)).mp hf
  have hfr := PP_sub pp t f hf1.1
  have e0 : pOf V A L 0 t = pcs (EdN L 0 L.length) t := by
    unfold pOf pOfN
    rw [if_pos ht]
  unfold pOf pOfN
  rw [if_pos hfr]
  refine tb_iff (fun u => ?_)
  rw [pcs_tb, pcs_tb]
  refine and_congr_right (fun hu => ⟨fun h => ?_, fun h => ?_⟩)
  · refine Rch_mo (fun x y e => ?_) h
    obtain ⟨k, k1, k2, k3, k4, k5⟩ := e
    refine ⟨k, k1, rpO_tb.mpr (Or.inr ⟨((rsT_tb (V := V)).mp k3).2, ((rsT_tb (V := V)).mp k4).2⟩), k5⟩
  · have := h (fun z => (rsT V A L t).testBit z = true ∧ Rch (EdW L (rsT V A L t) (2 ^ L.length - 1)) f z) ⟨hf, Rch_rf⟩ (fun x y e hx => ?_)
    · exact this.2
    · obtain ⟨k, k1, k2, k3⟩ := e
      have k2' := (rpO_tb.mp k2).elim (fun z => absurd k1 z) (fun z => z)
      have ok := oa.2.2.2.2 k k1
      have h8 := ov.2.2.1
      have hxy : EdN L 0 L.length x y := ⟨k, k1, Nat.zero_testBit k, k3⟩
      have hx1 := (rsT_tb (V := V)).mp hx.1
      have hxr : Rch (EdN L 0 L.length) t x := by
        have := hx1.1
        rw [e0, pcs_tb] at this
        exact this.2
      have hy : (rsT V A L t).testBit y = true := by
        refine (rsT_tb (V := V)).mpr ⟨?_, ?_⟩
        · rw [e0, pcs_tb]
          refine ⟨?_, Rch_tr hxr (Rch_st hxy)⟩
          rcases k3 with ⟨_, rfl⟩ | ⟨_, rfl⟩ <;> omega
        · rcases k3 with ⟨_, rfl⟩ | ⟨_, rfl⟩
          · exact k2'.2
          · exact k2'.1
      refine ⟨hy, Rch_tr hx.2 (Rch_st ⟨k, k1, ?_, ?_, ?_, k3⟩)⟩
      · rw [full_tb, decide_eq_true k1]
      · rcases k3 with ⟨rfl, rfl⟩ | ⟨rfl, rfl⟩
        · exact hx.1
        · exact hy
      · rcases k3 with ⟨rfl, rfl⟩ | ⟨rfl, rfl⟩
        · exact hy
        · exact hx.1
theorem rsT_lt (V A : Dat) (L : Rop) (t : Nat) : rsT V A L t < 256 := Nat.lt_of_le_of_lt (ndf_le _ _) (pOf_lt V A L 0 t)
theorem wkT_f {V A : Dat} {L : Rop} {t f : Nat} (hf : (rsT V A L t).testBit f = true) (hm : ∀ u, u < f → (rsT V A L t).testBit u = false) : wkT V A L t = pb (¬ pOf V A L (rpO L (2 ^ t)) f = rsT V A L t) := pb_cg ⟨fun ⟨g, g1, g2, g3⟩ => by
    have : g = f := by
      by_cases c : g < f
      · rw [hm g c] at g1; exact absurd g1 (by decide)
      · by_cases d : f < g
        · rw [g2 f d] at hf; exact absurd hf (by decide)
        · omega
    rw [this] at g3
    exact g3, fun h => ⟨f, hf, hm, h⟩⟩
theorem wkT_0 {V A : Dat} {L : Rop} {t : Nat} (h : rsT V A L t = 0) : wkT V A L t = false := pb_f (fun ⟨f, f1, _⟩ => by
  rw [h, Nat.zero_testBit] at f1
  exact absurd f1 (by decide))
theorem weakThings_c {mm : Mm} {V A : Dat} {L : Rop} {S : Int32} (hv : RvC mm 27 V) (ov : RvOk V) (hr : RaC mm 33 V A L S) (oa : RaOk V A L) : ∃ m1, f_X3_weakThings mm = some (nI (bset (wkT V A L) (V 1 2)), m1) ∧ ∀ i, ¬ scC i → m1.1 i = mm.1 i := by
  have h8 := ov.2.2.1
  have hl := oa.2.1
  have hx : ∃ w, lp f_X3_weakThings_s4 ((0 : Int32), (0 : Int32), mm) = some w ∧ ∃ m1, w = (nI (bset (wkT V A L) (V 1 2)), m1) ∧ ∀ i, ¬ scC i → m1.1 i = mm.1 i := by
    refine lp_inv (fun k x => ∃ w, x = (nI (bset (wkT V A L) k), nI k, w) ∧ ∀ i, ¬ scC i → w.1 i = mm.1 i) _ (V 1 2) (fun k x hk hx => ?_) (fun x hx => ?_) 0 _ (Nat.zero_le _) ⟨mm, rfl, fun _ _ => rfl⟩
    · obtain ⟨w, rfl, w1⟩ := hx
      have hvw : RvC w 27 V := RvC_eq (fun j hj => w1 _ (fun z => by unfold scC at z; omega)) hv
      have hrw : RaC w 33 V A L S := RaC_eq (fun j hj => w1 _ (fun z => by unfold scC at z; omega)) hr
      have hp : 2 ^ k < 2 ^ 31 := Nat.pow_lt_pow_right (by decide) (by omega)
      have e3 : w.1 27 2 = nI (V 1 2) := hvw.1.2.2
      have ej := join_c hvw ov hrw oa (by decide) (by decide) (g := 0) (by decide)
      obtain ⟨m, hm⟩ : ∃ m, m = wA w 230 (rowN 8 (pOf V A L 0) (w.1 230)) := ⟨_, rfl⟩
      rw [← hm] at ej
      have fm : ∀ i, ¬ i = 230 → m.1 i = w.1 i := fun i h1 => by rw [hm, wA_ne h1]
      have hvm : RvC m 27 V := RvC_eq (fun j hj => fm _ (by omega)) hvw
      have hrm : RaC m 33 V A L S := RaC_eq (fun j hj => fm _ (by omega)) hrw
      have e230 : m.1 230 k = nI (pOf V A L 0 k) := by rw [hm, wA_at, rowN_at _ _ (by omega)]
      have hrl := rpO_lt (s := 2 ^ k) hl
      have ej2 := join_c hvm ov hrm oa (by decide) (by decide) (g := rpO L (2 ^ k)) (by omega)
      obtain ⟨m2, hm2⟩ : ∃ m2, m2 = wA m 230 (rowN 8 (pOf V A L (rpO L (2 ^ k))) (m.1 230)) := ⟨_, rfl⟩
      rw [← hm2] at ej2
      have fr : ∀ i, ¬ scC i → m2.1 i = mm.1 i := fun i hi => by rw [hm2, wA_ne (fun z => hi (by unfold scC; omega)), fm i (fun z => hi (by unfold scC; omega)), w1 i hi]
      have hlt := rsT_lt V A L k
      have hpo := fun f => pOf_lt V A L (rpO L (2 ^ k)) f
      have ers : ndf (pOf V A L 0 k) (2 ^ k) = rsT V A L k := rfl
      unfold f_X3_weakThings_s4
      rw [show bset (wkT V A L) (k + 1) = bset (wkT V A L) k ||| (if wkT V A L k then 2 ^ k else 0) from rfl]
      dsimp only
      rw [e3, if_neg (by rw [sN_le (by omega) (by omega)]; omega), show f_X2_join w 33 27 (0 : Int32) = some m from ej, bi1_s, if_neg (gd_ok (by omega) (by decide)), cl_ok (by omega), e230, nx_sh k (by omega), nx_ndf, vl_s, ers, ropesOf_c ov hrm oa hp, bi1_s, ej2, bi1_s]
      by_cases c : rsT V A L k = 0
      · rw [c, leastOf_none, bi1_s, if_pos rfl, wkT_0 c]
        exact ⟨_, rfl, m2, by simp (disch := omega) only [↓reduceIte, decide_true, decide_false, Bool.false_eq_true, eq_self, s10, s01, cont_ok, has_ok, b2i0, b2i1, reduceCtorEq, Nat.or_zero, Nat.add_zero, sN_le, sN_lt, sN_eq, sN_lt0, sN_le0, sN_0le, sN_0lt, sN_eq0, sN_cl, sN_ad, sN_a1, K2, K3, K4, K5, K6, K7, K8, K9, K12, K16, K20, false_or, or_false, if_neg, if_pos, vl_s, bi1_s, bi2_s, nx_or, nx_and, nx_sh], fr⟩
      · obtain ⟨f, f1, f2⟩ := least_ex c
        have hf8 : f < 8 := by
          have := PP_sub (pOf_PP ov oa 0) k f ((rsT_tb (V := V)).mp f1).1
          omega
        have e2 : m2.1 230 f = nI (pOf V A L (rpO L (2 ^ k)) f) := by rw [hm2, wA_at, rowN_at _ _ hf8]
        have hpf := hpo f
        rw [leastOf_some hlt f1 f2, bi1_s, if_neg (show ¬ nI f = -1 from fun z => by have := nI_nn f (by omega); rw [z] at this; exact this (by decide)), wkT_f f1 f2]
        simp (disch := omega) only [↓reduceIte, decide_true, decide_false, Bool.false_eq_true, eq_self, s10, s01, cont_ok, has_ok, b2i0, b2i1, reduceCtorEq, Nat.or_zero, Nat.add_zero, sN_le, sN_lt, sN_eq, sN_lt0, sN_le0, sN_0le, sN_0lt, sN_eq0, sN_cl, sN_ad, sN_a1, K2, K3, K4, K5, K6, K7, K8, K9, K12, K16, K20, false_or, or_false, if_neg, if_pos, vl_s, bi1_s, bi2_s, nx_or, nx_and, nx_sh, e2]
        by_cases d : pOf V A L (rpO L (2 ^ k)) f = rsT V A L k
        · rw [if_pos d, pb_f (fun z => z d)]
          exact ⟨_, rfl, m2, by simp (disch := omega) only [↓reduceIte, decide_true, decide_false, Bool.false_eq_true, eq_self, s10, s01, cont_ok, has_ok, b2i0, b2i1, reduceCtorEq, Nat.or_zero, Nat.add_zero, sN_le, sN_lt, sN_eq, sN_lt0, sN_le0, sN_0le, sN_0lt, sN_eq0, sN_cl, sN_ad, sN_a1, K2, K3, K4, K5, K6, K7, K8, K9, K12, K16, K20, false_or, or_false, if_neg, if_pos, vl_s, bi1_s, bi2_s, nx_or, nx_and, nx_sh], fr⟩
        · rw [if_neg d, pb_t d]
          exact ⟨_, rfl, m2, by simp (disch := omega) only [↓reduceIte, decide_true, decide_false, Bool.false_eq_true, eq_self, s10, s01, cont_ok, has_ok, b2i0, b2i1, reduceCtorEq, Nat.or_zero, Nat.add_zero, sN_le, sN_lt, sN_eq, sN_lt0, sN_le0, sN_0le, sN_0lt, sN_eq0, sN_cl, sN_ad, sN_a1, K2, K3, K4, K5, K6, K7, K8, K9, K12, K16, K20, false_or, or_false, if_neg, if_pos, vl_s, bi1_s, bi2_s, nx_or, nx_and, nx_sh], fr⟩
    · obtain ⟨w, rfl, w1⟩ := hx
      have e3 : w.1 27 2 = nI (V 1 2) := by rw [w1 27 (fun z => by unfold scC at z; omega)]; exact hv.1.2.2
      refine ⟨_, ?_, w, rfl, w1⟩
      unfold f_X3_weakThings_s4
      dsimp only
      rw [e3, if_pos (by rw [sN_le (by omega) (by omega)]; omega)]
  obtain ⟨w, e, m1, rfl, h1⟩ := hx
  refine ⟨m1, ?_, h1⟩
  unfold f_X3_weakThings
  rw [e]
  rfl
theorem isWeak_f {mm : Mm} {V A : Dat} {L : Rop} {S : Int32} (hv : RvF mm V) (ov : RvOk V) (hr : RaF mm V A L S) (oa : RaOk V A L) {t : Nat} (ht : t < V 1 2 ∧ A 4 t = 0) : f_X12_isWeakThing mm (nI t) = some (if wkT V A L t then 1 else 0) := by
  have h8 := ov.2.2.1
  have hl := oa.2.1
  have hlt := rsT_lt V A L t
  have ers : ndf (pOf V A L 0 t) (2 ^ t) = rsT V A L t := rfl
  unfold f_X12_isWeakThing
  rw [pieceOf_f hv ov hr oa ht, bi1_s, nx_sh t (by omega), nx_ndf, vl_s, ers]
  by_cases c : rsT V A L t = 0
  · rw [c, if_pos (show nI 0 = 0 from rfl), wkT_0 c]
    rfl
  · obtain ⟨f, f1, f2⟩ := least_ex c
    have hf8 : f < 8 := by
      have := PP_sub (pOf_PP ov oa 0) t f ((rsT_tb (V := V)).mp f1).1
      omega
    have hp : 2 ^ L.length ≤ 2 ^ 12 := Nat.pow_le_pow_right (by decide) hl
    have hpf := pOf_lt V A L (rpO L (2 ^ t)) f
    rw [if_neg (by rw [sN_eq0 (by omega)]; exact c), least_f hlt f1 f2, bi1_s, allRopes_f hr oa, hangs_f h8 hl hr.2.2.1 (fun k hk => by have := oa.2.2.2.2 k hk; omega) (by omega) hf8, bi1_s, rest_pcs ov oa ht f1, wkT_f f1 f2]
    by_cases d : pOf V A L (rpO L (2 ^ t)) f = rsT V A L t
    · rw [if_pos (by rw [d]), pb_f (fun z => z d)]
      rfl
    · rw [if_neg (by rw [sN_eq (by omega) (by omega)]; exact d), pb_t d]
      rfl
theorem weakThings_f {mm : Mm} {V A : Dat} {L : Rop} {S : Int32} (hv : RvF mm V) (ov : RvOk V) (hr : RaF mm V A L S) (oa : RaOk V A L) : lp (f_X12_weak_s91 mm 1) ((0 : Int32), (0 : Int32)) = some (nI (bset (wkT V A L) (V 1 2))) := by
  have h8 := ov.2.2.1
  refine lpa (0 : Int32) (fun k => nI (bset (wkT V A L) k)) (V 1 2) rfl (fun k hk => ?_) ?_
  · have h1 := (hr.2.2.2.2 k hk).2.2
    have h2 := (oa.2.2.2.1 k hk).2.2
    unfold f_X12_weak_s91 f_X12_weak_j130 f_X12_weak_j131
    rw [show bset (wkT V A L) (k + 1) = bset (wkT V A L) k ||| (if wkT V A L k then 2 ^ k else 0) from rfl]
    dsimp only
    rw [hv.1.2.2, if_neg (by rw [sN_le (by omega) (by omega)]; omega), if_pos rfl, if_neg (gd_ok (by omega) (by decide)), cl_ok (by omega), h1]
    by_cases c : A 4 k = 0
    · rw [if_pos (by rw [c]; rfl), isWeak_f hv ov hr oa ⟨hk, c⟩, bi1_s]
      cases hc : wkT V A L k
      · simp (disch := omega) only [↓reduceIte, decide_true, decide_false, Bool.false_eq_true, eq_self, s10, s01, cont_ok, has_ok, b2i0, b2i1, reduceCtorEq, Nat.or_zero, Nat.add_zero, sN_le, sN_lt, sN_eq, sN_lt0, sN_le0, sN_0le, sN_0lt, sN_eq0, sN_cl, sN_ad, sN_a1, K2, K3, K4, K5, K6, K7, K8, K9, K12, K16, K20, false_or, or_false, if_neg, if_pos, vl_s, bi1_s, bi2_s, nx_or, nx_and, nx_sh, Int32.or_zero]
      · simp (disch := omega) only [↓reduceIte, decide_true, decide_false, Bool.false_eq_true, eq_self, s10, s01, cont_ok, has_ok, b2i0, b2i1, reduceCtorEq, Nat.or_zero, Nat.add_zero, sN_le, sN_lt, sN_eq, sN_lt0, sN_le0, sN_0le, sN_0lt, sN_eq0, sN_cl, sN_ad, sN_a1, K2, K3, K4, K5, K6, K7, K8, K9, K12, K16, K20, false_or, or_false, if_neg, if_pos, vl_s, bi1_s, bi2_s, nx_or, nx_and, nx_sh]
    · have h0 : rsT V A L k = 0 := by
        unfold rsT
        rw [(pOf_PP ov oa 0).2.2.1 k (fun z => c z.2)]
        exact zero_iff.mpr (fun t ht => by rw [ndf_tb, Nat.zero_testBit, Bool.false_and] at ht; exact absurd ht (by decide))
      rw [if_neg (by rw [sN_eq0 (by omega)]; exact c), wkT_0 h0]
      simp (disch := omega) only [↓reduceIte, decide_true, decide_false, Bool.false_eq_true, eq_self, s10, s01, cont_ok, has_ok, b2i0, b2i1, reduceCtorEq, Nat.or_zero, Nat.add_zero, sN_le, sN_lt, sN_eq, sN_lt0, sN_le0, sN_0le, sN_0lt, sN_eq0, sN_cl, sN_ad, sN_a1, K2, K3, K4, K5, K6, K7, K8, K9, K12, K16, K20, false_or, or_false, if_neg, if_pos, vl_s, bi1_s, bi2_s, nx_or, nx_and, nx_sh, Int32.or_zero]
  · unfold f_X12_weak_s91
    dsimp only
    rw [hv.1.2.2, if_pos (by rw [sN_le (by omega) (by omega)]; omega)]
theorem sm_weak_ok : sm_weak Inv := by
  intro mm x hInv
  obtain ⟨ol, V, R, na, P, O, xx, hC, hF, ok⟩ := SimS_St hInv.2.2.1
  have hv := StC_rv hC
  have hr := StC_ra hC
  have hvF := rvF_RvF hF.1 ok.1
  have hrF := StF_ra hF
  have ov := ok.1.1
  have oa := ok.2.2.2.2.2.2.1
  have h99 := ov.1
  unfold f_X11_weak
  rw [hasRiver_ok hv.1.1 h99]
  by_cases c0 : V 1 0 = 0
  · rw [if_pos c0, if_pos rfl]
    refine ⟨-1, mm, rfl, ?_, hInv⟩
    unfold f_X12_weak
    rw [isRiver_ok hvF.1.1 h99, if_pos c0, if_pos rfl]
  · rw [if_neg c0, if_neg (by decide)]
    rcases in01 x with ⟨rfl, hin⟩ | ⟨rfl, hin⟩ | ⟨hw, hin⟩
    · obtain ⟨m1, e1, f1⟩ := weakRopes_c hv ov hr oa
      have hF1 : StF (fS m1) V R na P O xx := StF_cl (fun i hi => f1 i (sc_F hi)) hF
      have hv1 := rvF_RvF hF1.1 ok.1
      refine ⟨_, m1, by rw [if_pos rfl, e1, bi2_s], ?_, Inv_sc hInv f1⟩
      unfold f_X12_weak
      rw [isRiver_ok hv1.1.1 h99, if_neg c0, if_neg (show ¬ (1 : Int32) = 0 by decide), hin, if_neg (by decide), weakRopes_f hv1 ov (StF_ra hF1) oa, bi1_s, lp_end (r := nI (bset (wkR V R.1 R.2.1) R.2.1.length)) ?_]
      · rfl
      · unfold f_X12_weak_s91
        dsimp only
        by_cases d : m1.1 1089 3 ≤ 0
        · rw [if_pos d]
        · rw [if_neg d, if_neg (by decide)]
    · obtain ⟨m1, e1, f1⟩ := weakThings_c hv ov hr oa
      have hF1 : StF (fS m1) V R na P O xx := StF_cl (fun i hi => f1 i (sc_F hi)) hF
      have hv1 := rvF_RvF hF1.1 ok.1
      refine ⟨_, m1, by rw [if_neg (by decide), if_pos rfl, e1, bi2_s], ?_, Inv_sc hInv f1⟩
      unfold f_X12_weak
      rw [isRiver_ok hv1.1.1 h99, if_neg c0, if_neg (show ¬ (1 : Int32) = 0 by decide), hin, if_neg (by decide), lp_end (st := f_X12_weak_s23 m1 1) (r := (0 : Int32)) ?_, bi1_s, weakThings_f hv1 ov (StF_ra hF1) oa, bi1_s]
      unfold f_X12_weak_s23
      dsimp only
      by_cases d : m1.1 1089 4 ≤ 0
      · rw [if_pos d]
      · rw [if_neg d, if_neg (by decide)]
    · have n0 : ¬ x = 0 := fun z => by
        subst z
        rcases hw with hw | ⟨_, hw⟩
        · exact absurd hw (by decide)
        · exact hw (by decide)
      have n1 : ¬ x = 1 := fun z => by
        subst z
        rcases hw with hw | ⟨_, hw⟩
        · exact absurd hw (by decide)
        · exact hw (by decide)
      refine ⟨-1, mm, by rw [if_neg n0, if_neg n1], ?_, hInv⟩
      unfold f_X12_weak
      rw [isRiver_ok hvF.1.1 h99, if_neg c0, if_neg (show ¬ (1 : Int32) = 0 by decide), hin, if_pos rfl]
