/-! PHASE 2: owner, thing, margin, count -/
theorem sN_eq1 {a : Nat} (ha : a < 100000) : (nI a = 1) = (a = 1) := by
  rw [K1, sN_eq ha (by decide)]
def Afl (V A : Dat) (x : Int32) : Prop := ∃ t, (t < V 1 2 ∧ A 4 t = 0) ∧ x = nI t
theorem ni_not {x : Int32} {n : Nat} (hn : n ≤ 1000) (h : x < 0 ∨ nI n ≤ x) : ∀ t, t < n → ¬ x = nI t := fun t ht e => by
  subst e
  rcases h with h | h
  · exact nI_nn t (by omega) h
  · rw [nI_le_iff (by omega) (by omega)] at h
    omega
theorem nlt_of {x : Int32} {n : Nat} (h : nI n ≤ x) : ¬ x < nI n := fun z => by
  rw [Int32.lt_iff_toInt_lt] at z
  rw [Int32.le_iff_toInt_le] at h
  omega
theorem isAfloat_c {mm : Mm} {V A : Dat} {L : Rop} {S : Int32} (hv : RvC mm 27 V) (ov : RvOk V) (hr : RaC mm 33 V A L S) (oa : RaOk V A L) (x : Int32) : f_X11_isAfloat mm x = some (if pb (Afl V A x) then 1 else 0) := by
  have h8 := ov.2.2.1
  unfold f_X11_isAfloat
  rw [hv.1.2.2]
  rcases i_cases x (V 1 2) (by omega) with hx | hx | ⟨t, ht, rfl⟩
  · rw [if_pos hx, pb_f (fun ⟨t, h1, h2⟩ => ni_not (by omega) (Or.inl hx) t h1.1 h2)]
    rfl
  · rw [pb_f (fun ⟨t, h1, h2⟩ => ni_not (by omega) (Or.inr hx) t h1.1 h2), if_pos hx]
    by_cases h0 : x < 0
    · rw [if_pos h0]; rfl
    · rw [if_neg h0]; rfl
  · have e : mm.1 37 t = nI (A 4 t) := (hr.2.2.2.2 t ht).2.2
    have h2 := (oa.2.2.2.1 t ht).2.2
    simp (disch := omega) only [↓reduceIte, decide_true, decide_false, Bool.false_eq_true, eq_self, s10, s01, cont_ok, has_ok, b2i0, b2i1, reduceCtorEq, Nat.or_zero, Nat.add_zero, sN_le, sN_lt, sN_eq, sN_lt0, sN_le0, sN_0le, sN_0lt, sN_eq0, sN_cl, sN_ad, sN_a1, K2, K3, K4, K5, K6, K7, K8, K9, K12, K16, K20, false_or, or_false, if_neg, if_pos, vl_s, bi1_s, bi2_s, nx_or, nx_and, nx_sh, e]
    by_cases hc : A 4 t = 0
    · rw [pb_t ⟨t, ⟨ht, hc⟩, rfl⟩, if_pos hc]; rfl
    · rw [pb_f, if_neg hc]
      · rfl
      · rintro ⟨u, h1, h2⟩
        rw [nI_eq_iff (by omega) (by omega)] at h2
        rw [h2] at hc
        exact hc h1.2
theorem isThing_f {m : Mm} {n : Nat} (h : m.1 1089 3 = nI n) (hn : n ≤ 1000) (x : Int32) : f_X12_isThing m x = some (if x < 0 ∨ nI n ≤ x then 0 else 1) := by
  unfold f_X12_isThing
  rw [h, is_spec x n hn, if_neg is01]
theorem isOwner_f {m : Mm} {n : Nat} (h : m.1 1089 2 = nI n) (hn : n ≤ 1000) (x : Int32) : f_X12_isOwner m x = some (if x < 0 ∨ nI n ≤ x then 0 else 1) := by
  unfold f_X12_isOwner
  rw [h, is_spec x n hn, if_neg is01]
theorem isAfloat_f {mm : Mm} {V A : Dat} {L : Rop} {S : Int32} (hv : RvF mm V) (ov : RvOk V) (hr : RaF mm V A L S) (oa : RaOk V A L) (x : Int32) : f_X12_isAfloat mm x = some (if pb (Afl V A x) then 1 else 0) := by
  have h8 := ov.2.2.1
  unfold f_X12_isAfloat
  rw [isThing_f hv.1.2.2 (by omega), bi1_s]
  rcases i_cases x (V 1 2) (by omega) with hx | hx | ⟨t, ht, rfl⟩
  · rw [if_pos (Or.inl hx), if_pos rfl, pb_f (fun ⟨t, h1, h2⟩ => ni_not (by omega) (Or.inl hx) t h1.1 h2)]
    rfl
  · rw [if_pos (Or.inr hx), if_pos rfl, pb_f (fun ⟨t, h1, h2⟩ => ni_not (by omega) (Or.inr hx) t h1.1 h2)]
    rfl
  · have e : mm.1 1097 t = nI (A 4 t) := (hr.2.2.2.2 t ht).2.2
    have h2 := (oa.2.2.2.1 t ht).2.2
    simp (disch := omega) only [↓reduceIte, decide_true, decide_false, Bool.false_eq_true, eq_self, s10, s01, cont_ok, has_ok, b2i0, b2i1, reduceCtorEq, Nat.or_zero, Nat.add_zero, sN_le, sN_lt, sN_eq, sN_lt0, sN_le0, sN_0le, sN_0lt, sN_eq0, sN_cl, sN_ad, sN_a1, K2, K3, K4, K5, K6, K7, K8, K9, K12, K16, K20, false_or, or_false, if_neg, if_pos, vl_s, bi1_s, bi2_s, nx_or, nx_and, nx_sh, e]
    by_cases hc : A 4 t = 0
    · rw [pb_t ⟨t, ⟨ht, hc⟩, rfl⟩, if_pos hc]; rfl
    · rw [pb_f, if_neg hc]
      · rfl
      · rintro ⟨u, h1, h2⟩
        rw [nI_eq_iff (by omega) (by omega)] at h2
        rw [h2] at hc
        exact hc h1.2
/-- the memory behind find, and behind join -/
theorem sc_find {mm : Mm} {a b : Nat → Int32} (i : Nat) (h : ¬ scC i) : (wA (wA mm 230 a) 231 b).1 i = mm.1 i := by
  unfold scC at h
  rw [wA_ne (by omega), wA_ne (by omega)]
theorem sc_join {mm : Mm} {a : Nat → Int32} (i : Nat) (h : ¬ scC i) : (wA mm 230 a).1 i = mm.1 i := by
  unfold scC at h
  rw [wA_ne (by omega)]
theorem sc_F {i : Nat} (h : 1088 ≤ i) : ¬ scC i := fun z => by
  unfold scC at z
  omega
theorem sm_owner_ok : sm_owner Inv := by
  intro mm x w hInv
  obtain ⟨ol, V, R, na, P, O, xx, hC, hF, ok⟩ := SimS_St hInv.2.2.1
  have hv := StC_rv hC
  have hr := StC_ra hC
  have hvF := rvF_RvF hF.1 ok.1
  have hrF := StF_ra hF
  have ov := ok.1.1
  have oa := ok.2.2.2.2.2.2.1
  have h6 := ov.2.1
  have e1 : mm.1 27 1 = nI (V 1 1) := hv.1.2.1
  unfold f_X11_owner
  rw [e1]
  have neg : f_X12_isOwner mm x = some 0 → ∃ r m1, some ((-1 : Int32), mm) = some (r, m1) ∧ f_X12_owner m1 x w = some r ∧ Inv m1 := fun h => ⟨-1, mm, rfl, by unfold f_X12_owner; rw [h, bi1_s, if_pos rfl], hInv⟩
  rcases i_cases x (V 1 1) (by omega) with hx | hx | ⟨o, ho, rfl⟩
  · rw [if_pos hx]
    exact neg (by rw [isOwner_f hvF.1.2.1 (by omega), if_pos (Or.inl hx)])
  · rw [if_neg (nlt_of hx)]
    have := neg (by rw [isOwner_f hvF.1.2.1 (by omega), if_pos (Or.inr hx)])
    by_cases h0 : x < 0
    · rw [if_pos h0]; exact this
    · rw [if_neg h0]; exact this
  · have ho' : ∀ m : Mm, m.1 1089 2 = nI (V 1 1) → f_X12_isOwner m (nI o) = some 1 := fun m h => by
      rw [isOwner_f h (by omega), if_neg]
      rintro (z | z)
      · exact nI_nn o (by omega) z
      · rw [nI_le_iff (by omega) (by omega)] at z; omega
    have hI : f_X12_isOwner mm (nI o) = some 1 := ho' mm hvF.1.2.1
    have c2 : mm.1 28 o = nI (V 2 o) ∧ mm.1 29 o = nI (V 3 o) := hv.2.1 o ho
    have g2 := hvF.2.1 o ho
    have c3 : mm.1 34 o = nI (R.1 1 o) := hr.2.2.2.1 o ho
    have g3 := hrF.2.2.2.1 o ho
    simp (disch := omega) only [↓reduceIte, decide_true, decide_false, Bool.false_eq_true, eq_self, s10, s01, cont_ok, has_ok, b2i0, b2i1, reduceCtorEq, Nat.or_zero, Nat.add_zero, sN_le, sN_lt, sN_eq, sN_lt0, sN_le0, sN_0le, sN_0lt, sN_eq0, sN_cl, sN_ad, sN_a1, K2, K3, K4, K5, K6, K7, K8, K9, K12, K16, K20, false_or, or_false, if_neg, if_pos, vl_s, bi1_s, bi2_s, nx_or, nx_and, nx_sh]
    by_cases w0 : w = 0
    · refine ⟨_, mm, by rw [if_pos w0], ?_, hInv⟩
      unfold f_X12_owner
      rw [hI]
      simp (disch := omega) only [↓reduceIte, decide_true, decide_false, Bool.false_eq_true, eq_self, s10, s01, cont_ok, has_ok, b2i0, b2i1, reduceCtorEq, Nat.or_zero, Nat.add_zero, sN_le, sN_lt, sN_eq, sN_lt0, sN_le0, sN_0le, sN_0lt, sN_eq0, sN_cl, sN_ad, sN_a1, K2, K3, K4, K5, K6, K7, K8, K9, K12, K16, K20, false_or, or_false, if_neg, if_pos, vl_s, bi1_s, bi2_s, nx_or, nx_and, nx_sh, w0, c2.1, g2.1]
    · rw [if_neg w0]
      by_cases w1 : w = 1
      · refine ⟨_, mm, by rw [if_pos w1], ?_, hInv⟩
        unfold f_X12_owner
        rw [hI]
        simp (disch := omega) only [↓reduceIte, decide_true, decide_false, Bool.false_eq_true, eq_self, s10, s01, cont_ok, has_ok, b2i0, b2i1, reduceCtorEq, Nat.or_zero, Nat.add_zero, sN_le, sN_lt, sN_eq, sN_lt0, sN_le0, sN_0le, sN_0lt, sN_eq0, sN_cl, sN_ad, sN_a1, K2, K3, K4, K5, K6, K7, K8, K9, K12, K16, K20, false_or, or_false, if_neg, if_pos, vl_s, bi1_s, bi2_s, nx_or, nx_and, nx_sh, sN_eq1, w0, w1, c2.2, g2.2]
      · rw [if_neg w1]
        by_cases w2 : w = nI 2
        · refine ⟨_, mm, by rw [if_pos w2], ?_, hInv⟩
          unfold f_X12_owner
          rw [hI]
          simp (disch := omega) only [↓reduceIte, decide_true, decide_false, Bool.false_eq_true, eq_self, s10, s01, cont_ok, has_ok, b2i0, b2i1, reduceCtorEq, Nat.or_zero, Nat.add_zero, sN_le, sN_lt, sN_eq, sN_lt0, sN_le0, sN_0le, sN_0lt, sN_eq0, sN_cl, sN_ad, sN_a1, K2, K3, K4, K5, K6, K7, K8, K9, K12, K16, K20, false_or, or_false, if_neg, if_pos, vl_s, bi1_s, bi2_s, nx_or, nx_and, nx_sh, sN_eq1, w0, w1, w2, c3, g3]
        · rw [if_neg w2]
          by_cases w3 : w = nI 3
          · rw [if_pos w3, show (0 : Int32) = nI 0 from rfl, find_c hv ov hr oa (by decide) (by decide) (by decide), bi1_s, wA_at, rowN_at _ _ (by omega)]
            generalize hm1 : wA (wA mm 230 (rowN 8 (pOf V R.1 R.2.1 0) (mm.1 230))) 231 (rowN 6 (rid V R.1 (pOf V R.1 R.2.1 0)) (mm.1 231)) = m1
            have fr : ∀ i, ¬ scC i → m1.1 i = mm.1 i := fun i hi => by rw [← hm1]; exact sc_find i hi
            have hInv1 := Inv_sc hInv fr
            have hvF1 : RvF m1 V := RvF_eq (fun i h1 _ => fr i (sc_F (by omega))) hvF
            have hrF1 : RaF m1 V R.1 R.2.1 R.2.2 := RaF_eq (fun i h1 _ => fr i (sc_F (by omega))) hrF
            have hlt := rid_lt (V := V) (A := R.1) (fun t _ => pOf_lt V R.1 R.2.1 0 t) o
            have ef : f_X12_owner m1 (nI o) w = bi1 (some (nI (rid V R.1 (pOf V R.1 R.2.1 0) o))) fun r_12 => if r_12 = 0 then some (-1 : Int32) else bi1 (f_X12_least m1 r_12) fun r_15 => some r_15 := by
              unfold f_X12_owner
              rw [ho' m1 hvF1.1.2.1, ← riddenBy_f hvF1 ov hrF1 oa (RR_all oa.2.1) ho, ← allRopes_f hrF1 oa]
              simp (disch := omega) only [↓reduceIte, decide_true, decide_false, Bool.false_eq_true, eq_self, s10, s01, cont_ok, has_ok, b2i0, b2i1, reduceCtorEq, Nat.or_zero, Nat.add_zero, sN_le, sN_lt, sN_eq, sN_lt0, sN_le0, sN_0le, sN_0lt, sN_eq0, sN_cl, sN_ad, sN_a1, K2, K3, K4, K5, K6, K7, K8, K9, K12, K16, K20, false_or, or_false, if_neg, if_pos, vl_s, bi1_s, bi2_s, nx_or, nx_and, nx_sh, sN_eq1, w0, w1, w2, w3]
            by_cases hz : rid V R.1 (pOf V R.1 R.2.1 0) o = 0
            · refine ⟨-1, m1, ?_, ?_, hInv1⟩
              · rw [hz, leastOf_none]; rfl
              · rw [ef, bi1_s, hz]; rfl
            · obtain ⟨t, t1, t2⟩ := least_ex hz
              refine ⟨nI t, m1, ?_, ?_, hInv1⟩
              · rw [leastOf_some hlt t1 t2]; rfl
              · rw [ef, bi1_s, if_neg (by rw [sN_eq0 (by omega)]; exact hz), least_f hlt t1 t2]; rfl
          · refine ⟨_, mm, by rw [if_neg w3], ?_, hInv⟩
            unfold f_X12_owner
            rw [hI]
            simp (disch := omega) only [↓reduceIte, decide_true, decide_false, Bool.false_eq_true, eq_self, s10, s01, cont_ok, has_ok, b2i0, b2i1, reduceCtorEq, Nat.or_zero, Nat.add_zero, sN_le, sN_lt, sN_eq, sN_lt0, sN_le0, sN_0le, sN_0lt, sN_eq0, sN_cl, sN_ad, sN_a1, K2, K3, K4, K5, K6, K7, K8, K9, K12, K16, K20, false_or, or_false, if_neg, if_pos, vl_s, bi1_s, bi2_s, nx_or, nx_and, nx_sh, sN_eq1, w0, w1, w2, w3]
theorem sm_thing_ok : sm_thing Inv := by
  intro mm x w hInv
  obtain ⟨ol, V, R, na, P, O, xx, hC, hF, ok⟩ := SimS_St hInv.2.2.1
  have hv := StC_rv hC
  have hr := StC_ra hC
  have hvF := rvF_RvF hF.1 ok.1
  have hrF := StF_ra hF
  have ov := ok.1.1
  have oa := ok.2.2.2.2.2.2.1
  have h8 := ov.2.2.1
  have e1 : mm.1 27 2 = nI (V 1 2) := hv.1.2.2
  unfold f_X11_thing
  rw [e1]
  have neg : f_X12_isThing mm x = some 0 → ∃ r m1, some ((-1 : Int32), mm) = some (r, m1) ∧ f_X12_thing m1 x w = some r ∧ Inv m1 := fun h => ⟨-1, mm, rfl, by unfold f_X12_thing; rw [h, bi1_s, if_pos rfl], hInv⟩
  rcases i_cases x (V 1 2) (by omega) with hx | hx | ⟨o, ho, rfl⟩
  · rw [if_pos hx]
    exact neg (by rw [isThing_f hvF.1.2.2 (by omega), if_pos (Or.inl hx)])
  · rw [if_neg (nlt_of hx)]
    have := neg (by rw [isThing_f hvF.1.2.2 (by omega), if_pos (Or.inr hx)])
    by_cases h0 : x < 0
    · rw [if_pos h0]; exact this
    · rw [if_neg h0]; exact this
  · have ho' : ∀ m : Mm, m.1 1089 3 = nI (V 1 2) → f_X12_isThing m (nI o) = some 1 := fun m h => by
      rw [isThing_f h (by omega), if_neg]
      rintro (z | z)
      · exact nI_nn o (by omega) z
      · rw [nI_le_iff (by omega) (by omega)] at z; omega
    have hI : f_X12_isThing mm (nI o) = some 1 := ho' mm hvF.1.2.2
    have c2 : mm.1 30 o = nI (V 4 o) ∧ mm.1 31 o = nI (V 5 o) := hv.2.2.1 o ho
    have g2 := hvF.2.2.1 o ho
    have c3 : mm.1 35 o = nI (R.1 2 o) ∧ mm.1 36 o = nI (R.1 3 o) ∧ mm.1 37 o = nI (R.1 4 o) := hr.2.2.2.2 o ho
    have g3 := hrF.2.2.2.2 o ho
    have g4 := oa.2.2.2.1 o ho
    simp (disch := omega) only [↓reduceIte, decide_true, decide_false, Bool.false_eq_true, eq_self, s10, s01, cont_ok, has_ok, b2i0, b2i1, reduceCtorEq, Nat.or_zero, Nat.add_zero, sN_le, sN_lt, sN_eq, sN_lt0, sN_le0, sN_0le, sN_0lt, sN_eq0, sN_cl, sN_ad, sN_a1, K2, K3, K4, K5, K6, K7, K8, K9, K12, K16, K20, false_or, or_false, if_neg, if_pos, vl_s, bi1_s, bi2_s, nx_or, nx_and, nx_sh]
    by_cases w0 : w = 0
    · refine ⟨_, mm, by rw [if_pos w0], ?_, hInv⟩
      unfold f_X12_thing
      rw [hI]
      simp (disch := omega) only [↓reduceIte, decide_true, decide_false, Bool.false_eq_true, eq_self, s10, s01, cont_ok, has_ok, b2i0, b2i1, reduceCtorEq, Nat.or_zero, Nat.add_zero, sN_le, sN_lt, sN_eq, sN_lt0, sN_le0, sN_0le, sN_0lt, sN_eq0, sN_cl, sN_ad, sN_a1, K2, K3, K4, K5, K6, K7, K8, K9, K12, K16, K20, false_or, or_false, if_neg, if_pos, vl_s, bi1_s, bi2_s, nx_or, nx_and, nx_sh, w0, c3.1, g3.1]
    · rw [if_neg w0]
      by_cases w1 : w = 1
      · refine ⟨_, mm, by rw [if_pos w1], ?_, hInv⟩
        unfold f_X12_thing
        rw [hI]
        simp (disch := omega) only [↓reduceIte, decide_true, decide_false, Bool.false_eq_true, eq_self, s10, s01, cont_ok, has_ok, b2i0, b2i1, reduceCtorEq, Nat.or_zero, Nat.add_zero, sN_le, sN_lt, sN_eq, sN_lt0, sN_le0, sN_0le, sN_0lt, sN_eq0, sN_cl, sN_ad, sN_a1, K2, K3, K4, K5, K6, K7, K8, K9, K12, K16, K20, false_or, or_false, if_neg, if_pos, vl_s, bi1_s, bi2_s, nx_or, nx_and, nx_sh, sN_eq1, w0, w1, c2.1, g2.1]
      · rw [if_neg w1]
        by_cases w2 : w = nI 2
        · refine ⟨_, mm, by rw [if_pos w2], ?_, hInv⟩
          unfold f_X12_thing
          rw [hI]
          simp (disch := omega) only [↓reduceIte, decide_true, decide_false, Bool.false_eq_true, eq_self, s10, s01, cont_ok, has_ok, b2i0, b2i1, reduceCtorEq, Nat.or_zero, Nat.add_zero, sN_le, sN_lt, sN_eq, sN_lt0, sN_le0, sN_0le, sN_0lt, sN_eq0, sN_cl, sN_ad, sN_a1, K2, K3, K4, K5, K6, K7, K8, K9, K12, K16, K20, false_or, or_false, if_neg, if_pos, vl_s, bi1_s, bi2_s, nx_or, nx_and, nx_sh, sN_eq1, w0, w1, w2, c3.2.1, g3.2.1]
        · rw [if_neg w2]
          by_cases w3 : w = nI 3
          · refine ⟨_, mm, by rw [if_pos w3], ?_, hInv⟩
            unfold f_X12_thing
            rw [hI]
            simp (disch := omega) only [↓reduceIte, decide_true, decide_false, Bool.false_eq_true, eq_self, s10, s01, cont_ok, has_ok, b2i0, b2i1, reduceCtorEq, Nat.or_zero, Nat.add_zero, sN_le, sN_lt, sN_eq, sN_lt0, sN_le0, sN_0le, sN_0lt, sN_eq0, sN_cl, sN_ad, sN_a1, K2, K3, K4, K5, K6, K7, K8, K9, K12, K16, K20, false_or, or_false, if_neg, if_pos, vl_s, bi1_s, bi2_s, nx_or, nx_and, nx_sh, sN_eq1, w0, w1, w2, w3, c2.2, g2.2]
          · rw [if_neg w3]
            by_cases w4 : w = nI 4
            · refine ⟨_, mm, by rw [if_pos w4], ?_, hInv⟩
              unfold f_X12_thing
              rw [hI]
              simp (disch := omega) only [↓reduceIte, decide_true, decide_false, Bool.false_eq_true, eq_self, s10, s01, cont_ok, has_ok, b2i0, b2i1, reduceCtorEq, Nat.or_zero, Nat.add_zero, sN_le, sN_lt, sN_eq, sN_lt0, sN_le0, sN_0le, sN_0lt, sN_eq0, sN_cl, sN_ad, sN_a1, K2, K3, K4, K5, K6, K7, K8, K9, K12, K16, K20, false_or, or_false, if_neg, if_pos, vl_s, bi1_s, bi2_s, nx_or, nx_and, nx_sh, sN_eq1, w0, w1, w2, w3, w4, c3.2.2, g3.2.2]
            · rw [if_neg w4]
              by_cases w5 : w = nI 5
              · rw [if_pos w5, show (0 : Int32) = nI 0 from rfl, join_c hv ov hr oa (by decide) (by decide) (by decide), bi1_s, wA_at, rowN_at _ _ (by omega)]
                generalize hm1 : wA mm 230 (rowN 8 (pOf V R.1 R.2.1 0) (mm.1 230)) = m1
                have fr : ∀ i, ¬ scC i → m1.1 i = mm.1 i := fun i hi => by rw [← hm1]; exact sc_join i hi
                have hInv1 := Inv_sc hInv fr
                have hvF1 : RvF m1 V := RvF_eq (fun i h1 _ => fr i (sc_F (by omega))) hvF
                have hrF1 : RaF m1 V R.1 R.2.1 R.2.2 := RaF_eq (fun i h1 _ => fr i (sc_F (by omega))) hrF
                have g5 := hrF1.2.2.2.2 o ho
                refine ⟨_, m1, rfl, ?_, hInv1⟩
                unfold f_X12_thing
                rw [ho' m1 hvF1.1.2.2]
                simp (disch := omega) only [↓reduceIte, decide_true, decide_false, Bool.false_eq_true, eq_self, s10, s01, cont_ok, has_ok, b2i0, b2i1, reduceCtorEq, Nat.or_zero, Nat.add_zero, sN_le, sN_lt, sN_eq, sN_lt0, sN_le0, sN_0le, sN_0lt, sN_eq0, sN_cl, sN_ad, sN_a1, K2, K3, K4, K5, K6, K7, K8, K9, K12, K16, K20, false_or, or_false, if_neg, if_pos, vl_s, bi1_s, bi2_s, nx_or, nx_and, nx_sh, sN_eq1, w0, w1, w2, w3, w4, w5, g5.2.2]
                by_cases hc : R.1 4 o = 0
                · rw [if_pos hc, pieceOf_f hvF1 ov hrF1 oa ⟨ho, hc⟩]
                  rfl
                · rw [if_neg hc, (pOf_PP ov oa 0).2.2.1 o (fun z => hc z.2)]
                  rfl
              · refine ⟨_, mm, by rw [if_neg w5], ?_, hInv⟩
                unfold f_X12_thing
                rw [hI]
                simp (disch := omega) only [↓reduceIte, decide_true, decide_false, Bool.false_eq_true, eq_self, s10, s01, cont_ok, has_ok, b2i0, b2i1, reduceCtorEq, Nat.or_zero, Nat.add_zero, sN_le, sN_lt, sN_eq, sN_lt0, sN_le0, sN_0le, sN_0lt, sN_eq0, sN_cl, sN_ad, sN_a1, K2, K3, K4, K5, K6, K7, K8, K9, K12, K16, K20, false_or, or_false, if_neg, if_pos, vl_s, bi1_s, bi2_s, nx_or, nx_and, nx_sh, sN_eq1, w0, w1, w2, w3, w4, w5]
theorem sm_margin_ok : sm_margin Inv := by
  intro mm x hInv
  obtain ⟨ol, V, R, na, P, O, xx, hC, hF, ok⟩ := SimS_St hInv.2.2.1
  have hv := StC_rv hC
  have hr := StC_ra hC
  have hvF := rvF_RvF hF.1 ok.1
  have hrF := StF_ra hF
  have ov := ok.1.1
  have oa := ok.2.2.2.2.2.2.1
  have h8 := ov.2.2.1
  unfold f_X11_margin
  rw [isAfloat_c hv ov hr oa, bi1_s]
  by_cases ha : Afl V R.1 x
  · have ha' := ha
    obtain ⟨t, ht, rfl⟩ := ha
    rw [pb_t ha', if_pos rfl, if_neg (by decide), show (0 : Int32) = nI 0 from rfl, find_c hv ov hr oa (by decide) (by decide) (by decide), bi1_s]
    generalize hm1 : wA (wA mm 230 (rowN 8 (pOf V R.1 R.2.1 0) (mm.1 230))) 231 (rowN 6 (rid V R.1 (pOf V R.1 R.2.1 0)) (mm.1 231)) = m1
    have fr : ∀ i, ¬ scC i → m1.1 i = mm.1 i := fun i hi => by rw [← hm1]; exact sc_find i hi
    have hInv1 := Inv_sc hInv fr
    have hvF1 : RvF m1 V := RvF_eq (fun i h1 _ => fr i (sc_F (by omega))) hvF
    have hrF1 : RaF m1 V R.1 R.2.1 R.2.2 := RaF_eq (fun i h1 _ => fr i (sc_F (by omega))) hrF
    have hv1 : RvC m1 27 V := RvC_eq (fun j hj => fr _ (fun z => by unfold scC at z; omega)) hv
    have hr1 : RaC m1 33 V R.1 R.2.1 R.2.2 := RaC_eq (fun j hj => fr _ (fun z => by unfold scC at z; omega)) hr
    have hp : ∀ t, t < 8 → m1.1 230 t = nI (pOf V R.1 R.2.1 0 t) ∧ pOf V R.1 R.2.1 0 t < 256 := fun t ht => ⟨by rw [← hm1, wA_ne (by decide), wA_at, rowN_at _ _ ht], pOf_lt _ _ _ _ _⟩
    have hq : ∀ o, o < 6 → m1.1 231 o = nI (rid V R.1 (pOf V R.1 R.2.1 0) o) ∧ rid V R.1 (pOf V R.1 R.2.1 0) o < 256 := fun o ho => ⟨by rw [← hm1, wA_at, rowN_at _ _ ho], rid_lt (fun t _ => pOf_lt _ _ _ _ _) o⟩
    have hlt := pOf_lt V R.1 R.2.1 0 t
    simp (disch := omega) only [↓reduceIte, decide_true, decide_false, Bool.false_eq_true, eq_self, s10, s01, cont_ok, has_ok, b2i0, b2i1, reduceCtorEq, Nat.or_zero, Nat.add_zero, sN_le, sN_lt, sN_eq, sN_lt0, sN_le0, sN_0le, sN_0lt, sN_eq0, sN_cl, sN_ad, sN_a1, K2, K3, K4, K5, K6, K7, K8, K9, K12, K16, K20, false_or, or_false, if_neg, if_pos, vl_s, bi1_s, bi2_s, nx_or, nx_and, nx_sh, (hp t (by omega)).1]
    rw [marginOf_c hv1 ov hr1 oa hq (by omega), bi1_s]
    refine ⟨_, m1, rfl, ?_, hInv1⟩
    unfold f_X12_margin
    rw [isAfloat_f hvF1 ov hrF1 oa, pb_t ha', bi1_s, if_pos rfl, if_neg (by decide), pieceOf_f hvF1 ov hrF1 oa ht, bi1_s, allRopes_f hrF1 oa, marginOf_f hvF1 ov hrF1 oa (RR_all oa.2.1) (by omega) ((PP_ne (pOf_PP ov oa 0) t).mpr ht), bi1_s]
  · rw [pb_f ha]
    refine ⟨_, mm, rfl, ?_, hInv⟩
    unfold f_X12_margin
    rw [isAfloat_f hvF ov hrF oa, pb_f ha]
    rfl
theorem least_lst {V A : Dat} {p : Nat → Nat} (h : PP V A p) {t u : Nat} (ht : t < V 1 2 ∧ A 4 t = 0) (h1 : (p t).testBit u = true) (h2 : ∀ z, z < u → (p t).testBit z = false) : (u = t) = (lst p t = true) := by
  refine propext ⟨fun e => ?_, fun e => ?_⟩
  · subst e
    unfold lst
    rw [Bool.and_eq_true, decide_eq_true_iff, decide_eq_true_iff, low_and]
    exact ⟨(PP_ne h u).mpr ht, fun z hz => Bool.eq_false_iff.mp (h2 z hz)⟩
  · unfold lst at e
    rw [Bool.and_eq_true, decide_eq_true_iff, decide_eq_true_iff, low_and] at e
    have h3 := h.2.1 t ht
    by_cases c : u < t
    · exact absurd h1 (e.2 u c)
    · by_cases d : t < u
      · rw [h2 t d] at h3; exact absurd h3 (by decide)
      · omega
theorem cnt_skip {V A : Dat} {p : Nat → Nat} (h : PP V A p) : ∀ k, cnt (lst p) (V 1 2 + k) = cnt (lst p) (V 1 2)
  | 0 => rfl
  | k + 1 => by
    show (if lst p (V 1 2 + k) then cnt (lst p) (V 1 2 + k) + 1 else cnt (lst p) (V 1 2 + k)) = _
    have : lst p (V 1 2 + k) = false := Bool.eq_false_iff.mpr (fun z => by have := ((lst_uni h _).mp z).1.1; omega)
    rw [this, if_neg (by decide), cnt_skip h k]
theorem pieces_f {mm : Mm} {V A : Dat} {L : Rop} {S : Int32} (hv : RvF mm V) (ov : RvOk V) (hr : RaF mm V A L S) (oa : RaOk V A L) : f_X12_pieces mm = some (nI (cnt (lst (pOf V A L 0)) 8)) := by
  have h8 := ov.2.2.1
  have hn := hv.1.2.2
  have pp := pOf_PP ov oa 0
  unfold f_X12_pieces
  rw [← show V 1 2 + (8 - V 1 2) = 8 by omega, cnt_skip pp, lpa (0 : Int32) (fun k => nI (cnt (lst (pOf V A L 0)) k)) (V 1 2) rfl (fun k hk => ?_) (r := nI (cnt (lst (pOf V A L 0)) (V 1 2))) ?_]
  · rfl
  · unfold f_X12_pieces_s4
    simp (disch := omega) only [↓reduceIte, decide_true, decide_false, Bool.false_eq_true, eq_self, s10, s01, cont_ok, has_ok, b2i0, b2i1, reduceCtorEq, Nat.or_zero, Nat.add_zero, sN_le, sN_lt, sN_eq, sN_lt0, sN_le0, sN_0le, sN_0lt, sN_eq0, sN_cl, sN_ad, sN_a1, K2, K3, K4, K5, K6, K7, K8, K9, K12, K16, K20, false_or, or_false, if_neg, if_pos, vl_s, bi1_s, bi2_s, nx_or, nx_and, nx_sh, hn]
  · have h1 := (hr.2.2.2.2 k hk).2.2
    have h2 := (oa.2.2.2.1 k hk).2.2
    have h3 := cnt_le (lst (pOf V A L 0)) k
    unfold f_X12_pieces_s4 f_X12_pieces_j40 f_X12_pieces_j41
    rw [show cnt (lst (pOf V A L 0)) (k + 1) = if lst (pOf V A L 0) k then cnt (lst (pOf V A L 0)) k + 1 else cnt (lst (pOf V A L 0)) k from rfl]
    simp (disch := omega) only [↓reduceIte, decide_true, decide_false, Bool.false_eq_true, eq_self, s10, s01, cont_ok, has_ok, b2i0, b2i1, reduceCtorEq, Nat.or_zero, Nat.add_zero, sN_le, sN_lt, sN_eq, sN_lt0, sN_le0, sN_0le, sN_0lt, sN_eq0, sN_cl, sN_ad, sN_a1, K2, K3, K4, K5, K6, K7, K8, K9, K12, K16, K20, false_or, or_false, if_neg, if_pos, vl_s, bi1_s, bi2_s, nx_or, nx_and, nx_sh, hn, h1]
    by_cases c : A 4 k = 0
    · have hne := (PP_ne pp k).mpr ⟨hk, c⟩
      obtain ⟨u, u1, u2⟩ := least_ex hne
      have hlt := pp.1 k
      have hu := (pp.2.2.2 k u u1).2.1
      rw [if_pos c, pieceOf_f hv ov hr oa ⟨hk, c⟩, bi1_s, least_f hlt u1 u2, bi1_s]
      simp (disch := omega) only [↓reduceIte, decide_true, decide_false, Bool.false_eq_true, eq_self, s10, s01, cont_ok, has_ok, b2i0, b2i1, reduceCtorEq, Nat.or_zero, Nat.add_zero, sN_le, sN_lt, sN_eq, sN_lt0, sN_le0, sN_0le, sN_0lt, sN_eq0, sN_cl, sN_ad, sN_a1, K2, K3, K4, K5, K6, K7, K8, K9, K12, K16, K20, false_or, or_false, if_neg, if_pos, vl_s, bi1_s, bi2_s, nx_or, nx_and, nx_sh, least_lst pp ⟨hk, c⟩ u1 u2]
      by_cases d : lst (pOf V A L 0) k = true
      · rw [if_pos d, if_pos d]
      · rw [if_neg d, if_neg d, Int32.add_zero]
    · have hl : lst (pOf V A L 0) k = false := Bool.eq_false_iff.mpr (fun z => c ((lst_uni pp k).mp z).1.2)
      rw [if_neg c, hl, if_neg (by decide), Int32.add_zero]
theorem sm_count_ok : sm_count Inv := by
  intro mm w hInv
  obtain ⟨ol, V, R, na, P, O, xx, hC, hF, ok⟩ := SimS_St hInv.2.2.1
  have hv := StC_rv hC
  have hr := StC_ra hC
  have hvF := rvF_RvF hF.1 ok.1
  have hrF := StF_ra hF
  have ov := ok.1.1
  have oa := ok.2.2.2.2.2.2.1
  obtain ⟨tl, t1, t2, t3, t4⟩ := hInv.1
  obtain ⟨nr, l1, l2, l3, l4, l5⟩ := hInv.2.1
  have pl : ∀ {a b : Int32}, a = b → ∀ m : Mm, Inv m → f_X12_count m w = some b → ∃ r m1, some (a, m) = some (r, m1) ∧ f_X12_count m1 w = some r ∧ Inv m1 := fun h m hm e => ⟨_, m, rfl, by rw [e, h], hm⟩
  unfold f_X11_count
  by_cases w0 : w = 0
  · rw [if_pos w0]
    exact pl (b := mm.1 1089 0) (hv.1.1.trans hvF.1.1.symm) mm hInv (by unfold f_X12_count; rw [if_pos w0])
  rw [if_neg w0]
  by_cases w1 : w = 1
  · rw [if_pos w1]
    exact pl (b := mm.1 1089 1) (hr.2.1.trans hrF.2.1.symm) mm hInv (by unfold f_X12_count; rw [if_neg w0, if_pos w1])
  rw [if_neg w1]
  by_cases w2 : w = 2
  · rw [if_pos w2]
    exact pl (b := mm.1 1089 2) (hv.1.2.1.trans hvF.1.2.1.symm) mm hInv (by unfold f_X12_count; rw [if_neg w0, if_neg w1, if_pos w2])
  rw [if_neg w2]
  by_cases w3 : w = 3
  · rw [if_pos w3]
    exact pl (b := mm.1 1089 3) (hv.1.2.2.trans hvF.1.2.2.symm) mm hInv (by unfold f_X12_count; rw [if_neg w0, if_neg w1, if_neg w2, if_pos w3])
  rw [if_neg w3]
  by_cases w4 : w = 4
  · rw [if_pos w4]
    exact pl (b := mm.1 1089 4) (hr.2.2.1.1.trans hrF.2.2.1.1.symm) mm hInv (by unfold f_X12_count; rw [if_neg w0, if_neg w1, if_neg w2, if_neg w3, if_pos w4])
  rw [if_neg w4]
  by_cases w5 : w = 5
  · rw [if_pos w5]
    exact pl (b := mm.1 1089 5) (hC.1.1.2.2.2.trans hF.1.1.2.2.2.symm) mm hInv (by unfold f_X12_count; rw [if_neg w0, if_neg w1, if_neg w2, if_neg w3, if_neg w4, if_pos w5])
  rw [if_neg w5]
  by_cases w6 : w = 6
  · rw [if_pos w6]
    exact pl (b := mm.1 1088 35) (l2.trans l3.symm) mm hInv (by unfold f_X12_count; rw [if_neg w0, if_neg w1, if_neg w2, if_neg w3, if_neg w4, if_neg w5, if_pos w6])
  rw [if_neg w6]
  by_cases w7 : w = 7
  · rw [if_pos w7]
    exact pl (b := mm.1 1089 6) (hr.1.trans hrF.1.symm) mm hInv (by unfold f_X12_count; rw [if_neg w0, if_neg w1, if_neg w2, if_neg w3, if_neg w4, if_neg w5, if_neg w6, if_pos w7])
  rw [if_neg w7]
  by_cases w8 : w = 8
  · rw [if_pos w8, show (0 : Int32) = nI 0 from rfl, join_c hv ov hr oa (by decide) (by decide) (by decide), bi1_s]
    generalize hm1 : wA mm 230 (rowN 8 (pOf V R.1 R.2.1 0) (mm.1 230)) = m1
    have fr : ∀ i, ¬ scC i → m1.1 i = mm.1 i := fun i hi => by rw [← hm1]; exact sc_join i hi
    have hInv1 := Inv_sc hInv fr
    have hvF1 : RvF m1 V := RvF_eq (fun i h1 _ => fr i (sc_F (by omega))) hvF
    have hrF1 : RaF m1 V R.1 R.2.1 R.2.2 := RaF_eq (fun i h1 _ => fr i (sc_F (by omega))) hrF
    rw [howMany_c (p := pOf V R.1 R.2.1 0) (fun t ht => ⟨by rw [← hm1, wA_at, rowN_at _ _ ht], pOf_lt _ _ _ _ _⟩), bi1_s]
    refine pl rfl m1 hInv1 ?_
    unfold f_X12_count
    rw [if_neg w0, if_neg w1, if_neg w2, if_neg w3, if_neg w4, if_neg w5, if_neg w6, if_neg w7, if_pos w8, pieces_f hvF1 ov hrF1 oa]
    rfl
  rw [if_neg w8]
  by_cases w9 : w = 9
  · rw [if_pos w9, show (0 : Int32) = nI 0 from rfl, thingsAt_c hv ov hr oa (by decide), bi1_s]
    refine pl rfl mm hInv ?_
    unfold f_X12_count
    rw [if_neg w0, if_neg w1, if_neg w2, if_neg w3, if_neg w4, if_neg w5, if_neg w6, if_neg w7, if_neg w8, if_pos w9, afloat_f hvF ov hrF oa]
    rfl
  rw [if_neg w9]
  by_cases w10 : w = 10
  · rw [if_pos w10]
    exact pl (b := mm.1 1089 7) (hC.2.1.1.trans hF.2.1.1.symm) mm hInv (by unfold f_X12_count; rw [if_neg w0, if_neg w1, if_neg w2, if_neg w3, if_neg w4, if_neg w5, if_neg w6, if_neg w7, if_neg w8, if_neg w9, if_pos w10])
  rw [if_neg w10]
  by_cases w11 : w = 11
  · rw [if_pos w11]
    exact pl (b := mm.1 1088 55) (hC.2.2.2.1.trans hF.2.2.1.symm) mm hInv (by unfold f_X12_count; rw [if_neg w0, if_neg w1, if_neg w2, if_neg w3, if_neg w4, if_neg w5, if_neg w6, if_neg w7, if_neg w8, if_neg w9, if_neg w10, if_pos w11])
  rw [if_neg w11]
  by_cases w12 : w = 12
  · rw [if_pos w12]
    exact pl (b := mm.1 1089 8) (hC.2.2.2.2.1.trans hF.2.2.2.1.symm) mm hInv (by unfold f_X12_count; rw [if_neg w0, if_neg w1, if_neg w2, if_neg w3, if_neg w4, if_neg w5, if_neg w6, if_neg w7, if_neg w8, if_neg w9, if_neg w10, if_neg w11, if_pos w12])
  rw [if_neg w12]
  by_cases w13 : w = 13
  · rw [if_pos w13]
    exact pl (b := mm.1 1088 31) (t2.trans t3.symm) mm hInv (by unfold f_X12_count; rw [if_neg w0, if_neg w1, if_neg w2, if_neg w3, if_neg w4, if_neg w5, if_neg w6, if_neg w7, if_neg w8, if_neg w9, if_neg w10, if_neg w11, if_neg w12, if_pos w13])
  rw [if_neg w13]
  exact pl (b := -1) rfl mm hInv (by unfold f_X12_count; rw [if_neg w0, if_neg w1, if_neg w2, if_neg w3, if_neg w4, if_neg w5, if_neg w6, if_neg w7, if_neg w8, if_neg w9, if_neg w10, if_neg w11, if_neg w12, if_neg w13])
