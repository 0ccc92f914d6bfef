/-! PHASE 2: a mile, step by step: what it does to the data; the reference's ropes -/
def tch (s : Nat) (L : Rop) (k : Nat) : Bool := s.testBit (rp L k).1 || s.testBit (rp L k).2.1
theorem K1c : (1 : Int32).toNatClampNeg = 1 := by decide
def frR2 (m m1 : Mm) : Prop := (∀ i, ¬ i = 1089 → ¬ i = 1099 → ¬ i = 1100 → ¬ i = 1101 → m1.1 i = m.1 i) ∧ ∀ k, ¬ k = 4 → ¬ k = 1 → m1.1 1089 k = m.1 1089 k
theorem RaF_rp {mm m1 : Mm} {V A : Dat} {L K : Rop} {S T : Int32} (hr : RaF mm V A L S) (hf : frR2 mm m1) (hk : RpOk (m1.1 1089 4) (m1.1 1099) (m1.1 1100) (m1.1 1101) K) (hs : m1.1 1089 1 = T) : RaF m1 V A K T := by
  refine ⟨?_, hs, hk, fun o ho => ?_, fun t ht => ?_⟩
  · rw [hf.2 6 (by decide) (by decide)]; exact hr.1
  · rw [hf.1 1092 (by decide) (by decide) (by decide) (by decide)]; exact hr.2.2.2.1 o ho
  · rw [hf.1 1093 (by decide) (by decide) (by decide) (by decide), hf.1 1095 (by decide) (by decide) (by decide) (by decide), hf.1 1097 (by decide) (by decide) (by decide) (by decide)]; exact hr.2.2.2.2 t ht
theorem ropesGoOf_f {mm : Mm} {V A : Dat} {L : Rop} {S : Int32} (hr : RaF mm V A L S) (hl : L.length ≤ 12) (hb : ∀ k, k < L.length → (rp L k).1 < 8 ∧ (rp L k).2.1 < 8) {s : Nat} (hs : s < 2 ^ 31) (st : Bool) : ∃ m1, f_X12_ropesGoOf mm (nI s) (if st then 1 else 0) = some (nI (cnt (tch s L) L.length), m1) ∧ RaF m1 V A (kp (tch s L) L 0 L.length) (if st then S + stp (tch s L) L L.length else S) ∧ frR2 mm m1 := by
  have hx : ∃ w, lp (f_X12_ropesGoOf_s12 (nI s) (if st then 1 else 0)) ((0 : Int32), nI L.length - 1, mm) = some w ∧ ∃ m, w = (nI (cnt (tch s L) L.length), m) ∧ RpOk (m.1 1089 4) (m.1 1099) (m.1 1100) (m.1 1101) (kp (tch s L) L 0 L.length) ∧ frR2 mm m ∧ m.1 1089 1 = (if st then S + stp (tch s L) L L.length else S) := by
    refine lp_inv (fun j x => ∃ m c, x = (nI c, nI (L.length - j) - 1, m) ∧ RpOk (m.1 1089 4) (m.1 1099) (m.1 1100) (m.1 1101) (kp ffb L 0 (L.length - j) ++ kp (tch s L) L (L.length - j) (L.length - (L.length - j))) ∧ frR2 mm m ∧ c + cnt (tch s L) (L.length - j) = cnt (tch s L) L.length ∧ m.1 1089 1 + (if st then stp (tch s L) L (L.length - j) else 0) = (if st then S + stp (tch s L) L L.length else S)) _ L.length (fun j x hj hx => ?_) (fun x hx => ?_) 0 _ (Nat.zero_le _) ?_
    · obtain ⟨m, c, rfl, q1, q2, q3, q4⟩ := hx
      obtain ⟨i, hi⟩ : ∃ i, L.length - j = i + 1 := ⟨L.length - j - 1, by omega⟩
      have hi2 : L.length - (j + 1) = i := by omega
      rw [hi] at q1 q3 q4 ⊢
      rw [hi2]
      have hil : i < L.length := by omega
      rw [(kp_step hil).1] at q1
      have hlen : (kp ffb L 0 i ++ rp L i :: kp (tch s L) L (i + 1) (L.length - (i + 1))).length ≤ 12 := by
        rw [List.length_append, kp_ff_len, List.length_cons]
        have := kp_len (tch s L) L (i + 1) (L.length - (i + 1))
        omega
      have hat := q1.2 i (by rw [List.length_append, kp_ff_len, List.length_cons]; omega)
      rw [kp_at] at hat
      have hbi := hb i hil
      have hcs : cnt (tch s L) (i + 1) = if tch s L i then cnt (tch s L) i + 1 else cnt (tch s L) i := rfl
      have hst : stp (tch s L) L (i + 1) = stp (tch s L) L i + (if tch s L i then nI (rp L i).2.2 else 0) := rfl
      have htc : tch s L i = (s.testBit (rp L i).1 || s.testBit (rp L i).2.1) := rfl
      rw [nI_s1]
      by_cases hc : tch s L i = true
      · rw [if_pos hc] at hcs hst
        have hgo : ∀ T : Int32, ∃ m1, f_X12_ropeGoes (wI m 1089 1 T) (nI i) = some m1 ∧ RpOk (m1.1 1089 4) (m1.1 1099) (m1.1 1100) (m1.1 1101) (kp ffb L 0 i ++ kp (tch s L) L i (L.length - i)) ∧ frR2 mm m1 ∧ m1.1 1089 1 = T := fun T => by
          obtain ⟨m1, e1, r1, f1⟩ := ropeGoes_f (mm := wI m 1089 1 T) (X := kp ffb L 0 i) (e := rp L i) (Y := kp (tch s L) L (i + 1) (L.length - (i + 1))) (by rw [wI_pl (by decide), wI_ne (by decide), wI_ne (by decide), wI_ne (by decide)]; exact q1) hlen
          rw [kp_ff_len] at e1
          have hs2 := (kp_step (g := tch s L) hil).2
          rw [if_pos hc] at hs2
          rw [hs2] at r1
          refine ⟨m1, e1, r1, ⟨fun k k1 k2 k3 k4 => ?_, fun k k1 k2 => ?_⟩, ?_⟩
          · rw [f1.1 k k1 k2 k3 k4, wI_ne k1, q2.1 k k1 k2 k3 k4]
          · rw [f1.2 k k1, wI_pl k2, q2.2 k k1 k2]
          · rw [f1.2 1 (by decide), wI_at]
        have hstep : f_X12_ropesGoOf_s12 (nI s) (if st then 1 else 0) (nI c, nI i, m) = bi1 (f_X12_ropeGoes (wI m 1089 1 (m.1 1089 1 + (if st then nI (rp L i).2.2 else 0))) (nI i)) fun mm_4 => some (.inl (nI (c + 1), nI i - 1, mm_4)) := by
          unfold f_X12_ropesGoOf_s12 f_X12_ropesGoOf_j45 f_X12_ropesGoOf_j67
          rw [htc] at hc
          have h19 : ¬ ((1 : Int32) < 0 ∨ 9 ≤ (1 : Int32).toNatClampNeg) := by decide
          cases st
          · simp (disch := omega) only [↓reduceIte, decide_true, decide_false, Bool.false_eq_true, eq_self, s10, s01, cont_ok, has_ok, b2i0, b2i1, reduceCtorEq, Nat.or_zero, Nat.add_zero, sN_le, sN_lt, sN_eq, sN_lt0, sN_le0, sN_0le, sN_0lt, sN_eq0, sN_cl, sN_ad, sN_a1, K2, K3, K4, K5, K6, K7, K8, K9, K12, K16, K20, false_or, or_false, if_neg, if_pos, vl_s, bi1_s, bi2_s, nx_or, nx_and, nx_sh, hat.1, hat.2.1, hat.2.2, if_neg h19, K1c, nI_m1]
            cases h1 : s.testBit (rp L i).1
            · rw [h1, Bool.false_or] at hc
              rw [if_pos rfl, if_neg (by rw [hc]; decide), if_neg (by decide)]
            · rw [if_neg (by decide), if_neg (by decide)]
          · simp (disch := omega) only [↓reduceIte, decide_true, decide_false, Bool.false_eq_true, eq_self, s10, s01, cont_ok, has_ok, b2i0, b2i1, reduceCtorEq, Nat.or_zero, Nat.add_zero, sN_le, sN_lt, sN_eq, sN_lt0, sN_le0, sN_0le, sN_0lt, sN_eq0, sN_cl, sN_ad, sN_a1, K2, K3, K4, K5, K6, K7, K8, K9, K12, K16, K20, false_or, or_false, if_neg, if_pos, vl_s, bi1_s, bi2_s, nx_or, nx_and, nx_sh, hat.1, hat.2.1, hat.2.2, if_neg h19, K1c, nI_m1]
            cases h1 : s.testBit (rp L i).1
            · rw [h1, Bool.false_or] at hc
              rw [if_pos rfl, if_neg (by rw [hc]; decide), if_neg (by decide)]
            · rw [if_neg (by decide), if_neg (by decide)]
        obtain ⟨m1, e1, r1, f1, t1⟩ := hgo (m.1 1089 1 + (if st then nI (rp L i).2.2 else 0))
        rw [hstep, e1, bi1_s]
        refine ⟨_, rfl, m1, c + 1, rfl, r1, f1, by omega, ?_⟩
        rw [t1, ← q4, hst]
        cases st
        · show m.1 1089 1 + 0 + 0 = m.1 1089 1 + 0
          rw [Int32.add_zero]
        · show m.1 1089 1 + nI (rp L i).2.2 + stp (tch s L) L i = m.1 1089 1 + (stp (tch s L) L i + nI (rp L i).2.2)
          rw [Int32.add_assoc, Int32.add_comm (nI (rp L i).2.2)]
      · have hcf := Bool.eq_false_iff.mpr hc
        rw [if_neg hc] at hcs hst
        rw [htc, Bool.or_eq_false_iff] at hcf
        refine ⟨(nI c, nI i - 1, m), ?_, m, c, rfl, ?_, q2, by omega, ?_⟩
        · unfold f_X12_ropesGoOf_s12
          simp (disch := omega) only [↓reduceIte, decide_true, decide_false, Bool.false_eq_true, eq_self, s10, s01, cont_ok, has_ok, b2i0, b2i1, reduceCtorEq, Nat.or_zero, Nat.add_zero, sN_le, sN_lt, sN_eq, sN_lt0, sN_le0, sN_0le, sN_0lt, sN_eq0, sN_cl, sN_ad, sN_a1, K2, K3, K4, K5, K6, K7, K8, K9, K12, K16, K20, false_or, or_false, if_neg, if_pos, vl_s, bi1_s, bi2_s, nx_or, nx_and, nx_sh, hat.1, hat.2.1, hcf.1, hcf.2, nI_m1]
        · have hs2 := (kp_step (g := tch s L) hil).2
          rw [if_neg hc] at hs2
          rw [← hs2]
          exact q1
        · rw [hst, Int32.add_zero] at q4
          exact q4
    · obtain ⟨m, c, rfl, q1, q2, q3, q4⟩ := hx
      rw [Nat.sub_self] at q1 q3 q4 ⊢
      refine ⟨(nI c, m), ?_, m, ?_, q1, q2, ?_⟩
      · unfold f_X12_ropesGoOf_s12
        dsimp only
        rw [if_pos (by decide)]
      · rw [← q3]; rfl
      · rw [← q4]
        cases st
        · exact (Int32.add_zero _).symm
        · exact (Int32.add_zero _).symm
    · refine ⟨mm, 0, rfl, ?_, ⟨fun _ _ _ _ _ => rfl, fun _ _ _ => rfl⟩, by rw [Nat.sub_zero, Nat.zero_add], ?_⟩
      · rw [Nat.sub_zero, Nat.sub_self, kp_ff]
        show RpOk _ _ _ _ (L ++ [])
        rw [List.append_nil]
        exact hr.2.2.1
      · rw [hr.2.1, Nat.sub_zero]
        cases st
        · exact Int32.add_zero _
        · rfl
  obtain ⟨w, e, m, rfl, q1, q2, q3⟩ := hx
  refine ⟨m, ?_, RaF_rp hr q2 q1 q3, q2⟩
  unfold f_X12_ropesGoOf
  rw [hr.2.2.1.1, vl_s, e]
  rfl
def brk (fc : Nat) (L : Rop) (k : Nat) : Bool := decide ((rp L k).2.2 < fc)
theorem breaks_f {mm : Mm} {V A : Dat} {L : Rop} {S : Int32} (hr : RaF mm V A L S) (hl : L.length ≤ 12) (hb : ∀ k, k < L.length → (rp L k).2.2 ≤ 9) {fc : Nat} (hs : fc ≤ 9) (h0 : mm.1 1088 52 = 0) : ∃ m1, lp (f_X12_mileBy_s90 (nI fc)) (nI L.length - 1, mm) = some m1 ∧ RaF m1 V A (kp (brk fc L) L 0 L.length) S ∧ m1.1 1088 52 = nI (cnt (brk fc L) L.length) ∧ (∀ i, ¬ i = 1088 → ¬ i = 1089 → ¬ i = 1099 → ¬ i = 1100 → ¬ i = 1101 → m1.1 i = mm.1 i) ∧ (∀ k, ¬ k = 52 → m1.1 1088 k = mm.1 1088 k) ∧ ∀ k, ¬ k = 4 → m1.1 1089 k = mm.1 1089 k := by
  have hx : ∃ m, lp (f_X12_mileBy_s90 (nI fc)) (nI L.length - 1, mm) = some m ∧ RpOk (m.1 1089 4) (m.1 1099) (m.1 1100) (m.1 1101) (kp (brk fc L) L 0 L.length) ∧ m.1 1088 52 = nI (cnt (brk fc L) L.length) ∧ (∀ i, ¬ i = 1088 → ¬ i = 1089 → ¬ i = 1099 → ¬ i = 1100 → ¬ i = 1101 → m.1 i = mm.1 i) ∧ (∀ k, ¬ k = 52 → m.1 1088 k = mm.1 1088 k) ∧ ∀ k, ¬ k = 4 → m.1 1089 k = mm.1 1089 k := by
    refine lp_inv (fun j x => ∃ m c, x = (nI (L.length - j) - 1, m) ∧ RpOk (m.1 1089 4) (m.1 1099) (m.1 1100) (m.1 1101) (kp ffb L 0 (L.length - j) ++ kp (brk fc L) L (L.length - j) (L.length - (L.length - j))) ∧ m.1 1088 52 = nI c ∧ c + cnt (brk fc L) (L.length - j) = cnt (brk fc L) L.length ∧ (∀ i, ¬ i = 1088 → ¬ i = 1089 → ¬ i = 1099 → ¬ i = 1100 → ¬ i = 1101 → m.1 i = mm.1 i) ∧ (∀ k, ¬ k = 52 → m.1 1088 k = mm.1 1088 k) ∧ ∀ k, ¬ k = 4 → m.1 1089 k = mm.1 1089 k) _ L.length (fun j x hj hx => ?_) (fun x hx => ?_) 0 _ (Nat.zero_le _) ?_
    · obtain ⟨m, c, rfl, q1, q2, q3, q4, q5, q6⟩ := hx
      obtain ⟨i, hi⟩ : ∃ i, L.length - j = i + 1 := ⟨L.length - j - 1, by omega⟩
      have hi2 : L.length - (j + 1) = i := by omega
      rw [hi] at q1 q3 ⊢
      rw [hi2]
      have hil : i < L.length := by omega
      rw [(kp_step hil).1] at q1
      have hlen : (kp ffb L 0 i ++ rp L i :: kp (brk fc L) L (i + 1) (L.length - (i + 1))).length ≤ 12 := by
        rw [List.length_append, kp_ff_len, List.length_cons]
        have := kp_len (brk fc L) L (i + 1) (L.length - (i + 1))
        omega
      have hat := q1.2 i (by rw [List.length_append, kp_ff_len, List.length_cons]; omega)
      rw [kp_at] at hat
      have hbi := hb i hil
      have hcs : cnt (brk fc L) (i + 1) = if brk fc L i then cnt (brk fc L) i + 1 else cnt (brk fc L) i := rfl
      have hbk : (brk fc L i = true) = ((rp L i).2.2 < fc) := propext decide_eq_true_iff
      rw [nI_s1]
      by_cases hc : brk fc L i = true
      · rw [if_pos hc] at hcs
        obtain ⟨m1, e1, r1, f1⟩ := ropeGoes_f (X := kp ffb L 0 i) (e := rp L i) (Y := kp (brk fc L) L (i + 1) (L.length - (i + 1))) q1 hlen
        rw [kp_ff_len] at e1
        have hs2 := (kp_step (g := brk fc L) hil).2
        rw [if_pos hc] at hs2
        rw [hs2] at r1
        rw [hbk] at hc
        have e52 : m1.1 1088 52 = nI c := by rw [f1.1 1088 (by decide) (by decide) (by decide) (by decide)]; exact q2
        refine ⟨(nI i - 1, wI m1 1088 52 (nI (c + 1))), ?_, wI m1 1088 52 (nI (c + 1)), c + 1, rfl, ?_, wI_at _ _ _ _, by omega, fun k k0 k1 k2 k3 k4 => ?_, fun k hk => ?_, fun k hk => ?_⟩
        · unfold f_X12_mileBy_s90
          simp (disch := omega) only [↓reduceIte, decide_true, decide_false, Bool.false_eq_true, eq_self, s10, s01, cont_ok, has_ok, b2i0, b2i1, reduceCtorEq, Nat.or_zero, Nat.add_zero, sN_le, sN_lt, sN_eq, sN_lt0, sN_le0, sN_0le, sN_0lt, sN_eq0, sN_cl, sN_ad, sN_a1, K2, K3, K4, K5, K6, K7, K8, K9, K12, K16, K20, false_or, or_false, if_neg, if_pos, vl_s, bi1_s, bi2_s, nx_or, nx_and, nx_sh, hat.2.2, nI_m1]
          rw [e1, bi1_s, e52, sN_a1]
        · rw [wI_ne (by decide), wI_ne (by decide), wI_ne (by decide), wI_ne (by decide)]
          exact r1
        · rw [wI_ne k0, f1.1 k k1 k2 k3 k4, q4 k k0 k1 k2 k3 k4]
        · rw [wI_pl hk, f1.1 1088 (by decide) (by decide) (by decide) (by decide), q5 k hk]
        · rw [wI_ne (by decide), f1.2 k hk, q6 k hk]
      · rw [if_neg hc] at hcs
        have hs2 := (kp_step (g := brk fc L) hil).2
        rw [if_neg hc] at hs2
        rw [hbk] at hc
        refine ⟨(nI i - 1, m), ?_, m, c, rfl, ?_, q2, by omega, q4, q5, q6⟩
        · unfold f_X12_mileBy_s90
          simp (disch := omega) only [↓reduceIte, decide_true, decide_false, Bool.false_eq_true, eq_self, s10, s01, cont_ok, has_ok, b2i0, b2i1, reduceCtorEq, Nat.or_zero, Nat.add_zero, sN_le, sN_lt, sN_eq, sN_lt0, sN_le0, sN_0le, sN_0lt, sN_eq0, sN_cl, sN_ad, sN_a1, K2, K3, K4, K5, K6, K7, K8, K9, K12, K16, K20, false_or, or_false, if_neg, if_pos, vl_s, bi1_s, bi2_s, nx_or, nx_and, nx_sh, hat.2.2, nI_m1]
        · rw [← hs2]
          exact q1
    · obtain ⟨m, c, rfl, q1, q2, q3, q4, q5, q6⟩ := hx
      rw [Nat.sub_self] at q1 q3 ⊢
      refine ⟨m, ?_, q1, ?_, q4, q5, q6⟩
      · unfold f_X12_mileBy_s90
        dsimp only
        rw [if_pos (by decide)]
      · rw [q2, ← q3]; rfl
    · refine ⟨mm, 0, rfl, ?_, h0, by rw [Nat.sub_zero, Nat.zero_add], fun _ _ _ _ _ _ => rfl, fun _ _ => rfl, fun _ _ => rfl⟩
      rw [Nat.sub_zero, Nat.sub_self, kp_ff]
      show RpOk _ _ _ _ (L ++ [])
      rw [List.append_nil]
      exact hr.2.2.1
  obtain ⟨m, e, q1, q2, q3, q4, q5⟩ := hx
  refine ⟨m, e, ⟨?_, ?_, q1, fun o ho => ?_, fun t ht => ?_⟩, q2, q3, q4, q5⟩
  · rw [q5 6 (by decide)]; exact hr.1
  · rw [q5 1 (by decide)]; exact hr.2.1
  · rw [q3 1092 (by decide) (by decide) (by decide) (by decide) (by decide)]; exact hr.2.2.2.1 o ho
  · rw [q3 1093 (by decide) (by decide) (by decide) (by decide) (by decide), q3 1095 (by decide) (by decide) (by decide) (by decide) (by decide), q3 1097 (by decide) (by decide) (by decide) (by decide) (by decide)]; exact hr.2.2.2.2 t ht
/-- a loop that lays one place of some rows a step -/
theorem row_loop {st : (Int32 × Mm) → Option ((Int32 × Mm) ⊕ Mm)} {mm : Mm} (C : Nat → Prop) (F : Nat → Nat → Int32) (n : Nat) (hgo : ∀ k m, k < n → (∀ i j, ¬ (C i ∧ j < k) → m.1 i j = mm.1 i j) → ∃ m', st (nI k, m) = some (.inl (nI (k + 1), m')) ∧ (∀ i j, ¬ (C i ∧ j = k) → m'.1 i j = m.1 i j) ∧ ∀ i, C i → m'.1 i k = F i k) (hend : ∀ m, (∀ i j, ¬ (C i ∧ j < n) → m.1 i j = mm.1 i j) → st (nI n, m) = some (.inr m)) : ∃ m1, lp st ((0 : Int32), mm) = some m1 ∧ (∀ i j, ¬ (C i ∧ j < n) → m1.1 i j = mm.1 i j) ∧ ∀ i j, C i → j < n → m1.1 i j = F i j := by
  refine lp_inv (fun k x => ∃ m, x = (nI k, m) ∧ (∀ i j, ¬ (C i ∧ j < k) → m.1 i j = mm.1 i j) ∧ ∀ i j, C i → j < k → m.1 i j = F i j) _ n (fun k x hk hx => ?_) (fun x hx => ?_) 0 _ (Nat.zero_le _) ⟨mm, rfl, fun _ _ _ => rfl, fun _ _ _ h => absurd h (by omega)⟩
  · obtain ⟨m, rfl, m1, m2⟩ := hx
    obtain ⟨m', e, g1, g2⟩ := hgo k m hk m1
    refine ⟨_, e, m', rfl, fun i j h => ?_, fun i j hc hj => ?_⟩
    · rw [g1 i j (fun z => h ⟨z.1, by omega⟩), m1 i j (fun z => h ⟨z.1, by omega⟩)]
    · by_cases c : j = k
      · rw [c]; exact g2 i hc
      · rw [g1 i j (fun z => c z.2), m2 i j hc (by omega)]
  · obtain ⟨m, rfl, m1, m2⟩ := hx
    exact ⟨m, hend m m1, m1, m2⟩
/-! the data's steps -/
def upA (A : Dat) (j : Nat) (f : Nat → Nat) : Dat := fun i k => if i = j then f k else A i k
def ml1 (V A : Dat) : Dat := upA (upA A 3 (fun t => if A 4 t = 0 then A 3 t - V 5 t else A 3 t)) 0 (fun _ => A 0 1 + 1)
def st1 (V : Dat) (R : Rf) : Rf := (ml1 V R.1, R.2.1, R.2.2)
def st2 (fc : Nat) (R : Rf) : Rf := (R.1, kp (brk fc R.2.1) R.2.1 0 R.2.1.length, R.2.2)
def lnd (V A : Dat) (t : Nat) : Bool := (decide (A 1 (A 2 t) = 0) && decide (V 2 (A 2 t) = A 0 1)) && decide (A 4 t = 0)
def ash (V A : Dat) : Nat := bset (lnd V A) (V 1 2)
def fa3 (V A : Dat) (o : Nat) : Nat := if A 1 o = 0 ∧ V 2 o = A 0 1 then 1 else A 1 o
def ml3 (V A : Dat) : Dat := upA (upA A 4 (fun t => if (ash V A).testBit t then 1 else A 4 t)) 1 (fa3 V A)
def st3 (V : Dat) (R : Rf) : Rf := (ml3 V R.1, kp (tch (ash V R.1) R.2.1) R.2.1 0 R.2.1.length, R.2.2 + stp (tch (ash V R.1) R.2.1) R.2.1 R.2.1.length)
noncomputable def los (V A : Dat) (L : Rop) : Nat := nfl V A (pOf V A L 0) (rid V A (pOf V A L 0)) 8
noncomputable def fa4 (V A : Dat) (L : Rop) (o : Nat) : Nat := if rid V A (pOf V A L 0) o &&& los V A L = 0 then A 1 o else 2
noncomputable def ml4 (V A : Dat) (L : Rop) : Dat := upA (upA (upA A 5 (fun t => if (los V A L).testBit t then A 0 1 else A 5 t)) 4 (fun t => if (los V A L).testBit t then 2 else A 4 t)) 1 (fa4 V A L)
noncomputable def st4 (V : Dat) (R : Rf) : Rf := (ml4 V R.1 R.2.1, kp (tch (los V R.1 R.2.1) R.2.1) R.2.1 0 R.2.1.length, R.2.2)
theorem ash_lt {V A : Dat} (h : V 1 2 ≤ 8) : ash V A < 256 := Nat.lt_of_lt_of_le (bset_lt _ _) (Nat.pow_le_pow_right (by decide) h)
theorem los_lt (V A : Dat) (L : Rop) : los V A L < 256 := nfl_lt (fun t _ => pOf_lt V A L 0 t) 8 (Nat.le_refl _)
theorem st1_ok {V : Dat} {R : Rf} (h : RaOk V R.1 R.2.1) (hm : R.1 0 1 < V 1 0) : RaOk V (st1 V R).1 (st1 V R).2.1 := by
  refine ⟨?_, h.2.1, h.2.2.1, fun t ht => ?_, h.2.2.2.2⟩
  · show R.1 0 1 + 1 ≤ V 1 0
    omega
  · have h1 := h.2.2.2.1 t ht
    refine ⟨h1.1, ?_, h1.2.2⟩
    show (if R.1 4 t = 0 then R.1 3 t - V 5 t else R.1 3 t) ≤ 99
    split <;> omega
theorem kp_ok {V A : Dat} {L : Rop} (h : RaOk V A L) (g : Nat → Bool) : RaOk V A (kp g L 0 L.length) := by
  refine ⟨h.1, Nat.le_trans (kp_len _ _ _ _) h.2.1, h.2.2.1, h.2.2.2.1, fun k hk => ?_⟩
  obtain ⟨j, j1, j2, j3⟩ := kp_mem hk
  rw [j3]
  exact h.2.2.2.2 j j1
theorem st2_ok {V : Dat} {R : Rf} (h : RaOk V R.1 R.2.1) (fc : Nat) : RaOk V (st2 fc R).1 (st2 fc R).2.1 := kp_ok h _
/-- ropes at things that go are gone: the others' ends are still on the river -/
theorem go_ok {V A B : Dat} {L : Rop} {s : Nat} (h : RaOk V A L) (b0 : B 0 1 = A 0 1) (b1 : ∀ o, o < V 1 1 → B 1 o ≤ 2) (b2 : ∀ t, B 2 t = A 2 t) (b3 : ∀ t, B 3 t = A 3 t) (b4 : ∀ t, t < V 1 2 → B 4 t ≤ 2) (b5 : ∀ t, t < V 1 2 → s.testBit t = false → B 4 t = A 4 t) : RaOk V B (kp (tch s L) L 0 L.length) := by
  refine ⟨by rw [b0]; exact h.1, Nat.le_trans (kp_len _ _ _ _) h.2.1, b1, fun t ht => ?_, fun k hk => ?_⟩
  · rw [b2, b3]
    exact ⟨(h.2.2.2.1 t ht).1, (h.2.2.2.1 t ht).2.1, b4 t ht⟩
  · obtain ⟨j, j1, j2, j3⟩ := kp_mem hk
    have h1 := h.2.2.2.2 j j1
    rw [j3]
    unfold tch at j2
    rw [Bool.or_eq_false_iff] at j2
    refine ⟨h1.1, h1.2.1, h1.2.2.1, h1.2.2.2.1, ?_, ?_⟩
    · rw [b5 _ (by omega) j2.1]; exact h1.2.2.2.2.1
    · rw [b5 _ (by omega) j2.2]; exact h1.2.2.2.2.2
theorem st3_ok {V : Dat} {R : Rf} (h : RaOk V R.1 R.2.1) : RaOk V (st3 V R).1 (st3 V R).2.1 := by
  refine go_ok h rfl (fun o ho => ?_) (fun t => rfl) (fun t => rfl) (fun t ht => ?_) (fun t ht hs => ?_)
  · show fa3 V R.1 o ≤ 2
    unfold fa3
    have := h.2.2.1 o ho
    split <;> omega
  · show (if (ash V R.1).testBit t then 1 else R.1 4 t) ≤ 2
    have := (h.2.2.2.1 t ht).2.2
    split <;> omega
  · show (if (ash V R.1).testBit t then 1 else R.1 4 t) = R.1 4 t
    rw [hs]
    rfl
theorem st4_ok {V : Dat} {R : Rf} (h : RaOk V R.1 R.2.1) : RaOk V (st4 V R).1 (st4 V R).2.1 := by
  refine go_ok h rfl (fun o ho => ?_) (fun t => rfl) (fun t => rfl) (fun t ht => ?_) (fun t ht hs => ?_)
  · show fa4 V R.1 R.2.1 o ≤ 2
    unfold fa4
    have := h.2.2.1 o ho
    split <;> omega
  · show (if (los V R.1 R.2.1).testBit t then 2 else R.1 4 t) ≤ 2
    have := (h.2.2.2.1 t ht).2.2
    split <;> omega
  · show (if (los V R.1 R.2.1).testBit t then 2 else R.1 4 t) = R.1 4 t
    rw [hs]
    rfl
