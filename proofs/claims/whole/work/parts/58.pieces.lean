/-! PHASE 2: the class's Pieces -/
theorem wI_wA (m : Mm) (i k : Nat) (f : Nat → Int32) (x : Int32) : wI (wA m i f) i k x = wA m i (fun l => if l = k then x else f l) := by
  refine Prod.ext ?_ rfl
  funext j l
  rw [wI_get, wA_get, wA_get]
  by_cases h : j = i
  · rw [if_pos h, if_pos h]
    by_cases h2 : l = k
    · rw [if_pos ⟨h, h2⟩, if_pos h2]
    · rw [if_neg (fun z => h2 z.2), if_neg h2]
  · rw [if_neg h, if_neg h, if_neg (fun z => h z.1)]
theorem wA_self (m : Mm) (i : Nat) : wA m i (m.1 i) = m := by
  refine Prod.ext ?_ rfl
  funext j
  rw [wA_get]
  by_cases h : j = i
  · rw [if_pos h, h]
  · rw [if_neg h]
theorem wA_ne {m : Mm} {i j : Nat} {f : Nat → Int32} (h : j ≠ i) : (wA m i f).1 j = m.1 j := by rw [wA_get, if_neg h]
theorem wA_at {m : Mm} {i : Nat} {f : Nat → Int32} : (wA m i f).1 i = f := by rw [wA_get, if_pos rfl]
/-- a row of which the first n places are told -/
def rowN (n : Nat) (p : Nat → Nat) (f : Nat → Int32) : Nat → Int32 := fun t => if t < n then nI (p t) else f t
theorem rowN_0 (p : Nat → Nat) (f : Nat → Int32) : rowN 0 p f = f := by
  funext t
  unfold rowN
  rw [if_neg (by omega)]
theorem rowN_su (n : Nat) (p : Nat → Nat) (f : Nat → Int32) : (fun l => if l = n then nI (p n) else rowN n p f l) = rowN (n + 1) p f := by
  funext t
  unfold rowN
  by_cases h : t = n
  · rw [if_pos h, if_pos (by omega), h]
  · rw [if_neg h]
    by_cases h2 : t < n
    · rw [if_pos h2, if_pos (by omega)]
    · rw [if_neg h2, if_neg (by omega)]
theorem rowN_at {n t : Nat} (p : Nat → Nat) (f : Nat → Int32) (h : t < n) : rowN n p f t = nI (p t) := by
  unfold rowN
  rw [if_pos h]
theorem rowN_ext {n : Nat} {p q : Nat → Nat} (f : Nat → Int32) (h : ∀ t, t < n → p t = q t) : rowN n p f = rowN n q f := by
  funext t
  unfold rowN
  by_cases h2 : t < n
  · rw [if_pos h2, if_pos h2, h t h2]
  · rw [if_neg h2, if_neg h2]
/-- unite: the two sets become one -/
theorem unite_s {m0' : Mm} {p : Nat → Nat} {f : Nat → Int32} (hp : ∀ t, t < 8 → p t < 256) {a b : Nat} (ha : a < 8) (hb : b < 8) : f_X2_unite (wA m0' 230 (rowN 8 p f)) (nI a) (nI b) = some (wA m0' 230 (rowN 8 (fun t => if p a = p b then p t else if (p a ||| p b).testBit t then p a ||| p b else p t) f)) := by
  have h1 := hp a ha
  have h2 := hp b hb
  have h3 : p a ||| p b < 2 ^ 31 := Nat.or_lt_two_pow (by omega) (by omega)
  unfold f_X2_unite
  simp (disch := omega) only [↓reduceIte, decide_true, decide_false, Bool.false_eq_true, eq_self, s10, s01, cont_ok, has_ok, b2i0, b2i1, reduceCtorEq, Nat.or_zero, Nat.add_zero, sN_le, sN_lt, sN_eq, sN_lt0, sN_le0, sN_0le, sN_0lt, sN_eq0, sN_cl, sN_ad, sN_a1, K2, K3, K4, K5, K6, K7, K8, K9, K12, K16, K20, false_or, or_false, if_neg, if_pos, vl_s, bi1_s, bi2_s, nx_or, nx_and, nx_sh, wA_at, rowN_at]
  by_cases h : p a = p b
  · simp (disch := omega) only [h, ↓reduceIte, decide_true, decide_false, Bool.false_eq_true, eq_self, s10, s01, cont_ok, has_ok, b2i0, b2i1, reduceCtorEq, Nat.or_zero, Nat.add_zero, sN_le, sN_lt, sN_eq, sN_lt0, sN_le0, sN_0le, sN_0lt, sN_eq0, sN_cl, sN_ad, sN_a1, K2, K3, K4, K5, K6, K7, K8, K9, K12, K16, K20, false_or, or_false, if_neg, if_pos, vl_s, bi1_s, bi2_s, nx_or, nx_and, nx_sh]
  · rw [if_neg h]
    have e : lp (f_X2_unite_s33 (nI (p a ||| p b))) ((0 : Int32), wA m0' 230 (rowN 8 p f)) = some (wA m0' 230 (rowN 8 (fun t => if (p a ||| p b).testBit t then p a ||| p b else p t) f)) := by
      refine lpf (fun k => (nI k, wA m0' 230 (fun t => if t < 8 then nI (if t < k ∧ (p a ||| p b).testBit t then p a ||| p b else p t) else f t))) 8 ?_ (fun k hk => ?_) ?_
      · refine congrArg (fun z => ((0 : Int32), wA m0' 230 z)) ?_
        funext t
        unfold rowN
        by_cases ht : t < 8
        · rw [if_pos ht, if_pos ht, if_neg (fun z => absurd z.1 (by omega))]
        · rw [if_neg ht, if_neg ht]
      · unfold f_X2_unite_s33
        simp (disch := omega) only [↓reduceIte, decide_true, decide_false, Bool.false_eq_true, eq_self, s10, s01, cont_ok, has_ok, b2i0, b2i1, reduceCtorEq, Nat.or_zero, Nat.add_zero, sN_le, sN_lt, sN_eq, sN_lt0, sN_le0, sN_0le, sN_0lt, sN_eq0, sN_cl, sN_ad, sN_a1, K2, K3, K4, K5, K6, K7, K8, K9, K12, K16, K20, false_or, or_false, if_neg, if_pos, vl_s, bi1_s, bi2_s, nx_or, nx_and, nx_sh]
        cases hc : (p a ||| p b).testBit k
        · simp (disch := omega) only [hc, ↓reduceIte, decide_true, decide_false, Bool.false_eq_true, eq_self, s10, s01, cont_ok, has_ok, b2i0, b2i1, reduceCtorEq, Nat.or_zero, Nat.add_zero, sN_le, sN_lt, sN_eq, sN_lt0, sN_le0, sN_0le, sN_0lt, sN_eq0, sN_cl, sN_ad, sN_a1, K2, K3, K4, K5, K6, K7, K8, K9, K12, K16, K20, false_or, or_false, if_neg, if_pos, vl_s, bi1_s, bi2_s, nx_or, nx_and, nx_sh]
          refine congrArg (fun z => some (Sum.inl (nI (k + 1), wA m0' 230 z))) ?_
          funext t
          by_cases ht : t = k
          · rw [ht, hc]
            simp (disch := omega) only [↓reduceIte, decide_true, decide_false, Bool.false_eq_true, eq_self, s10, s01, cont_ok, has_ok, b2i0, b2i1, reduceCtorEq, Nat.or_zero, Nat.add_zero, sN_le, sN_lt, sN_eq, sN_lt0, sN_le0, sN_0le, sN_0lt, sN_eq0, sN_cl, sN_ad, sN_a1, K2, K3, K4, K5, K6, K7, K8, K9, K12, K16, K20, false_or, or_false, if_neg, if_pos, vl_s, bi1_s, bi2_s, nx_or, nx_and, nx_sh, and_false]
          · by_cases h5 : t < k
            · simp (disch := omega) only [↓reduceIte, decide_true, decide_false, Bool.false_eq_true, eq_self, s10, s01, cont_ok, has_ok, b2i0, b2i1, reduceCtorEq, Nat.or_zero, Nat.add_zero, sN_le, sN_lt, sN_eq, sN_lt0, sN_le0, sN_0le, sN_0lt, sN_eq0, sN_cl, sN_ad, sN_a1, K2, K3, K4, K5, K6, K7, K8, K9, K12, K16, K20, false_or, or_false, if_neg, if_pos, vl_s, bi1_s, bi2_s, nx_or, nx_and, nx_sh, h5, show t < k + 1 by omega]
            · simp (disch := omega) only [↓reduceIte, decide_true, decide_false, Bool.false_eq_true, eq_self, s10, s01, cont_ok, has_ok, b2i0, b2i1, reduceCtorEq, Nat.or_zero, Nat.add_zero, sN_le, sN_lt, sN_eq, sN_lt0, sN_le0, sN_0le, sN_0lt, sN_eq0, sN_cl, sN_ad, sN_a1, K2, K3, K4, K5, K6, K7, K8, K9, K12, K16, K20, false_or, or_false, if_neg, if_pos, vl_s, bi1_s, bi2_s, nx_or, nx_and, nx_sh, h5, show ¬ t < k + 1 by omega, false_and]
        · simp (disch := omega) only [hc, ↓reduceIte, decide_true, decide_false, Bool.false_eq_true, eq_self, s10, s01, cont_ok, has_ok, b2i0, b2i1, reduceCtorEq, Nat.or_zero, Nat.add_zero, sN_le, sN_lt, sN_eq, sN_lt0, sN_le0, sN_0le, sN_0lt, sN_eq0, sN_cl, sN_ad, sN_a1, K2, K3, K4, K5, K6, K7, K8, K9, K12, K16, K20, false_or, or_false, if_neg, if_pos, vl_s, bi1_s, bi2_s, nx_or, nx_and, nx_sh, wI_wA]
          refine congrArg (fun z => some (Sum.inl (nI (k + 1), wA m0' 230 z))) ?_
          funext t
          by_cases ht : t = k
          · rw [ht, hc]
            simp (disch := omega) only [↓reduceIte, decide_true, decide_false, Bool.false_eq_true, eq_self, s10, s01, cont_ok, has_ok, b2i0, b2i1, reduceCtorEq, Nat.or_zero, Nat.add_zero, sN_le, sN_lt, sN_eq, sN_lt0, sN_le0, sN_0le, sN_0lt, sN_eq0, sN_cl, sN_ad, sN_a1, K2, K3, K4, K5, K6, K7, K8, K9, K12, K16, K20, false_or, or_false, if_neg, if_pos, vl_s, bi1_s, bi2_s, nx_or, nx_and, nx_sh, and_true]
          · rw [if_neg ht]
            by_cases h5 : t < k
            · simp (disch := omega) only [↓reduceIte, decide_true, decide_false, Bool.false_eq_true, eq_self, s10, s01, cont_ok, has_ok, b2i0, b2i1, reduceCtorEq, Nat.or_zero, Nat.add_zero, sN_le, sN_lt, sN_eq, sN_lt0, sN_le0, sN_0le, sN_0lt, sN_eq0, sN_cl, sN_ad, sN_a1, K2, K3, K4, K5, K6, K7, K8, K9, K12, K16, K20, false_or, or_false, if_neg, if_pos, vl_s, bi1_s, bi2_s, nx_or, nx_and, nx_sh, h5, show t < k + 1 by omega]
            · simp (disch := omega) only [↓reduceIte, decide_true, decide_false, Bool.false_eq_true, eq_self, s10, s01, cont_ok, has_ok, b2i0, b2i1, reduceCtorEq, Nat.or_zero, Nat.add_zero, sN_le, sN_lt, sN_eq, sN_lt0, sN_le0, sN_0le, sN_0lt, sN_eq0, sN_cl, sN_ad, sN_a1, K2, K3, K4, K5, K6, K7, K8, K9, K12, K16, K20, false_or, or_false, if_neg, if_pos, vl_s, bi1_s, bi2_s, nx_or, nx_and, nx_sh, h5, show ¬ t < k + 1 by omega, false_and]
      · unfold f_X2_unite_s33
        simp (disch := omega) only [↓reduceIte, decide_true, decide_false, Bool.false_eq_true, eq_self, s10, s01, cont_ok, has_ok, b2i0, b2i1, reduceCtorEq, Nat.or_zero, Nat.add_zero, sN_le, sN_lt, sN_eq, sN_lt0, sN_le0, sN_0le, sN_0lt, sN_eq0, sN_cl, sN_ad, sN_a1, K2, K3, K4, K5, K6, K7, K8, K9, K12, K16, K20, false_or, or_false, if_neg, if_pos, vl_s, bi1_s, bi2_s, nx_or, nx_and, nx_sh]
        refine congrArg (fun z => some (Sum.inr (wA m0' 230 z))) ?_
        funext t
        unfold rowN
        by_cases ht : t < 8
        · simp (disch := omega) only [↓reduceIte, decide_true, decide_false, Bool.false_eq_true, eq_self, s10, s01, cont_ok, has_ok, b2i0, b2i1, reduceCtorEq, Nat.or_zero, Nat.add_zero, sN_le, sN_lt, sN_eq, sN_lt0, sN_le0, sN_0le, sN_0lt, sN_eq0, sN_cl, sN_ad, sN_a1, K2, K3, K4, K5, K6, K7, K8, K9, K12, K16, K20, false_or, or_false, if_neg, if_pos, vl_s, bi1_s, bi2_s, nx_or, nx_and, nx_sh, ht, true_and]
        · simp (disch := omega) only [↓reduceIte, decide_true, decide_false, Bool.false_eq_true, eq_self, s10, s01, cont_ok, has_ok, b2i0, b2i1, reduceCtorEq, Nat.or_zero, Nat.add_zero, sN_le, sN_lt, sN_eq, sN_lt0, sN_le0, sN_0le, sN_0lt, sN_eq0, sN_cl, sN_ad, sN_a1, K2, K3, K4, K5, K6, K7, K8, K9, K12, K16, K20, false_or, or_false, if_neg, if_pos, vl_s, bi1_s, bi2_s, nx_or, nx_and, nx_sh, ht]
    rw [e, bi1_s]
    refine congrArg (fun z => some (wA m0' 230 z)) (rowN_ext _ (fun t _ => ?_))
    rw [if_neg h]
/-- by thing: its piece, if it is on the river -/
noncomputable def pOfN (V A : Dat) (L : Rop) (g n t : Nat) : Nat := if t < V 1 2 ∧ A 4 t = 0 then pcs (EdN L g n) t else 0
noncomputable def pOf (V A : Dat) (L : Rop) (g t : Nat) : Nat := pOfN V A L g L.length t
theorem pOfN_lt (V A : Dat) (L : Rop) (g n t : Nat) : pOfN V A L g n t < 256 := by
  unfold pOfN
  split
  · exact pcs_lt _ _
  · decide
theorem pOf_lt (V A : Dat) (L : Rop) (g t : Nat) : pOf V A L g t < 256 := pOfN_lt _ _ _ _ _ _
theorem join_c {mm : Mm} {r v : Nat} {V A : Dat} {L : Rop} {S : Int32} (hv : RvC mm v V) (ov : RvOk V) (hr : RaC mm r V A L S) (oa : RaOk V A L) (hrr : r + 9 ≤ 230 ∨ 231 < r) (hvv : v + 6 ≤ 230) {g : Nat} (hg : g < 2 ^ 31) : f_X2_join mm r v (nI g) = some (wA mm 230 (rowN 8 (pOf V A L g) (mm.1 230))) := by
  have h8 := ov.2.2.1
  have hn := hv.1.2.2
  have hl := oa.2.1
  have e1 : lp (f_X2_join_s2 r v (nI g)) ((0 : Int32), mm) = some (wA mm 230 (rowN 8 (pOfN V A L g 0) (mm.1 230))) := by
    refine lpf (fun k => (nI k, wA mm 230 (rowN k (pOfN V A L g 0) (mm.1 230)))) 8 ?_ (fun k hk => ?_) ?_
    · rw [rowN_0, wA_self]
      rfl
    · have ek : pOfN V A L g 0 k = if k < V 1 2 ∧ A 4 k = 0 then 2 ^ k else 0 := by
        unfold pOfN
        rw [pcs_0 EdN_0 hk]
      unfold f_X2_join_s2 f_X2_join_j39 f_X2_join_j40
      simp (disch := omega) only [↓reduceIte, decide_true, decide_false, Bool.false_eq_true, eq_self, s10, s01, cont_ok, has_ok, b2i0, b2i1, reduceCtorEq, Nat.or_zero, Nat.add_zero, sN_le, sN_lt, sN_eq, sN_lt0, sN_le0, sN_0le, sN_0lt, sN_eq0, sN_cl, sN_ad, sN_a1, K2, K3, K4, K5, K6, K7, K8, K9, K12, K16, K20, false_or, or_false, if_neg, if_pos, vl_s, bi1_s, bi2_s, nx_or, nx_and, nx_sh, wA_ne (show v ≠ 230 by omega), wA_ne (show r + 4 ≠ 230 by omega), hn, wI_wA]
      by_cases h1 : V 1 2 ≤ k
      · rw [if_pos h1, show (0 : Int32) = nI (pOfN V A L g 0 k) from by rw [ek, if_neg (fun z => absurd z.1 (by omega))]; rfl, rowN_su]
      · rw [if_neg h1, (hr.2.2.2.2 k (by omega)).2.2]
        have := (oa.2.2.2.1 k (by omega)).2.2
        simp (disch := omega) only [↓reduceIte, decide_true, decide_false, Bool.false_eq_true, eq_self, s10, s01, cont_ok, has_ok, b2i0, b2i1, reduceCtorEq, Nat.or_zero, Nat.add_zero, sN_le, sN_lt, sN_eq, sN_lt0, sN_le0, sN_0le, sN_0lt, sN_eq0, sN_cl, sN_ad, sN_a1, K2, K3, K4, K5, K6, K7, K8, K9, K12, K16, K20, false_or, or_false, if_neg, if_pos, vl_s, bi1_s, bi2_s, nx_or, nx_and, nx_sh]
        by_cases h2 : A 4 k = 0
        · rw [if_pos h2, show nI (2 ^ k) = nI (pOfN V A L g 0 k) from by rw [ek, if_pos ⟨by omega, h2⟩], rowN_su]
        · rw [if_neg h2, show (0 : Int32) = nI (pOfN V A L g 0 k) from by rw [ek, if_neg (fun z => h2 z.2)]; rfl, rowN_su]
    · unfold f_X2_join_s2
      simp (disch := omega) only [↓reduceIte, decide_true, decide_false, Bool.false_eq_true, eq_self, s10, s01, cont_ok, has_ok, b2i0, b2i1, reduceCtorEq, Nat.or_zero, Nat.add_zero, sN_le, sN_lt, sN_eq, sN_lt0, sN_le0, sN_0le, sN_0lt, sN_eq0, sN_cl, sN_ad, sN_a1, K2, K3, K4, K5, K6, K7, K8, K9, K12, K16, K20, false_or, or_false, if_neg, if_pos, vl_s, bi1_s, bi2_s, nx_or, nx_and, nx_sh]
  have e2 : lp (f_X2_join_s49 r v (nI g)) ((0 : Int32), wA mm 230 (rowN 8 (pOfN V A L g 0) (mm.1 230))) = some (wA mm 230 (rowN 8 (pOf V A L g) (mm.1 230))) := by
    refine lp_first (fun k => (nI k, wA mm 230 (rowN 8 (pOfN V A L g k) (mm.1 230)))) L.length (fun k hk => ?_) ?_
    · have h1 := hr.2.2.1.2 k hk
      have h2 := oa.2.2.2.2 k hk
      unfold f_X2_join_s49
      simp (disch := omega) only [↓reduceIte, decide_true, decide_false, Bool.false_eq_true, eq_self, s10, s01, cont_ok, has_ok, b2i0, b2i1, reduceCtorEq, Nat.or_zero, Nat.add_zero, sN_le, sN_lt, sN_eq, sN_lt0, sN_le0, sN_0le, sN_0lt, sN_eq0, sN_cl, sN_ad, sN_a1, K2, K3, K4, K5, K6, K7, K8, K9, K12, K16, K20, false_or, or_false, if_neg, if_pos, vl_s, bi1_s, bi2_s, nx_or, nx_and, nx_sh, wA_ne (show r ≠ 230 by omega), wA_ne (show r + 6 ≠ 230 by omega), wA_ne (show r + 7 ≠ 230 by omega), hr.2.2.1.1, h1.1, h1.2.1]
      cases hc : g.testBit k
      · rw [if_pos rfl, unite_s (fun t _ => pOfN_lt _ _ _ _ _ _) (by omega) (by omega), bi1_s]
        refine congrArg (fun z => some (Sum.inl (nI (k + 1), wA mm 230 z))) (rowN_ext _ (fun t ht => ?_))
        have ea : pOfN V A L g k (rp L k).1 = pcs (EdN L g k) (rp L k).1 := by unfold pOfN; rw [if_pos ⟨by omega, h2.2.2.2.2.1⟩]
        have eb : pOfN V A L g k (rp L k).2.1 = pcs (EdN L g k) (rp L k).2.1 := by unfold pOfN; rw [if_pos ⟨by omega, h2.2.2.2.2.2⟩]
        rw [ea, eb]
        have sy : ∀ x y, EdN L g k x y → EdN L g k y x := EdN_sy
        unfold pOfN
        by_cases hok : t < V 1 2 ∧ A 4 t = 0
        · rw [if_pos hok, if_pos hok]
          by_cases hs : pcs (EdN L g k) (rp L k).1 = pcs (EdN L g k) (rp L k).2.1
          · rw [if_pos hs, pcs_same sy (EdN_su hc)]
            have := (pcs_tb (EdN L g k) (rp L k).2.1 (rp L k).2.1).mpr ⟨by omega, Rch_rf⟩
            rw [← hs, pcs_tb] at this
            exact this.2
          · rw [if_neg hs, pcs_ad sy (EdN_su hc) (by omega) (by omega) t ht]
        · rw [if_neg hok, if_neg hok]
          by_cases hs : pcs (EdN L g k) (rp L k).1 = pcs (EdN L g k) (rp L k).2.1
          · rw [if_pos hs]
          · rw [if_neg hs, if_neg]
            intro hb
            rw [Nat.testBit_or, Bool.or_eq_true, pcs_tb, pcs_tb] at hb
            have cl : ∀ z, Rch (EdN L g k) z t → z < V 1 2 ∧ A 4 z = 0 → t < V 1 2 ∧ A 4 t = 0 := fun z hz h0 => hz (fun w => w < V 1 2 ∧ A 4 w = 0) h0 (fun x y e _ => by
              obtain ⟨j, j1, _, j3⟩ := e
              have h4 := oa.2.2.2.2 j (by omega)
              rcases j3 with ⟨_, rfl⟩ | ⟨_, rfl⟩
              · exact ⟨by omega, h4.2.2.2.2.2⟩
              · exact ⟨by omega, h4.2.2.2.2.1⟩)
            rcases hb with ⟨_, hb⟩ | ⟨_, hb⟩
            · exact hok (cl _ hb ⟨by omega, h2.2.2.2.2.1⟩)
            · exact hok (cl _ hb ⟨by omega, h2.2.2.2.2.2⟩)
      · simp (disch := omega) only [↓reduceIte, decide_true, decide_false, Bool.false_eq_true, eq_self, s10, s01, cont_ok, has_ok, b2i0, b2i1, reduceCtorEq, Nat.or_zero, Nat.add_zero, sN_le, sN_lt, sN_eq, sN_lt0, sN_le0, sN_0le, sN_0lt, sN_eq0, sN_cl, sN_ad, sN_a1, K2, K3, K4, K5, K6, K7, K8, K9, K12, K16, K20, false_or, or_false, if_neg, if_pos, vl_s, bi1_s, bi2_s, nx_or, nx_and, nx_sh]
        refine congrArg (fun z => some (Sum.inl (nI (k + 1), wA mm 230 z))) (rowN_ext _ (fun t ht => ?_))
        unfold pOfN
        rw [pcs_cg (EdN_sk hc)]
    · unfold f_X2_join_s49
      simp (disch := omega) only [↓reduceIte, decide_true, decide_false, Bool.false_eq_true, eq_self, s10, s01, cont_ok, has_ok, b2i0, b2i1, reduceCtorEq, Nat.or_zero, Nat.add_zero, sN_le, sN_lt, sN_eq, sN_lt0, sN_le0, sN_0le, sN_0lt, sN_eq0, sN_cl, sN_ad, sN_a1, K2, K3, K4, K5, K6, K7, K8, K9, K12, K16, K20, false_or, or_false, if_neg, if_pos, vl_s, bi1_s, bi2_s, nx_or, nx_and, nx_sh, wA_ne (show r ≠ 230 by omega), hr.2.2.1.1]
      rfl
  unfold f_X2_join
  rw [e1, bi1_s, e2, bi1_s]
/-- what a piece's map keeps to -/
def PP (V A : Dat) (p : Nat → Nat) : Prop := (∀ t, p t < 256) ∧ (∀ t, t < V 1 2 ∧ A 4 t = 0 → (p t).testBit t = true) ∧ (∀ t, ¬ (t < V 1 2 ∧ A 4 t = 0) → p t = 0) ∧ (∀ t u, (p t).testBit u = true → p u = p t ∧ u < V 1 2 ∧ A 4 u = 0)
theorem pOf_PP {V A : Dat} {L : Rop} (ov : RvOk V) (oa : RaOk V A L) (g : Nat) : PP V A (pOf V A L g) := by
  have h8 := ov.2.2.1
  refine ⟨pOf_lt V A L g, fun t ht => ?_, fun t ht => ?_, fun t u hu => ?_⟩
  · unfold pOf pOfN
    rw [if_pos ht, pcs_tb]
    exact ⟨by omega, Rch_rf⟩
  · unfold pOf pOfN
    rw [if_neg ht]
  · unfold pOf pOfN at hu
    by_cases ht : t < V 1 2 ∧ A 4 t = 0
    · rw [if_pos ht, pcs_tb] at hu
      have hk : u < V 1 2 ∧ A 4 u = 0 := hu.2 (fun w => w < V 1 2 ∧ A 4 w = 0) ht (fun x y e _ => by
        obtain ⟨j, j1, _, j3⟩ := e
        have h4 := oa.2.2.2.2 j (by omega)
        rcases j3 with ⟨_, rfl⟩ | ⟨_, rfl⟩
        · exact ⟨by omega, h4.2.2.2.2.2⟩
        · exact ⟨by omega, h4.2.2.2.2.1⟩)
      refine ⟨?_, hk⟩
      unfold pOf pOfN
      rw [if_pos ht, if_pos hk, pcs_eq EdN_sy hu.2]
    · rw [if_neg ht, Nat.zero_testBit] at hu
      exact absurd hu (by decide)
def lst (p : Nat → Nat) (t : Nat) : Bool := decide (¬ p t = 0) && decide (p t &&& (2 ^ t - 1) = 0)
theorem sN_ne (c : Prop) [Decidable c] : decide (¬ c) = !decide c := decide_not
theorem isLeast_c {mm : Mm} {p : Nat → Nat} (hp : ∀ t, t < 8 → mm.1 230 t = nI (p t) ∧ p t < 256) {t : Nat} (ht : t < 8) : f_X2_isLeast mm (nI t) = some (if lst p t then 1 else 0) := by
  have h := hp t ht
  have e : nI (2 ^ t) - 1 = nI (2 ^ t - 1) := nI_sub' (b := 1) (Nat.two_pow_pos t)
  have hb : p t &&& (2 ^ t - 1) ≤ p t := Nat.and_le_left
  unfold f_X2_isLeast lst
  rw [nx_sh t (by omega), e]
  simp (disch := omega) only [↓reduceIte, decide_true, decide_false, Bool.false_eq_true, eq_self, s10, s01, cont_ok, has_ok, b2i0, b2i1, reduceCtorEq, Nat.or_zero, Nat.add_zero, sN_le, sN_lt, sN_eq, sN_lt0, sN_le0, sN_0le, sN_0lt, sN_eq0, sN_cl, sN_ad, sN_a1, K2, K3, K4, K5, K6, K7, K8, K9, K12, K16, K20, false_or, or_false, if_neg, if_pos, vl_s, bi1_s, bi2_s, nx_or, nx_and, nx_sh, h.1]
  by_cases h1 : p t = 0
  · simp (disch := omega) only [↓reduceIte, decide_true, decide_false, Bool.false_eq_true, eq_self, s10, s01, cont_ok, has_ok, b2i0, b2i1, reduceCtorEq, Nat.or_zero, Nat.add_zero, sN_le, sN_lt, sN_eq, sN_lt0, sN_le0, sN_0le, sN_0lt, sN_eq0, sN_cl, sN_ad, sN_a1, K2, K3, K4, K5, K6, K7, K8, K9, K12, K16, K20, false_or, or_false, if_neg, if_pos, vl_s, bi1_s, bi2_s, nx_or, nx_and, nx_sh, h1, not_true_eq_false, Bool.false_and]
  · by_cases h2 : p t &&& (2 ^ t - 1) = 0
    · simp (disch := omega) only [↓reduceIte, decide_true, decide_false, Bool.false_eq_true, eq_self, s10, s01, cont_ok, has_ok, b2i0, b2i1, reduceCtorEq, Nat.or_zero, Nat.add_zero, sN_le, sN_lt, sN_eq, sN_lt0, sN_le0, sN_0le, sN_0lt, sN_eq0, sN_cl, sN_ad, sN_a1, K2, K3, K4, K5, K6, K7, K8, K9, K12, K16, K20, false_or, or_false, if_neg, if_pos, vl_s, bi1_s, bi2_s, nx_or, nx_and, nx_sh, h1, h2, not_false_eq_true, Bool.and_self]
    · simp (disch := omega) only [↓reduceIte, decide_true, decide_false, Bool.false_eq_true, eq_self, s10, s01, cont_ok, has_ok, b2i0, b2i1, reduceCtorEq, Nat.or_zero, Nat.add_zero, sN_le, sN_lt, sN_eq, sN_lt0, sN_le0, sN_0le, sN_0lt, sN_eq0, sN_cl, sN_ad, sN_a1, K2, K3, K4, K5, K6, K7, K8, K9, K12, K16, K20, false_or, or_false, if_neg, if_pos, vl_s, bi1_s, bi2_s, nx_or, nx_and, nx_sh, h1, h2, Bool.and_false]
/-- the piece with most of a set -/
def wmo (p : Nat → Nat) (s : Nat) : Nat → Nat × Nat
  | 0 => (0, 0)
  | k + 1 => if lst p k && decide ((wmo p s k).2 < pop (p k &&& s) 12) then (p k, pop (p k &&& s) 12) else wmo p s k
theorem wmo_bd {p : Nat → Nat} {s : Nat} (hp : ∀ t, t < 8 → p t < 256) : ∀ k, k ≤ 8 → (wmo p s k).1 < 256 ∧ (wmo p s k).2 ≤ 12
  | 0, _ => ⟨Nat.zero_lt_succ _, Nat.zero_le _⟩
  | k + 1, hk => by
    have h := wmo_bd hp (s := s) k (by omega)
    unfold wmo
    split
    · exact ⟨hp k (by omega), pop_le _ _⟩
    · exact h
theorem withMostOf_c {mm : Mm} {p : Nat → Nat} (hp : ∀ t, t < 8 → mm.1 230 t = nI (p t) ∧ p t < 256) {s : Nat} : f_X2_withMostOf mm (nI s) = some (nI (wmo p s 8).1) := by
  unfold f_X2_withMostOf
  rw [show ((0 : Int32), (0 : Int32), (0 : Int32)) = (fun k => (nI (wmo p s k).1, nI (wmo p s k).2, nI k)) 0 from rfl, lp_first (fun k => (nI (wmo p s k).1, nI (wmo p s k).2, nI k)) 8 (fun k hk => ?_) (r := nI (wmo p s 8).1) ?_]
  · rfl
  · unfold f_X2_withMostOf_s7
    simp (disch := omega) only [↓reduceIte, decide_true, decide_false, Bool.false_eq_true, eq_self, s10, s01, cont_ok, has_ok, b2i0, b2i1, reduceCtorEq, Nat.or_zero, Nat.add_zero, sN_le, sN_lt, sN_eq, sN_lt0, sN_le0, sN_0le, sN_0lt, sN_eq0, sN_cl, sN_ad, sN_a1, K2, K3, K4, K5, K6, K7, K8, K9, K12, K16, K20, false_or, or_false, if_neg, if_pos, vl_s, bi1_s, bi2_s, nx_or, nx_and, nx_sh]
  · have h := hp k hk
    have hb : p k &&& s ≤ p k := Nat.and_le_left
    have hw := wmo_bd (s := s) (fun t ht => (hp t ht).2) k (by omega)
    have hq := pop_le (p k &&& s) 12
    have eu : wmo p s (k + 1) = if lst p k && decide ((wmo p s k).2 < pop (p k &&& s) 12) then (p k, pop (p k &&& s) 12) else wmo p s k := rfl
    unfold f_X2_withMostOf_s7
    rw [eu]
    simp (disch := omega) only [↓reduceIte, decide_true, decide_false, Bool.false_eq_true, eq_self, s10, s01, cont_ok, has_ok, b2i0, b2i1, reduceCtorEq, Nat.or_zero, Nat.add_zero, sN_le, sN_lt, sN_eq, sN_lt0, sN_le0, sN_0le, sN_0lt, sN_eq0, sN_cl, sN_ad, sN_a1, K2, K3, K4, K5, K6, K7, K8, K9, K12, K16, K20, false_or, or_false, if_neg, if_pos, vl_s, bi1_s, bi2_s, nx_or, nx_and, nx_sh, h.1, bitc_ok, isLeast_c hp]
    cases hc : lst p k
    · simp (disch := omega) only [↓reduceIte, decide_true, decide_false, Bool.false_eq_true, eq_self, s10, s01, cont_ok, has_ok, b2i0, b2i1, reduceCtorEq, Nat.or_zero, Nat.add_zero, sN_le, sN_lt, sN_eq, sN_lt0, sN_le0, sN_0le, sN_0lt, sN_eq0, sN_cl, sN_ad, sN_a1, K2, K3, K4, K5, K6, K7, K8, K9, K12, K16, K20, false_or, or_false, if_neg, if_pos, vl_s, bi1_s, bi2_s, nx_or, nx_and, nx_sh, Bool.false_and]
    · by_cases hd : pop (p k &&& s) 12 ≤ (wmo p s k).2
      · simp (disch := omega) only [↓reduceIte, decide_true, decide_false, Bool.false_eq_true, eq_self, s10, s01, cont_ok, has_ok, b2i0, b2i1, reduceCtorEq, Nat.or_zero, Nat.add_zero, sN_le, sN_lt, sN_eq, sN_lt0, sN_le0, sN_0le, sN_0lt, sN_eq0, sN_cl, sN_ad, sN_a1, K2, K3, K4, K5, K6, K7, K8, K9, K12, K16, K20, false_or, or_false, if_neg, if_pos, vl_s, bi1_s, bi2_s, nx_or, nx_and, nx_sh, hd, Bool.true_and, decide_eq_true_eq]
      · simp (disch := omega) only [↓reduceIte, decide_true, decide_false, Bool.false_eq_true, eq_self, s10, s01, cont_ok, has_ok, b2i0, b2i1, reduceCtorEq, Nat.or_zero, Nat.add_zero, sN_le, sN_lt, sN_eq, sN_lt0, sN_le0, sN_0le, sN_0lt, sN_eq0, sN_cl, sN_ad, sN_a1, K2, K3, K4, K5, K6, K7, K8, K9, K12, K16, K20, false_or, or_false, if_neg, if_pos, vl_s, bi1_s, bi2_s, nx_or, nx_and, nx_sh, hd, Bool.true_and, decide_eq_true_eq]
