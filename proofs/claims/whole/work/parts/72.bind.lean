/-! PHASE 2: bind, cut, saw, push, undo -/
theorem rng (x : Int32) (a b : Nat) (hb : b < 1000) (ha : a ≤ b + 1) {l h : Int64} (hl : l = (nI a).toInt64) (hh : h = (nI b).toInt64) : (∃ j, a ≤ j ∧ j ≤ b ∧ x = nI j ∧ f_X12_in x.toInt64 l h = 1) ∨ ((x < nI a ∨ nI b < x) ∧ f_X12_in x.toInt64 l h = 0) := by
  rw [hl, hh, in_spec]
  rcases i_cases x (b + 1) (by omega) with hx | hx | ⟨j, hj, rfl⟩
  · refine Or.inr ⟨Or.inl ?_, if_neg (fun z => ?_)⟩
    · rw [Int32.lt_iff_toInt_lt, nI_toInt (by omega)]
      rw [lt0_toInt] at hx
      omega
    · have := z.1
      rw [Int32.le_iff_toInt_le, nI_toInt (by omega)] at this
      rw [lt0_toInt] at hx
      omega
  · rw [Int32.le_iff_toInt_le, nI_toInt (by omega)] at hx
    refine Or.inr ⟨Or.inr ?_, if_neg (fun z => ?_)⟩
    · rw [Int32.lt_iff_toInt_lt, nI_toInt (by omega)]
      omega
    · have := z.2
      rw [Int32.le_iff_toInt_le, nI_toInt (by omega)] at this
      omega
  · by_cases c : a ≤ j
    · exact Or.inl ⟨j, c, by omega, rfl, if_pos ⟨by rw [sN_le (by omega) (by omega)]; exact c, by rw [sN_le (by omega) (by omega)]; omega⟩⟩
    · refine Or.inr ⟨Or.inl (by rw [sN_lt (by omega) (by omega)]; omega), if_neg (fun z => ?_)⟩
      have := z.1
      rw [sN_le (by omega) (by omega)] at this
      omega
theorem strength_ok (x : Int32) : (∃ s, 1 ≤ s ∧ s ≤ 9 ∧ x = nI s ∧ f_X11_isStrength x = 1 ∧ f_X12_in x.toInt64 (1 : Int64) (9 : Int64) = 1) ∨ (f_X11_isStrength x = 0 ∧ f_X12_in x.toInt64 (1 : Int64) (9 : Int64) = 0) := by
  rcases rng x 1 9 (by decide) (by decide) (l := (1 : Int64)) (h := (9 : Int64)) (by decide) (by decide) with ⟨j, h1, h2, rfl, h3⟩ | ⟨h1, h2⟩
  · refine Or.inl ⟨j, h1, h2, rfl, ?_, h3⟩
    unfold f_X11_isStrength
    rw [K1]
    simp (disch := omega) only [↓reduceIte, decide_true, decide_false, Bool.false_eq_true, eq_self, s10, s01, cont_ok, has_ok, b2i0, b2i1, reduceCtorEq, Nat.or_zero, Nat.add_zero, sN_le, sN_lt, sN_eq, sN_lt0, sN_le0, sN_0le, sN_0lt, sN_eq0, sN_cl, sN_ad, sN_a1, K2, K3, K4, K5, K6, K7, K8, K9, K12, K16, K20, false_or, or_false, if_neg, if_pos, vl_s, bi1_s, bi2_s, nx_or, nx_and, nx_sh]
  · refine Or.inr ⟨?_, h2⟩
    unfold f_X11_isStrength
    rcases h1 with h1 | h1
    · rw [if_pos (show x < 1 from h1)]
    · by_cases c : x < 1
      · rw [if_pos c]
      · rw [if_neg c, if_pos (show (9 : Int32) < x from h1)]
theorem lp_ex {st : Int32 → Option (Int32 ⊕ (Unit ⊕ Unit))} (p : Nat → Prop) (n : Nat) (hgo : ∀ k, k < n → ¬ p k → st (nI k) = some (.inl (nI (k + 1)))) (hhit : ∀ k, k < n → p k → st (nI k) = some (.inr (.inl ()))) (hend : st (nI n) = some (.inr (.inr ()))) : ((∃ k, k < n ∧ p k) ∧ lp st (0 : Int32) = some (.inl ())) ∨ ((¬ ∃ k, k < n ∧ p k) ∧ lp st (0 : Int32) = some (.inr ())) := by
  by_cases h : ∃ k, k < n ∧ p k
  · obtain ⟨k, ⟨hk, pk⟩, hmin⟩ := pk_least _ h
    exact Or.inl ⟨h, lpf (fun k => nI k) k rfl (fun j hj => hgo j (by omega) (fun z => hmin j hj ⟨by omega, z⟩)) (hhit k hk pk)⟩
  · exact Or.inr ⟨h, lpf (fun k => nI k) n rfl (fun j hj => hgo j hj (fun z => h ⟨j, hj, z⟩)) hend⟩
def Bnd (L : Rop) (a b : Nat) : Prop := ∃ k, k < L.length ∧ ((rp L k).1 = (if b < a then b else a) ∧ (rp L k).2.1 = (if a < b then b else a))
theorem areBound_c {mm : Mm} {r v : Nat} {V A : Dat} {L : Rop} {S : Int32} (hr : RaC mm r V A L S) (ov : RvOk V) (oa : RaOk V A L) {a b : Nat} (ha : a < 100) (hb : b < 100) : f_X4_areBound mm r v (nI a) (nI b) = some (if pb (Bnd L a b) then 1 else 0) := by
  have h8 := ov.2.2.1
  have hl := oa.2.1
  have e1 : (if nI b < nI a then nI b else nI a) = nI (if b < a then b else a) := by
    by_cases c : b < a
    · rw [if_pos c, if_pos (by rw [sN_lt (by omega) (by omega)]; exact c)]
    · rw [if_neg c, if_neg (by rw [sN_lt (by omega) (by omega)]; exact c)]
  have e2 : (if nI a < nI b then nI b else nI a) = nI (if a < b then b else a) := by
    by_cases c : a < b
    · rw [if_pos c, if_pos (by rw [sN_lt (by omega) (by omega)]; exact c)]
    · rw [if_neg c, if_neg (by rw [sN_lt (by omega) (by omega)]; exact c)]
  have b1 : (if b < a then b else a) < 100 := by split <;> omega
  have b2 : (if a < b then b else a) < 100 := by split <;> omega
  unfold f_X4_areBound
  have hx := lp_ex (st := f_X4_areBound_s2 r v mm (nI a) (nI b)) (fun k => (rp L k).1 = (if b < a then b else a) ∧ (rp L k).2.1 = (if a < b then b else a)) L.length (fun k hk hp => ?_) (fun k hk hp => ?_) ?_
  · rcases hx with ⟨h, e⟩ | ⟨h, e⟩
    · rw [e, pb_t (show Bnd L a b from h)]
      rfl
    · rw [e, pb_f (show ¬ Bnd L a b from h)]
      rfl
  · have q := hr.2.2.1.2 k hk
    have z := oa.2.2.2.2 k hk
    unfold f_X4_areBound_s2
    rw [e1, e2]
    generalize (if b < a then b else a) = lo at *
    generalize (if a < b then b else a) = hi at *
    simp (disch := omega) only [↓reduceIte, decide_true, decide_false, Bool.false_eq_true, eq_self, s10, s01, cont_ok, has_ok, b2i0, b2i1, reduceCtorEq, Nat.or_zero, Nat.add_zero, sN_le, sN_lt, sN_eq, sN_lt0, sN_le0, sN_0le, sN_0lt, sN_eq0, sN_cl, sN_ad, sN_a1, K2, K3, K4, K5, K6, K7, K8, K9, K12, K16, K20, false_or, or_false, if_neg, if_pos, vl_s, bi1_s, bi2_s, nx_or, nx_and, nx_sh, hr.2.2.1.1, q.1, q.2.1]
    by_cases c : (rp L k).1 = lo
    · rw [if_pos c]
    · rw [if_neg c]
  · have q := hr.2.2.1.2 k hk
    have z := oa.2.2.2.2 k hk
    unfold f_X4_areBound_s2
    rw [e1, e2]
    generalize (if b < a then b else a) = lo at *
    generalize (if a < b then b else a) = hi at *
    simp (disch := omega) only [↓reduceIte, decide_true, decide_false, Bool.false_eq_true, eq_self, s10, s01, cont_ok, has_ok, b2i0, b2i1, reduceCtorEq, Nat.or_zero, Nat.add_zero, sN_le, sN_lt, sN_eq, sN_lt0, sN_le0, sN_0le, sN_0lt, sN_eq0, sN_cl, sN_ad, sN_a1, K2, K3, K4, K5, K6, K7, K8, K9, K12, K16, K20, false_or, or_false, if_neg, if_pos, vl_s, bi1_s, bi2_s, nx_or, nx_and, nx_sh, hr.2.2.1.1, q.1, q.2.1, hp.1, hp.2]
  · unfold f_X4_areBound_s2
    simp (disch := omega) only [↓reduceIte, decide_true, decide_false, Bool.false_eq_true, eq_self, s10, s01, cont_ok, has_ok, b2i0, b2i1, reduceCtorEq, Nat.or_zero, Nat.add_zero, sN_le, sN_lt, sN_eq, sN_lt0, sN_le0, sN_0le, sN_0lt, sN_eq0, sN_cl, sN_ad, sN_a1, K2, K3, K4, K5, K6, K7, K8, K9, K12, K16, K20, false_or, or_false, if_neg, if_pos, vl_s, bi1_s, bi2_s, nx_or, nx_and, nx_sh, hr.2.2.1.1]
theorem isBound_f {mm : Mm} {V A : Dat} {L : Rop} {S : Int32} (hr : RaF mm V A L S) (ov : RvOk V) (oa : RaOk V A L) {a b : Nat} (ha : a < 100) (hb : b < 100) (hab : ¬ a = b) : f_X12_isBound mm (nI a) (nI b) = some (if pb (Bnd L a b) then 1 else 0) := by
  have h8 := ov.2.2.1
  have hl := oa.2.1
  have key : ∀ k, k < L.length → (((rp L k).1 = (if b < a then b else a) ∧ (rp L k).2.1 = (if a < b then b else a)) ↔ ((rp L k).1 = a ∧ (rp L k).2.1 = b) ∨ ((rp L k).1 = b ∧ (rp L k).2.1 = a)) := fun k hk => by
    have z := oa.2.2.2.2 k hk
    by_cases c : a < b
    · rw [if_pos c, if_neg (by omega)]
      exact ⟨fun h => Or.inl h, fun h => h.elim (fun z => z) (fun w => by omega)⟩
    · rw [if_neg c, if_pos (by omega)]
      exact ⟨fun h => Or.inr h, fun h => h.elim (fun w => by omega) (fun z => z)⟩
  unfold f_X12_isBound
  have hx := lp_ex (st := f_X12_isBound_s2 mm (nI a) (nI b)) (fun k => (rp L k).1 = (if b < a then b else a) ∧ (rp L k).2.1 = (if a < b then b else a)) L.length (fun k hk hp => ?_) (fun k hk hp => ?_) ?_
  · rcases hx with ⟨h, e⟩ | ⟨h, e⟩
    · rw [e, pb_t (show Bnd L a b from h)]
      rfl
    · rw [e, pb_f (show ¬ Bnd L a b from h)]
      rfl
  · have q := hr.2.2.1.2 k hk
    have z := oa.2.2.2.2 k hk
    rw [key k hk] at hp
    unfold f_X12_isBound_s2 f_X12_isBound_j32
    simp (disch := omega) only [↓reduceIte, decide_true, decide_false, Bool.false_eq_true, eq_self, s10, s01, cont_ok, has_ok, b2i0, b2i1, reduceCtorEq, Nat.or_zero, Nat.add_zero, sN_le, sN_lt, sN_eq, sN_lt0, sN_le0, sN_0le, sN_0lt, sN_eq0, sN_cl, sN_ad, sN_a1, K2, K3, K4, K5, K6, K7, K8, K9, K12, K16, K20, false_or, or_false, if_neg, if_pos, vl_s, bi1_s, bi2_s, nx_or, nx_and, nx_sh, hr.2.2.1.1, q.1, q.2.1]
    by_cases c : (rp L k).1 = a
    · rw [if_pos c]
    · rw [if_neg c]
      by_cases d : (rp L k).1 = b
      · rw [if_pos d]
      · rw [if_neg d]
  · have q := hr.2.2.1.2 k hk
    have z := oa.2.2.2.2 k hk
    rw [key k hk] at hp
    unfold f_X12_isBound_s2 f_X12_isBound_j32
    simp (disch := omega) only [↓reduceIte, decide_true, decide_false, Bool.false_eq_true, eq_self, s10, s01, cont_ok, has_ok, b2i0, b2i1, reduceCtorEq, Nat.or_zero, Nat.add_zero, sN_le, sN_lt, sN_eq, sN_lt0, sN_le0, sN_0le, sN_0lt, sN_eq0, sN_cl, sN_ad, sN_a1, K2, K3, K4, K5, K6, K7, K8, K9, K12, K16, K20, false_or, or_false, if_neg, if_pos, vl_s, bi1_s, bi2_s, nx_or, nx_and, nx_sh, hr.2.2.1.1, q.1, q.2.1]
    rcases hp with hp | hp
    · rw [if_pos hp.1]
    · rw [if_neg (fun z => hab (z.symm.trans hp.1))]
  · unfold f_X12_isBound_s2
    simp (disch := omega) only [↓reduceIte, decide_true, decide_false, Bool.false_eq_true, eq_self, s10, s01, cont_ok, has_ok, b2i0, b2i1, reduceCtorEq, Nat.or_zero, Nat.add_zero, sN_le, sN_lt, sN_eq, sN_lt0, sN_le0, sN_0le, sN_0lt, sN_eq0, sN_cl, sN_ad, sN_a1, K2, K3, K4, K5, K6, K7, K8, K9, K12, K16, K20, false_or, or_false, if_neg, if_pos, vl_s, bi1_s, bi2_s, nx_or, nx_and, nx_sh, hr.2.2.1.1]
/-- a rope more -/
def tieR (R : Rf) (a b s : Nat) : Rf := (R.1, R.2.1 ++ [((if b < a then b else a), (if a < b then b else a), s)], R.2.2 - nI s)
theorem tieR_ok {V : Dat} {R : Rf} (h : RaOk V R.1 R.2.1) (hl : R.2.1.length < 12) {a b s : Nat} (ha : a < V 1 2 ∧ R.1 4 a = 0) (hb : b < V 1 2 ∧ R.1 4 b = 0) (hab : ¬ a = b) (hs : 1 ≤ s ∧ s ≤ 9) : RaOk V (tieR R a b s).1 (tieR R a b s).2.1 := by
  refine ⟨h.1, ?_, h.2.2.1, h.2.2.2.1, fun k hk => ?_⟩
  · show (R.2.1 ++ [_]).length ≤ 12
    rw [List.length_append, List.length_cons, List.length_nil]
    omega
  · have hk' : k < R.2.1.length + 1 := by
      have : k < (R.2.1 ++ [((if b < a then b else a), (if a < b then b else a), s)]).length := hk
      rw [List.length_append, List.length_cons, List.length_nil] at this
      exact this
    show (rp (R.2.1 ++ [((if b < a then b else a), (if a < b then b else a), s)]) k).1 < _ ∧ _
    unfold tieR
    by_cases c : k < R.2.1.length
    · rw [rp_ap1 c]
      exact h.2.2.2.2 k c
    · rw [rp_ap2 (by omega), show k - R.2.1.length = 0 by omega]
      show (if b < a then b else a) < (if a < b then b else a) ∧ (if a < b then b else a) < V 1 2 ∧ 1 ≤ s ∧ s ≤ 9 ∧ R.1 4 (if b < a then b else a) = 0 ∧ R.1 4 (if a < b then b else a) = 0
      by_cases d : a < b
      · rw [if_pos d, if_neg (by omega)]
        exact ⟨d, hb.1, hs.1, hs.2, ha.2, hb.2⟩
      · rw [if_neg d, if_pos (by omega)]
        exact ⟨by omega, ha.1, hs.1, hs.2, hb.2, ha.2⟩
theorem RpOk_ad {n : Int32} {x y z x' y' z' : Nat → Int32} {L : Rop} {e : Nat × Nat × Nat} (h : RpOk n x y z L) (hx : ∀ k, k < L.length → x' k = x k ∧ y' k = y k ∧ z' k = z k) (he : x' L.length = nI e.1 ∧ y' L.length = nI e.2.1 ∧ z' L.length = nI e.2.2) : RpOk (nI (L.length + 1)) x' y' z' (L ++ [e]) := by
  refine ⟨by rw [List.length_append, List.length_cons, List.length_nil], fun k hk => ?_⟩
  rw [List.length_append, List.length_cons, List.length_nil] at hk
  by_cases c : k < L.length
  · rw [rp_ap1 c, (hx k c).1, (hx k c).2.1, (hx k c).2.2]
    exact h.2 k c
  · rw [rp_ap2 (by omega), show k - L.length = 0 by omega, show k = L.length by omega]
    exact he
theorem spend_c {mm : Mm} {v : Nat} {V : Dat} {R : Rf} (hr : raC (rwC mm 33) V R) (hl : R.2.1.length < 12) {a b s : Nat} (ha : a < 100) (hb : b < 100) : ∃ m1, f_X4_spend mm 33 v (nI a) (nI b) (nI s) = some m1 ∧ raC (rwC m1 33) V (tieR R a b s) ∧ ∀ i, ¬ (33 ≤ i ∧ i < 42) → m1.1 i = mm.1 i := by
  have hr1 : RaC mm 33 V R.1 R.2.1 R.2.2 := hr.1
  have hn : mm.1 33 3 = nI R.2.1.length := hr1.2.2.1.1
  have e1 : (if nI b < nI a then nI b else nI a) = nI (if b < a then b else a) := by
    by_cases c : b < a
    · rw [if_pos c, if_pos (by rw [sN_lt (by omega) (by omega)]; exact c)]
    · rw [if_neg c, if_neg (by rw [sN_lt (by omega) (by omega)]; exact c)]
  have e2 : (if nI a < nI b then nI b else nI a) = nI (if a < b then b else a) := by
    by_cases c : a < b
    · rw [if_pos c, if_pos (by rw [sN_lt (by omega) (by omega)]; exact c)]
    · rw [if_neg c, if_neg (by rw [sN_lt (by omega) (by omega)]; exact c)]
  have et : f_X4_spend mm 33 v (nI a) (nI b) (nI s) = some (wI (wI (wI (wI (wI mm 39 R.2.1.length (nI (if b < a then b else a))) 40 R.2.1.length (nI (if a < b then b else a))) 41 R.2.1.length (nI s)) 33 3 (nI (R.2.1.length + 1))) 33 2 (R.2.2 - nI s)) := by
    unfold f_X4_spend f_X4_tie
    rw [e1, e2, hn]
    simp (disch := omega) only [↓reduceIte, decide_true, decide_false, Bool.false_eq_true, eq_self, s10, s01, cont_ok, has_ok, b2i0, b2i1, reduceCtorEq, Nat.or_zero, Nat.add_zero, sN_le, sN_lt, sN_eq, sN_lt0, sN_le0, sN_0le, sN_0lt, sN_eq0, sN_cl, sN_ad, sN_a1, K2, K3, K4, K5, K6, K7, K8, K9, K12, K16, K20, false_or, or_false, if_neg, if_pos, vl_s, bi1_s, bi2_s, nx_or, nx_and, nx_sh, wI_ne (show 33 ≠ 33 + 6 by decide), wI_ne (show 33 ≠ 33 + 7 by decide), wI_ne (show 33 ≠ 33 + 8 by decide), hn]
    rw [wI_pl (by decide), wI_ne (by decide), wI_ne (by decide), wI_ne (by decide), show mm.1 33 2 = R.2.2 from hr1.2.1]
  refine ⟨_, et, ⟨⟨?_, ?_, ?_, fun o ho => ?_, fun t ht => ?_⟩, fun t ht h2 => ?_⟩, fun i hi => ?_⟩
  · show (wI _ 33 2 _).1 33 1 = _
    simp (disch := decide) only [wI_ne, wI_pl]
    exact hr1.1
  · show (wI _ 33 2 _).1 33 2 = _
    rw [wI_at]
    rfl
  · show RpOk ((wI _ 33 2 _).1 33 3) ((wI _ 33 2 _).1 39) ((wI _ 33 2 _).1 40) ((wI _ 33 2 _).1 41) (R.2.1 ++ [_])
    rw [wI_pl (by decide), wI_at]
    refine RpOk_ad hr1.2.2.1 (fun k hk => ⟨?_, ?_, ?_⟩) ⟨?_, ?_, ?_⟩
    · simp (disch := omega) only [wI_ne, wI_pl]
    · simp (disch := omega) only [wI_ne, wI_pl]
    · simp (disch := omega) only [wI_ne, wI_pl]
    · simp (disch := decide) only [wI_ne, wI_at]
    · simp (disch := decide) only [wI_ne, wI_at]
    · simp (disch := decide) only [wI_ne, wI_at]
  · show (wI _ 33 2 _).1 34 o = _
    simp (disch := decide) only [wI_ne]
    exact hr1.2.2.2.1 o ho
  · show (wI _ 33 2 _).1 35 t = _ ∧ (wI _ 33 2 _).1 36 t = _ ∧ (wI _ 33 2 _).1 37 t = _
    simp (disch := decide) only [wI_ne]
    exact hr1.2.2.2.2 t ht
  · show (wI _ 33 2 _).1 38 t = _
    simp (disch := decide) only [wI_ne]
    exact hr.2 t ht h2
  · simp (disch := omega) only [wI_ne]
theorem binds_f {mm : Mm} {V : Dat} {R : Rf} (hr : raM mm V R) (hl : R.2.1.length < 12) {a b s : Nat} (ha : a < 100) (hb : b < 100) (hab : ¬ a = b) : ∃ m1, f_X12_binds mm (nI a) (nI b) (nI s) = some (nI R.2.1.length, m1) ∧ raM m1 V (tieR R a b s) ∧ frM mm m1 := by
  have hr1 := hr.1
  have hn : mm.1 1089 4 = nI R.2.1.length := hr1.2.2.1.1
  have et : f_X12_binds mm (nI a) (nI b) (nI s) = some (nI R.2.1.length, wI (wI (wI (wI (wI mm 1099 R.2.1.length (nI (if b < a then b else a))) 1100 R.2.1.length (nI (if a < b then b else a))) 1101 R.2.1.length (nI s)) 1089 1 (R.2.2 - nI s)) 1089 4 (nI (R.2.1.length + 1))) := by
    unfold f_X12_binds f_X12_binds_j24 f_X12_binds_j41
    rw [hn]
    by_cases c : a < b
    · simp (disch := omega) only [↓reduceIte, decide_true, decide_false, Bool.false_eq_true, eq_self, s10, s01, cont_ok, has_ok, b2i0, b2i1, reduceCtorEq, Nat.or_zero, Nat.add_zero, sN_le, sN_lt, sN_eq, sN_lt0, sN_le0, sN_0le, sN_0lt, sN_eq0, sN_cl, sN_ad, sN_a1, K2, K3, K4, K5, K6, K7, K8, K9, K12, K16, K20, false_or, or_false, if_neg, if_pos, vl_s, bi1_s, bi2_s, nx_or, nx_and, nx_sh, c, show ¬ b < a by omega, wI_ne (show 1089 ≠ 1101 by decide), wI_ne (show 1089 ≠ 1100 by decide), wI_ne (show 1089 ≠ 1099 by decide), wI_pl (show 4 ≠ 1 by decide), hn, hr1.2.1]
    · simp (disch := omega) only [↓reduceIte, decide_true, decide_false, Bool.false_eq_true, eq_self, s10, s01, cont_ok, has_ok, b2i0, b2i1, reduceCtorEq, Nat.or_zero, Nat.add_zero, sN_le, sN_lt, sN_eq, sN_lt0, sN_le0, sN_0le, sN_0lt, sN_eq0, sN_cl, sN_ad, sN_a1, K2, K3, K4, K5, K6, K7, K8, K9, K12, K16, K20, false_or, or_false, if_neg, if_pos, vl_s, bi1_s, bi2_s, nx_or, nx_and, nx_sh, c, show b < a by omega, wI_ne (show 1089 ≠ 1101 by decide), wI_ne (show 1089 ≠ 1100 by decide), wI_ne (show 1089 ≠ 1099 by decide), wI_pl (show 4 ≠ 1 by decide), hn, hr1.2.1]
  refine ⟨_, et, ⟨⟨?_, ?_, ?_, fun o ho => ?_, fun t ht => ?_⟩, fun t ht => ?_⟩, fun i i1 i2 i3 i4 i5 i6 i7 i8 i9 => ?_, fun k k1 k2 => ?_, fun k k1 k2 k3 => ?_⟩
  · simp (disch := decide) only [wI_ne, wI_pl]
    exact hr1.1
  · rw [wI_pl (by decide), wI_at]
    rfl
  · rw [wI_at]
    refine RpOk_ad hr1.2.2.1 (fun k hk => ⟨?_, ?_, ?_⟩) ⟨?_, ?_, ?_⟩
    · simp (disch := omega) only [wI_ne, wI_pl]
    · simp (disch := omega) only [wI_ne, wI_pl]
    · simp (disch := omega) only [wI_ne, wI_pl]
    · simp (disch := decide) only [wI_ne, wI_at]
    · simp (disch := decide) only [wI_ne, wI_at]
    · simp (disch := decide) only [wI_ne, wI_at]
  · simp (disch := decide) only [wI_ne]
    exact hr1.2.2.2.1 o ho
  · simp (disch := decide) only [wI_ne]
    exact hr1.2.2.2.2 t ht
  · simp (disch := decide) only [wI_ne]
    exact hr.2 t ht
  · simp (disch := omega) only [wI_ne]
  · simp (disch := omega) only [wI_ne]
  · rw [wI_pl k2, wI_pl k1]
    simp (disch := omega) only [wI_ne]
/-! frames of a class's call, and of a reference's -/
def FC (m m2 : Mm) : Prop := ∀ i, ¬ (26 ≤ i ∧ i < 226) → ¬ scC i → m2.1 i = m.1 i
def FF (m m2 : Mm) : Prop := (∀ i, i < 1088 → m2.1 i = m.1 i) ∧ m2.1 1088 31 = m.1 1088 31 ∧ m2.1 1088 35 = m.1 1088 35 ∧ m2.1 1088 40 = m.1 1088 40 ∧ (∀ i, 1119 ≤ i → i < 1126 → m2.1 i = m.1 i) ∧ (∀ k, k < 7600 → m2.1 1139 k = m.1 1139 k) ∧ m2.1 1140 = m.1 1140
theorem FC.tr {a b c : Mm} (h1 : FC a b) (h2 : FC b c) : FC a c := fun i i1 i2 => (h2 i i1 i2).trans (h1 i i1 i2)
theorem FF.tr {a b c : Mm} (h1 : FF a b) (h2 : FF b c) : FF a c := ⟨fun i hi => (h2.1 i hi).trans (h1.1 i hi), h2.2.1.trans h1.2.1, h2.2.2.1.trans h1.2.2.1, h2.2.2.2.1.trans h1.2.2.2.1, fun i i1 i2 => (h2.2.2.2.2.1 i i1 i2).trans (h1.2.2.2.2.1 i i1 i2), fun k hk => (h2.2.2.2.2.2.1 k hk).trans (h1.2.2.2.2.2.1 k hk), h2.2.2.2.2.2.2.trans h1.2.2.2.2.2.2⟩
theorem frM.FF {m m2 : Mm} (h : frM m m2) : FF m m2 := ⟨fun i hi => h.1 i (by omega) (by omega) (by omega) (by omega) (by omega) (by omega) (by omega) (by omega) (by omega), h.2.1 31 (by decide) (by decide), h.2.1 35 (by decide) (by decide), h.2.1 40 (by decide) (by decide), fun i i1 i2 => h.1 i (by omega) (by omega) (by omega) (by omega) (by omega) (by omega) (by omega) (by omega) (by omega), fun k _ => by rw [h.1 1139 (by decide) (by decide) (by decide) (by decide) (by decide) (by decide) (by decide) (by decide) (by decide)], h.1 1140 (by decide) (by decide) (by decide) (by decide) (by decide) (by decide) (by decide) (by decide) (by decide)⟩
theorem StF_cl {mm m2 : Mm} {V : Dat} {R : Rf} {na : Nat} {P : Nat → Rf} {O : Dat} {x : Int32} (f : ∀ i, 1088 ≤ i → m2.1 i = mm.1 i) (h : StF (fS mm) V R na P O x) : StF (fS m2) V R na P O x := by
  have e : fS m2 = fS mm := by
    funext j k
    unfold fS
    rw [f 1088 (by omega), f 1129 (by omega), f (1088 + j) (by omega)]
  rw [e]
  exact h
theorem StC_fF {m m2 : Mm} {ol : Nat} {V : Dat} {R : Rf} {na : Nat} {P : Nat → Rf} {O : Dat} {x : Int32} (f : ∀ i, i < 1088 → m2.1 i = m.1 i) (h : StC (cS m 26) ol V R na P O x) : StC (cS m2 26) ol V R na P O x := by
  obtain ⟨h1, h2, h3, h4, h5, h6, h7⟩ := h
  have g : ∀ j, j < 200 → cS m2 26 j = cS m 26 j := fun j hj => by
    funext k
    show m2.1 (26 + j) k = m.1 (26 + j) k
    rw [f _ (by omega)]
  refine ⟨?_, ?_, ?_, ?_, ?_, ?_, fun a ha => ?_⟩
  · unfold rvC
    rw [g 1 (by omega), g 2 (by omega), g 3 (by omega), g 4 (by omega), g 5 (by omega), g 6 (by omega)]
    exact h1
  · unfold ofC
    rw [g 0 (by omega), g 17 (by omega), g 18 (by omega), g 19 (by omega)]
    exact h2
  · rw [g 0 (by omega)]; exact h3
  · rw [g 0 (by omega)]; exact h4
  · rw [g 0 (by omega)]; exact h5
  · rw [cR_rw] at h6 ⊢
    exact raC_eq (fun j hj => f _ (by omega)) h6
  · have hlt : (ol + a) % 20 < 20 := Nat.mod_lt _ (by decide)
    have := h7 a ha
    rw [cR_rw] at this ⊢
    exact raC_eq (fun j hj => f _ (by omega)) this
theorem Inv_act {mm m2 m4 : Mm} {ol : Nat} {V : Dat} {R : Rf} {na : Nat} {P : Nat → Rf} {O : Dat} {x : Int32} (h : Inv mm) (fc : FC mm m2) (ff : FF m2 m4) (hC : StC (cS m2 26) ol V R na P O x) (hF : StF (fS m4) V R na P O x) (ok : StOk ol V R na P O x) : Inv m4 := by
  have g : ∀ i, (i < 3 ∨ i = 227 ∨ 252 ≤ i) → m2.1 i = mm.1 i := fun i hi => fc i (by omega) (fun z => by unfold scC at z; omega)
  exact Inv_mk h (StC_fF ff.1 hC) hF ok (by rw [ff.1 0 (by decide), g 0 (by omega)]) (by rw [ff.1 1 (by decide), g 1 (by omega)]) (by rw [ff.1 2 (by decide), g 2 (by omega)]) (by rw [ff.1 227 (by decide), g 227 (by omega)]) (fun i i1 i2 => by rw [ff.1 i i2, g i (by omega)]) (by rw [ff.2.1, g 1088 (by omega)]) (by rw [ff.2.2.1, g 1088 (by omega)]) (by rw [ff.2.2.2.1, g 1088 (by omega)]) (fun i i1 i2 => by rw [ff.2.2.2.2.1 i i1 i2, g i (by omega)]) (fun k hk => by rw [ff.2.2.2.2.2.1 k hk, g 1139 (by omega)]) (by rw [ff.2.2.2.2.2.2, g 1140 (by omega)])
theorem StOk_rem {ol : Nat} {V : Dat} {R R' : Rf} {na : Nat} {P : Nat → Rf} {O : Dat} {x : Int32} (ok : StOk ol V R na P O x) (h0 : ¬ V 1 0 = 0) (hR : RaOk V R'.1 R'.2.1) : StOk (remO ol na) V R' (remN na) (remP na P R) O x := by
  obtain ⟨k1, k2, k3, k4, k5, k6, k7, k8⟩ := ok
  refine ⟨k1, k2, ?_, ?_, fun h => absurd h h0, k6, hR, fun a ha => ?_⟩
  · unfold remO
    split
    · exact k3
    · exact Nat.mod_lt _ (by decide)
  · unfold remN
    split <;> omega
  · unfold remN at ha
    unfold remP
    by_cases c : na < 20
    · rw [if_pos c] at ha
      rw [if_pos c]
      by_cases d : a = na
      · rw [if_pos d]; exact k7
      · rw [if_neg d]; exact k8 a (by omega)
    · rw [if_neg c] at ha
      rw [if_neg c]
      by_cases d : a = 19
      · rw [if_pos d]; exact k7
      · rw [if_neg d]; exact k8 (a + 1) (by omega)
/-- the frames of remember and of keepsAct -/
theorem rem_FC {mm m1 : Mm} (h : ∀ i, ¬ i = 26 → ¬ (46 ≤ i ∧ i < 226) → m1.1 i = mm.1 i) : FC mm m1 := fun i i1 _ => h i (by omega) (by omega)
theorem keep_FF {mm m1 : Mm} (h1 : ∀ i, ¬ i = 1088 → ¬ i = 1129 → m1.1 i = mm.1 i) (h2 : ∀ j, ¬ j = 55 → ¬ j = 56 → ¬ j = 57 → m1.1 1088 j = mm.1 1088 j) : FF mm m1 := ⟨fun i hi => h1 i (by omega) (by omega), h2 31 (by decide) (by decide) (by decide), h2 35 (by decide) (by decide) (by decide), h2 40 (by decide) (by decide) (by decide), fun i i1 i2 => h1 i (by omega) (by omega), fun k _ => by rw [h1 1139 (by decide) (by decide)], h1 1140 (by decide) (by decide)⟩
