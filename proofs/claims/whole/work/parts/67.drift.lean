/-! PHASE 2: a mile, the class's side -/
def rwC (mm : Mm) (r : Nat) : Nat → Nat → Int32 := fun j k => mm.1 (r + j) k
theorem max0 {a b : Nat} (ha : a < 100000) (hb : b < 100000) : (if (0 : Int32) < nI a - nI b then nI a - nI b else 0) = nI (a - b) := by
  by_cases h : b ≤ a
  · rw [nI_sub' h]
    by_cases h0 : a - b = 0
    · rw [h0]; rfl
    · rw [if_pos]
      rw [sN_0lt (by omega)]
      omega
  · rw [if_neg, show a - b = 0 by omega]
    · rfl
    · rw [zI_n, zI_n, zI_sb, zI_0, zI_lt (by omega) (by omega) (by omega) (by omega)]
      omega
theorem ropesOf_x {mm : Mm} {r v : Nat} {L : Rop} {z : Nat → Int32} (hn : RpOk (mm.1 r 3) (mm.1 (r + 6)) (mm.1 (r + 7)) z L) (hl : L.length ≤ 12) (hb : ∀ k, k < L.length → (rp L k).1 < 8 ∧ (rp L k).2.1 < 8) {s : Nat} (hs : s < 2 ^ 31) : f_X4_ropesOf mm r v (nI s) = some (nI (bset (tch s L) L.length)) := by
  unfold f_X4_ropesOf
  rw [lpa (0 : Int32) (fun k => nI (bset (tch s L) k)) L.length rfl (fun k hk => ?_) (r := nI (bset (tch s L) L.length)) ?_]
  · rfl
  · unfold f_X4_ropesOf_s4
    simp (disch := omega) only [hn.1, ↓reduceIte, decide_true, decide_false, Bool.false_eq_true, eq_self, s10, s01, cont_ok, has_ok, b2i0, b2i1, reduceCtorEq, Nat.or_zero, Nat.add_zero, sN_le, sN_lt, sN_eq, sN_lt0, sN_le0, sN_0le, sN_0lt, sN_eq0, sN_cl, sN_ad, sN_a1, K2, K3, K4, K5, K6, K7, K8, K9, K12, K16, K20, false_or, or_false, if_neg, if_pos, vl_s, bi1_s, bi2_s, nx_or, nx_and, nx_sh]
  · have h1 := hn.2 k hk
    have h2 := hb k hk
    unfold f_X4_ropesOf_s4 f_X4_ropesOf_j38
    rw [show bset (tch s L) (k + 1) = bset (tch s L) k ||| (if s.testBit (rp L k).1 || s.testBit (rp L k).2.1 then 2 ^ k else 0) from rfl]
    simp (disch := omega) only [hn.1, h1.1, h1.2.1, ↓reduceIte, decide_true, decide_false, Bool.false_eq_true, eq_self, s10, s01, cont_ok, has_ok, b2i0, b2i1, reduceCtorEq, Nat.or_zero, Nat.add_zero, sN_le, sN_lt, sN_eq, sN_lt0, sN_le0, sN_0le, sN_0lt, sN_eq0, sN_cl, sN_ad, sN_a1, K2, K3, K4, K5, K6, K7, K8, K9, K12, K16, K20, false_or, or_false, if_neg, if_pos, vl_s, bi1_s, bi2_s, nx_or, nx_and, nx_sh]
    cases hc : s.testBit (rp L k).1
    · cases hd : s.testBit (rp L k).2.1
      · simp (disch := omega) only [hc, hd, ↓reduceIte, decide_true, decide_false, Bool.false_eq_true, eq_self, s10, s01, cont_ok, has_ok, b2i0, b2i1, reduceCtorEq, Nat.or_zero, Nat.add_zero, sN_le, sN_lt, sN_eq, sN_lt0, sN_le0, sN_0le, sN_0lt, sN_eq0, sN_cl, sN_ad, sN_a1, K2, K3, K4, K5, K6, K7, K8, K9, K12, K16, K20, false_or, or_false, if_neg, if_pos, vl_s, bi1_s, bi2_s, nx_or, nx_and, nx_sh, Bool.or_false]
      · simp (disch := omega) only [hc, hd, ↓reduceIte, decide_true, decide_false, Bool.false_eq_true, eq_self, s10, s01, cont_ok, has_ok, b2i0, b2i1, reduceCtorEq, Nat.or_zero, Nat.add_zero, sN_le, sN_lt, sN_eq, sN_lt0, sN_le0, sN_0le, sN_0lt, sN_eq0, sN_cl, sN_ad, sN_a1, K2, K3, K4, K5, K6, K7, K8, K9, K12, K16, K20, false_or, or_false, if_neg, if_pos, vl_s, bi1_s, bi2_s, nx_or, nx_and, nx_sh, Bool.or_true, reduceCtorEq]
    · simp (disch := omega) only [hc, ↓reduceIte, decide_true, decide_false, Bool.false_eq_true, eq_self, s10, s01, cont_ok, has_ok, b2i0, b2i1, reduceCtorEq, Nat.or_zero, Nat.add_zero, sN_le, sN_lt, sN_eq, sN_lt0, sN_le0, sN_0le, sN_0lt, sN_eq0, sN_cl, sN_ad, sN_a1, K2, K3, K4, K5, K6, K7, K8, K9, K12, K16, K20, false_or, or_false, if_neg, if_pos, vl_s, bi1_s, bi2_s, nx_or, nx_and, nx_sh, Bool.true_or, reduceCtorEq]
theorem kp_bset (g : Nat → Bool) (L : Rop) : kp (bset g L.length).testBit L 0 L.length = kp g L 0 L.length := kp_ext (fun k _ h => by rw [bset_tb, decide_eq_true (by omega), Bool.true_and])
theorem stp_bset (g : Nat → Bool) (L : Rop) : stp (bset g L.length).testBit L L.length = stp g L L.length := stp_ext (fun k h => by rw [bset_tb, decide_eq_true (by omega), Bool.true_and])
theorem bset_lt12 {g : Nat → Bool} {n : Nat} (h : n ≤ 12) : bset g n < 4096 := Nat.lt_of_lt_of_le (bset_lt _ _) (Nat.pow_le_pow_right (by decide) h)
theorem bitc_bset {g : Nat → Bool} {n : Nat} (h : n ≤ 12) : f_J6_bitCount_0f7a4 (nI (bset g n)) = nI (cnt g n) := by
  rw [bitc_ok _ (bset_lt12 h), pop_bset12 g h]
theorem breakRopes_c {mm : Mm} {r v : Nat} {V A : Dat} {L : Rop} {S : Int32} (hr : RaC mm r V A L S) (oa : RaOk V A L) {fc : Nat} (hfc : fc ≤ 9) : ∃ m1, f_X4_breakRopes mm r v (nI fc) = some (nI (cnt (brk fc L) L.length), m1) ∧ RaC m1 r V A (kp (brk fc L) L 0 L.length) S ∧ (∀ i, ¬ i = r → ¬ i = r + 6 → ¬ i = r + 7 → ¬ i = r + 8 → m1.1 i = mm.1 i) ∧ ∀ k, ¬ k = 3 → m1.1 r k = mm.1 r k := by
  have hl := oa.2.1
  have e : lp (f_X4_breakRopes_s4 r v mm (nI fc)) ((0 : Int32), (0 : Int32)) = some (nI (bset (brk fc L) L.length)) := by
    refine lpa (0 : Int32) (fun k => nI (bset (brk fc L) k)) L.length rfl (fun k hk => ?_) ?_
    · have h1 := (hr.2.2.1.2 k hk).2.2
      have h2 := oa.2.2.2.2 k hk
      unfold f_X4_breakRopes_s4
      rw [show bset (brk fc L) (k + 1) = bset (brk fc L) k ||| (if decide ((rp L k).2.2 < fc) then 2 ^ k else 0) from rfl]
      simp (disch := omega) only [hr.2.2.1.1, h1, ↓reduceIte, decide_true, decide_false, Bool.false_eq_true, eq_self, s10, s01, cont_ok, has_ok, b2i0, b2i1, reduceCtorEq, Nat.or_zero, Nat.add_zero, sN_le, sN_lt, sN_eq, sN_lt0, sN_le0, sN_0le, sN_0lt, sN_eq0, sN_cl, sN_ad, sN_a1, K2, K3, K4, K5, K6, K7, K8, K9, K12, K16, K20, false_or, or_false, if_neg, if_pos, vl_s, bi1_s, bi2_s, nx_or, nx_and, nx_sh]
      by_cases hc : (rp L k).2.2 < fc
      · simp (disch := omega) only [hc, ↓reduceIte, decide_true, decide_false, Bool.false_eq_true, eq_self, s10, s01, cont_ok, has_ok, b2i0, b2i1, reduceCtorEq, Nat.or_zero, Nat.add_zero, sN_le, sN_lt, sN_eq, sN_lt0, sN_le0, sN_0le, sN_0lt, sN_eq0, sN_cl, sN_ad, sN_a1, K2, K3, K4, K5, K6, K7, K8, K9, K12, K16, K20, false_or, or_false, if_neg, if_pos, vl_s, bi1_s, bi2_s, nx_or, nx_and, nx_sh]
      · simp (disch := omega) only [hc, ↓reduceIte, decide_true, decide_false, Bool.false_eq_true, eq_self, s10, s01, cont_ok, has_ok, b2i0, b2i1, reduceCtorEq, Nat.or_zero, Nat.add_zero, sN_le, sN_lt, sN_eq, sN_lt0, sN_le0, sN_0le, sN_0lt, sN_eq0, sN_cl, sN_ad, sN_a1, K2, K3, K4, K5, K6, K7, K8, K9, K12, K16, K20, false_or, or_false, if_neg, if_pos, vl_s, bi1_s, bi2_s, nx_or, nx_and, nx_sh]
    · unfold f_X4_breakRopes_s4
      simp (disch := omega) only [hr.2.2.1.1, ↓reduceIte, decide_true, decide_false, Bool.false_eq_true, eq_self, s10, s01, cont_ok, has_ok, b2i0, b2i1, reduceCtorEq, Nat.or_zero, Nat.add_zero, sN_le, sN_lt, sN_eq, sN_lt0, sN_le0, sN_0le, sN_0lt, sN_eq0, sN_cl, sN_ad, sN_a1, K2, K3, K4, K5, K6, K7, K8, K9, K12, K16, K20, false_or, or_false, if_neg, if_pos, vl_s, bi1_s, bi2_s, nx_or, nx_and, nx_sh]
  have hlt := bset_lt12 (g := brk fc L) hl
  obtain ⟨m1, e1, h1, h2, h3⟩ := lose_c (v := v) hr hl (g := bset (brk fc L) L.length) (by omega)
  rw [kp_bset] at h1
  refine ⟨m1, ?_, h1, h2, h3⟩
  unfold f_X4_breakRopes
  rw [e, bi1_s, e1, bi1_s, bitc_bset hl]
/-- what a raft's rows rest on -/
theorem raC_eq {m m1 : Mm} {r : Nat} {V : Dat} {R : Rf} (h : ∀ j, j < 9 → m1.1 (r + j) = m.1 (r + j)) (g : raC (rwC m r) V R) : raC (rwC m1 r) V R :=
  ⟨RaC_eq (mm := m) (m' := m1) h g.1, fun t ht h2 => by
    show m1.1 (r + 5) t = _
    rw [h 5 (by decide)]
    exact g.2 t ht h2⟩
theorem drift1_c {mm : Mm} {r : Nat} {V : Dat} {R : Rf} (hv : RvC mm 27 V) (ov : RvOk V) (hr : raC (rwC mm r) V R) (oa : RaOk V R.1 R.2.1) (hrr : r = 33 ∨ r = 242) {x : Int32} : ∃ m1, lp (f_X4_drift_s22 r 27 x) ((0 : Int32), wI mm r 1 (mm.1 r 1 + 1)) = some m1 ∧ raC (rwC m1 r) V (st1 V R) ∧ ∀ i, ¬ i = r → ¬ i = r + 3 → m1.1 i = mm.1 i := by
  have h8 := ov.2.2.1
  have hn := hv.1.2.2
  have hr1 : RaC mm r V R.1 R.2.1 R.2.2 := hr.1
  have hxr := row_loop (st := f_X4_drift_s22 r 27 x) (mm := wI mm r 1 (mm.1 r 1 + 1)) (fun i => i = r + 3) (fun _ t => nI (if R.1 4 t = 0 then R.1 3 t - V 5 t else R.1 3 t)) (V 1 2) (fun k m hk hm => ?_) (fun m hm => ?_)
  · obtain ⟨m1, e, g1, g2⟩ := hxr
    have hg : ∀ i, ¬ i = r → ¬ i = r + 3 → m1.1 i = mm.1 i := fun i h1 h2 => by
      funext j
      rw [g1 i j (fun z => h2 z.1), wI_ne h1]
    have hgr : ∀ k, ¬ k = 1 → m1.1 r k = mm.1 r k := fun k hk => by rw [g1 r k (fun z => by omega), wI_pl hk]
    refine ⟨m1, e, ⟨⟨?_, ?_, ?_, fun o ho => ?_, fun t ht => ?_⟩, fun t ht h2 => ?_⟩, hg⟩
    · show m1.1 r 1 = nI (R.1 0 1 + 1)
      rw [g1 r 1 (fun z => by omega), wI_at, hr1.1, sN_a1]
    · show m1.1 r 2 = R.2.2
      rw [hgr 2 (by decide)]; exact hr1.2.1
    · show RpOk (m1.1 r 3) (m1.1 (r + 6)) (m1.1 (r + 7)) (m1.1 (r + 8)) R.2.1
      rw [hgr 3 (by decide), hg _ (by omega) (by omega), hg _ (by omega) (by omega), hg _ (by omega) (by omega)]; exact hr1.2.2.1
    · show m1.1 (r + 1) o = nI (R.1 1 o)
      rw [hg _ (by omega) (by omega)]; exact hr1.2.2.2.1 o ho
    · show m1.1 (r + 2) t = nI (R.1 2 t) ∧ m1.1 (r + 3) t = nI (if R.1 4 t = 0 then R.1 3 t - V 5 t else R.1 3 t) ∧ m1.1 (r + 4) t = nI (R.1 4 t)
      rw [hg _ (by omega) (by omega), hg (r + 4) (by omega) (by omega), g2 _ t rfl ht]
      exact ⟨(hr1.2.2.2.2 t ht).1, rfl, (hr1.2.2.2.2 t ht).2.2⟩
    · show m1.1 (r + 5) t = nI (R.1 5 t)
      rw [hg _ (by omega) (by omega)]; exact hr.2 t ht h2
  · have hm2 : ∀ i, ¬ i = r → ¬ i = r + 3 → m.1 i = mm.1 i := fun i h1 h2 => by
      funext j
      rw [hm i j (fun z => h2 z.1), wI_ne h1]
    have e27 : m.1 27 2 = nI (V 1 2) := by rw [hm2 27 (by omega) (by omega)]; exact hn
    have e31 : m.1 31 k = nI (V 5 k) := by rw [hm2 31 (by omega) (by omega)]; exact (hv.2.2.1 k hk).2
    have e3 : m.1 (r + 3) k = nI (R.1 3 k) := by rw [hm (r + 3) k (fun z => by omega), wI_ne (by omega)]; exact (hr1.2.2.2.2 k hk).2.1
    have e4 : m.1 (r + 4) k = nI (R.1 4 k) := by rw [hm2 (r + 4) (by omega) (by omega)]; exact (hr1.2.2.2.2 k hk).2.2
    have b1 := oa.2.2.2.1 k hk
    have b2 := ov.2.2.2.2.1 k hk
    unfold f_X4_drift_s22
    simp (disch := omega) only [↓reduceIte, decide_true, decide_false, Bool.false_eq_true, eq_self, s10, s01, cont_ok, has_ok, b2i0, b2i1, reduceCtorEq, Nat.or_zero, Nat.add_zero, sN_le, sN_lt, sN_eq, sN_lt0, sN_le0, sN_0le, sN_0lt, sN_eq0, sN_cl, sN_ad, sN_a1, K2, K3, K4, K5, K6, K7, K8, K9, K12, K16, K20, false_or, or_false, if_neg, if_pos, vl_s, bi1_s, bi2_s, nx_or, nx_and, nx_sh, e27, e4, e3, e31, show 27 + 4 = 31 from rfl, max0]
    by_cases c : R.1 4 k = 0
    · rw [if_pos c]
      refine ⟨_, rfl, fun i j h => ?_, fun i hi => ?_⟩
      · rw [wI_get, if_neg (fun z => h z)]
      · rw [hi, wI_at, if_pos c]
    · rw [if_neg c]
      refine ⟨m, rfl, fun i j h => rfl, fun i hi => ?_⟩
      rw [hi, if_neg c]
      exact e3
  · have e27 : m.1 27 2 = nI (V 1 2) := by rw [hm 27 2 (fun z => by omega), wI_ne (by omega)]; exact hn
    unfold f_X4_drift_s22
    simp (disch := omega) only [↓reduceIte, decide_true, decide_false, Bool.false_eq_true, eq_self, s10, s01, cont_ok, has_ok, b2i0, b2i1, reduceCtorEq, Nat.or_zero, Nat.add_zero, sN_le, sN_lt, sN_eq, sN_lt0, sN_le0, sN_0le, sN_0lt, sN_eq0, sN_cl, sN_ad, sN_a1, K2, K3, K4, K5, K6, K7, K8, K9, K12, K16, K20, false_or, or_false, if_neg, if_pos, vl_s, bi1_s, bi2_s, nx_or, nx_and, nx_sh, e27]
/-- step 3, the class's -/
def ashN (V A : Dat) (k : Nat) : Nat := bset (fun t => lnd V A t && decide (A 2 t < k)) (V 1 2)
theorem ashN_su {V A : Dat} {L : Rop} (k : Nat) : ashN V A (k + 1) = ashN V A k ||| (if A 1 k = 0 ∧ V 2 k = A 0 1 then thO V A k else 0) := tb_ext (fun t => by
  unfold ashN
  rw [Nat.testBit_or, bset_tb, bset_tb]
  have e : (if A 1 k = 0 ∧ V 2 k = A 0 1 then thO V A k else 0).testBit t = (decide (t < V 1 2) && (lnd V A t && decide (A 2 t = k))) := by
    by_cases c : A 1 k = 0 ∧ V 2 k = A 0 1
    · rw [if_pos c]
      unfold thO lnd
      rw [bset_tb]
      by_cases d : A 2 t = k
      · rw [d, decide_eq_true c.1, decide_eq_true c.2]
        simp
      · rw [decide_eq_false d]
        simp
    · rw [if_neg c, Nat.zero_testBit]
      unfold lnd
      by_cases d : A 2 t = k
      · rw [d]
        by_cases c1 : A 1 k = 0
        · rw [decide_eq_false (fun z => c ⟨c1, z⟩)]; simp
        · rw [decide_eq_false c1]; simp
      · rw [decide_eq_false d]; simp
  rw [e]
  cases decide (t < V 1 2) <;> cases lnd V A t <;> simp only [Bool.true_and, Bool.false_and, Bool.false_or, Bool.or_self]
  by_cases d : A 2 t = k
  · rw [decide_eq_true d, Bool.or_true, decide_eq_true (by omega)]
  · rw [decide_eq_false d, Bool.or_false]
    by_cases d2 : A 2 t < k
    · rw [decide_eq_true d2, decide_eq_true (by omega)]
    · rw [decide_eq_false d2, decide_eq_false (by omega)])
theorem ashN_all {V A : Dat} {L : Rop} (oa : RaOk V A L) : ashN V A (V 1 1) = ash V A := bset_ext (fun t ht => by
  rw [decide_eq_true (oa.2.2.2.1 t ht).1, Bool.and_true])
theorem ashN_0 (V A : Dat) : ashN V A 0 = 0 := zero_iff.mpr (fun t h => by
  unfold ashN at h
  rw [bset_tb, decide_eq_false (Nat.not_lt_zero _), Bool.and_false, Bool.and_false] at h
  exact absurd h (by decide))
theorem ashN_lt {V A : Dat} (k : Nat) (h : V 1 2 ≤ 8) : ashN V A k < 256 := Nat.lt_of_lt_of_le (bset_lt _ _) (Nat.pow_le_pow_right (by decide) h)
def faN (V A : Dat) (k o : Nat) : Nat := if o < k then fa3 V A o else A 1 o
theorem faN_ok {V A : Dat} {L : Rop} (oa : RaOk V A L) (k : Nat) : RaOk V (upA A 1 (faN V A k)) L := ⟨oa.1, oa.2.1, fun o ho => by
  show faN V A k o ≤ 2
  have := oa.2.2.1 o ho
  unfold faN fa3
  split
  · split <;> omega
  · exact this, oa.2.2.2.1, oa.2.2.2.2⟩
theorem land_c {mm : Mm} {r : Nat} {V : Dat} {R : Rf} (hv : RvC mm 27 V) (ov : RvOk V) (hr : raC (rwC mm r) V R) (oa : RaOk V R.1 R.2.1) (hrr : r = 33 ∨ r = 242) : ∃ m1, f_X4_land mm r 27 = some (nI (pop (ash V R.1) 12), m1) ∧ raC (rwC m1 r) V (st3 V R) ∧ ∀ i, ¬ (r ≤ i ∧ i < r + 9) → m1.1 i = mm.1 i := by
  have h8 := ov.2.2.1
  have h6 := ov.2.1
  have h99 := ov.1
  have hr1 : RaC mm r V R.1 R.2.1 R.2.2 := hr.1
  have hmi := oa.1
  -- the fates
  have hx : ∃ w, lp (f_X4_land_s4 r 27) ((0 : Int32), (0 : Int32), mm) = some w ∧ ∃ m, w = (nI (ash V R.1), m) ∧ (∀ i, ¬ i = r + 1 → m.1 i = mm.1 i) ∧ ∀ o, o < V 1 1 → m.1 (r + 1) o = nI (fa3 V R.1 o) := by
    refine lp_inv (fun k x => ∃ m, x = (nI (ashN V R.1 k), nI k, m) ∧ (∀ i, ¬ i = r + 1 → m.1 i = mm.1 i) ∧ ∀ o, o < V 1 1 → m.1 (r + 1) o = nI (faN V R.1 k o)) _ (V 1 1) (fun k x hk hx => ?_) (fun x hx => ?_) 0 _ (Nat.zero_le _) ⟨mm, by rw [ashN_0]; rfl, fun _ _ => rfl, fun o ho => hr1.2.2.2.1 o ho⟩
    · obtain ⟨m, rfl, m1, m2⟩ := hx
      have e27 : m.1 27 1 = nI (V 1 1) := by rw [m1 27 (by omega)]; exact hv.1.2.1
      have e28 : m.1 28 k = nI (V 2 k) := by rw [m1 28 (by omega)]; exact (hv.2.1 k hk).1
      have e1 : m.1 (r + 1) k = nI (R.1 1 k) := by rw [m2 k hk]; unfold faN; rw [if_neg (by omega)]
      have e0 : m.1 r 1 = nI (R.1 0 1) := by rw [m1 r (by omega)]; exact hr1.1
      have b1 := oa.2.2.1 k hk
      have b2 := ov.2.2.2.1 k hk
      have hlt := ashN_lt (A := R.1) k h8
      rw [ashN_su (L := R.2.1)]
      unfold f_X4_land_s4
      simp (disch := omega) only [↓reduceIte, decide_true, decide_false, Bool.false_eq_true, eq_self, s10, s01, cont_ok, has_ok, b2i0, b2i1, reduceCtorEq, Nat.or_zero, Nat.add_zero, sN_le, sN_lt, sN_eq, sN_lt0, sN_le0, sN_0le, sN_0lt, sN_eq0, sN_cl, sN_ad, sN_a1, K2, K3, K4, K5, K6, K7, K8, K9, K12, K16, K20, false_or, or_false, if_neg, if_pos, vl_s, bi1_s, bi2_s, nx_or, nx_and, nx_sh, e27, show 27 + 1 = 28 from rfl, e28, e1, e0]
      by_cases c1 : R.1 1 k = 0
      · rw [if_pos c1]
        by_cases c2 : V 2 k = R.1 0 1
        · rw [if_pos c2, if_pos ⟨c1, c2⟩]
          have hm' : ∀ i, ¬ i = r + 1 → (wI m (r + 1) k 1).1 i = mm.1 i := fun i hi => by rw [wI_ne hi, m1 i hi]
          have hf' : ∀ o, o < V 1 1 → (wI m (r + 1) k 1).1 (r + 1) o = nI (faN V R.1 (k + 1) o) := fun o ho => by
            rw [wI_get]
            by_cases co : o = k
            · rw [if_pos ⟨rfl, co⟩, co]
              unfold faN fa3
              rw [if_pos (by omega), if_pos ⟨c1, c2⟩]
              rfl
            · rw [if_neg (fun z => co z.2), m2 o ho]
              unfold faN
              by_cases co2 : o < k
              · rw [if_pos co2, if_pos (by omega)]
              · rw [if_neg co2, if_neg (by omega)]
          have hv' : RvC (wI m (r + 1) k 1) 27 V := RvC_eq (fun j hj => hm' _ (by omega)) hv
          have hr' : RaC (wI m (r + 1) k 1) r V (upA R.1 1 (faN V R.1 (k + 1))) R.2.1 R.2.2 := by
            refine ⟨?_, ?_, ?_, fun o ho => hf' o ho, fun t ht => ?_⟩
            · rw [hm' r (by omega)]; exact hr1.1
            · rw [hm' r (by omega)]; exact hr1.2.1
            · rw [hm' r (by omega), hm' _ (by omega), hm' _ (by omega), hm' _ (by omega)]; exact hr1.2.2.1
            · rw [hm' _ (by omega), hm' _ (by omega), hm' _ (by omega)]; exact hr1.2.2.2.2 t ht
          rw [thingsOf_c hv' ov hr' (faN_ok oa (k + 1)) (by omega), bi1_s]
          refine ⟨_, rfl, _, ?_, hm', hf'⟩
          rw [nx_or]
          rfl
        · rw [if_neg c2, if_neg (fun z => c2 z.2), Nat.or_zero]
          refine ⟨_, rfl, m, rfl, m1, fun o ho => ?_⟩
          rw [m2 o ho]
          unfold faN
          by_cases co : o < k
          · rw [if_pos co, if_pos (by omega)]
          · rw [if_neg co]
            by_cases co2 : o < k + 1
            · unfold fa3
              rw [if_pos co2, if_neg (fun z => c2 (by have := z.2; rw [show o = k by omega] at this; exact this))]
            · rw [if_neg co2]
      · rw [if_neg c1, if_neg (fun z => c1 z.1), Nat.or_zero]
        refine ⟨_, rfl, m, rfl, m1, fun o ho => ?_⟩
        rw [m2 o ho]
        unfold faN
        by_cases co : o < k
        · rw [if_pos co, if_pos (by omega)]
        · rw [if_neg co]
          by_cases co2 : o < k + 1
          · unfold fa3
            rw [if_pos co2, if_neg (fun z => c1 (by have := z.1; rw [show o = k by omega] at this; exact this))]
          · rw [if_neg co2]
    · obtain ⟨m, rfl, m1, m2⟩ := hx
      have e27 : m.1 27 1 = nI (V 1 1) := by rw [m1 27 (by omega)]; exact hv.1.2.1
      refine ⟨_, ?_, m, rfl, m1, fun o ho => by rw [m2 o ho]; unfold faN; rw [if_pos ho]⟩
      unfold f_X4_land_s4
      simp (disch := omega) only [↓reduceIte, decide_true, decide_false, Bool.false_eq_true, eq_self, s10, s01, cont_ok, has_ok, b2i0, b2i1, reduceCtorEq, Nat.or_zero, Nat.add_zero, sN_le, sN_lt, sN_eq, sN_lt0, sN_le0, sN_0le, sN_0lt, sN_eq0, sN_cl, sN_ad, sN_a1, K2, K3, K4, K5, K6, K7, K8, K9, K12, K16, K20, false_or, or_false, if_neg, if_pos, vl_s, bi1_s, bi2_s, nx_or, nx_and, nx_sh, e27]
      rw [ashN_all oa]
  obtain ⟨w, e1, m, rfl, m1, m2⟩ := hx
  have hlt := ash_lt (A := R.1) h8
  -- the places
  have hxr := row_loop (st := f_X4_land_s63 r 27 (nI (ash V R.1))) (mm := m) (fun i => i = r + 4) (fun _ t => nI (if (ash V R.1).testBit t then 1 else R.1 4 t)) (V 1 2) (fun k n hk hn => ?_) (fun n hn => ?_)
  · obtain ⟨m', e2, g1, g2⟩ := hxr
    have hg : ∀ i, ¬ i = r + 1 → ¬ i = r + 4 → m'.1 i = mm.1 i := fun i h1 h2 => by
      funext j
      rw [g1 i j (fun z => h2 z.1), m1 i h1]
    have hr3 : RaC m' r V (ml3 V R.1) R.2.1 R.2.2 := by
      refine ⟨?_, ?_, ?_, fun o ho => ?_, fun t ht => ?_⟩
      · rw [hg r (by omega) (by omega)]; exact hr1.1
      · rw [hg r (by omega) (by omega)]; exact hr1.2.1
      · rw [hg r (by omega) (by omega), hg _ (by omega) (by omega), hg _ (by omega) (by omega), hg _ (by omega) (by omega)]; exact hr1.2.2.1
      · rw [g1 (r + 1) o (fun z => by omega), m2 o ho]; rfl
      · rw [hg _ (by omega) (by omega), hg (r + 3) (by omega) (by omega), g2 _ t rfl ht]
        exact ⟨(hr1.2.2.2.2 t ht).1, (hr1.2.2.2.2 t ht).2.1, rfl⟩
    have hb : ∀ k, k < R.2.1.length → (rp R.2.1 k).1 < 8 ∧ (rp R.2.1 k).2.1 < 8 := fun k hk => by
      have := oa.2.2.2.2 k hk
      omega
    have hs12 := bset_lt12 (g := tch (ash V R.1) R.2.1) oa.2.1
    obtain ⟨mx, e3, k1, k2, k3⟩ := untie_c (v := 27) hr3 oa.2.1 (g := bset (tch (ash V R.1) R.2.1) R.2.1.length) (by omega)
    rw [kp_bset, stp_bset] at k1
    refine ⟨mx, ?_, ⟨k1, fun t ht h2 => ?_⟩, fun i hi => ?_⟩
    · unfold f_X4_land
      rw [e1, bi1_s]
      show bi1 (lp (f_X4_land_s63 r 27 (nI (ash V R.1))) ((0 : Int32), m)) _ = _
      rw [e2, bi1_s, ropesOf_x hr3.2.2.1 oa.2.1 hb (by omega), bi1_s, e3, bi1_s, bitc_ok _ (by omega)]
    · show mx.1 (r + 5) t = nI (R.1 5 t)
      rw [k2 _ (by omega) (by omega) (by omega) (by omega), hg _ (by omega) (by omega)]
      have h2' : (if (ash V R.1).testBit t then 1 else R.1 4 t) = 2 := h2
      by_cases c : (ash V R.1).testBit t = true
      · rw [if_pos c] at h2'; exact absurd h2' (by decide)
      · rw [if_neg c] at h2'; exact hr.2 t ht h2'
    · rw [k2 i (by omega) (by omega) (by omega) (by omega), hg i (by omega) (by omega)]
  · have e27 : n.1 27 2 = nI (V 1 2) := by rw [hn 27 2 (fun z => by omega), m1 27 (by omega)]; exact hv.1.2.2
    have e4 : n.1 (r + 4) k = nI (R.1 4 k) := by rw [hn (r + 4) k (fun z => by omega), m1 _ (by omega)]; exact (hr1.2.2.2.2 k hk).2.2
    unfold f_X4_land_s63
    simp (disch := omega) only [↓reduceIte, decide_true, decide_false, Bool.false_eq_true, eq_self, s10, s01, cont_ok, has_ok, b2i0, b2i1, reduceCtorEq, Nat.or_zero, Nat.add_zero, sN_le, sN_lt, sN_eq, sN_lt0, sN_le0, sN_0le, sN_0lt, sN_eq0, sN_cl, sN_ad, sN_a1, K2, K3, K4, K5, K6, K7, K8, K9, K12, K16, K20, false_or, or_false, if_neg, if_pos, vl_s, bi1_s, bi2_s, nx_or, nx_and, nx_sh, e27]
    cases hc : (ash V R.1).testBit k
    · rw [if_pos rfl]
      refine ⟨n, rfl, fun i j h => rfl, fun i hi => ?_⟩
      rw [hi, e4, if_neg (by decide)]
    · rw [if_neg (by decide)]
      refine ⟨_, rfl, fun i j h => ?_, fun i hi => ?_⟩
      · rw [wI_get, if_neg (fun z => h z)]
      · rw [hi, wI_at, if_pos rfl]
        rfl
  · have e27 : n.1 27 2 = nI (V 1 2) := by rw [hn 27 2 (fun z => by omega), m1 27 (by omega)]; exact hv.1.2.2
    unfold f_X4_land_s63
    simp (disch := omega) only [↓reduceIte, decide_true, decide_false, Bool.false_eq_true, eq_self, s10, s01, cont_ok, has_ok, b2i0, b2i1, reduceCtorEq, Nat.or_zero, Nat.add_zero, sN_le, sN_lt, sN_eq, sN_lt0, sN_le0, sN_0le, sN_0lt, sN_eq0, sN_cl, sN_ad, sN_a1, K2, K3, K4, K5, K6, K7, K8, K9, K12, K16, K20, false_or, or_false, if_neg, if_pos, vl_s, bi1_s, bi2_s, nx_or, nx_and, nx_sh, e27]
theorem sink_c {mm : Mm} {r : Nat} {V : Dat} {R : Rf} (hv : RvC mm 27 V) (ov : RvOk V) (hr : raC (rwC mm r) V R) (oa : RaOk V R.1 R.2.1) (hrr : r = 33 ∨ r = 242) : ∃ m1, f_X4_sink mm r 27 = some (nI (pop (los V R.1 R.2.1) 12), m1) ∧ raC (rwC m1 r) V (st4 V R) ∧ ∀ i, ¬ (r ≤ i ∧ i < r + 9) → ¬ i = 230 → ¬ i = 231 → m1.1 i = mm.1 i := by
  have h8 := ov.2.2.1
  have h6 := ov.2.1
  have h99 := ov.1
  have hr1 : RaC mm r V R.1 R.2.1 R.2.2 := hr.1
  have hmi := oa.1
  have hlt := los_lt V R.1 R.2.1
  have e0 := find_c hv ov hr1 oa (by omega) (by decide) (g := 0) (by decide)
  generalize hm0 : wA (wA mm 230 (rowN 8 (pOf V R.1 R.2.1 0) (mm.1 230))) 231 (rowN 6 (rid V R.1 (pOf V R.1 R.2.1 0)) (mm.1 231)) = m0' at e0
  have f0 : ∀ i, ¬ i = 230 → ¬ i = 231 → m0'.1 i = mm.1 i := fun i h1 h2 => by rw [← hm0, wA_ne h2, wA_ne h1]
  have hv0 : RvC m0' 27 V := RvC_eq (fun j hj => f0 _ (by omega) (by omega)) hv
  have hr0 : RaC m0' r V R.1 R.2.1 R.2.2 := RaC_eq (fun j hj => f0 _ (by omega) (by omega)) hr1
  have hp : ∀ t, t < 8 → m0'.1 230 t = nI (pOf V R.1 R.2.1 0 t) ∧ pOf V R.1 R.2.1 0 t < 256 := fun t ht => ⟨by rw [← hm0, wA_ne (by decide), wA_at, rowN_at _ _ ht], pOf_lt _ _ _ _ _⟩
  have hq : ∀ o, o < 6 → m0'.1 231 o = nI (rid V R.1 (pOf V R.1 R.2.1 0) o) ∧ rid V R.1 (pOf V R.1 R.2.1 0) o < 256 := fun o ho => ⟨by rw [← hm0, wA_at, rowN_at _ _ ho], rid_lt (fun t _ => pOf_lt _ _ _ _ _) o⟩
  have en : f_X2_notFloating m0' r 27 = some (nI (los V R.1 R.2.1)) := notFloating_c hv0 ov hr0 oa hp hq
  have hxr := row_loop (st := f_X4_sink_s14 r 27 (nI (los V R.1 R.2.1))) (mm := m0') (fun i => i = r + 1) (fun _ o => nI (fa4 V R.1 R.2.1 o)) (V 1 1) (fun k n hk hn => ?_) (fun n hn => ?_)
  · obtain ⟨m, e1, g1, g2⟩ := hxr
    have f1 : ∀ i, ¬ i = 230 → ¬ i = 231 → ¬ i = r + 1 → m.1 i = mm.1 i := fun i h1 h2 h3 => by
      funext j
      rw [g1 i j (fun z => h3 z.1), f0 i h1 h2]
    have hxr := row_loop (st := f_X4_sink_s51 r 27 (nI (los V R.1 R.2.1))) (mm := m) (fun i => i = r + 4 ∨ i = r + 5) (fun i t => if i = r + 4 then nI (if (los V R.1 R.2.1).testBit t then 2 else R.1 4 t) else if (los V R.1 R.2.1).testBit t then nI (R.1 0 1) else mm.1 (r + 5) t) (V 1 2) (fun k n hk hn => ?_) (fun n hn => ?_)
    · obtain ⟨m', e2, k1, k2⟩ := hxr
      have hg : ∀ i, ¬ i = 230 → ¬ i = 231 → ¬ i = r + 1 → ¬ i = r + 4 → ¬ i = r + 5 → m'.1 i = mm.1 i := fun i h1 h2 h3 h4 h5 => by
        funext j
        rw [k1 i j (fun z => z.1.elim h4 h5), f1 i h1 h2 h3]
      have hr4 : RaC m' r V (ml4 V R.1 R.2.1) R.2.1 R.2.2 := by
        refine ⟨?_, ?_, ?_, fun o ho => ?_, fun t ht => ?_⟩
        · rw [hg r (by omega) (by omega) (by omega) (by omega) (by omega)]; exact hr1.1
        · rw [hg r (by omega) (by omega) (by omega) (by omega) (by omega)]; exact hr1.2.1
        · rw [hg r (by omega) (by omega) (by omega) (by omega) (by omega), hg _ (by omega) (by omega) (by omega) (by omega) (by omega), hg _ (by omega) (by omega) (by omega) (by omega) (by omega), hg _ (by omega) (by omega) (by omega) (by omega) (by omega)]; exact hr1.2.2.1
        · rw [k1 (r + 1) o (fun z => by omega), g2 _ o rfl ho]; rfl
        · rw [hg _ (by omega) (by omega) (by omega) (by omega) (by omega), hg (r + 3) (by omega) (by omega) (by omega) (by omega) (by omega), k2 _ t (Or.inl rfl) ht, if_pos rfl]
          exact ⟨(hr1.2.2.2.2 t ht).1, (hr1.2.2.2.2 t ht).2.1, rfl⟩
      have hb : ∀ k, k < R.2.1.length → (rp R.2.1 k).1 < 8 ∧ (rp R.2.1 k).2.1 < 8 := fun k hk => by
        have := oa.2.2.2.2 k hk
        omega
      have hs12 := bset_lt12 (g := tch (los V R.1 R.2.1) R.2.1) oa.2.1
      obtain ⟨mx, e3, x1, x2, x3⟩ := lose_c (v := 27) hr4 oa.2.1 (g := bset (tch (los V R.1 R.2.1) R.2.1) R.2.1.length) (by omega)
      rw [kp_bset] at x1
      refine ⟨mx, ?_, ⟨x1, fun t ht h2 => ?_⟩, fun i hi i1 i2 => ?_⟩
      · unfold f_X4_sink
        rw [show (0 : Int32) = nI 0 from rfl, e0, bi1_s, en, bi1_s]
        show bi1 (lp (f_X4_sink_s14 r 27 (nI (los V R.1 R.2.1))) ((0 : Int32), m0')) _ = _
        rw [e1, bi1_s]
        show bi1 (lp (f_X4_sink_s51 r 27 (nI (los V R.1 R.2.1))) ((0 : Int32), m)) _ = _
        rw [e2, bi1_s, ropesOf_x hr4.2.2.1 oa.2.1 hb (by omega), bi1_s, e3, bi1_s, bitc_ok _ (by omega)]
      · show mx.1 (r + 5) t = nI (if (los V R.1 R.2.1).testBit t then R.1 0 1 else R.1 5 t)
        rw [x2 _ (by omega) (by omega) (by omega) (by omega), k2 _ t (Or.inr rfl) ht, if_neg (by omega)]
        have h2' : (if (los V R.1 R.2.1).testBit t then 2 else R.1 4 t) = 2 := h2
        by_cases c : (los V R.1 R.2.1).testBit t = true
        · rw [if_pos c, if_pos c]
        · rw [if_neg c] at h2'
          rw [if_neg c, if_neg c]
          exact hr.2 t ht h2'
      · rw [x2 i (by omega) (by omega) (by omega) (by omega), hg i i1 i2 (by omega) (by omega) (by omega)]
    · have e27 : n.1 27 2 = nI (V 1 2) := by rw [hn 27 2 (fun z => by omega), f1 27 (by omega) (by omega) (by omega)]; exact hv.1.2.2
      have e4 : n.1 (r + 4) k = nI (R.1 4 k) := by rw [hn (r + 4) k (fun z => by omega), f1 _ (by omega) (by omega) (by omega)]; exact (hr1.2.2.2.2 k hk).2.2
      have e5 : n.1 (r + 5) k = mm.1 (r + 5) k := by rw [hn (r + 5) k (fun z => by omega), f1 _ (by omega) (by omega) (by omega)]
      have er : n.1 r 1 = nI (R.1 0 1) := by rw [hn r 1 (fun z => by omega), f1 _ (by omega) (by omega) (by omega)]; exact hr1.1
      unfold f_X4_sink_s51
      simp (disch := omega) only [↓reduceIte, decide_true, decide_false, Bool.false_eq_true, eq_self, s10, s01, cont_ok, has_ok, b2i0, b2i1, reduceCtorEq, Nat.or_zero, Nat.add_zero, sN_le, sN_lt, sN_eq, sN_lt0, sN_le0, sN_0le, sN_0lt, sN_eq0, sN_cl, sN_ad, sN_a1, K2, K3, K4, K5, K6, K7, K8, K9, K12, K16, K20, false_or, or_false, if_neg, if_pos, vl_s, bi1_s, bi2_s, nx_or, nx_and, nx_sh, e27, wI_ne (show r ≠ r + 4 by omega), er]
      cases hc : (los V R.1 R.2.1).testBit k
      · rw [if_pos rfl]
        refine ⟨n, rfl, fun i j h => rfl, fun i hi => ?_⟩
        rcases hi with hi | hi
        · rw [if_pos hi, hi, e4, if_neg (by decide)]
        · rw [if_neg (by omega), hi, e5, if_neg (by decide)]
      · rw [if_neg (by decide)]
        refine ⟨_, rfl, fun i j h => ?_, fun i hi => ?_⟩
        · rw [wI_get, if_neg (fun z => h ⟨Or.inr z.1, z.2⟩), wI_get, if_neg (fun z => h ⟨Or.inl z.1, z.2⟩)]
        · rcases hi with hi | hi
          · rw [if_pos hi, hi, wI_ne (by omega), wI_at, if_pos rfl]
          · rw [if_neg (by omega), hi, wI_at, if_pos rfl]
    · have e27 : n.1 27 2 = nI (V 1 2) := by rw [hn 27 2 (fun z => by omega), f1 27 (by omega) (by omega) (by omega)]; exact hv.1.2.2
      unfold f_X4_sink_s51
      simp (disch := omega) only [↓reduceIte, decide_true, decide_false, Bool.false_eq_true, eq_self, s10, s01, cont_ok, has_ok, b2i0, b2i1, reduceCtorEq, Nat.or_zero, Nat.add_zero, sN_le, sN_lt, sN_eq, sN_lt0, sN_le0, sN_0le, sN_0lt, sN_eq0, sN_cl, sN_ad, sN_a1, K2, K3, K4, K5, K6, K7, K8, K9, K12, K16, K20, false_or, or_false, if_neg, if_pos, vl_s, bi1_s, bi2_s, nx_or, nx_and, nx_sh, e27]
  · have e27 : n.1 27 1 = nI (V 1 1) := by rw [hn 27 1 (fun z => by omega), f0 27 (by omega) (by omega)]; exact hv.1.2.1
    have e31 : n.1 231 k = nI (rid V R.1 (pOf V R.1 R.2.1 0) k) := by rw [hn 231 k (fun z => by omega)]; exact (hq k (by omega)).1
    have e4 : n.1 (r + 1) k = nI (R.1 1 k) := by rw [hn (r + 1) k (fun z => by omega), f0 _ (by omega) (by omega)]; exact hr1.2.2.2.1 k hk
    have hql := (hq k (by omega)).2
    have ha : rid V R.1 (pOf V R.1 R.2.1 0) k &&& los V R.1 R.2.1 ≤ los V R.1 R.2.1 := Nat.and_le_right
    unfold f_X4_sink_s14
    simp (disch := omega) only [↓reduceIte, decide_true, decide_false, Bool.false_eq_true, eq_self, s10, s01, cont_ok, has_ok, b2i0, b2i1, reduceCtorEq, Nat.or_zero, Nat.add_zero, sN_le, sN_lt, sN_eq, sN_lt0, sN_le0, sN_0le, sN_0lt, sN_eq0, sN_cl, sN_ad, sN_a1, K2, K3, K4, K5, K6, K7, K8, K9, K12, K16, K20, false_or, or_false, if_neg, if_pos, vl_s, bi1_s, bi2_s, nx_or, nx_and, nx_sh, e27, e31]
    by_cases c : rid V R.1 (pOf V R.1 R.2.1 0) k &&& los V R.1 R.2.1 = 0
    · rw [if_pos c]
      refine ⟨n, rfl, fun i j h => rfl, fun i hi => ?_⟩
      rw [hi, e4]
      unfold fa4
      rw [if_pos c]
    · rw [if_neg c]
      refine ⟨_, rfl, fun i j h => ?_, fun i hi => ?_⟩
      · rw [wI_get, if_neg (fun z => h z)]
      · rw [hi, wI_at]
        unfold fa4
        rw [if_neg c]
  · have e27 : n.1 27 1 = nI (V 1 1) := by rw [hn 27 1 (fun z => by omega), f0 27 (by omega) (by omega)]; exact hv.1.2.1
    unfold f_X4_sink_s14
    simp (disch := omega) only [↓reduceIte, decide_true, decide_false, Bool.false_eq_true, eq_self, s10, s01, cont_ok, has_ok, b2i0, b2i1, reduceCtorEq, Nat.or_zero, Nat.add_zero, sN_le, sN_lt, sN_eq, sN_lt0, sN_le0, sN_0le, sN_0lt, sN_eq0, sN_cl, sN_ad, sN_a1, K2, K3, K4, K5, K6, K7, K8, K9, K12, K16, K20, false_or, or_false, if_neg, if_pos, vl_s, bi1_s, bi2_s, nx_or, nx_and, nx_sh, e27]
/-- the whole mile of the data: the force that breaks is fc -/
noncomputable def mil (V : Dat) (fc : Nat) (R : Rf) : Rf := st4 V (st3 V (st2 fc (st1 V R)))
noncomputable def mSank (V : Dat) (fc : Nat) (R : Rf) : Nat := pop (los V (st3 V (st2 fc (st1 V R))).1 (st3 V (st2 fc (st1 V R))).2.1) 12
def mLand (V : Dat) (fc : Nat) (R : Rf) : Nat := pop (ash V (st2 fc (st1 V R)).1) 12
def mBrok (fc : Nat) (R : Rf) : Nat := cnt (brk fc R.2.1) R.2.1.length
theorem mil_ok {V : Dat} {R : Rf} (h : RaOk V R.1 R.2.1) (hm : R.1 0 1 < V 1 0) (fc : Nat) : RaOk V (mil V fc R).1 (mil V fc R).2.1 := st4_ok (st3_ok (st2_ok (st1_ok h hm) fc))
theorem mil_mile (V : Dat) (fc : Nat) (R : Rf) : (mil V fc R).1 0 1 = R.1 0 1 + 1 := rfl
def fmx (d f : Nat) : Nat := if d < f then f else d
theorem drift_c {mm : Mm} {r : Nat} {V : Dat} {R : Rf} (hv : RvC mm 27 V) (ov : RvOk V) (hr : raC (rwC mm r) V R) (oa : RaOk V R.1 R.2.1) (hrr : r = 33 ∨ r = 242) {d : Nat} (hd : d ≤ 9) (hm : R.1 0 1 < V 1 0) : ∃ m1, f_X4_drift mm r 27 (nI d) = some m1 ∧ raC (rwC m1 r) V (mil V (fmx d (V 6 (R.1 0 1 + 1))) R) ∧ (∀ i, ¬ (r ≤ i ∧ i < r + 9) → ¬ i = 230 → ¬ i = 231 → ¬ i = 251 → m1.1 i = mm.1 i) ∧ m1.1 251 0 = mm.1 251 0 + nI (mSank V (fmx d (V 6 (R.1 0 1 + 1))) R) ∧ m1.1 251 1 = mm.1 251 1 + nI (mLand V (fmx d (V 6 (R.1 0 1 + 1))) R) ∧ m1.1 251 2 = mm.1 251 2 + nI (mBrok (fmx d (V 6 (R.1 0 1 + 1))) R) := by
  have h99 := ov.1
  have hr0 : RaC mm r V R.1 R.2.1 R.2.2 := hr.1
  have e0 : mm.1 r 1 = nI (R.1 0 1) := hr0.1
  have hf9 := ov.2.2.2.2.2 (R.1 0 1 + 1) (by omega)
  obtain ⟨fc, hfc⟩ : ∃ fc, fc = fmx d (V 6 (R.1 0 1 + 1)) := ⟨_, rfl⟩
  have hfc9 : fc ≤ 9 := by rw [hfc]; unfold fmx; split <;> omega
  obtain ⟨m1, e1, r1, f1⟩ := drift1_c hv ov hr oa hrr (x := nI d)
  have ok1 := st1_ok oa hm
  have em1 : m1.1 r 1 = nI (R.1 0 1 + 1) := r1.1.1
  have efo : m1.1 32 (R.1 0 1 + 1) = nI (V 6 (R.1 0 1 + 1)) := by rw [f1 32 (by omega) (by omega)]; exact hv.2.2.2 _ (by omega)
  have efm : (if d < V 6 (R.1 0 1 + 1) then nI (V 6 (R.1 0 1 + 1)) else nI d) = nI fc := by
    rw [hfc]
    unfold fmx
    by_cases c : d < V 6 (R.1 0 1 + 1)
    · rw [if_pos c, if_pos c]
    · rw [if_neg c, if_neg c]
  obtain ⟨m2, e2, r2, f2, p2⟩ := breakRopes_c (v := 27) (show RaC m1 r V (st1 V R).1 (st1 V R).2.1 (st1 V R).2.2 from r1.1) ok1 hfc9
  have r2' : raC (rwC m2 r) V (st2 fc (st1 V R)) := ⟨r2, fun t ht h2 => by
    show m2.1 (r + 5) t = _
    rw [f2 _ (by omega) (by omega) (by omega) (by omega)]
    exact r1.2 t ht h2⟩
  have ok2 := st2_ok ok1 fc
  have f12 : ∀ i, ¬ (r ≤ i ∧ i < r + 9) → m2.1 i = mm.1 i := fun i hi => by rw [f2 i (by omega) (by omega) (by omega) (by omega), f1 i (by omega) (by omega)]
  obtain ⟨m3, hm3⟩ : ∃ m3, m3 = wI m2 251 2 (m1.1 251 2 + nI (cnt (brk fc (st1 V R).2.1) (st1 V R).2.1.length)) := ⟨_, rfl⟩
  have f3 : ∀ i, ¬ i = 251 → m3.1 i = m2.1 i := fun i hi => by rw [hm3, wI_ne hi]
  have r3 : raC (rwC m3 r) V (st2 fc (st1 V R)) := raC_eq (fun j hj => f3 _ (by omega)) r2'
  have hv3 : RvC m3 27 V := RvC_eq (fun j hj => by rw [f3 _ (by omega), f12 _ (by omega)]) hv
  obtain ⟨m4, e4, r4, f4⟩ := land_c hv3 ov r3 ok2 hrr
  have ok3 := st3_ok ok2
  obtain ⟨m5, hm5⟩ : ∃ m5, m5 = wI m4 251 1 (m3.1 251 1 + nI (pop (ash V (st2 fc (st1 V R)).1) 12)) := ⟨_, rfl⟩
  have f5 : ∀ i, ¬ i = 251 → m5.1 i = m4.1 i := fun i hi => by rw [hm5, wI_ne hi]
  have r5 : raC (rwC m5 r) V (st3 V (st2 fc (st1 V R))) := raC_eq (fun j hj => f5 _ (by omega)) r4
  have hv5 : RvC m5 27 V := RvC_eq (fun j hj => by rw [f5 _ (by omega), f4 _ (by omega)]) hv3
  obtain ⟨m6, e6, r6, f6⟩ := sink_c hv5 ov r5 ok3 hrr
  obtain ⟨m7, hm7⟩ : ∃ m7, m7 = wI m6 251 0 (m5.1 251 0 + nI (pop (los V (st3 V (st2 fc (st1 V R))).1 (st3 V (st2 fc (st1 V R))).2.1) 12)) := ⟨_, rfl⟩
  have f7 : ∀ i, ¬ i = 251 → m7.1 i = m6.1 i := fun i hi => by rw [hm7, wI_ne hi]
  have c1 : m1.1 251 = mm.1 251 := f1 251 (by omega) (by omega)
  have c2 : m2.1 251 = mm.1 251 := f12 251 (by omega)
  have c4 : m4.1 251 = m3.1 251 := f4 251 (by omega)
  have c6 : m6.1 251 = m5.1 251 := f6 251 (by omega) (by omega) (by omega)
  rw [← hfc]
  refine ⟨m7, ?_, raC_eq (fun j hj => f7 _ (by omega)) r6, fun i i1 i2 i3 i4 => ?_, ?_, ?_, ?_⟩
  · unfold f_X4_drift f_X4_milesLeft
    have hml : (1 : Int32) ≤ mm.1 27 0 - mm.1 r 1 := by
      rw [hv.1.1, e0, nI_sub' (by omega), K1, sN_le (by decide) (by omega)]
      omega
    rw [if_pos hml, vl_s, e1, bi1_s, em1]
    simp (disch := omega) only [↓reduceIte, decide_true, decide_false, Bool.false_eq_true, eq_self, s10, s01, cont_ok, has_ok, b2i0, b2i1, reduceCtorEq, Nat.or_zero, Nat.add_zero, sN_le, sN_lt, sN_eq, sN_lt0, sN_le0, sN_0le, sN_0lt, sN_eq0, sN_cl, sN_ad, sN_a1, K2, K3, K4, K5, K6, K7, K8, K9, K12, K16, K20, false_or, or_false, if_neg, if_pos, vl_s, bi1_s, bi2_s, nx_or, nx_and, nx_sh, show 27 + 5 = 32 from rfl, efo]
    rw [efm, e2, bi2_s, ← hm3, e4, bi2_s, ← hm5, e6, bi2_s, ← hm7]
  · rw [f7 i i4, f6 i i1 i2 i3, f5 i i4, f4 i i1, f3 i i4, f12 i i1]
  · rw [hm7, wI_at, hm5, wI_pl (by decide), c4, hm3, wI_pl (by decide), c2]
    rfl
  · rw [hm7, wI_pl (by decide), c6, hm5, wI_at, hm3, wI_pl (by decide), c2]
    rfl
  · rw [hm7, wI_pl (by decide), c6, hm5, wI_pl (by decide), c4, hm3, wI_at, c1]
    rfl
