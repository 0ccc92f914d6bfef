/-! PHASE 2: drawn -/
def nd (n : Nat) : Nat := (n * 1103515245 + 12345) % 2147483648
def dg (n : Nat) : Nat := n / 65536 % 10
theorem nd_lt (n : Nat) : nd n < 2 ^ 31 := Nat.mod_lt _ (by decide)
theorem nd_ex {n : Nat} (h : n < 2 ^ 31) : ((((nI n).toInt64 * (1103515245 : Int64)) + (12345 : Int64)) - (((nI n).toInt64 * (1103515245 : Int64)) + (12345 : Int64)) / (2147483648 : Int64) * (2147483648 : Int64)).toInt32 = nI (nd n) := by
  rw [nI_l h, show (1103515245 : Int64) = lN 1103515245 from rfl, show (12345 : Int64) = lN 12345 from rfl, show (2147483648 : Int64) = lN 2147483648 from rfl, lN_mul, lN_add, pk_lRem (by omega) (by decide) (by decide), lN_i]
  rfl
theorem dg_ex {n : Nat} (h : n < 2 ^ 31) : nI n / (65536 : Int32) - nI n / (65536 : Int32) / (10 : Int32) * (10 : Int32) = nI (dg n) := by
  rw [show (65536 : Int32) = nI 65536 from rfl, show (10 : Int32) = nI 10 from rfl, pk_div h (by decide) (by decide), nI_mod (by omega) (by decide) (by decide)]
  rfl
theorem dg_le (n : Nat) : dg n ≤ 9 := by
  unfold dg
  omega
theorem i_nn {x : Int32} (h : 0 ≤ x) : ∃ n, n < 2 ^ 31 ∧ x = nI n := by
  rw [le0_toInt] at h
  have h2 := Int32.toInt_lt x
  refine ⟨x.toInt.toNat, by omega, ?_⟩
  rw [zI_n]
  show x = Int32.ofInt _
  rw [Int.toNat_of_nonneg h, Int32.ofInt_toInt]
abbrev Tl : Type := Int32 × Int32 × Int32
abbrev Ds : Type := Nat × Rf × Tl
noncomputable def dFc (V : Dat) (d : Ds) : Nat := fmx (dg (nd d.1)) (V 6 (d.2.1.1 0 1 + 1))
noncomputable def dSt (V : Dat) (d : Ds) : Ds := (nd d.1, mil V (dFc V d) d.2.1, d.2.2.1 + nI (mSank V (dFc V d) d.2.1), d.2.2.2.1 + nI (mLand V (dFc V d) d.2.1), d.2.2.2.2 + nI (mBrok (dFc V d) d.2.1))
noncomputable def dN (V : Dat) (d : Ds) : Nat → Ds
  | 0 => d
  | n + 1 => dSt V (dN V d n)
theorem dN_lt {V : Dat} {d : Ds} (h : d.1 < 2 ^ 31) : ∀ n, (dN V d n).1 < 2 ^ 31
  | 0 => h
  | n + 1 => nd_lt _
theorem dN_mile (V : Dat) (d : Ds) : ∀ n, (dN V d n).2.1.1 0 1 = d.2.1.1 0 1 + n
  | 0 => rfl
  | n + 1 => by
    show (mil V _ (dN V d n).2.1).1 0 1 = _
    rw [mil_mile, dN_mile V d n]
    rfl
theorem dN_ok {V : Dat} {d : Ds} (h : RaOk V d.2.1.1 d.2.1.2.1) : ∀ n, d.2.1.1 0 1 + n ≤ V 1 0 → RaOk V (dN V d n).2.1.1 (dN V d n).2.1.2.1
  | 0, _ => h
  | n + 1, hn => mil_ok (dN_ok h n (by omega)) (by rw [dN_mile]; omega) _
noncomputable def dO (V : Dat) (R : Rf) (n x : Nat) : Nat → Nat × Tl
  | 0 => (x, (0, 0, 0))
  | i + 1 => ((dN V ((dO V R n x i).1, R, (dO V R n x i).2) n).1, (dN V ((dO V R n x i).1, R, (dO V R n x i).2) n).2.2)
theorem dO_lt {V : Dat} {R : Rf} {n x : Nat} (h : x < 2 ^ 31) : ∀ i, (dO V R n x i).1 < 2 ^ 31
  | 0 => h
  | i + 1 => dN_lt (d := ((dO V R n x i).1, R, (dO V R n x i).2)) (dO_lt h i) n
def tl3 (m : Mm) (s : Tl) : Prop := m.1 251 0 = s.1 ∧ m.1 251 1 = s.2.1 ∧ m.1 251 2 = s.2.2
theorem drawnI_c {mm : Mm} {V : Dat} {d : Ds} (hv : RvC mm 27 V) (ov : RvOk V) (hr : raC (rwC mm 242) V d.2.1) (oa : RaOk V d.2.1.1 d.2.1.2.1) {n : Nat} (hn : d.2.1.1 0 1 + n ≤ V 1 0) (hx : d.1 < 2 ^ 31) (ht : tl3 mm d.2.2) {a b c : Int32} : ∃ m1, lp (f_X11_drawn_s92 a (nI n) b c) (nI d.1, (0 : Int32), mm) = some (nI (dN V d n).1, m1) ∧ tl3 m1 (dN V d n).2.2 ∧ ∀ i, ¬ scC i → m1.1 i = mm.1 i := by
  have h99 := ov.1
  have hx : ∃ w, lp (f_X11_drawn_s92 a (nI n) b c) (nI d.1, (0 : Int32), mm) = some w ∧ ∃ m1, w = (nI (dN V d n).1, m1) ∧ tl3 m1 (dN V d n).2.2 ∧ ∀ i, ¬ scC i → m1.1 i = mm.1 i := by
    refine lp_inv (fun k x => ∃ w, x = (nI (dN V d k).1, nI k, w) ∧ raC (rwC w 242) V (dN V d k).2.1 ∧ tl3 w (dN V d k).2.2 ∧ ∀ i, ¬ scC i → w.1 i = mm.1 i) _ n (fun k x hk hx => ?_) (fun x hx => ?_) 0 _ (Nat.zero_le _) ⟨mm, rfl, hr, ht, fun _ _ => rfl⟩
    · obtain ⟨w, rfl, w1, w2, w3⟩ := hx
      have hvw : RvC w 27 V := RvC_eq (fun j hj => w3 _ (fun z => by unfold scC at z; omega)) hv
      have hlt := dN_lt (V := V) (d := d) ‹_› k
      obtain ⟨m1, e1, g1, g2, g3, g4, g5⟩ := drift_c hvw ov w1 (dN_ok oa k (by omega)) (Or.inr rfl) (d := dg (nd (dN V d k).1)) (dg_le _) (by rw [dN_mile]; omega)
      refine ⟨(nI (dN V d (k + 1)).1, nI (k + 1), m1), ?_, m1, rfl, g1, ⟨by rw [g3, w2.1]; rfl, by rw [g4, w2.2.1]; rfl, by rw [g5, w2.2.2]; rfl⟩, fun i hi => by rw [g2 i (fun z => hi (by unfold scC; omega)) (fun z => hi (by unfold scC; omega)) (fun z => hi (by unfold scC; omega)) (fun z => hi (by unfold scC; omega)), w3 i hi]⟩
      unfold f_X11_drawn_s92 f_X11_nextDraw
      dsimp only
      rw [nd_ex hlt, dg_ex (nd_lt _)]
      simp (disch := omega) only [↓reduceIte, decide_true, decide_false, Bool.false_eq_true, eq_self, s10, s01, cont_ok, has_ok, b2i0, b2i1, reduceCtorEq, Nat.or_zero, Nat.add_zero, sN_le, sN_lt, sN_eq, sN_lt0, sN_le0, sN_0le, sN_0lt, sN_eq0, sN_cl, sN_ad, sN_a1, K2, K3, K4, K5, K6, K7, K8, K9, K12, K16, K20, false_or, or_false, if_neg, if_pos, vl_s, bi1_s, bi2_s, nx_or, nx_and, nx_sh]
      rw [e1, bi1_s]
      rfl
    · obtain ⟨w, rfl, w1, w2, w3⟩ := hx
      refine ⟨_, ?_, w, rfl, w2, w3⟩
      unfold f_X11_drawn_s92
      simp (disch := omega) only [↓reduceIte, decide_true, decide_false, Bool.false_eq_true, eq_self, s10, s01, cont_ok, has_ok, b2i0, b2i1, reduceCtorEq, Nat.or_zero, Nat.add_zero, sN_le, sN_lt, sN_eq, sN_lt0, sN_le0, sN_0le, sN_0lt, sN_eq0, sN_cl, sN_ad, sN_a1, K2, K3, K4, K5, K6, K7, K8, K9, K12, K16, K20, false_or, or_false, if_neg, if_pos, vl_s, bi1_s, bi2_s, nx_or, nx_and, nx_sh]
  obtain ⟨w, e, m1, rfl, h1, h2⟩ := hx
  exact ⟨m1, e, h1, h2⟩
theorem drawnO_c {mm : Mm} {V : Dat} {R : Rf} (hv : RvC mm 27 V) (ov : RvOk V) (hr : raC (rwC mm 33) V R) (oa : RaOk V R.1 R.2.1) {n m x : Nat} (hn : R.1 0 1 + n ≤ V 1 0) (hm : m < 100000) (hx : x < 2 ^ 31) (ht : tl3 mm (0, 0, 0)) {a : Int32} : ∃ m1, lp (f_X11_drawn_s69 (nI m) (nI n) a) (nI x, (0 : Int32), mm) = some m1 ∧ tl3 m1 (dO V R n x m).2 ∧ ∀ i, ¬ scC i → m1.1 i = mm.1 i := by
  refine lp_inv (fun k y => ∃ w, y = (nI (dO V R n x k).1, nI k, w) ∧ tl3 w (dO V R n x k).2 ∧ ∀ i, ¬ scC i → w.1 i = mm.1 i) _ m (fun k y hk hy => ?_) (fun y hy => ?_) 0 _ (Nat.zero_le _) ⟨mm, rfl, ht, fun _ _ => rfl⟩
  · obtain ⟨w, rfl, w1, w2⟩ := hy
    obtain ⟨w3, e3, f3, c3⟩ := copyR_c (mm := w) (r := 242) (r2 := 33) (v := 27) (v2 := 27) (by omega)
    have s3 : smR (rwC w3 242) (rwC w 33) := c3
    have r3 : raC (rwC w3 242) V R := smR_C s3 ov oa (raC_eq (fun j hj => w2 _ (fun z => by unfold scC at z; omega)) hr)
    have g3 : ∀ i, ¬ scC i → w3.1 i = mm.1 i := fun i hi => by rw [f3 i (fun z => hi (by unfold scC; omega)), w2 i hi]
    have hv3 : RvC w3 27 V := RvC_eq (fun j hj => g3 _ (fun z => by unfold scC at z; omega)) hv
    obtain ⟨w4, e4, t4, f4⟩ := drawnI_c hv3 ov (d := ((dO V R n x k).1, R, (dO V R n x k).2)) r3 oa hn (dO_lt hx k) (show tl3 w3 (dO V R n x k).2 from by unfold tl3; rw [f3 251 (by omega)]; exact w1) (a := nI m) (b := a) (c := nI k)
    refine ⟨(nI (dO V R n x (k + 1)).1, nI (k + 1), w4), ?_, w4, rfl, t4, fun i hi => by rw [f4 i hi, g3 i hi]⟩
    unfold f_X11_drawn_s69
    simp (disch := omega) only [↓reduceIte, decide_true, decide_false, Bool.false_eq_true, eq_self, s10, s01, cont_ok, has_ok, b2i0, b2i1, reduceCtorEq, Nat.or_zero, Nat.add_zero, sN_le, sN_lt, sN_eq, sN_lt0, sN_le0, sN_0le, sN_0lt, sN_eq0, sN_cl, sN_ad, sN_a1, K2, K3, K4, K5, K6, K7, K8, K9, K12, K16, K20, false_or, or_false, if_neg, if_pos, vl_s, bi1_s, bi2_s, nx_or, nx_and, nx_sh]
    rw [e3, bi1_s, show nI (dO V R n x k).1 = nI ((dO V R n x k).1, R, (dO V R n x k).2).1 from rfl, e4, bi1_s]
    rfl
  · obtain ⟨w, rfl, w1, w2⟩ := hy
    refine ⟨w, ?_, w1, w2⟩
    unfold f_X11_drawn_s69
    simp (disch := omega) only [↓reduceIte, decide_true, decide_false, Bool.false_eq_true, eq_self, s10, s01, cont_ok, has_ok, b2i0, b2i1, reduceCtorEq, Nat.or_zero, Nat.add_zero, sN_le, sN_lt, sN_eq, sN_lt0, sN_le0, sN_0le, sN_0lt, sN_eq0, sN_cl, sN_ad, sN_a1, K2, K3, K4, K5, K6, K7, K8, K9, K12, K16, K20, false_or, or_false, if_neg, if_pos, vl_s, bi1_s, bi2_s, nx_or, nx_and, nx_sh]
/-! the reference's -/
def selT (w : Nat) (s : Tl) : Int32 := if w = 0 then s.1 else if w = 1 then s.2.1 else s.2.2
def frD (m m1 : Mm) : Prop := (∀ i, ¬ i = 1088 → ¬ i = 1089 → ¬ i = 1092 → ¬ i = 1095 → ¬ i = 1097 → ¬ i = 1098 → ¬ i = 1099 → ¬ i = 1100 → ¬ i = 1101 → m1.1 i = m.1 i) ∧ (∀ k, ¬ k = 51 → ¬ k = 52 → m1.1 1088 k = m.1 1088 k) ∧ ∀ k, ¬ k = 1 → ¬ k = 4 → ¬ k = 6 → ¬ k = 8 → m1.1 1089 k = m.1 1089 k
theorem frD.rv {mm m' : Mm} {V : Dat} (h : frD mm m') (g : RvF mm V) : RvF m' V := by
  have hh : ∀ i, i = 1090 ∨ i = 1091 ∨ i = 1094 ∨ i = 1096 ∨ i = 1102 ∨ i = 1103 → m'.1 i = mm.1 i := fun i hi => h.1 i (by omega) (by omega) (by omega) (by omega) (by omega) (by omega) (by omega) (by omega) (by omega)
  unfold RvF
  rw [h.2.2 0 (by decide) (by decide) (by decide) (by decide), h.2.2 2 (by decide) (by decide) (by decide) (by decide), h.2.2 3 (by decide) (by decide) (by decide) (by decide), h.2.2 5 (by decide) (by decide) (by decide) (by decide), hh 1090 (by omega), hh 1091 (by omega), hh 1094 (by omega), hh 1096 (by omega), hh 1102 (by omega), hh 1103 (by omega)]
  exact g
theorem frD.FF {m m2 : Mm} (h : frD m m2) : FF m m2 := ⟨fun i hi => h.1 i (by omega) (by omega) (by omega) (by omega) (by omega) (by omega) (by omega) (by omega) (by omega), h.2.1 31 (by decide) (by decide), h.2.1 35 (by decide) (by decide), h.2.1 40 (by decide) (by decide), fun i i1 i2 => h.1 i (by omega) (by omega) (by omega) (by omega) (by omega) (by omega) (by omega) (by omega) (by omega), fun k _ => by rw [h.1 1139 (by decide) (by decide) (by decide) (by decide) (by decide) (by decide) (by decide) (by decide) (by decide)], h.1 1140 (by decide) (by decide) (by decide) (by decide) (by decide) (by decide) (by decide) (by decide) (by decide)⟩
theorem frD_8 (m : Mm) (y : Int32) : frD m (wI m 1089 8 y) := ⟨fun i _ i2 _ _ _ _ _ _ _ => wI_ne i2, fun k _ _ => by rw [wI_ne (by decide)], fun k _ _ _ k8 => wI_pl k8⟩
theorem frD.tr {a b c : Mm} (h1 : frD a b) (h2 : frD b c) : frD a c := ⟨fun i i1 i2 i3 i4 i5 i6 i7 i8 i9 => (h2.1 i i1 i2 i3 i4 i5 i6 i7 i8 i9).trans (h1.1 i i1 i2 i3 i4 i5 i6 i7 i8 i9), fun k k1 k2 => (h2.2.1 k k1 k2).trans (h1.2.1 k k1 k2), fun k k1 k2 k3 k4 => (h2.2.2 k k1 k2 k3 k4).trans (h1.2.2 k k1 k2 k3 k4)⟩
theorem frM.D {a b : Mm} (h : frM a b) : frD a b := ⟨h.1, h.2.1, fun k k1 k2 k3 _ => h.2.2 k k1 k2 k3⟩
theorem raM_8 {m : Mm} {V : Dat} {R : Rf} (h : raM m V R) (y : Int32) : raM (wI m 1089 8 y) V R := by
  refine ⟨⟨?_, ?_, ?_, fun o ho => ?_, fun t ht => ?_⟩, fun t ht => ?_⟩
  · rw [wI_pl (by decide)]; exact h.1.1
  · rw [wI_pl (by decide)]; exact h.1.2.1
  · rw [wI_pl (by decide), wI_ne (by decide), wI_ne (by decide), wI_ne (by decide)]; exact h.1.2.2.1
  · rw [wI_ne (by decide)]; exact h.1.2.2.2.1 o ho
  · rw [wI_ne (by decide), wI_ne (by decide), wI_ne (by decide)]; exact h.1.2.2.2.2 t ht
  · rw [wI_ne (by decide)]; exact h.2 t ht
theorem drawnI_f {mm : Mm} {V : Dat} {d : Ds} (hv : RvF mm V) (ov : RvOk V) (hr : raM mm V d.2.1) (oa : RaOk V d.2.1.1 d.2.1.2.1) {n w : Nat} (hn : d.2.1.1 0 1 + n ≤ V 1 0) (hw : w ≤ 2) (hx : d.1 < 2 ^ 31) (h8 : mm.1 1089 8 = nI d.1) {a b c : Int32} : ∃ m1, lp (f_X12_drawn_s94 a (nI n) (nI w) b c) (selT w d.2.2, (0 : Int32), mm) = some (selT w (dN V d n).2.2, m1) ∧ m1.1 1089 8 = nI (dN V d n).1 ∧ frD mm m1 := by
  have h99 := ov.1
  have hx : ∃ z, lp (f_X12_drawn_s94 a (nI n) (nI w) b c) (selT w d.2.2, (0 : Int32), mm) = some z ∧ ∃ m1, z = (selT w (dN V d n).2.2, m1) ∧ m1.1 1089 8 = nI (dN V d n).1 ∧ frD mm m1 := by
    refine lp_inv (fun k x => ∃ z, x = (selT w (dN V d k).2.2, nI k, z) ∧ raM z V (dN V d k).2.1 ∧ z.1 1089 8 = nI (dN V d k).1 ∧ frD mm z) _ n (fun k x hk hx => ?_) (fun x hx => ?_) 0 _ (Nat.zero_le _) ⟨mm, rfl, hr, h8, fun _ _ _ _ _ _ _ _ _ _ => rfl, fun _ _ _ => rfl, fun _ _ _ _ _ => rfl⟩
    · obtain ⟨z, rfl, z1, z2, z3⟩ := hx
      have hlt := dN_lt (V := V) (d := d) ‹_› k
      have okk := dN_ok oa k (by omega)
      obtain ⟨y, hy⟩ : ∃ y, y = wI z 1089 8 (nI (nd (dN V d k).1)) := ⟨_, rfl⟩
      have fy : frD mm y := z3.tr (by rw [hy]; exact frD_8 z _)
      have ry : raM y V (dN V d k).2.1 := by rw [hy]; exact raM_8 z1 _
      have hvy := fy.rv hv
      have hmk : (dN V d k).2.1.1 0 1 < V 1 0 := by rw [dN_mile]; omega
      have hf9 := ov.2.2.2.2.2 ((dN V d k).2.1.1 0 1 + 1) (by omega)
      have hd9 := dg_le (nd (dN V d k).1)
      have hfc9 : dFc V (dN V d k) ≤ 9 := by unfold dFc fmx; split <;> omega
      obtain ⟨m1, e1, g1, g2, g3, g4⟩ := mileBy_f hvy ov ry okk hmk hfc9
      have hsel : ∀ q : Int32, (if w = 0 then nI (mSank V (dFc V (dN V d k)) (dN V d k).2.1) else if w = 1 then nI (mLand V (dFc V (dN V d k)) (dN V d k).2.1) else nI (mBrok (dFc V (dN V d k)) (dN V d k).2.1)) = q → selT w (dN V d k).2.2 + q = selT w (dN V d (k + 1)).2.2 := fun q hq => by
        rw [← hq]
        unfold selT
        by_cases c0 : w = 0
        · rw [if_pos c0, if_pos c0, if_pos c0]; rfl
        · rw [if_neg c0, if_neg c0, if_neg c0]
          by_cases c1 : w = 1
          · rw [if_pos c1, if_pos c1, if_pos c1]; rfl
          · rw [if_neg c1, if_neg c1, if_neg c1]; rfl
      have hj : ∀ q : Int32, f_X12_drawn_j138 y a (nI n) (nI w) b (selT w (dN V d k).2.2) c (nI k) (nI (dFc V (dN V d k))) = some (.inl (selT w (dN V d (k + 1)).2.2, nI (k + 1), m1)) := fun _ => by
        unfold f_X12_drawn_j138 f_X12_drawn_j170
        rw [e1, bi2_s, g3, g4]
        by_cases c0 : w = 0
        · rw [if_pos (by rw [c0]; rfl), hsel _ (by rw [if_pos c0]), sN_a1]
        · rw [if_neg (by rw [sN_eq0 (by omega)]; exact c0)]
          by_cases c1 : w = 1
          · rw [if_pos (by rw [c1]; rfl), hsel _ (by rw [if_neg c0, if_pos c1]), sN_a1]
          · rw [if_neg (by rw [sN_eq1 (by omega)]; exact c1), hsel _ (by rw [if_neg c0, if_neg c1]), sN_a1]
      refine ⟨(selT w (dN V d (k + 1)).2.2, nI (k + 1), m1), ?_, m1, rfl, g1, ?_, fy.tr g2.D⟩
      · have ed : f_X12_draws z (10 : Int32) = some (nI (dg (nd (dN V d k).1)), y) := by
          unfold f_X12_draws
          rw [z2, nd_ex hlt, vl_s, ← hy, if_neg (by decide), show y.1 1089 8 = nI (nd (dN V d k).1) by rw [hy, wI_at], dg_ex (nd_lt _)]
        unfold f_X12_drawn_s94
        dsimp only
        rw [if_neg (show ¬ nI n ≤ nI k by rw [sN_le (by omega) (by omega)]; omega), ed, bi2_s, ry.1.1, sN_a1, forceAt_f hvy (by omega), bi1_s]
        by_cases c3 : V 6 ((dN V d k).2.1.1 0 1 + 1) ≤ dg (nd (dN V d k).1)
        · rw [if_pos (by rw [sN_le (by omega) (by omega)]; exact c3)]
          have e5 : dg (nd (dN V d k).1) = dFc V (dN V d k) := by unfold dFc fmx; rw [if_neg (by omega)]
          rw [e5]
          exact hj 0
        · rw [if_neg (by rw [sN_le (by omega) (by omega)]; exact c3)]
          have e5 : V 6 ((dN V d k).2.1.1 0 1 + 1) = dFc V (dN V d k) := by unfold dFc fmx; rw [if_pos (by omega)]
          rw [e5]
          exact hj 0
      · rw [g2.2.2 8 (by decide) (by decide) (by decide), hy, wI_at]
        rfl
    · obtain ⟨z, rfl, z1, z2, z3⟩ := hx
      refine ⟨_, ?_, z, rfl, z2, z3⟩
      unfold f_X12_drawn_s94
      simp (disch := omega) only [↓reduceIte, decide_true, decide_false, Bool.false_eq_true, eq_self, s10, s01, cont_ok, has_ok, b2i0, b2i1, reduceCtorEq, Nat.or_zero, Nat.add_zero, sN_le, sN_lt, sN_eq, sN_lt0, sN_le0, sN_0le, sN_0lt, sN_eq0, sN_cl, sN_ad, sN_a1, K2, K3, K4, K5, K6, K7, K8, K9, K12, K16, K20, false_or, or_false, if_neg, if_pos, vl_s, bi1_s, bi2_s, nx_or, nx_and, nx_sh]
  obtain ⟨z, e, m1, rfl, h1, h2⟩ := hx
  exact ⟨m1, e, h1, h2⟩
theorem sm_drawn_ok : sm_drawn Inv := by
  intro mm x1 x2 x3 hInv
  obtain ⟨ol, V, R, na, P, O, xx, hC, hF, ok⟩ := SimS_St hInv.2.2.1
  have hv := StC_rv hC
  have hr := StC_ra hC
  have hvF := rvF_RvF hF.1 ok.1
  have hrF := StF_ra hF
  have ov := ok.1.1
  have oa := ok.2.2.2.2.2.2.1
  have h99 := ov.1
  have hmi := oa.1
  have rc : raC (rwC mm 33) V R := by
    have := hC.2.2.2.2.2.1
    rw [cR_rw] at this
    exact this
  obtain ⟨x0, hx0, ex⟩ := i_nn ok.2.2.2.2.2.1
  have el : f_X4_milesLeft mm 33 27 = nI (V 1 0 - R.1 0 1) := by
    unfold f_X4_milesLeft
    rw [show mm.1 27 0 = nI (V 1 0) from hv.1.1, show mm.1 33 1 = nI (R.1 0 1) from hr.1, nI_sub' hmi]
  have elF : ∀ m : Mm, RvF m V → RaF m V R.1 R.2.1 R.2.2 → f_X12_milesLeft m = nI (V 1 0 - R.1 0 1) := fun m h1 h2 => by
    unfold f_X12_milesLeft
    rw [h1.1.1, h2.1, nI_sub' hmi]
  have refn : (V 1 0 = 0 ∨ f_X12_in x1.toInt64 (1 : Int64) (20 : Int64) = 0 ∨ f_X12_in x2.toInt64 (1 : Int64) (60 : Int64) = 0 ∨ nI (V 1 0 - R.1 0 1) < x2 ∨ f_X12_in x3.toInt64 (0 : Int64) (2 : Int64) = 0) → f_X12_drawn mm x1 x2 x3 = some (-1, mm) := fun h => by
    unfold f_X12_drawn
    rw [isRiver_ok hvF.1.1 h99, elF mm hvF hrF]
    by_cases c1 : V 1 0 = 0
    · rw [if_pos c1, if_pos rfl]
    · rw [if_neg c1, if_neg (by decide)]
      by_cases c2 : f_X12_in x1.toInt64 (1 : Int64) (20 : Int64) = 0
      · rw [if_pos c2]
      · rw [if_neg c2]
        by_cases c3 : f_X12_in x2.toInt64 (1 : Int64) (60 : Int64) = 0
        · rw [if_pos c3]
        · rw [if_neg c3]
          by_cases c4 : nI (V 1 0 - R.1 0 1) < x2
          · rw [if_pos c4]
          · rw [if_neg c4]
            rcases h with h | h | h | h | h
            · exact absurd h c1
            · exact absurd h c2
            · exact absurd h c3
            · exact absurd h c4
            · rw [if_pos h]
  have neg : (V 1 0 = 0 ∨ f_X12_in x1.toInt64 (1 : Int64) (20 : Int64) = 0 ∨ f_X12_in x2.toInt64 (1 : Int64) (60 : Int64) = 0 ∨ nI (V 1 0 - R.1 0 1) < x2 ∨ f_X12_in x3.toInt64 (0 : Int64) (2 : Int64) = 0) → ∃ r m1 m2, some ((-1 : Int32), mm) = some (r, m1) ∧ f_X12_drawn m1 x1 x2 x3 = some (r, m2) ∧ Inv m2 := fun h => ⟨-1, mm, mm, rfl, refn h, hInv⟩
  unfold f_X11_drawn
  rw [el]
  rcases rng x1 1 20 (by decide) (by decide) (l := (1 : Int64)) (h := (20 : Int64)) (by decide) (by decide) with ⟨m, p1, p2, rfl, p3⟩ | ⟨p1, p2⟩
  · rw [if_neg (show ¬ nI m < 1 by rw [K1, sN_lt (by omega) (by decide)]; omega), if_neg (show ¬ (20 : Int32) < nI m by rw [K20, sN_lt (by decide) (by omega)]; omega)]
    rcases rng x2 1 60 (by decide) (by decide) (l := (1 : Int64)) (h := (60 : Int64)) (by decide) (by decide) with ⟨n, p4, p5, rfl, p6⟩ | ⟨p4, p5⟩
    · rw [if_neg (show ¬ nI n < 1 by rw [K1, sN_lt (by omega) (by decide)]; omega), if_pos (show nI n ≤ (60 : Int32) by rw [show (60 : Int32) = nI 60 from rfl, sN_le (by omega) (by decide)]; exact p5)]
      by_cases c4 : nI (V 1 0 - R.1 0 1) < nI n
      · rw [if_pos c4]
        exact neg (Or.inr (Or.inr (Or.inr (Or.inl c4))))
      · rw [if_neg c4]
        have hn : R.1 0 1 + n ≤ V 1 0 := by
          rw [sN_lt (by omega) (by omega)] at c4
          omega
        rcases rng x3 0 2 (by decide) (by decide) (l := (0 : Int64)) (h := (2 : Int64)) (by decide) (by decide) with ⟨w, p7, p8, rfl, p9⟩ | ⟨p7, p8⟩
        · rw [if_neg (nI_nn w (by omega)), if_pos (show nI w ≤ 2 by rw [K2, sN_le (by omega) (by decide)]; exact p8)]
          obtain ⟨ma, a1, a2, a3⟩ := fill_c (mm := mm) (a := 251) (n := 3) (x := 0) (by decide)
          have fa : ∀ i, ¬ scC i → ma.1 i = mm.1 i := fun i hi => by
            funext j
            exact a2 i j (fun z => hi (by unfold scC; omega))
          have va : RvC ma 27 V := RvC_eq (fun j hj => fa _ (fun z => by unfold scC at z; omega)) hv
          have ra : raC (rwC ma 33) V R := raC_eq (fun j hj => fa _ (fun z => by unfold scC at z; omega)) rc
          obtain ⟨m1, e1, t1, f1⟩ := drawnO_c va ov ra oa hn (m := m) (by omega) hx0 ⟨a3 0 (by decide), a3 1 (by decide), a3 2 (by decide)⟩ (a := nI w)
          have g1 : ∀ i, ¬ scC i → m1.1 i = mm.1 i := fun i hi => by rw [f1 i hi, fa i hi]
          have hInv1 := Inv_sc hInv g1
          have hF1 : StF (fS m1) V R na P O xx := StF_cl (fun i hi => g1 i (sc_F hi)) hF
          have hC1 : StC (cS m1 26) ol V R na P O xx := StC_sm (smC_rf (fun j hj => by funext l; show m1.1 (26 + j) l = mm.1 (26 + j) l; rw [g1 _ (fun z => by unfold scC at z; omega)])) ok hC
          have hv1 := rvF_RvF hF1.1 ok.1
          have hr1 := StF_ra hF1
          obtain ⟨m2, e2, s2, ff2, bk⟩ := look_f hF1 ok
          have e8 : m1.1 1089 8 = nI x0 := by
            have : m1.1 1089 8 = xx := hF1.2.2.2.1
            rw [this, ex]
          have hl : ∃ z, lp (f_X12_drawn_s76 (nI m) (nI n) (nI w) (nI x0)) (nI x0, (0 : Int32), (0 : Int32), m2) = some z ∧ ∃ m3, z = (selT w (dO V R n x0 m).2, m3) ∧ StF (fS m3) V R na P O xx ∧ FF m2 m3 := by
            refine lp_inv (fun i y => ∃ z, y = (nI (dO V R n x0 i).1, selT w (dO V R n x0 i).2, nI i, z) ∧ StF (fS z) V R na P O xx ∧ FF m2 z ∧ z.1 1139 = m2.1 1139) _ m (fun i y hi hy => ?_) (fun y hy => ?_) 0 _ (Nat.zero_le _) ⟨m2, ?_, s2, ⟨fun _ _ => rfl, rfl, rfl, rfl, fun _ _ _ => rfl, fun _ _ => rfl, rfl⟩, rfl⟩
            · obtain ⟨z, rfl, z1, z2, z3⟩ := hy
              have hvz := rvF_RvF z1.1 ok.1
              obtain ⟨y, hy⟩ : ∃ y, y = wI z 1089 8 (nI (dO V R n x0 i).1) := ⟨_, rfl⟩
              have fy : frD z y := by rw [hy]; exact frD_8 z _
              have ry : raM y V R := by rw [hy]; exact raM_8 (StF_raM z1) _
              obtain ⟨q, e3, g3, f3⟩ := drawnI_f (fy.rv hvz) ov (d := ((dO V R n x0 i).1, R, (dO V R n x0 i).2)) ry oa hn p8 (dO_lt hx0 i) (by rw [hy, wI_at]) (a := nI m) (b := nI x0) (c := nI i)
              have fq := fy.tr f3
              obtain ⟨q2, e4, g4, ff4, h4⟩ := bk q (by rw [fq.1 1139 (by decide) (by decide) (by decide) (by decide) (by decide) (by decide) (by decide) (by decide) (by decide), z3])
              refine ⟨(nI (dO V R n x0 (i + 1)).1, selT w (dO V R n x0 (i + 1)).2, nI (i + 1), q2), ?_, q2, rfl, g4, z2.tr (fq.FF.tr ff4), h4⟩
              unfold f_X12_drawn_s76
              dsimp only
              rw [if_neg (show ¬ nI m ≤ nI i by rw [sN_le (by omega) (by omega)]; omega), vl_s, ← hy, show selT w (dO V R n x0 i).2 = selT w ((dO V R n x0 i).1, R, (dO V R n x0 i).2).2.2 from rfl, e3, bi1_s]
              show bi1 (f_X12_laysBack q) _ = _
              rw [e4, bi1_s, g3, sN_a1]
              rfl
            · obtain ⟨z, rfl, z1, z2, z3⟩ := hy
              refine ⟨_, ?_, z, rfl, z1, z2⟩
              unfold f_X12_drawn_s76
              simp (disch := omega) only [↓reduceIte, decide_true, decide_false, Bool.false_eq_true, eq_self, s10, s01, cont_ok, has_ok, b2i0, b2i1, reduceCtorEq, Nat.or_zero, Nat.add_zero, sN_le, sN_lt, sN_eq, sN_lt0, sN_le0, sN_0le, sN_0lt, sN_eq0, sN_cl, sN_ad, sN_a1, K2, K3, K4, K5, K6, K7, K8, K9, K12, K16, K20, false_or, or_false, if_neg, if_pos, vl_s, bi1_s, bi2_s, nx_or, nx_and, nx_sh]
            · show _ = (nI x0, selT w (0, 0, 0), nI 0, m2)
              unfold selT
              by_cases c0 : w = 0
              · rw [if_pos c0]; rfl
              · rw [if_neg c0]
                by_cases c1 : w = 1
                · rw [if_pos c1]; rfl
                · rw [if_neg c1]; rfl
          obtain ⟨z, e3, m3, rfl, s3, ff3⟩ := hl
          have e83 : m3.1 1089 8 = nI x0 := by
            have : m3.1 1089 8 = xx := s3.2.2.2.1
            rw [this, ex]
          refine ⟨selT w (dO V R n x0 m).2, m1, m3, ?_, ?_, Inv_act hInv1 (fun i _ _ => rfl) (ff2.tr ff3) hC1 s3 ok⟩
          · have e26 : ma.1 26 9 = nI x0 := by
              rw [fa 26 (fun z => by unfold scC at z; omega)]
              have : mm.1 26 9 = xx := hC.2.2.2.2.1
              rw [this, ex]
            rw [a1, bi1_s, e26, e1, bi1_s]
            simp (disch := omega) only [↓reduceIte, decide_true, decide_false, Bool.false_eq_true, eq_self, s10, s01, cont_ok, has_ok, b2i0, b2i1, reduceCtorEq, Nat.or_zero, Nat.add_zero, sN_le, sN_lt, sN_eq, sN_lt0, sN_le0, sN_0le, sN_0lt, sN_eq0, sN_cl, sN_ad, sN_a1, K2, K3, K4, K5, K6, K7, K8, K9, K12, K16, K20, false_or, or_false, if_neg, if_pos, vl_s, bi1_s, bi2_s, nx_or, nx_and, nx_sh]
            unfold selT
            by_cases c0 : w = 0
            · rw [if_pos c0, c0, t1.1]
            · rw [if_neg c0]
              by_cases c1 : w = 1
              · rw [if_pos c1, c1, t1.2.1]
              · rw [if_neg c1, show w = 2 by omega, t1.2.2]
          · unfold f_X12_drawn
            rw [isRiver_ok hv1.1.1 h99, if_neg (show ¬ V 1 0 = 0 by omega), if_neg (by decide), p3, if_neg (by decide), p6, if_neg (by decide), elF m1 hv1 hr1, if_neg c4, p9, if_neg (by decide), e2, bi1_s, e8, e3, bi1_s]
            show some (selT w (dO V R n x0 m).2, wI m3 1089 8 (nI x0)) = _
            rw [wI_same e83]
        · rcases p7 with p7 | p7
          · rw [if_pos (show x3 < 0 from p7)]
            exact neg (Or.inr (Or.inr (Or.inr (Or.inr p8))))
          · rw [if_neg (show ¬ x3 ≤ 2 from fun z => by rw [Int32.le_iff_toInt_le] at z; rw [Int32.lt_iff_toInt_lt] at p7; exact absurd p7 (by show ¬ (2 : Int32).toInt < x3.toInt; omega))]
            by_cases d : x3 < 0
            · rw [if_pos d]
              exact neg (Or.inr (Or.inr (Or.inr (Or.inr p8))))
            · rw [if_neg d]
              exact neg (Or.inr (Or.inr (Or.inr (Or.inr p8))))
    · rcases p4 with p4 | p4
      · rw [if_pos (show x2 < 1 from p4)]
        exact neg (Or.inr (Or.inr (Or.inl p5)))
      · rw [if_neg (show ¬ x2 ≤ 60 from fun z => by rw [Int32.le_iff_toInt_le] at z; rw [Int32.lt_iff_toInt_lt] at p4; exact absurd p4 (by show ¬ (60 : Int32).toInt < x2.toInt; omega))]
        by_cases d : x2 < 1
        · rw [if_pos d]
          exact neg (Or.inr (Or.inr (Or.inl p5)))
        · rw [if_neg d]
          exact neg (Or.inr (Or.inr (Or.inl p5)))
  · rcases p1 with p1 | p1
    · rw [if_pos (show x1 < 1 from p1)]
      exact neg (Or.inr (Or.inl p2))
    · rw [if_pos (show (20 : Int32) < x1 from p1)]
      by_cases d : x1 < 1
      · rw [if_pos d]
        exact neg (Or.inr (Or.inl p2))
      · rw [if_neg d]
        exact neg (Or.inr (Or.inl p2))
