/-! PHASE 2: take -/
def frst : (Nat → Bool) → Nat → Nat
  | _, 0 => 0
  | p, n + 1 => if p 0 then 0 else 1 + frst (fun i => p (i + 1)) n
theorem frst_ok : ∀ (n : Nat) (p : Nat → Bool), frst p n ≤ n ∧ (∀ i, i < frst p n → p i = false) ∧ (frst p n < n → p (frst p n) = true)
  | 0, p => ⟨Nat.le_refl _, fun i h => absurd h (Nat.not_lt_zero _), fun h => absurd h (Nat.not_lt_zero _)⟩
  | n + 1, p => by
    rw [show frst p (n + 1) = if p 0 then 0 else 1 + frst (fun i => p (i + 1)) n from rfl]
    by_cases c : p 0 = true
    · rw [if_pos c]
      exact ⟨Nat.zero_le _, fun i h => absurd h (Nat.not_lt_zero _), fun _ => c⟩
    · rw [if_neg c]
      obtain ⟨h1, h2, h3⟩ := frst_ok n (fun i => p (i + 1))
      refine ⟨by omega, fun i hi => ?_, fun h => ?_⟩
      · cases i with
        | zero => exact Bool.eq_false_iff.mpr c
        | succ i => exact h2 i (by omega)
      · have := h3 (by omega)
        rw [Nat.add_comm 1]
        exact this
def sk (f s n : Nat) : Int := if 0 < (f : Int) - n * s then (f : Int) - n * s else 0
theorem sk_bd {f s n : Nat} (hf : f ≤ 99) : 0 ≤ sk f s n ∧ sk f s n ≤ 99 := by
  have h3 : 0 ≤ (n : Int) * s := Int.mul_nonneg (by omega) (by omega)
  unfold sk
  generalize (n : Int) * s = z at h3 ⊢
  split <;> omega
def ofm (O : Dat) (k : Option Nat) (n : Nat) : Int := match k with
  | none => 0
  | some j => sk (O 2 j) (O 3 j) n - O 1 j
def mgo (V A : Dat) (q : Nat → Nat) (s : Nat) (O : Dat) (k : Option Nat) (n : Nat) : Int := lif V A s n - rdw V q s (V 1 1) + ofm O k n
def kmi (V A : Dat) (q : Nat → Nat) (s : Nat) (O : Dat) (k : Option Nat) : Nat := frst (fun n => decide (mgo V A q s O k n < 0)) 100
def owO (O : Dat) : Option Nat → Int
  | none => 0
  | some j => O 1 j
def okO (O : Dat) : Option Nat → Prop
  | none => True
  | some j => j < O 0 0
theorem ofm_bd {O : Dat} (oo : ofOk O) {k : Option Nat} (hk : okO O k) (n : Nat) : -100 ≤ ofm O k n ∧ ofm O k n ≤ 100 := by
  cases k with
  | none => exact ⟨(by decide : (-100 : Int) ≤ 0), (by decide : (0 : Int) ≤ 100)⟩
  | some j =>
    have h := oo.2 j hk
    have b := sk_bd (s := O 3 j) (n := n) h.2.1
    show -100 ≤ sk (O 2 j) (O 3 j) n - O 1 j ∧ sk (O 2 j) (O 3 j) n - O 1 j ≤ 100
    omega
theorem mgo_bd {V A : Dat} {L : Rop} {O : Dat} (ov : RvOk V) (oa : RaOk V A L) (oo : ofOk O) (q : Nat → Nat) (s : Nat) {k : Option Nat} (hk : okO O k) (n : Nat) : -2000 ≤ mgo V A q s O k n ∧ mgo V A q s O k n ≤ 2000 := by
  have h1 := lif_bd ov oa s n
  have h2 := rdw_le ov q s (V 1 1) (Nat.le_refl _)
  have h3 := ofm_bd oo hk n
  have h6 := ov.2.1
  unfold mgo
  omega
theorem nm1 {b : Nat} (h : b < 100000) : ¬ nI b = -1 := fun z => by
  have := nI_nn b h
  rw [z] at this
  exact this (by decide)
theorem nm2 {b : Nat} (h : b < 100000) : ¬ nI b = -2 := fun z => by
  have := nI_nn b h
  rw [z] at this
  exact this (by decide)
theorem sk_z {f s n : Nat} (hf : f ≤ 99) (hs : s ≤ 9) (hn : n ≤ 100) : (if (0 : Int32) < zI ((f : Int) - n * s) then zI ((f : Int) - n * s) else 0) = zI (sk f s n) := by
  have h3 : 0 ≤ (n : Int) * s := Int.mul_nonneg (by omega) (by omega)
  have h4 : (n : Int) * s ≤ 900 := by
    have : n * s ≤ 100 * 9 := Nat.mul_le_mul hn hs
    omega
  unfold sk
  by_cases c : 0 < (f : Int) - n * s
  · rw [if_pos c, if_pos (by rw [zI_0, zI_lt (by omega) (by omega) (by omega) (by omega)]; exact c)]
  · rw [if_neg c, if_neg (by rw [zI_0, zI_lt (by omega) (by omega) (by omega) (by omega)]; exact c)]
    rfl
theorem milesAfloat_c {mm : Mm} {V A : Dat} {L : Rop} {S : Int32} {O : Dat} (hv : RvC mm 27 V) (ov : RvOk V) (hr : RaC mm 33 V A L S) (oa : RaOk V A L) (ho : ofC (cS mm 26) O) (oo : ofOk O) {q : Nat → Nat} (hq : ∀ o, o < 6 → mm.1 231 o = nI (q o) ∧ q o < 256) {s : Nat} (hs : s < 256) {k : Option Nat} (hk : okO O k) : f_X3_milesAfloat mm (nI s) (encO (-1) k) = some (nI (kmi V A q s O k)) := by
  obtain ⟨K, hK⟩ : ∃ K, K = kmi V A q s O k := ⟨_, rfl⟩
  have hf := frst_ok 100 (fun n => decide (mgo V A q s O k n < 0))
  rw [show frst (fun n => decide (mgo V A q s O k n < 0)) 100 = K from hK.symm] at hf
  obtain ⟨k1, k2, k3⟩ := hf
  have h2 := rdw_le ov q s (V 1 1) (Nat.le_refl _)
  have h6 := ov.2.1
  have o6 := oo.1
  have step : ∀ n, n < 100 → f_X3_milesAfloat_s16 mm (nI s) (encO (-1) k) (nI (rdw V q s (V 1 1))) (nI n) = if 0 ≤ mgo V A q s O k n then some (.inl (nI (n + 1))) else some (.inr (.inl (nI n))) := fun n hn => by
    have hb := mgo_bd ov oa oo q s hk n
    have fin : ∀ z : Int, z = mgo V A q s O k n → (if (0 : Int32) ≤ zI z then some (Sum.inl (nI n + 1)) else some (Sum.inr (Sum.inl (nI n))) : Option (Int32 ⊕ (Int32 ⊕ Unit))) = if 0 ≤ mgo V A q s O k n then some (.inl (nI (n + 1))) else some (.inr (.inl (nI n))) := fun z hz => by
      rw [hz, sN_a1]
      by_cases c : 0 ≤ mgo V A q s O k n
      · rw [if_pos c, if_pos (by rw [zI_0, zI_le (by omega) (by omega) (by omega) (by omega)]; exact c)]
      · rw [if_neg c, if_neg (by rw [zI_0, zI_le (by omega) (by omega) (by omega) (by omega)]; exact c)]
    unfold f_X3_milesAfloat_s16 f_X3_milesAfloat_j87
    rw [show (100 : Int32) = nI 100 from rfl, if_neg (by rw [sN_le (by decide) (by omega)]; omega), lift_c hv ov hr oa (by omega) (by omega), bi1_s]
    cases k with
    | none =>
      rw [show encO (-1) (none : Option Nat) = -1 from rfl, if_pos rfl, zI_n (rdw V q s (V 1 1)), zI_sb]
      exact fin _ (Int.add_zero _).symm
    | some j =>
      have hj : j < O 0 0 := hk
      have ob := oo.2 j hj
      have oc : mm.1 43 j = nI (O 1 j) ∧ mm.1 44 j = nI (O 2 j) ∧ mm.1 45 j = nI (O 3 j) := ho.2 j hj
      rw [show encO (-1) (some j) = nI j from rfl, if_neg (nm1 (by omega))]
      simp (disch := omega) only [↓reduceIte, decide_true, decide_false, Bool.false_eq_true, eq_self, s10, s01, cont_ok, has_ok, b2i0, b2i1, reduceCtorEq, Nat.or_zero, Nat.add_zero, sN_le, sN_lt, sN_eq, sN_lt0, sN_le0, sN_0le, sN_0lt, sN_eq0, sN_cl, sN_ad, sN_a1, K2, K3, K4, K5, K6, K7, K8, K9, K12, K16, K20, false_or, or_false, if_neg, if_pos, vl_s, bi1_s, bi2_s, nx_or, nx_and, nx_sh, oc.1, oc.2.1, oc.2.2]
      rw [zI_n (rdw V q s (V 1 1)), zI_n (O 2 j), zI_n n, zI_n (O 3 j), zI_n (O 1 j), zI_ml, zI_sb, zI_sb, sk_z ob.2.1 ob.2.2 (by omega), zI_sb, zI_ad]
      have h := fin _ rfl
      rw [sN_a1] at h
      exact h
  have hr' := ridersWeight_c (r := 33) hv ov hq (s := s) (by omega)
  unfold f_X3_milesAfloat
  rw [hr', bi1_s, ← hK]
  by_cases c : K < 100
  · have e : lp (f_X3_milesAfloat_s16 mm (nI s) (encO (-1) k) (nI (rdw V q s (V 1 1)))) (0 : Int32) = some (.inl (nI K)) := by
      refine lpf (fun i => nI i) K rfl (fun i hi => ?_) ?_
      · have := of_decide_eq_false (k2 i hi)
        rw [step i (by omega), if_pos (by omega)]
      · have := of_decide_eq_true (k3 c)
        rw [step K c, if_neg (by omega)]
    rw [e]
    rfl
  · have e : lp (f_X3_milesAfloat_s16 mm (nI s) (encO (-1) k) (nI (rdw V q s (V 1 1)))) (0 : Int32) = some (.inr ()) := by
      refine lpf (fun i => nI i) 100 rfl (fun i hi => ?_) ?_
      · have := of_decide_eq_false (k2 i (by omega))
        rw [step i (by omega), if_pos (by omega)]
      · unfold f_X3_milesAfloat_s16
        rw [if_pos (by decide)]
    rw [e, show K = 100 by omega]
    rfl
/-! the reference's -/
def skT (V A : Dat) (s n t : Nat) : Int := if s.testBit t then sk (A 3 t) (V 5 t) n else 0
theorem lif_sw (V A : Dat) (s n : Nat) : sumZ (skT V A s n) (V 1 2) - sumZ (wgs V A s) (V 1 2) = lif V A s n := by
  rw [sumZ_sub]
  unfold lif
  refine sumZ_ext (fun t ht => ?_)
  unfold skT wgs lifT sk
  by_cases hc : s.testBit t = true
  · rw [if_pos hc, if_pos hc, if_pos hc]
  · rw [if_neg hc, if_neg hc, if_neg hc]; rfl
theorem soaked_z {f s n : Nat} (hf : f ≤ 99) (hs : s ≤ 9) (hn : n ≤ 100) : f_X12_soaked (nI f) (nI s) (nI n) = zI (sk f s n) := by
  have h3 : 0 ≤ (n : Int) * s := Int.mul_nonneg (by omega) (by omega)
  have h4 : (n : Int) * s ≤ 900 := by
    have : n * s ≤ 100 * 9 := Nat.mul_le_mul hn hs
    omega
  unfold f_X12_soaked sk
  rw [zI_n f, zI_n s, zI_n n, zI_ml, zI_sb, Int.mul_comm (s : Int) n]
  by_cases c : 0 < (f : Int) - n * s
  · rw [if_pos c, if_neg (by rw [zI_0, zI_le (by omega) (by omega) (by omega) (by omega)]; omega)]
  · rw [if_neg c, if_pos (by rw [zI_0, zI_le (by omega) (by omega) (by omega) (by omega)]; omega)]
    rfl
theorem skSum_f {mm : Mm} {V A : Dat} {L : Rop} {S : Int32} (hv : RvF mm V) (ov : RvOk V) (hr : RaF mm V A L S) (oa : RaOk V A L) {s n : Nat} (hs : s < 2 ^ 31) (hn : n ≤ 100) {a b : Int32} {z : Int} : lp (f_X12_milesWith_s81 mm (nI s) a b (nI n)) (zI z, (0 : Int32)) = some (zI (z + sumZ (skT V A s n) (V 1 2))) := by
  have h8 := ov.2.2.1
  refine lpf (fun k => (zI (z + sumZ (skT V A s n) k), nI k)) (V 1 2) (by show _ = (zI (z + 0), nI 0); rw [Int.add_zero]; rfl) (fun k hk => ?_) ?_
  · have h1 := hr.2.2.2.2 k hk
    have h2 := hv.2.2.1 k hk
    have b1 := oa.2.2.2.1 k hk
    have b2 := ov.2.2.2.2.1 k hk
    unfold f_X12_milesWith_s81 f_X12_milesWith_j126
    rw [show sumZ (skT V A s n) (k + 1) = sumZ (skT V A s n) k + (if s.testBit k then sk (A 3 k) (V 5 k) n else 0) from rfl]
    simp (disch := omega) only [hv.1.2.2, h1.2.1, h2.2, ↓reduceIte, decide_true, decide_false, Bool.false_eq_true, eq_self, s10, s01, cont_ok, has_ok, b2i0, b2i1, reduceCtorEq, Nat.or_zero, Nat.add_zero, sN_le, sN_lt, sN_eq, sN_lt0, sN_le0, sN_0le, sN_0lt, sN_eq0, sN_cl, sN_ad, sN_a1, K2, K3, K4, K5, K6, K7, K8, K9, K12, K16, K20, false_or, or_false, if_neg, if_pos, vl_s, bi1_s, bi2_s, nx_or, nx_and, nx_sh, soaked_z]
    cases hc : s.testBit k
    · simp (disch := omega) only [↓reduceIte, decide_true, decide_false, Bool.false_eq_true, eq_self, s10, s01, cont_ok, has_ok, b2i0, b2i1, reduceCtorEq, Nat.or_zero, Nat.add_zero, sN_le, sN_lt, sN_eq, sN_lt0, sN_le0, sN_0le, sN_0lt, sN_eq0, sN_cl, sN_ad, sN_a1, K2, K3, K4, K5, K6, K7, K8, K9, K12, K16, K20, false_or, or_false, if_neg, if_pos, vl_s, bi1_s, bi2_s, nx_or, nx_and, nx_sh, Int.add_zero, Int32.add_zero]
    · simp (disch := omega) only [↓reduceIte, decide_true, decide_false, Bool.false_eq_true, eq_self, s10, s01, cont_ok, has_ok, b2i0, b2i1, reduceCtorEq, Nat.or_zero, Nat.add_zero, sN_le, sN_lt, sN_eq, sN_lt0, sN_le0, sN_0le, sN_0lt, sN_eq0, sN_cl, sN_ad, sN_a1, K2, K3, K4, K5, K6, K7, K8, K9, K12, K16, K20, false_or, or_false, if_neg, if_pos, vl_s, bi1_s, bi2_s, nx_or, nx_and, nx_sh, zI_ad, Int.add_assoc]
  · unfold f_X12_milesWith_s81
    simp (disch := omega) only [hv.1.2.2, ↓reduceIte, decide_true, decide_false, Bool.false_eq_true, eq_self, s10, s01, cont_ok, has_ok, b2i0, b2i1, reduceCtorEq, Nat.or_zero, Nat.add_zero, sN_le, sN_lt, sN_eq, sN_lt0, sN_le0, sN_0le, sN_0lt, sN_eq0, sN_cl, sN_ad, sN_a1, K2, K3, K4, K5, K6, K7, K8, K9, K12, K16, K20, false_or, or_false, if_neg, if_pos, vl_s, bi1_s, bi2_s, nx_or, nx_and, nx_sh]
theorem milesWith_f {mm : Mm} {V A : Dat} {L : Rop} {S : Int32} {O : Dat} (hv : RvF mm V) (ov : RvOk V) (hr : RaF mm V A L S) (oa : RaOk V A L) (ho : ofF (fS mm) O) (oo : ofOk O) {s : Nat} (hs : s < 256) (h0 : ¬ s = 0) {k : Option Nat} (hk : okO O k) : f_X12_milesWith mm (nI s) (encO (-1) k) = some (nI (kmi V A (rid V A (pOf V A L 0)) s O k)) := by
  obtain ⟨q, hqq⟩ : ∃ q, q = rid V A (pOf V A L 0) := ⟨_, rfl⟩
  rw [← hqq]
  obtain ⟨K, hK⟩ : ∃ K, K = kmi V A q s O k := ⟨_, rfl⟩
  have hf := frst_ok 100 (fun n => decide (mgo V A q s O k n < 0))
  rw [show frst (fun n => decide (mgo V A q s O k n < 0)) 100 = K from hK.symm] at hf
  obtain ⟨k1, k2, k3⟩ := hf
  have h8 := ov.2.2.1
  have h6 := ov.2.1
  have o6 := oo.1
  have h2 := rdw_le ov q s (V 1 1) (Nat.le_refl _)
  have bw := sumZ_bd (f := wgs V A s) (b := 100) (n := V 1 2) (by decide) (fun t ht => by
    have := ov.2.2.2.2.1 t ht
    unfold wgs
    split <;> omega)
  obtain ⟨W, hW⟩ : ∃ W, W = sumZ (wgs V A s) (V 1 2) := ⟨_, rfl⟩
  rw [← hW] at bw
  obtain ⟨ow, how⟩ : ∃ ow : Int, ow = owO O k := ⟨_, rfl⟩
  have how2 : 0 ≤ ow ∧ ow ≤ 50 := by
    rw [how]
    cases k with
    | none => exact ⟨(by decide : (0 : Int) ≤ 0), (by decide : (0 : Int) ≤ 50)⟩
    | some j =>
      have := oo.2 j hk
      exact ⟨(by omega : (0 : Int) ≤ O 1 j), (by omega : (O 1 j : Int) ≤ 50)⟩
  -- one look at n miles
  have step : ∀ n, n < 100 → f_X12_milesWith_s38 mm (nI s) (encO (-1) k) (zI (W + rdw V q s (V 1 1) + ow)) (nI n, (1 : Int32)) = if 0 ≤ mgo V A q s O k n then some (.inl (nI (n + 1), 1)) else some (.inl (nI n, 0)) := fun n hn => by
    have bs := sumZ_bd (f := skT V A s n) (b := 100) (n := V 1 2) (by decide) (fun t ht => by
      have h1 := (oa.2.2.2.1 t ht).2.1
      have := sk_bd (s := V 5 t) (n := n) h1
      unfold skT
      split <;> omega)
    have el := lif_sw V A s n
    have fin : ∀ z : Int, 0 ≤ z ∧ z ≤ 99 → z - ow = ofm O k n → f_X12_milesWith_j76 mm (nI s) (encO (-1) k) (zI (W + rdw V q s (V 1 1) + ow)) (nI n) (zI z) = if 0 ≤ mgo V A q s O k n then some (.inl (nI (n + 1), 1)) else some (.inl (nI n, 0)) := fun z hz1 hz => by
      unfold f_X12_milesWith_j76
      rw [skSum_f hv ov hr oa (by omega) (by omega), bi1_s]
      have em : mgo V A q s O k n = (z + sumZ (skT V A s n) (V 1 2)) - (W + rdw V q s (V 1 1) + ow) := by
        unfold mgo
        rw [← el, hW, ← hz]
        omega
      unfold f_X12_milesWith_j146 f_X12_milesWith_j160
      by_cases c : 0 ≤ mgo V A q s O k n
      · rw [if_pos c, if_neg (by rw [zI_lt (by omega) (by omega) (by omega) (by omega)]; omega), if_neg (by decide), sN_a1]
      · rw [if_neg c, if_pos (by rw [zI_lt (by omega) (by omega) (by omega) (by omega)]; omega), if_pos rfl, Int32.add_zero]
    unfold f_X12_milesWith_s38
    dsimp only
    rw [show (100 : Int32) = nI 100 from rfl, if_neg (by rw [sN_le (by decide) (by omega)]; omega), if_neg (by decide)]
    cases k with
    | none =>
      rw [show encO (-1) (none : Option Nat) = -1 from rfl, if_pos rfl]
      refine fin 0 ⟨by decide, by decide⟩ ?_
      rw [how]
      rfl
    | some j =>
      have hj : j < O 0 0 := hk
      have ob := oo.2 j hj
      have oc : mm.1 1104 j = nI (O 1 j) ∧ mm.1 1105 j = nI (O 2 j) ∧ mm.1 1106 j = nI (O 3 j) := ho.2 j hj
      rw [show encO (-1) (some j) = nI j from rfl, if_neg (nm1 (by omega)), if_neg (gd_ok (by omega) (by decide)), if_neg (gd_ok (by omega) (by decide)), cl_ok (by omega), oc.2.1, oc.2.2, soaked_z ob.2.1 ob.2.2 (by omega)]
      refine fin _ (sk_bd ob.2.1) ?_
      rw [how]
      rfl
  have hloop : lp (f_X12_milesWith_s38 mm (nI s) (encO (-1) k) (zI (W + rdw V q s (V 1 1) + ow))) ((0 : Int32), (1 : Int32)) = some (nI K) := by
    by_cases c : K < 100
    · refine lpf (fun i => if i ≤ K then (nI i, (1 : Int32)) else (nI K, 0)) (K + 1) (by rw [if_pos (Nat.zero_le _)]; rfl) (fun i hi => ?_) ?_
      · rw [if_pos (by omega)]
        by_cases d : i < K
        · have := of_decide_eq_false (k2 i d)
          rw [step i (by omega), if_pos (by omega), if_pos (by omega)]
        · have := of_decide_eq_true (k3 c)
          rw [show i = K by omega, step K c, if_neg (by omega), if_neg (by omega)]
      · rw [if_neg (by omega)]
        unfold f_X12_milesWith_s38
        dsimp only
        rw [show (100 : Int32) = nI 100 from rfl, if_neg (by rw [sN_le (by decide) (by omega)]; omega), if_pos rfl]
    · refine lpf (fun i => (nI i, (1 : Int32))) 100 rfl (fun i hi => ?_) ?_
      · have := of_decide_eq_false (k2 i (by omega))
        rw [step i (by omega), if_pos (by omega)]
      · unfold f_X12_milesWith_s38
        dsimp only
        rw [if_pos (by decide), show K = 100 by omega]
  unfold f_X12_milesWith f_X12_milesWith_j30
  rw [weightOf_f (A := A) hv ov (by omega), bi1_s, allRopes_f hr oa, ridersOf_f hv ov hr oa (RR_all oa.2.1) (by omega) h0, bi1_s, ← hW, ← hqq, zI_n (rdw V q s (V 1 1)), zI_ad, ← hK]
  cases k with
  | none =>
    rw [show encO (-1) (none : Option Nat) = -1 from rfl] at hloop ⊢
    rw [if_pos rfl, zI_0, zI_ad, show (0 : Int) = ow from how.symm, show (zI ow : Int32) = 0 from by rw [how]; rfl, hloop, bi1_s]
  | some j =>
    have hj : j < O 0 0 := hk
    have oc : mm.1 1104 j = nI (O 1 j) ∧ mm.1 1105 j = nI (O 2 j) ∧ mm.1 1106 j = nI (O 3 j) := ho.2 j hj
    rw [show encO (-1) (some j) = nI j from rfl] at hloop ⊢
    rw [if_neg (nm1 (by omega)), if_neg (gd_ok (by omega) (by decide)), cl_ok (by omega), oc.1, zI_n (O 1 j), zI_ad, show (O 1 j : Int) = ow from how.symm, hloop, bi1_s]
/-- the best offer -/
def tkB (K : Option Nat → Nat) : Nat → Option Nat × Nat
  | 0 => (none, K none)
  | k + 1 => if (tkB K k).2 < K (some k) then (some k, K (some k)) else tkB K k
theorem tkB_lt (K : Option Nat → Nat) : ∀ k b, (tkB K k).1 = some b → b < k
  | 0, b, h => by
    have h : (none : Option Nat) = some b := h
    cases h
  | k + 1, b, h => by
    rw [show tkB K (k + 1) = if (tkB K k).2 < K (some k) then (some k, K (some k)) else tkB K k from rfl] at h
    by_cases c : (tkB K k).2 < K (some k)
    · rw [if_pos c] at h
      have := Option.some.inj h
      omega
    · rw [if_neg c] at h
      have := tkB_lt K k b h
      omega
theorem tkB_le {K : Option Nat → Nat} (hK : ∀ j, K j ≤ 100) : ∀ k, (tkB K k).2 ≤ 100
  | 0 => hK _
  | k + 1 => by
    rw [show tkB K (k + 1) = if (tkB K k).2 < K (some k) then (some k, K (some k)) else tkB K k from rfl]
    split
    · exact hK _
    · exact tkB_le hK k
theorem kmi_le (V A : Dat) (q : Nat → Nat) (s : Nat) (O : Dat) (k : Option Nat) : kmi V A q s O k ≤ 100 := (frst_ok 100 _).1
theorem findTake_c {mm : Mm} {V A : Dat} {L : Rop} {S : Int32} {O : Dat} (hv : RvC mm 27 V) (ov : RvOk V) (hr : RaC mm 33 V A L S) (oa : RaOk V A L) (ho : ofC (cS mm 26) O) (oo : ofOk O) {t : Nat} (ht : t < V 1 2) : ∃ m1, f_X3_findTake mm (nI t) = some m1 ∧ m1.1 232 8 = encO (-1) (tkB (kmi V A (rid V A (pOf V A L 0)) (pOf V A L 0 t) O) (O 0 0)).1 ∧ m1.1 232 9 = nI (tkB (kmi V A (rid V A (pOf V A L 0)) (pOf V A L 0 t) O) (O 0 0)).2 ∧ ∀ i, ¬ scC i → m1.1 i = mm.1 i := by
  have h8 := ov.2.2.1
  have o6 := oo.1
  obtain ⟨q, hqq⟩ : ∃ q, q = rid V A (pOf V A L 0) := ⟨_, rfl⟩
  obtain ⟨s, hss⟩ : ∃ s, s = pOf V A L 0 t := ⟨_, rfl⟩
  have hsl : s < 256 := by rw [hss]; exact pOf_lt _ _ _ _ _
  have ef := find_c hv ov hr oa (by decide) (by decide) (g := 0) (by decide)
  obtain ⟨m, hm⟩ : ∃ m, m = wA (wA mm 230 (rowN 8 (pOf V A L 0) (mm.1 230))) 231 (rowN 6 (rid V A (pOf V A L 0)) (mm.1 231)) := ⟨_, rfl⟩
  rw [← hm] at ef
  have fm : ∀ i, ¬ i = 230 → ¬ i = 231 → m.1 i = mm.1 i := fun i h1 h2 => by rw [hm, wA_ne h2, wA_ne h1]
  have e230 : m.1 230 t = nI s := by rw [hm, wA_ne (by decide), wA_at, rowN_at _ _ (by omega), hss]
  have hqm : ∀ o, o < 6 → m.1 231 o = nI (q o) ∧ q o < 256 := fun o ho => by
    rw [hqq]
    exact ⟨by rw [hm, wA_at, rowN_at _ _ ho], rid_lt (fun t _ => pOf_lt _ _ _ _ _) o⟩
  rw [← hqq, ← hss]
  have hsame : ∀ w : Mm, (∀ i, ¬ i = 232 → w.1 i = m.1 i) → ∀ k, okO O k → f_X3_milesAfloat w (nI s) (encO (-1) k) = some (nI (kmi V A q s O k)) := fun w hw k hk => by
    have g : ∀ i, ¬ i = 230 → ¬ i = 231 → ¬ i = 232 → w.1 i = mm.1 i := fun i h1 h2 h3 => by rw [hw i h3, fm i h1 h2]
    refine milesAfloat_c (RvC_eq (fun j hj => g _ (by omega) (by omega) (by omega)) hv) ov (RaC_eq (fun j hj => g _ (by omega) (by omega) (by omega)) hr) oa ?_ oo (fun o ho => by rw [hw 231 (by decide)]; exact hqm o ho) hsl hk
    refine ⟨?_, fun j hj => ?_⟩
    · show w.1 26 5 = _
      rw [g 26 (by decide) (by decide) (by decide)]; exact ho.1
    · show w.1 43 j = _ ∧ w.1 44 j = _ ∧ w.1 45 j = _
      rw [g 43 (by decide) (by decide) (by decide), g 44 (by decide) (by decide) (by decide), g 45 (by decide) (by decide) (by decide)]; exact ho.2 j hj
  obtain ⟨m2, hm2⟩ : ∃ m2, m2 = wI (wI m 232 8 (-1)) 232 9 (nI (kmi V A q s O none)) := ⟨_, rfl⟩
  have hx : ∃ w, lp (f_X3_findTake_s39 (nI s)) ((0 : Int32), m2) = some w ∧ w.1 232 8 = encO (-1) (tkB (kmi V A q s O) (O 0 0)).1 ∧ w.1 232 9 = nI (tkB (kmi V A q s O) (O 0 0)).2 ∧ ∀ i, ¬ i = 232 → w.1 i = m.1 i := by
    refine lp_inv (fun k x => ∃ w, x = (nI k, w) ∧ w.1 232 8 = encO (-1) (tkB (kmi V A q s O) k).1 ∧ w.1 232 9 = nI (tkB (kmi V A q s O) k).2 ∧ ∀ i, ¬ i = 232 → w.1 i = m.1 i) _ (O 0 0) (fun k x hk hx => ?_) (fun x hx => ?_) 0 _ (Nat.zero_le _) ⟨m2, rfl, by rw [hm2, wI_pl (by decide), wI_at]; rfl, by rw [hm2, wI_at]; rfl, fun i hi => by rw [hm2, wI_ne hi, wI_ne hi]⟩
    · obtain ⟨w, rfl, w1, w2, w3⟩ := hx
      have e26 : w.1 26 5 = nI (O 0 0) := by rw [w3 26 (by decide), fm 26 (by decide) (by decide)]; exact ho.1
      have hb := tkB_le (kmi_le V A q s O) k
      have hb2 := kmi_le V A q s O (some k)
      unfold f_X3_findTake_s39
      rw [show tkB (kmi V A q s O) (k + 1) = if (tkB (kmi V A q s O) k).2 < kmi V A q s O (some k) then (some k, kmi V A q s O (some k)) else tkB (kmi V A q s O) k from rfl]
      dsimp only
      rw [e26, if_neg (by rw [sN_le (by omega) (by omega)]; omega), show nI k = encO (-1) (some k) from rfl, hsame w w3 (some k) hk, bi1_s, w2, show encO (-1) (some k) = nI k from rfl]
      by_cases c : (tkB (kmi V A q s O) k).2 < kmi V A q s O (some k)
      · rw [if_neg (by rw [sN_le (by omega) (by omega)]; omega), if_pos c]
        refine ⟨_, rfl, _, by rw [sN_a1], ?_, ?_, fun i hi => by rw [wI_ne hi, wI_ne hi, w3 i hi]⟩
        · rw [wI_at]; rfl
        · rw [wI_pl (by decide), wI_at]
      · rw [if_pos (by rw [sN_le (by omega) (by omega)]; omega), if_neg c]
        exact ⟨_, rfl, w, by rw [sN_a1], w1, w2, w3⟩
    · obtain ⟨w, rfl, w1, w2, w3⟩ := hx
      have e26 : w.1 26 5 = nI (O 0 0) := by rw [w3 26 (by decide), fm 26 (by decide) (by decide)]; exact ho.1
      refine ⟨w, ?_, w1, w2, w3⟩
      unfold f_X3_findTake_s39
      dsimp only
      rw [e26, if_pos (by rw [sN_le (by omega) (by omega)]; omega)]
  obtain ⟨w, e, h1, h2, h3⟩ := hx
  refine ⟨w, ?_, h1, h2, fun i hi => by rw [h3 i (fun z => hi (by unfold scC; omega)), fm i (fun z => hi (by unfold scC; omega)) (fun z => hi (by unfold scC; omega))]⟩
  unfold f_X3_findTake
  rw [show (0 : Int32) = nI 0 from rfl, ef, bi1_s]
  simp (disch := omega) only [↓reduceIte, decide_true, decide_false, Bool.false_eq_true, eq_self, s10, s01, cont_ok, has_ok, b2i0, b2i1, reduceCtorEq, Nat.or_zero, Nat.add_zero, sN_le, sN_lt, sN_eq, sN_lt0, sN_le0, sN_0le, sN_0lt, sN_eq0, sN_cl, sN_ad, sN_a1, K2, K3, K4, K5, K6, K7, K8, K9, K12, K16, K20, false_or, or_false, if_neg, if_pos, vl_s, bi1_s, bi2_s, nx_or, nx_and, nx_sh, e230]
  rw [show f_X3_milesAfloat (wI m 232 8 (-1)) (nI s) (-1) = some (nI (kmi V A q s O none)) from hsame _ (fun i hi => wI_ne hi) none trivial, bi1_s, ← hm2, show nI 0 = (0 : Int32) from rfl, e, bi1_s]
theorem takeL_f {mm : Mm} {V A : Dat} {L : Rop} {S : Int32} {O : Dat} (hv : RvF mm V) (ov : RvOk V) (hr : RaF mm V A L S) (oa : RaOk V A L) (ho : ofF (fS mm) O) (oo : ofOk O) {s : Nat} (hs : s < 256) (h0 : ¬ s = 0) {y : Int32} : lp (f_X12_take_s41 mm y (nI s)) ((-2 : Int32), nI (kmi V A (rid V A (pOf V A L 0)) s O none), (0 : Int32)) = some (encO (-2) (tkB (kmi V A (rid V A (pOf V A L 0)) s O) (O 0 0)).1, nI (tkB (kmi V A (rid V A (pOf V A L 0)) s O) (O 0 0)).2) := by
  have o6 := oo.1
  refine lpf (fun k => (encO (-2) (tkB (kmi V A (rid V A (pOf V A L 0)) s O) k).1, nI (tkB (kmi V A (rid V A (pOf V A L 0)) s O) k).2, nI k)) (O 0 0) rfl (fun k hk => ?_) ?_
  · have e26 : mm.1 1089 7 = nI (O 0 0) := ho.1
    have hb := tkB_le (kmi_le V A (rid V A (pOf V A L 0)) s O) k
    have hb2 := kmi_le V A (rid V A (pOf V A L 0)) s O (some k)
    unfold f_X12_take_s41
    rw [show tkB (kmi V A (rid V A (pOf V A L 0)) s O) (k + 1) = if (tkB (kmi V A (rid V A (pOf V A L 0)) s O) k).2 < kmi V A (rid V A (pOf V A L 0)) s O (some k) then (some k, kmi V A (rid V A (pOf V A L 0)) s O (some k)) else tkB (kmi V A (rid V A (pOf V A L 0)) s O) k from rfl]
    dsimp only
    rw [e26, if_neg (by rw [sN_le (by omega) (by omega)]; omega), show f_X12_milesWith mm (nI s) (nI k) = some (nI (kmi V A (rid V A (pOf V A L 0)) s O (some k))) from milesWith_f hv ov hr oa ho oo hs h0 (k := some k) hk, bi1_s, sN_a1]
    by_cases c : (tkB (kmi V A (rid V A (pOf V A L 0)) s O) k).2 < kmi V A (rid V A (pOf V A L 0)) s O (some k)
    · rw [if_neg (by rw [sN_le (by omega) (by omega)]; omega), if_pos c]
      rfl
    · rw [if_pos (by rw [sN_le (by omega) (by omega)]; omega), if_neg c]
  · have e26 : mm.1 1089 7 = nI (O 0 0) := ho.1
    unfold f_X12_take_s41
    dsimp only
    rw [e26, if_pos (by rw [sN_le (by omega) (by omega)]; omega)]
theorem sm_take_ok : sm_take Inv := by
  intro mm x w hInv
  obtain ⟨ol, V, R, na, P, O, xx, hC, hF, ok⟩ := SimS_St hInv.2.2.1
  have hv := StC_rv hC
  have hr := StC_ra hC
  have hvF := rvF_RvF hF.1 ok.1
  have hrF := StF_ra hF
  have ov := ok.1.1
  have oa := ok.2.2.2.2.2.2.1
  have oo := ok.2.1
  have o6 := oo.1
  unfold f_X11_take
  rw [isAfloat_c hv ov hr oa, bi1_s]
  by_cases ha : Afl V R.1 x
  · have ha' := ha
    obtain ⟨t, ht, rfl⟩ := ha
    have h0 := (PP_ne (pOf_PP ov oa 0) t).mpr ht
    have hlt := pOf_lt V R.1 R.2.1 0 t
    rw [pb_t ha', if_pos rfl, if_neg (by decide)]
    have head : ∀ m : Mm, StF (fS m) V R na P O xx → f_X12_in w.toInt64 (0 : Int64) (1 : Int64) = 1 → f_X12_take m (nI t) w = if w = 0 then some (encO (-2) (tkB (kmi V R.1 (rid V R.1 (pOf V R.1 R.2.1 0)) (pOf V R.1 R.2.1 0 t) O) (O 0 0)).1) else some (nI (tkB (kmi V R.1 (rid V R.1 (pOf V R.1 R.2.1 0)) (pOf V R.1 R.2.1 0 t) O) (O 0 0)).2) := fun m hFm hin => by
      have hvm := rvF_RvF hFm.1 ok.1
      have hrm := StF_ra hFm
      unfold f_X12_take
      rw [isAfloat_f hvm ov hrm oa, pb_t ha', bi1_s, if_pos rfl, if_neg (by decide), hin, if_neg (by decide), pieceOf_f hvm ov hrm oa ht, bi1_s, show f_X12_milesWith m (nI (pOf V R.1 R.2.1 0 t)) (-1) = some (nI (kmi V R.1 (rid V R.1 (pOf V R.1 R.2.1 0)) (pOf V R.1 R.2.1 0 t) O none)) from milesWith_f hvm ov hrm oa hFm.2.1 oo hlt h0 (k := none) trivial, bi1_s, takeL_f hvm ov hrm oa hFm.2.1 oo hlt h0, bi1_s]
    rcases in01 w with ⟨rfl, hin⟩ | ⟨rfl, hin⟩ | ⟨hw, hin⟩
    · obtain ⟨m1, e1, s1, s2, f1⟩ := findTake_c hv ov hr oa hC.2.1 oo ht.1
      have hd := head m1 (StF_cl (fun i hi => f1 i (sc_F hi)) hF) hin
      rw [if_pos rfl] at hd
      rw [if_neg (by decide), if_pos (by decide), e1, bi1_s, if_neg (by decide), s1]
      cases hb : (tkB (kmi V R.1 (rid V R.1 (pOf V R.1 R.2.1 0)) (pOf V R.1 R.2.1 0 t) O) (O 0 0)).1 with
      | none =>
        rw [hb] at hd
        exact ⟨_, m1, by rw [show encO (-1) (none : Option Nat) = -1 from rfl, if_pos rfl]; rfl, hd, Inv_sc hInv f1⟩
      | some b =>
        have hbl := tkB_lt _ _ b hb
        rw [hb] at hd
        exact ⟨_, m1, by rw [show encO (-1) (some b) = nI b from rfl, if_neg (nm1 (by omega))]; rfl, hd, Inv_sc hInv f1⟩
    · obtain ⟨m1, e1, s1, s2, f1⟩ := findTake_c hv ov hr oa hC.2.1 oo ht.1
      have hd := head m1 (StF_cl (fun i hi => f1 i (sc_F hi)) hF) hin
      rw [if_neg (by decide)] at hd
      rw [if_neg (by decide), if_pos (by decide), e1, bi1_s, if_pos rfl, s2]
      exact ⟨_, m1, rfl, hd, Inv_sc hInv f1⟩
    · refine ⟨-1, mm, ?_, ?_, hInv⟩
      · rcases hw with hw | ⟨hw1, hw2⟩
        · rw [if_pos hw]
        · rw [if_neg hw1, if_neg hw2]
      · unfold f_X12_take
        rw [isAfloat_f hvF ov hrF oa, pb_t ha', bi1_s, if_pos rfl, if_neg (by decide), hin, if_pos rfl]
  · rw [pb_f ha]
    refine ⟨-1, mm, rfl, ?_, hInv⟩
    unfold f_X12_take
    rw [isAfloat_f hvF ov hrF oa, pb_f ha]
    rfl
