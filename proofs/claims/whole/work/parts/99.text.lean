/-! PHASE 2: the text, both sides -/
def frT (m m1 : Mm) : Prop := (∀ i, ¬ i = 1 → m1.1 i = m.1 i) ∧ m1.1 1 1 = m.1 1 1
theorem frT.rf (m : Mm) : frT m m := ⟨fun _ _ => rfl, rfl⟩
theorem frT.tr {a b c : Mm} (h1 : frT a b) (h2 : frT b c) : frT a c := ⟨fun i hi => (h2.1 i hi).trans (h1.1 i hi), h2.2.trans h1.2⟩
theorem frT.tx {m m1 : Mm} {n : Nat} {t : Nat → Nat} (f : frT m m1) (h : TxC m n t) : TxC m1 n t := ⟨by rw [f.2]; exact h.1, fun k hk => by rw [f.1 2 (by decide)]; exact h.2 k hk⟩
theorem frT_w (m : Mm) {k : Nat} {x : Int32} (h : ¬ k = 1) : frT m (wI m 1 k x) := ⟨fun i hi => wI_ne hi, wI_pl (fun z => h z.symm)⟩
theorem bl_5 {n : Nat} {t : Nat → Nat} (ok : TxOk n t) {i : Nat} (h : i ≤ 500) : bl n t i ≤ 500 := by
  have := ok.1
  by_cases q : i ≤ n
  · have := bl_le t q; omega
  · rw [bl_hi t (by omega)]; exact h
theorem number_c {mm : Mm} {n : Nat} {t : Nat → Nat} (h : TxC mm n t) (ok : TxOk n t) {i : Nat} (ha : atC mm i) (hi : i ≤ 500) {lo hi' : Int} (l1 : -1000 < lo) (l2 : lo < 100000) (l3 : -1000 < hi') (l4 : hi' < 100000) : ∃ m1, frT mm m1 ∧ ((∃ f, num n t i lo hi' = .inl f ∧ f_X10_number mm (zI lo) (zI hi') = some (-1, m1) ∧ m1.1 1 4 = nI f) ∨ ∃ v e, num n t i lo hi' = .inr (v, e) ∧ f_X10_number mm (zI lo) (zI hi') = some (nI v, m1) ∧ m1.1 1 2 = nI e ∧ m1.1 1 3 = nI (bl n t i) ∧ m1.1 1 4 = mm.1 1 4) := by
  have h4 := ok.1
  have hb5 := bl_5 ok hi
  obtain ⟨b, hb⟩ : ∃ b, b = bl n t i := ⟨_, rfl⟩
  have f0 : frT mm (wI mm 1 2 (nI b)) := frT_w mm (by decide)
  unfold f_X10_number num
  rw [next_c h ok ha hi, bi2_s, ← hb]
  rw [← hb] at hb5
  have dig : f_X10_isDigit (sgI n t b) = if b < n ∧ isD (t b) = true then 1 else 0 := by
    unfold sgI
    by_cases q : b < n
    · rw [if_pos q, nb_dig _ (ok.2 b q)]
      unfold isD
      by_cases q2 : 48 ≤ t b ∧ t b ≤ 57
      · rw [if_pos q2, if_pos ⟨q, decide_eq_true q2⟩]
      · rw [if_neg q2, if_neg (fun z => q2 (of_decide_eq_true z.2))]
    · rw [if_neg q, if_neg (fun z => q z.1)]
      decide
  rw [dig]
  by_cases c : b < n ∧ isD (t b) = true
  · rw [if_pos c, if_pos c, if_neg (show ¬ (1 : Int32) = 0 by decide), wI_at, vl_s]
    obtain ⟨m2, hm2⟩ : ∃ m2, m2 = wI (wI mm 1 2 (nI b)) 1 3 (nI b) := ⟨_, rfl⟩
    have f2 : frT mm m2 := by rw [hm2]; exact f0.tr (frT_w _ (by decide))
    have a2 : atC m2 b := by rw [hm2]; unfold atC; rw [wI_pl (by decide), wI_at]
    have e3 : m2.1 1 3 = nI b := by rw [hm2, wI_at]
    have e4 : m2.1 1 4 = mm.1 1 4 := by rw [hm2, wI_pl (by decide), wI_pl (by decide)]
    obtain ⟨d1, d2, d3⟩ := dge_ok n t b
    have d2 := d2 (by omega)
    rw [← hm2, digs_c (f2.tx h) ok (by omega) e3 a2, bi1_s]
    dsimp only
    obtain ⟨m3, hm3⟩ : ∃ m3, m3 = wI m2 1 2 (nI (dge n t b)) := ⟨_, rfl⟩
    have f3 : frT mm m3 := by rw [hm3]; exact f2.tr (frT_w _ (by decide))
    have a3 : m3.1 1 2 = nI (dge n t b) := by rw [hm3, wI_at]
    have e33 : m3.1 1 3 = nI b := by rw [hm3, wI_pl (by decide)]; exact e3
    have e34 : m3.1 1 4 = mm.1 1 4 := by rw [hm3, wI_pl (by decide)]; exact e4
    have hv := dv_bd d3
    obtain ⟨v, hv'⟩ : ∃ v, v = dv t b (dge n t b - b) := ⟨_, rfl⟩
    rw [← hm3, a3, e33, nI_sub' d1, ← hv']
    rw [← hv'] at hv
    have bad : f_X10_number_j125 m3 = some (-1, wI m3 1 4 (nI (2 + 8 * b))) := by
      unfold f_X10_number_j125
      rw [e33, K1, wrong_c, bi2_s, show 1 + 8 * b + 1 = 2 + 8 * b by omega]
    by_cases c5 : 5 < dge n t b - b
    · rw [if_pos (Or.inl c5), if_pos (by rw [K5, sN_lt (by omega) (by omega)]; exact c5), bad]
      exact ⟨_, f3.tr (frT_w _ (by decide)), Or.inl ⟨_, rfl, rfl, wI_at _ _ _ _⟩⟩
    · rw [if_neg (show ¬ (5 : Int32) < nI (dge n t b - b) by rw [K5, sN_lt (by omega) (by omega)]; exact c5)]
      by_cases c6 : (v : Int) < lo
      · rw [if_pos (Or.inr (Or.inl c6)), if_pos (show nI v < zI lo by rw [zI_n, zI_lt (by omega) (by omega) (by omega) (by omega)]; exact c6), bad]
        exact ⟨_, f3.tr (frT_w _ (by decide)), Or.inl ⟨_, rfl, rfl, wI_at _ _ _ _⟩⟩
      · rw [if_neg (show ¬ nI v < zI lo by rw [zI_n, zI_lt (by omega) (by omega) (by omega) (by omega)]; exact c6)]
        by_cases c7 : hi' < (v : Int)
        · rw [if_pos (Or.inr (Or.inr c7)), if_neg (show ¬ nI v ≤ zI hi' by rw [zI_n, zI_le (by omega) (by omega) (by omega) (by omega)]; omega), bad]
          exact ⟨_, f3.tr (frT_w _ (by decide)), Or.inl ⟨_, rfl, rfl, wI_at _ _ _ _⟩⟩
        · rw [if_neg (show ¬ (5 < dge n t b - b ∨ (v : Int) < lo ∨ hi' < (v : Int)) from fun z => z.elim c5 (fun y => y.elim c6 c7)), if_pos (show nI v ≤ zI hi' by rw [zI_n, zI_le (by omega) (by omega) (by omega) (by omega)]; omega)]
          exact ⟨m3, f3, Or.inr ⟨v, dge n t b, rfl, rfl, a3, e33, e34⟩⟩
  · rw [if_neg c, if_neg c, if_pos rfl, wI_at, show (0 : Int32) = nI 0 from rfl, wrong_c, bi2_s]
    exact ⟨_, f0.tr (frT_w _ (by decide)), Or.inl ⟨_, rfl, rfl, by rw [wI_at, Nat.add_zero]⟩⟩
/-! the reference's -/
def frU (m m1 : Mm) : Prop := (∀ i, ¬ i = 1088 → m1.1 i = m.1 i) ∧ ∀ k, ¬ k = 32 → ¬ k = 33 → m1.1 1088 k = m.1 1088 k
theorem frU.rf (m : Mm) : frU m m := ⟨fun _ _ => rfl, fun _ _ _ => rfl⟩
theorem frU.tr {a b c : Mm} (h1 : frU a b) (h2 : frU b c) : frU a c := ⟨fun i hi => (h2.1 i hi).trans (h1.1 i hi), fun k k1 k2 => (h2.2 k k1 k2).trans (h1.2 k k1 k2)⟩
theorem frU.tx {m m1 : Mm} {n : Nat} {t : Nat → Nat} (f : frU m m1) (h : TxF m n t) : TxF m1 n t := ⟨by rw [f.2 31 (by decide) (by decide)]; exact h.1, fun k hk => by rw [f.1 1119 (by decide)]; exact h.2 k hk⟩
theorem frU_w (m : Mm) {k : Nat} {x : Int32} (h : k = 32 ∨ k = 33) : frU m (wI m 1088 k x) := ⟨fun i hi => wI_ne hi, fun j j1 j2 => wI_pl (by omega)⟩
theorem sign_f {mm : Mm} {n : Nat} {t : Nat → Nat} (h : TxF mm n t) (ok : TxOk n t) {i : Nat} (ha : mm.1 1088 32 = nI i) (hi : i ≤ 1000) : f_X12_sign mm = some (sgI n t i) := by
  have h4 := ok.1
  unfold f_X12_sign sgI
  rw [h.1, ha]
  by_cases c : i < n
  · rw [if_pos c, if_neg (by rw [sN_le (by omega) (by omega)]; omega), if_neg (gd_ok (show i < 400 by omega) (by decide)), cl_ok (by omega), h.2 i c, sb_255 _ (ok.2 i c)]
  · rw [if_neg c, if_pos (by rw [sN_le (by omega) (by omega)]; omega)]
theorem blanks_f {mm : Mm} {n : Nat} {t : Nat → Nat} (h : TxF mm n t) (ok : TxOk n t) {i : Nat} (ha : mm.1 1088 32 = nI i) (hi : i ≤ 500) : f_X12_blanks mm = some (wI mm 1088 32 (nI (bl n t i))) := by
  have h4 := ok.1
  have hw : ∀ j, TxF (wI mm 1088 32 (nI j)) n t := fun j => (frU_w mm (Or.inl rfl)).tx h
  have := lp_rn (st := f_X12_blanks_s0) (fun j => decide (t j = 32)) (fun j => wI mm 1088 32 (nI j)) (fun j => wI mm 1088 32 (nI j)) n i (fun j j1 j2 j3 => by
    unfold f_X12_blanks_s0
    rw [sign_f (hw j) ok (wI_at _ _ _ _) (by omega), bi1_s, if_pos (by rw [show (32 : Int32) = nI 32 from rfl, sgI_eq ok (by decide)]; exact ⟨j2, of_decide_eq_true j3⟩), wI_at, sN_a1, vl_s, wI_wI]) (fun j j1 j2 j3 => by
    unfold f_X12_blanks_s0
    rw [sign_f (hw j) ok (wI_at _ _ _ _) (by omega), bi1_s, if_neg (by rw [show (32 : Int32) = nI 32 from rfl, sgI_eq ok (by decide)]; exact fun z => of_decide_eq_false j3 z.2)]) (fun j j1 j2 j3 => by
    unfold f_X12_blanks_s0
    rw [sign_f (hw j) ok (wI_at _ _ _ _) (by omega), bi1_s, if_neg (by rw [show (32 : Int32) = nI 32 from rfl, sgI_eq ok (by decide)]; exact fun z => absurd z.1 (by omega))]) (n - i) i rfl (Nat.le_refl _) (Or.inr rfl)
  rw [wI_same ha] at this
  unfold f_X12_blanks
  rw [this, bi1_s]
  rfl
theorem fails_0 {mm : Mm} (i c : Nat) (h : mm.1 1088 33 = 0) : f_X12_fails mm (nI c) (nI i) = some (wI mm 1088 33 (nI (1 + 8 * i + c))) := by
  unfold f_X12_fails f_X12_fails_j23
  rw [if_pos h, K1, K8, show nI 8 * nI i = nI (8 * i) from (Int32.ofNat_mul _ _).symm, sN_ad, sN_ad, vl_s]
theorem fails_x {mm : Mm} {x y : Int32} (h : ¬ mm.1 1088 33 = 0) : f_X12_fails mm x y = some mm := by
  unfold f_X12_fails f_X12_fails_j23
  rw [if_neg h, vl_s, wI_same rfl]
theorem isDigit_f {mm : Mm} {n : Nat} {t : Nat → Nat} (h : TxF mm n t) (ok : TxOk n t) {i : Nat} (ha : mm.1 1088 32 = nI i) (hi : i ≤ 1000) : f_X12_isDigit mm = some (if i < n ∧ isD (t i) = true then 1 else 0) := by
  have e : f_X12_in (sgI n t i).toInt64 (48 : Int64) (57 : Int64) = if i < n ∧ isD (t i) = true then 1 else 0 := by
    unfold sgI
    by_cases q : i < n
    · rw [if_pos q]
      rcases rng (nI (t i)) 48 57 (by decide) (by decide) (l := (48 : Int64)) (h := (57 : Int64)) (by decide) (by decide) with ⟨j, j1, j2, j3, j4⟩ | ⟨j1, j2⟩
      · have hj := (nI_eq_iff (by have := ok.2 i q; omega) (by omega)).mp j3
        rw [j4, if_pos ⟨q, decide_eq_true (by omega)⟩]
      · have hd : ¬ (48 ≤ t i ∧ t i ≤ 57) := fun z => by
          have := ok.2 i q
          rw [sN_lt (by omega) (by omega), sN_lt (by omega) (by omega)] at j1
          omega
        rw [j2, if_neg (fun z => hd (of_decide_eq_true z.2))]
    · rw [if_neg q, if_neg (fun z => q z.1)]
      rcases rng (-1) 48 57 (by decide) (by decide) (l := (48 : Int64)) (h := (57 : Int64)) (by decide) (by decide) with ⟨j, j1, j2, j3, j4⟩ | ⟨j1, j2⟩
      · exact absurd j3.symm (nm1 (by omega))
      · exact j2
  unfold f_X12_isDigit
  rw [sign_f h ok ha hi, bi1_s, e]
  by_cases q : i < n ∧ isD (t i) = true
  · rw [if_pos q, if_neg (fun z => z.2 rfl)]
  · rw [if_neg q, if_neg (fun z => z.1 rfl)]
theorem digs_f {mm : Mm} {n : Nat} {t : Nat → Nat} (h : TxF mm n t) (ok : TxOk n t) {b : Nat} (hb : b ≤ n) (ha : mm.1 1088 32 = nI b) {x : Int32} : lp (f_X12_digits_s25 x (nI b)) ((0 : Int32), mm) = some (nI (dv t b (dge n t b - b)), wI mm 1088 32 (nI (dge n t b))) := by
  have h4 := ok.1
  have hw : ∀ j, TxF (wI mm 1088 32 (nI j)) n t := fun j => (frU_w mm (Or.inl rfl)).tx h
  have := lp_rn (st := f_X12_digits_s25 x (nI b)) (fun j => isD (t j)) (fun j => (nI (dv t b (j - b)), wI mm 1088 32 (nI j))) (fun j => (nI (dv t b (j - b)), wI mm 1088 32 (nI j))) n b (fun j j1 j2 j3 => by
    have hd := of_decide_eq_true j3
    unfold f_X12_digits_s25 f_X12_digits_j58
    dsimp only
    rw [isDigit_f (hw j) ok (wI_at _ _ _ _) (by omega), if_pos (show j < n ∧ isD (t j) = true from ⟨j2, j3⟩), bi1_s, if_neg (show ¬ (1 : Int32) = 0 by decide), wI_at, nI_sub' j1, sN_a1, vl_s, wI_wI, show j + 1 - b = (j - b) + 1 by omega, show dv t b (j - b + 1) = if j - b < 5 then dv t b (j - b) * 10 + (t (b + (j - b)) - 48) else dv t b (j - b) from rfl]
    by_cases c : j - b < 5
    · rw [if_pos c, if_neg (by rw [K5, sN_le (by omega) (by omega)]; omega), sign_f (hw j) ok (wI_at _ _ _ _) (by omega), bi1_s, vl_s, show sgI n t j = nI (t j) from if_pos j2, show (10 : Int32) = nI 10 from rfl, show nI 10 * nI (dv t b (j - b)) = nI (10 * dv t b (j - b)) from (Int32.ofNat_mul _ _).symm, sN_ad, show (48 : Int32) = nI 48 from rfl, nI_sub' (by omega), show b + (j - b) = j by omega, show 10 * dv t b (j - b) + t j - 48 = dv t b (j - b) * 10 + (t j - 48) by omega]
    · rw [if_neg c, if_pos (by rw [K5, sN_le (by omega) (by omega)]; omega)]) (fun j j1 j2 j3 => by
    unfold f_X12_digits_s25
    dsimp only
    rw [isDigit_f (hw j) ok (wI_at _ _ _ _) (by omega), if_neg (show ¬ (j < n ∧ isD (t j) = true) from fun z => by have z2 := z.2; rw [j3] at z2; exact absurd z2 (by decide)), bi1_s, if_pos rfl]) (fun j j1 j2 j3 => by
    unfold f_X12_digits_s25
    dsimp only
    rw [isDigit_f (hw j) ok (wI_at _ _ _ _) (by omega), if_neg (show ¬ (j < n ∧ isD (t j) = true) from fun z => absurd z.1 (by omega)), bi1_s, if_pos rfl]) (n - b) b rfl (Nat.le_refl _) (Or.inl hb)
  rw [wI_same ha, Nat.sub_self] at this
  exact this
theorem nz_ne {f : Nat} (h1 : 1 ≤ f) (h2 : f < 100000) : ¬ nI f = 0 := by
  rw [sN_eq0 h2]
  omega
theorem amount_f {mm : Mm} {n : Nat} {t : Nat → Nat} (h : TxF mm n t) (ok : TxOk n t) {i : Nat} (ha : mm.1 1088 32 = nI i) (hi : i ≤ 500) (h0 : mm.1 1088 33 = 0) {lo hi' : Int} (l1 : -1000 < lo) (l2 : lo < 100000) (l3 : -1000 < hi') (l4 : hi' < 100000) : ∃ m1, frU mm m1 ∧ ((∃ f r j, num n t i lo hi' = .inl f ∧ f_X12_amount mm (zI lo) (zI hi') = some (r, m1) ∧ m1.1 1088 33 = nI f ∧ m1.1 1088 32 = nI j ∧ j ≤ 500 ∧ 1 ≤ f ∧ f < 5000) ∨ ∃ v e, num n t i lo hi' = .inr (v, e) ∧ f_X12_amount mm (zI lo) (zI hi') = some (nI v, m1) ∧ m1.1 1088 32 = nI e ∧ m1.1 1088 33 = 0 ∧ e ≤ n) := by
  have h4 := ok.1
  have hb5 := bl_5 ok hi
  obtain ⟨b, hb⟩ : ∃ b, b = bl n t i := ⟨_, rfl⟩
  rw [← hb] at hb5
  obtain ⟨m0, hm0⟩ : ∃ m0, m0 = wI mm 1088 32 (nI b) := ⟨_, rfl⟩
  have f0 : frU mm m0 := by rw [hm0]; exact frU_w mm (Or.inl rfl)
  have a0 : m0.1 1088 32 = nI b := by rw [hm0, wI_at]
  have z0 : m0.1 1088 33 = 0 := by rw [hm0, wI_pl (by decide)]; exact h0
  have tx0 := f0.tx h
  unfold f_X12_amount num
  rw [blanks_f h ok ha hi, bi1_s, ← hb, ← hm0, if_pos z0, a0]
  unfold f_X12_digits
  rw [isDigit_f tx0 ok a0 (by omega), bi1_s, a0]
  have inr : ∀ v : Nat, v ≤ 99999 → f_X12_in (nI v).toInt64 (zI lo).toInt64 (zI hi').toInt64 = if (v : Int) < lo ∨ hi' < (v : Int) then 0 else 1 := fun v hv => by
    rw [in_spec, zI_n]
    by_cases q : (v : Int) < lo ∨ hi' < (v : Int)
    · rw [if_pos q, if_neg (fun z => by
        rw [zI_le (by omega) (by omega) (by omega) (by omega), zI_le (by omega) (by omega) (by omega) (by omega)] at z
        omega)]
    · rw [if_neg q, if_pos (by
        rw [zI_le (by omega) (by omega) (by omega) (by omega), zI_le (by omega) (by omega) (by omega) (by omega)]
        omega)]
  by_cases c : b < n ∧ isD (t b) = true
  · obtain ⟨d1, d2, d3⟩ := dge_ok n t b
    have d2 := d2 (by omega)
    have hv := dv_bd d3
    rw [if_pos c, if_pos c, if_neg (show ¬ (1 : Int32) = 0 by decide), digs_f tx0 ok (by omega) a0, bi1_s]
    dsimp only
    obtain ⟨m3, hm3⟩ : ∃ m3, m3 = wI m0 1088 32 (nI (dge n t b)) := ⟨_, rfl⟩
    have f3 : frU mm m3 := by rw [hm3]; exact f0.tr (frU_w _ (Or.inl rfl))
    have a3 : m3.1 1088 32 = nI (dge n t b) := by rw [hm3, wI_at]
    have z3 : m3.1 1088 33 = 0 := by rw [hm3, wI_pl (by decide)]; exact z0
    obtain ⟨v, hv'⟩ : ∃ v, v = dv t b (dge n t b - b) := ⟨_, rfl⟩
    rw [← hm3, a3, nI_sub' d1, ← hv']
    rw [← hv'] at hv
    have ef : f_X12_fails m3 (1 : Int32) (nI b) = some (wI m3 1088 33 (nI (2 + 8 * b))) := by
      rw [K1, fails_0 b 1 z3, show 1 + 8 * b + 1 = 2 + 8 * b by omega]
    by_cases c5 : 5 < dge n t b - b
    · rw [if_pos (Or.inl c5), if_pos (by rw [K5, sN_lt (by omega) (by omega)]; exact c5)]
      unfold f_X12_digits_j87 f_X12_amount_j27
      rw [ef, bi1_s, bi2_s, wI_at, if_neg (nz_ne (by omega) (by omega))]
      exact ⟨_, f3.tr (frU_w _ (Or.inr rfl)), Or.inl ⟨_, _, dge n t b, rfl, rfl, wI_at _ _ _ _, by rw [wI_pl (by decide)]; exact a3, by omega, by omega, by omega⟩⟩
    · rw [if_neg (show ¬ (5 : Int32) < nI (dge n t b - b) by rw [K5, sN_lt (by omega) (by omega)]; exact c5), if_pos (show nI v ≤ (99999 : Int32) by rw [show (99999 : Int32) = nI 99999 from rfl, sN_le (by omega) (by omega)]; exact hv), bi2_s]
      unfold f_X12_amount_j27
      rw [if_pos z3, inr v hv]
      by_cases c6 : (v : Int) < lo ∨ hi' < (v : Int)
      · rw [if_pos c6, if_pos rfl, if_pos (Or.inr c6), ef, bi1_s]
        exact ⟨_, f3.tr (frU_w _ (Or.inr rfl)), Or.inl ⟨_, _, dge n t b, rfl, rfl, wI_at _ _ _ _, by rw [wI_pl (by decide)]; exact a3, by omega, by omega, by omega⟩⟩
      · rw [if_neg c6, if_neg (show ¬ (1 : Int32) = 0 by decide), if_neg (show ¬ (5 < dge n t b - b ∨ (v : Int) < lo ∨ hi' < (v : Int)) from fun z => z.elim c5 c6)]
        exact ⟨m3, f3, Or.inr ⟨v, dge n t b, rfl, rfl, a3, z3, d2⟩⟩
  · rw [if_neg c, if_neg c, if_pos rfl, show (0 : Int32) = nI 0 from rfl, fails_0 b 0 z0, bi1_s, bi2_s]
    unfold f_X12_amount_j27
    rw [wI_at, if_neg (nz_ne (by omega) (by omega))]
    exact ⟨_, f0.tr (frU_w _ (Or.inr rfl)), Or.inl ⟨_, _, b, rfl, rfl, by rw [wI_at, Nat.add_zero], by rw [wI_pl (by decide)]; exact a0, by omega, by omega, by omega⟩⟩
/-- behind a fault an amount is 0 and nothing more is told -/
theorem amount_x {mm : Mm} {n : Nat} {t : Nat → Nat} (h : TxF mm n t) (ok : TxOk n t) {i : Nat} (ha : mm.1 1088 32 = nI i) (hi : i ≤ 500) (h0 : ¬ mm.1 1088 33 = 0) {x y : Int32} : f_X12_amount mm x y = some (0, wI mm 1088 32 (nI (bl n t i))) := by
  unfold f_X12_amount f_X12_amount_j27
  rw [blanks_f h ok ha hi, bi1_s, wI_pl (by decide), if_neg h0, if_neg h0]
