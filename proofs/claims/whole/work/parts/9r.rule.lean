/-! PHASE 2: rule, the reference's value -/
theorem ws_lte {n : Nat} {t : Nat → Nat} {b k : Nat} (h : ws n t b k = true) : lte n t b = b + sL.getD k 0 := by
  unfold ws at h
  rw [Bool.and_eq_true] at h
  have h1 := of_decide_eq_true h.1
  have h2 := (lte_ok n t b).1
  omega
theorem wo_len : ∀ w, w < 12 → sL.getD ((wl 2).getD w (0, 0, 0)).2.2 0 ≤ 7 ∧ 1 ≤ sL.getD ((wl 2).getD w (0, 0, 0)).2.2 0 := by decide +kernel
theorem onePart_l {b f : Nat} {x : Ps} (h : onePart b x = .inl f) (y : Ps) (e : y.2.2 = x.2.2) : onePart b y = .inl f := by
  unfold onePart at h ⊢
  rw [e]
  by_cases c : x.2.2 < 60
  · rw [if_pos c] at h
    exact absurd h (by simp)
  · rw [if_neg c] at h ⊢
    exact h
theorem onePart_r {b : Nat} {x y : Ps} (h : onePart b x = .inr y) : x.2.2 < 60 ∧ y = (x.1, x.2.1, x.2.2 + 1) := by
  unfold onePart at h
  by_cases c : x.2.2 < 60
  · rw [if_pos c] at h
    exact ⟨c, (Sum.inr.inj h).symm⟩
  · rw [if_neg c] at h
    exact absurd h (by simp)
theorem bl_B {n : Nat} {t : Nat → Nat} (ok : TxOk n t) {j B : Nat} (h : j ≤ B) (hB : 400 ≤ B) : bl n t j ≤ B := by
  have := ok.1
  by_cases q : j ≤ n
  · have := bl_le t q
    omega
  · rw [bl_hi t (by omega)]
    exact h
theorem val_f {m : Mm} {u n : Nat} {t : Nat → Nat} (h : TxF m n t) (ok : TxOk n t) (h12 : m.1 1088 40 = 12) (hu : u < 6) {x : Ps} (ha : m.1 1088 32 = nI x.1) (hi : x.1 ≤ n) (h0 : m.1 1088 33 = 0) (hE : eF m u x.2.1 x.2.2) (hp : x.2.2 ≤ 60) (hl : x.2.1.length < 300) : jQ u 410 m (f_X12_value m) (val n t x) := by
  have h4 := ok.1
  have hb := bl_le t hi
  obtain ⟨b, hbd⟩ : ∃ b, b = bl n t x.1 := ⟨_, rfl⟩
  obtain ⟨m0, hm0⟩ : ∃ m0, m0 = wI m 1088 32 (nI b) := ⟨_, rfl⟩
  have f0 : frU m m0 := by rw [hm0]; exact frU_w m (Or.inl rfl)
  have a0 : m0.1 1088 32 = nI b := by rw [hm0]; exact wI_at _ _ _ _
  have z0 : m0.1 1088 33 = 0 := by rw [hm0, wI_pl (by decide)]; exact h0
  have w0 : m0.1 1088 40 = 12 := by rw [f0.2 40 (by decide) (by decide)]; exact h12
  have hid : bl n t b = b := by rw [hbd, bl_id]
  have hE0 := eF_U f0 hE
  have t0 := f0.tx h
  unfold f_X12_value val
  rw [blanks_f h ok ha (by omega), bi1_s, ← hbd, ← hm0]
  rw [← hbd] at hb
  refine jQ.tr f0.j ?_
  rw [isDigit_f t0 ok a0 (by omega), bi1_s, a0]
  by_cases c : b < n ∧ isD (t b) = true
  · rw [if_pos c, if_neg (show ¬ (1 : Int32) = 0 by decide), if_pos c, show num n t x.1 0 99999 = num n t b 0 99999 by rw [hbd, num_bl]]
    obtain ⟨m1, f1, ⟨f, r, e1, e2, e3⟩ | ⟨v, e, e1, e2, e3, e4⟩⟩ := digits_f t0 ok a0 (by omega) z0 hid c
    · rw [e2, bi2_s, (counted_x e3).1, bi1_s, entry_x (flB_ne (counted_x (x := 0) e3).2), bi1_s, e1]
      exact Or.inl ⟨f, rfl, _, rfl, f1.j.tr (frJ_w _ (by omega)), (counted_x (x := 0) e3).2.mo (by omega)⟩
    · have hv := num_ok e1
      have he := hv.2.2.1
      rw [e2, bi2_s, e1]
      show jQ u 410 m0 _ (onePart b (e, x.2.1 ++ [(0, v)], x.2.2))
      rcases counted_f (B := 410) (eF_U f1 hE0) e3 (by omega) (b := b) (by omega) e4 hp with ⟨f, g1, m2, g2, g3, g4⟩ | ⟨m2, y, g1, g2, g3, g4, g5, g6⟩
      · rw [g2, bi1_s, entry_x (flB_ne g4), bi1_s]
        exact Or.inl ⟨f, onePart_l g1 _ rfl, _, rfl, f1.j.tr g3, g4⟩
      · obtain ⟨q1, q2⟩ := onePart_r g1
        subst q2
        rw [g2, bi1_s]
        obtain ⟨m3, k1, k2, k3, k4, k5⟩ := entry_f g6 hu hl g5 (s := 0) (v := v)
        rw [show f_X12_entry m2 0 (nI v) = some m3 from k1, bi1_s]
        have fj : frJ u m2 m3 := ⟨fun i hi => k2 i (by omega), fun k hk => k3 k (by omega), fun k hk => k4 k hk⟩
        exact Or.inr ⟨m3, (e, x.2.1 ++ [(0, v)], x.2.2 + 1), by unfold onePart; rw [if_pos q1], rfl, (f1.j.tr g3).tr fj, by rw [k3 32 (by decide)]; exact g4, by rw [k3 33 (by decide)]; exact g5, k5⟩
  · rw [if_neg c, if_pos rfl, if_neg c, word_f t0 ok a0 (by omega) w0, bi1_s, w0]
    have hf := fw_gen (n := n) (t := t) (b := b) (wl 2) 0
    rw [show (wl 2).length = 12 from rfl] at hf
    obtain ⟨k1, k2, k3⟩ := frst_ok 12 (fun j => ws n t b ((wl 2).getD j (0, 0, 0)).2.2)
    obtain ⟨w, hw⟩ : ∃ w, w = frst (fun j => ws n t b ((wl 2).getD j (0, 0, 0)).2.2) 12 := ⟨_, rfl⟩
    rw [← hw] at hf k1 k3 ⊢
    by_cases q : w < 12
    · rw [if_pos q, Nat.zero_add] at hf
      have hk : ws n t b ((wl 2).getD w (0, 0, 0)).2.2 = true := k3 q
      obtain ⟨o1, o2⟩ := wo_ok w q
      have o3 := (wo_len w q).1
      have o4 := ws_lte hk
      rw [hf, if_neg (show ¬ nI w = 12 by rw [K12, sN_eq (by omega) (by decide)]; omega), o1]
      obtain ⟨K, hK⟩ : ∃ K, K = ((wl 2).getD w (0, 0, 0)).2.2 := ⟨_, rfl⟩
      rw [← hK] at o2 o3 o4 ⊢
      show jQ u 410 m0 _ (onePart b (lte n t b, x.2.1 ++ [(1, w)], x.2.2))
      rcases counted_f (B := 400) hE0 a0 (by omega) (b := b) (by omega) z0 hp with ⟨f, g1, m2, g2, g3, g4⟩ | ⟨m2, y, g1, g2, g3, g4, g5, g6⟩
      · have nz := flB_ne g4
        obtain ⟨j1, j2, j3, j, j4, j5⟩ := g4
        rw [g2, bi1_s, vl_s, j5, show sLn K = nI (sL.getD K 0) from rfl, sN_ad, entry_x (by rw [wI_pl (by decide)]; exact nz), bi1_s]
        exact Or.inl ⟨f, onePart_l g1 _ rfl, _, rfl, g3.tr (frJ_w _ (by omega)), by rw [wI_pl (by decide)]; exact j1, j2, j3, j + sL.getD K 0, by omega, wI_at _ _ _ _⟩
      · obtain ⟨q1, q2⟩ := onePart_r g1
        subst q2
        have g4 : m2.1 1088 32 = nI b := g4
        rw [g2, bi1_s, vl_s, g4, show sLn K = nI (sL.getD K 0) from rfl, sN_ad, ← o4]
        have f3 : frU m2 (wI m2 1088 32 (nI (lte n t b))) := frU_w _ (Or.inl rfl)
        obtain ⟨m3, l1, l2, l3, l4, l5⟩ := entry_f (eF_U f3 g6) hu hl (by rw [wI_pl (by decide)]; exact g5) (s := 1) (v := w)
        rw [show f_X12_entry (wI m2 1088 32 (nI (lte n t b))) 1 (nI w) = some m3 from l1, bi1_s]
        have fj : frJ u (wI m2 1088 32 (nI (lte n t b))) m3 := ⟨fun i hi => l2 i (by omega), fun k hk => l3 k (by omega), fun k hk => l4 k hk⟩
        exact Or.inr ⟨m3, (lte n t b, x.2.1 ++ [(1, w)], x.2.2 + 1), by unfold onePart; rw [if_pos q1], rfl, (g3.tr f3.j).tr fj, by rw [l3 32 (by decide), wI_at], by rw [l3 33 (by decide), wI_pl (by decide)]; exact g5, l5⟩
    · rw [if_neg q] at hf
      rw [hf, if_pos (show nI w = 12 by rw [show w = 12 by omega]; rfl), show f_X12_fails m0 0 (nI b) = _ from fails_0 b 0 z0, bi1_s]
      exact Or.inl ⟨1 + 8 * b, rfl, _, rfl, frJ_w _ (by omega), wI_at _ _ _ _, by omega, by omega, b, by omega, by rw [wI_pl (by decide)]; exact a0⟩
/-- behind a fault a value is passed over -/
theorem value_x {m : Mm} {u n B f : Nat} {t : Nat → Nat} (h : TxF m n t) (ok : TxOk n t) (h12 : m.1 1088 40 = 12) (hf : flB B m f) (hB : 400 ≤ B) (hB' : B ≤ 480) : jX u (B + 7) m (f_X12_value m) f := by
  have h4 := ok.1
  have nz := flB_ne hf
  obtain ⟨j1, j2, j3, j, j4, j5⟩ := hf
  have hb := bl_B (t := t) ok j4 hB
  obtain ⟨b, hbd⟩ : ∃ b, b = bl n t j := ⟨_, rfl⟩
  obtain ⟨m0, hm0⟩ : ∃ m0, m0 = wI m 1088 32 (nI b) := ⟨_, rfl⟩
  have f0 : frU m m0 := by rw [hm0]; exact frU_w m (Or.inl rfl)
  have a0 : m0.1 1088 32 = nI b := by rw [hm0]; exact wI_at _ _ _ _
  have z0 : m0.1 1088 33 = nI f := by rw [hm0, wI_pl (by decide)]; exact j1
  have w0 : m0.1 1088 40 = 12 := by rw [f0.2 40 (by decide) (by decide)]; exact h12
  have t0 := f0.tx h
  rw [← hbd] at hb
  have fl0 : flB B m0 f := ⟨z0, j2, j3, b, hb, a0⟩
  unfold f_X12_value
  rw [blanks_f h ok j5 (by omega), bi1_s, ← hbd, ← hm0]
  refine jX.tr f0.j ?_
  rw [isDigit_f t0 ok a0 (by omega), bi1_s, a0]
  by_cases c : b < n ∧ isD (t b) = true
  · rw [if_pos c, if_neg (show ¬ (1 : Int32) = 0 by decide)]
    obtain ⟨d1, d2, d3⟩ := dge_ok n t b
    have d2 := d2 (by omega)
    obtain ⟨m3, hm3⟩ : ∃ m3, m3 = wI m0 1088 32 (nI (dge n t b)) := ⟨_, rfl⟩
    have f3 : frU m0 m3 := by rw [hm3]; exact frU_w _ (Or.inl rfl)
    have a3 : m3.1 1088 32 = nI (dge n t b) := by rw [hm3, wI_at]
    have z3 : m3.1 1088 33 = nI f := by rw [hm3, wI_pl (by decide)]; exact z0
    have fl3 : flB B m3 f := ⟨z3, j2, j3, dge n t b, by omega, a3⟩
    have e : ∃ r, f_X12_digits m0 99999 = some (r, m3) := by
      unfold f_X12_digits f_X12_digits_j87
      rw [isDigit_f t0 ok a0 (by omega), bi1_s, a0, if_pos c, if_neg (show ¬ (1 : Int32) = 0 by decide), digs_f t0 ok (by omega) a0, bi1_s]
      dsimp only
      rw [← hm3, fails_x (flB_ne fl3), bi1_s]
      split
      · exact ⟨_, rfl⟩
      · split <;> exact ⟨_, rfl⟩
    obtain ⟨r, e⟩ := e
    rw [e, bi2_s, (counted_x fl3).1, bi1_s, entry_x (flB_ne (counted_x (x := 0) fl3).2), bi1_s]
    exact ⟨_, rfl, f3.j.tr (frJ_w _ (by omega)), (counted_x (x := 0) fl3).2.mo (by omega)⟩
  · rw [if_neg c, if_pos rfl, word_f t0 ok a0 (by omega) w0, bi1_s, w0]
    obtain ⟨k1, k2, k3⟩ := frst_ok 12 (fun j => ws n t b ((wl 2).getD j (0, 0, 0)).2.2)
    obtain ⟨w, hw⟩ : ∃ w, w = frst (fun j => ws n t b ((wl 2).getD j (0, 0, 0)).2.2) 12 := ⟨_, rfl⟩
    rw [← hw] at k1 k3 ⊢
    by_cases q : w < 12
    · obtain ⟨o1, o2⟩ := wo_ok w q
      have o3 := (wo_len w q).1
      rw [if_neg (show ¬ nI w = 12 by rw [K12, sN_eq (by omega) (by decide)]; omega), o1, (counted_x fl0).1, bi1_s, vl_s]
      obtain ⟨K, hK⟩ : ∃ K, K = ((wl 2).getD w (0, 0, 0)).2.2 := ⟨_, rfl⟩
      rw [← hK] at o2 o3 ⊢
      rw [wI_pl (by decide), a0, show sLn K = nI (sL.getD K 0) from rfl, sN_ad, entry_x (by rw [wI_pl (by decide), wI_pl (by decide)]; exact flB_ne fl0), bi1_s]
      exact ⟨_, rfl, (frJ_w _ (by omega)).tr (frJ_w _ (by omega)), by rw [wI_pl (by decide), wI_pl (by decide)]; exact z0, j2, j3, b + sL.getD K 0, by omega, wI_at _ _ _ _⟩
    · rw [if_pos (show nI w = 12 by rw [show w = 12 by omega]; rfl), fails_x (flB_ne fl0), bi1_s]
      exact ⟨_, rfl, frJ.rf _ _, fl0.mo (by omega)⟩
