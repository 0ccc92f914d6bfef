/-! PHASE 2: rule, the reference's value -/
theorem digits_f {m0 : Mm} {n : Nat} {t : Nat → Nat} (tx0 : TxF m0 n t) (ok : TxOk n t) {b : Nat} (a0 : m0.1 1088 32 = nI b) (hb : b ≤ 500) (z0 : m0.1 1088 33 = 0) (hid : bl n t b = b) (c : b < n ∧ isD (t b) = true) : ∃ m1, frU m0 m1 ∧ ((∃ f r, num n t b 0 99999 = .inl f ∧ f_X12_digits m0 (99999 : Int32) = some (r, m1) ∧ flB 400 m1 f) ∨ ∃ v e, num n t b 0 99999 = .inr (v, e) ∧ f_X12_digits m0 (99999 : Int32) = some (nI v, m1) ∧ m1.1 1088 32 = nI e ∧ m1.1 1088 33 = 0) := by
  have h4 := ok.1
  unfold f_X12_digits num
  rw [isDigit_f tx0 ok a0 (by omega), bi1_s, a0, hid]
  obtain ⟨d1, d2, d3⟩ := dge_ok n t b
  have d2 := d2 (by omega)
  have hv := dv_bd d3
  rw [if_pos c, if_pos c, if_neg (show ¬ (1 : Int32) = 0 by decide), digs_f tx0 ok (by omega) a0, bi1_s]
  dsimp only
  obtain ⟨m3, hm3⟩ : ∃ m3, m3 = wI m0 1088 32 (nI (dge n t b)) := ⟨_, rfl⟩
  have f3 : frU m0 m3 := by rw [hm3]; exact frU_w _ (Or.inl rfl)
  have a3 : m3.1 1088 32 = nI (dge n t b) := by rw [hm3, wI_at]
  have z3 : m3.1 1088 33 = 0 := by rw [hm3, wI_pl (by decide)]; exact z0
  obtain ⟨v, hv'⟩ : ∃ v, v = dv t b (dge n t b - b) := ⟨_, rfl⟩
  rw [← hm3, a3, nI_sub' d1, ← hv']
  rw [← hv'] at hv
  by_cases c5 : 5 < dge n t b - b
  · rw [if_pos (Or.inl c5), if_pos (by rw [K5, sN_lt (by omega) (by omega)]; exact c5)]
    unfold f_X12_digits_j87
    rw [K1, fails_0 b 1 z3, bi1_s, show 1 + 8 * b + 1 = 2 + 8 * b by omega]
    exact ⟨_, f3.tr (frU_w _ (Or.inr rfl)), Or.inl ⟨_, _, rfl, rfl, wI_at _ _ _ _, by omega, by omega, dge n t b, by omega, by rw [wI_pl (by decide)]; exact a3⟩⟩
  · rw [if_neg (show ¬ (5 : Int32) < nI (dge n t b - b) by rw [K5, sN_lt (by omega) (by omega)]; exact c5), if_pos (show nI v ≤ (99999 : Int32) by rw [show (99999 : Int32) = nI 99999 from rfl, sN_le (by omega) (by omega)]; exact hv), if_neg (show ¬ (5 < dge n t b - b ∨ (v : Int) < 0 ∨ 99999 < (v : Int)) by omega)]
    exact ⟨m3, f3, Or.inr ⟨v, dge n t b, rfl, rfl, a3, z3⟩⟩
