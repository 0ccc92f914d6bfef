/-! PHASE 2: rule, the reference's value -/
theorem fw_gen {n : Nat} {t : Nat → Nat} {b : Nat} : ∀ (l : List Sg) (w : Nat), fw n t b l w = if frst (fun j => ws n t b (l.getD j (0, 0, 0)).2.2) l.length < l.length then some (w + frst (fun j => ws n t b (l.getD j (0, 0, 0)).2.2) l.length) else none
  | [], w => rfl
  | (a, y, k) :: r, w => by
    show (if ws n t b k then some w else fw n t b r (w + 1)) = _
    rw [List.length_cons, show frst (fun j => ws n t b (((a, y, k) :: r).getD j (0, 0, 0)).2.2) (r.length + 1) = if ws n t b k then 0 else 1 + frst (fun j => ws n t b (r.getD j (0, 0, 0)).2.2) r.length from rfl]
    by_cases c : ws n t b k = true
    · rw [if_pos c, if_pos c, if_pos (by omega)]
      rfl
    · rw [if_neg c, if_neg c, fw_gen r (w + 1)]
      by_cases d : frst (fun j => ws n t b (r.getD j (0, 0, 0)).2.2) r.length < r.length
      · rw [if_pos d, if_pos (by omega)]
        congr 1
        omega
      · rw [if_neg d, if_neg (by omega)]
theorem wo_ok : ∀ w, w < 12 → f_X12_wordOf (nI w) = ((wl 2).getD w (0, 0, 0)).2.2 ∧ ((wl 2).getD w (0, 0, 0)).2.2 < 24 := by unfold f_X12_wordOf; decide +kernel
theorem word_f {m0 : Mm} {n : Nat} {t : Nat → Nat} (tx0 : TxF m0 n t) (ok : TxOk n t) {b : Nat} (a0 : m0.1 1088 32 = nI b) (hb : b ≤ 500) (h12 : m0.1 1088 40 = 12) {y : Int32} : lp (f_X12_value_s38 m0 y) (0 : Int32) = some (nI (frst (fun j => ws n t b ((wl 2).getD j (0, 0, 0)).2.2) 12)) := by
  obtain ⟨k1, k2, k3⟩ := frst_ok 12 (fun j => ws n t b ((wl 2).getD j (0, 0, 0)).2.2)
  have step : ∀ k, k < 12 → f_X12_value_s38 m0 y (nI k) = if ws n t b ((wl 2).getD k (0, 0, 0)).2.2 then some (.inr (nI k)) else some (.inl (nI (k + 1))) := fun k hk => by
    unfold f_X12_value_s38
    rw [h12, if_neg (by rw [K12, sN_le (by omega) (by omega)]; omega), (wo_ok k hk).1, stood_f tx0 ok a0 hb (wo_ok k hk).2, bi1_s, sN_a1]
    cases ws n t b ((wl 2).getD k (0, 0, 0)).2.2 <;> rfl
  refine lpf (fun k => nI k) (frst (fun j => ws n t b ((wl 2).getD j (0, 0, 0)).2.2) 12) rfl (fun k hk => ?_) ?_
  · have := k2 k hk
    rw [step k (by omega), show ws n t b ((wl 2).getD k (0, 0, 0)).2.2 = false from this]
    rfl
  · by_cases q : frst (fun j => ws n t b ((wl 2).getD j (0, 0, 0)).2.2) 12 < 12
    · have := k3 q
      rw [step _ q, show ws n t b ((wl 2).getD (frst (fun j => ws n t b ((wl 2).getD j (0, 0, 0)).2.2) 12) (0, 0, 0)).2.2 = true from this]
      rfl
    · unfold f_X12_value_s38
      rw [h12, if_pos (by rw [K12, sN_le (by omega) (by omega)]; omega)]
