/-! PHASE 2: rapid, offer -/
theorem forceAt_none {mm : Mm} {ra : Nat} {x : Int32} (hr : mm.1 1089 5 = nI ra) (h6 : ra ≤ 6) (h : ∀ k, k < ra → ¬ mm.1 1102 k = x) : f_X12_forceAt mm x = some 0 := by
  unfold f_X12_forceAt
  have e : lp (f_X12_forceAt_s2 mm x) (nI 0) = some (.inr ()) := by
    refine lp_first (fun k => nI k) ra (fun k hk => ?_) ?_
    · unfold f_X12_forceAt_s2
      rw [hr, if_neg (show ¬ nI ra ≤ nI k from by rw [nI_le_iff (by omega) (by omega)]; omega), if_neg (gd_ok (show k < 6 by omega) (by decide)), cl_ok (by omega), if_neg (h k hk), nI_1]
    · unfold f_X12_forceAt_s2
      rw [hr, if_pos (show nI ra ≤ nI ra from by rw [nI_le_iff (by omega) (by omega)]; omega)]
  rw [show (0 : Int32) = nI 0 from rfl, e]
  rfl
theorem forceAt_some {mm : Mm} {ra q : Nat} {x : Int32} (hr : mm.1 1089 5 = nI ra) (h6 : ra ≤ 6) (hq : q < ra) (he : mm.1 1102 q = x) (h : ∀ k, k < q → ¬ mm.1 1102 k = x) : f_X12_forceAt mm x = some (mm.1 1103 q) := by
  unfold f_X12_forceAt
  have e : lp (f_X12_forceAt_s2 mm x) (nI 0) = some (.inl (nI q)) := by
    refine lp_first (fun k => nI k) q (fun k hk => ?_) ?_
    · unfold f_X12_forceAt_s2
      rw [hr, if_neg (show ¬ nI ra ≤ nI k from by rw [nI_le_iff (by omega) (by omega)]; omega), if_neg (gd_ok (show k < 6 by omega) (by decide)), cl_ok (by omega), if_neg (h k hk), nI_1]
    · unfold f_X12_forceAt_s2
      rw [hr, if_neg (show ¬ nI ra ≤ nI q from by rw [nI_le_iff (by omega) (by omega)]; omega), if_neg (gd_ok (show q < 6 by omega) (by decide)), cl_ok (by omega), if_pos he]
  rw [show (0 : Int32) = nI 0 from rfl, e, bi1_s]
  show (if nI q < 0 ∨ 6 ≤ (nI q).toNatClampNeg then none else some (mm.1 1103 (nI q).toNatClampNeg)) = _
  rw [if_neg (gd_ok (show q < 6 by omega) (by decide)), cl_ok (by omega)]
/-- the reference's force at a mile is the class's -/
theorem forceAt_ok {mm : Mm} (hS : SimS (cS mm 26) (fS mm)) {m : Nat} (hm : m < 100) : f_X12_forceAt mm (nI m) = some (mm.1 32 m) := by
  obtain ⟨nm, no, nt, ra, na, ol, nf, h1, h2, h3, h4, h5, h6, h7, h8, h9⟩ := hS
  have hr : mm.1 1089 5 = nI ra := h2.2.2.2.2.2.2.2.1
  by_cases h : ∃ k, k < ra ∧ mm.1 1102 k = nI m
  · obtain ⟨k, ⟨hk, ek⟩, hmin⟩ := pk_least _ h
    obtain ⟨m', fo, g1, g2, g3, g4, g5, g6, g7, g8⟩ := h5 k hk
    have g5' : mm.1 1102 k = nI m' := g5
    have em : m' = m := by
      rw [g5', nI_eq_iff (by omega) (by omega)] at ek
      exact ek
    subst em
    have g6' : mm.1 1103 k = nI fo := g6
    have g7' : mm.1 32 m' = nI fo := g7
    rw [forceAt_some hr h1.2.2.2.1 hk ek (fun j hj e => hmin j hj ⟨by omega, e⟩), g6', g7']
  · rw [forceAt_none hr h1.2.2.2.1 (fun k hk e => h ⟨k, hk, e⟩)]
    have : mm.1 32 m = 0 := h6 m hm (fun k hk e => h ⟨k, hk, e⟩)
    rw [this]
theorem in0_spec (x : Int32) (n : Nat) (hn : n ≤ 1000) : f_X12_in x.toInt64 (0 : Int64) (nI n).toInt64 = if x < 0 ∨ nI n < x then 0 else 1 := by
  rw [show (0 : Int64) = (0 : Int32).toInt64 from rfl, in_spec]
  by_cases h1 : x < 0
  · rw [if_pos (Or.inl h1), if_neg (fun z => by have := z.1; rw [le0_toInt] at this; rw [lt0_toInt] at h1; omega)]
  · by_cases h2 : nI n < x
    · rw [if_pos (Or.inr h2), if_neg (fun z => by have h3 := z.2; rw [Int32.le_iff_toInt_le] at h3; rw [Int32.lt_iff_toInt_lt] at h2; omega)]
    · rw [if_pos ⟨nlt0.mp h1, by rw [Int32.le_iff_toInt_le]; rw [Int32.lt_iff_toInt_lt] at h2; omega⟩, if_neg (fun z => z.elim h1 h2)]
theorem hasRiver_ok {mm : Mm} {nm : Nat} (h : mm.1 27 0 = nI nm) (hn : nm ≤ 99) : f_X11_hasRiver mm = if nm = 0 then 0 else 1 := by
  unfold f_X11_hasRiver
  rw [h]
  by_cases h0 : nm = 0
  · rw [if_pos h0, if_pos (by rw [h0]; decide)]
  · rw [if_neg h0, if_neg (nI_nle (by omega) (by omega))]
theorem isRiver_ok {mm : Mm} {nm : Nat} (h : mm.1 1089 0 = nI nm) (hn : nm ≤ 99) : f_X12_isRiver mm = if nm = 0 then 0 else 1 := by
  unfold f_X12_isRiver
  rw [h]
  by_cases h0 : nm = 0
  · rw [if_pos h0, if_pos (by rw [h0]; decide)]
  · rw [if_neg h0, if_neg (nI_nle (by omega) (by omega))]
theorem sm_rapid_ok : sm_rapid Inv := by
  intro mm x hInv
  have hS := hInv.2.2.1
  obtain ⟨nm, no, nt, ra, na, ol, nf, h1, h2, h3, h4, h5, h6, h7, h8, h9⟩ := id hS
  have c0 : mm.1 27 0 = nI nm := h2.1
  have f0 : mm.1 1089 0 = nI nm := h2.2.1
  unfold f_X11_rapid f_X12_rapid
  rw [hasRiver_ok c0 h1.1, isRiver_ok f0 h1.1]
  by_cases hz : nm = 0
  · exact ⟨-1, by rw [if_pos (if_pos hz)], by rw [if_pos (if_pos hz)], hInv⟩
  · have hne : ¬ (if nm = 0 then (0 : Int32) else 1) = 0 := by rw [if_neg hz]; decide
    rw [if_neg hne, if_neg hne, f0, c0, in0_spec x nm (by omega)]
    by_cases hx : x < 0
    · exact ⟨-1, by rw [if_pos hx], by rw [if_pos (if_pos (Or.inl hx))], hInv⟩
    · rw [if_neg hx]
      by_cases hx2 : x ≤ nI nm
      · obtain ⟨j, hj, e⟩ := nI_of2 (M := nI nm) (n := nm) (nI_toInt (by omega)) hx hx2
        subst e
        have hni : ¬ (nI j < 0 ∨ nI nm < nI j) := fun z => z.elim hx (fun y => by rw [nI_lt_iff (by omega) (by omega)] at y; omega)
        rw [if_pos hx2, if_neg (gd_ok (show j < 100 by omega) (by decide)), cl_ok (by omega), if_neg (show ¬ (if nI j < 0 ∨ nI nm < nI j then (0 : Int32) else 1) = 0 from by rw [if_neg hni]; decide), forceAt_ok hS (by omega)]
        exact ⟨mm.1 32 j, rfl, rfl, hInv⟩
      · have hni : x < 0 ∨ nI nm < x := Or.inr (by rw [Int32.lt_iff_toInt_lt]; rw [Int32.le_iff_toInt_le] at hx2; omega)
        exact ⟨-1, by rw [if_neg hx2], by rw [if_pos (if_pos hni)], hInv⟩
