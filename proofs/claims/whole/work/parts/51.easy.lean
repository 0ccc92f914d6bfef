/-! PHASE 2, the easy calls -/
theorem wI_ne {m : Mm} {i k j : Nat} {x : Int32} (h : j ≠ i) : (wI m i k x).1 j = m.1 j := va_up_ne _ _ h
theorem wI_at (m : Mm) (i k : Nat) (x : Int32) : (wI m i k x).1 i k = x := by rw [wI_get, if_pos ⟨rfl, rfl⟩]
theorem wI_pl {m : Mm} {i k l : Nat} {x : Int32} (h : l ≠ k) : (wI m i k x).1 i l = m.1 i l := by rw [wI_get, if_neg (fun z => h z.2)]
theorem gd_ok {k n : Nat} (h : k < n) (hn : n ≤ 100000) : ¬ (nI k < 0 ∨ n ≤ (nI k).toNatClampNeg) := vp_in_nI h (by omega)
theorem cl_ok {k : Nat} (h : k < 100000) : (nI k).toNatClampNeg = k := nI_clamp (by omega)
/-- an Int32 is a small number, or below 0, or not below a bound -/
theorem i_cases (x : Int32) (n : Nat) (hn : n ≤ 100000) : x < 0 ∨ nI n ≤ x ∨ ∃ j : Nat, j < n ∧ x = nI j := pk_ix x (by omega)
theorem lt0_toInt {x : Int32} : x < 0 ↔ x.toInt < 0 := by rw [Int32.lt_iff_toInt_lt]; rfl
theorem le0_toInt {x : Int32} : 0 ≤ x ↔ 0 ≤ x.toInt := by rw [Int32.le_iff_toInt_le]; rfl
theorem nlt0 {x : Int32} : ¬ x < 0 ↔ 0 ≤ x := by rw [lt0_toInt, le0_toInt]; omega
theorem in_spec (x lo hi : Int32) : f_X12_in x.toInt64 lo.toInt64 hi.toInt64 = if lo ≤ x ∧ x ≤ hi then 1 else 0 := by
  unfold f_X12_in lg_cmp
  have e1 : ∀ a b : Int32, (a.toInt64 > b.toInt64) = (b < a) := fun a b => by
    rw [gt_iff_lt, Int64.lt_iff_toInt_lt, Int32.toInt_toInt64, Int32.toInt_toInt64, ← Int32.lt_iff_toInt_lt]
  have e2 : ∀ a b : Int32, (a.toInt64 = b.toInt64) = (a = b) := fun a b => by
    rw [← Int64.toInt_inj, Int32.toInt_toInt64, Int32.toInt_toInt64, Int32.toInt_inj]
  simp only [e1, e2]
  have t : ∀ a b : Int32, a < b ↔ a.toInt < b.toInt := fun a b => Int32.lt_iff_toInt_lt
  have t2 : ∀ a b : Int32, a ≤ b ↔ a.toInt ≤ b.toInt := fun a b => Int32.le_iff_toInt_le
  have t3 : ∀ a b : Int32, a = b ↔ a.toInt = b.toInt := fun a b => Int32.toInt_inj.symm
  by_cases h1 : lo < x
  · rw [if_pos h1, if_neg (by decide)]
    by_cases h2 : hi < x
    · rw [if_pos h2, if_pos (by decide), if_neg (fun z => by rw [t2] at z; rw [t] at h2; have := z.2; rw [t2] at this; omega)]
    · rw [if_neg h2]
      by_cases h3 : x = hi
      · rw [if_pos h3, if_neg (by decide), if_pos ⟨by rw [t2]; rw [t] at h1; omega, by rw [t2, h3]; omega⟩]
      · rw [if_neg h3, if_neg (by decide), if_pos ⟨by rw [t2]; rw [t] at h1; omega, by rw [t2]; rw [t] at h2; omega⟩]
  · rw [if_neg h1]
    by_cases h3 : x = lo
    · rw [if_pos h3, if_neg (by decide)]
      by_cases h2 : hi < x
      · rw [if_pos h2, if_pos (by decide), if_neg (fun z => by have := z.2; rw [t2] at this; rw [t] at h2; omega)]
      · rw [if_neg h2]
        by_cases h4 : x = hi
        · rw [if_pos h4, if_neg (by decide), if_pos ⟨by rw [t2, h3]; omega, by rw [t2, h4]; omega⟩]
        · rw [if_neg h4, if_neg (by decide), if_pos ⟨by rw [t2, h3]; omega, by rw [t2]; rw [t] at h2; omega⟩]
    · rw [if_neg h3, if_pos (by decide), if_neg (fun z => by have := z.1; rw [t2] at this; rw [t] at h1; rw [t3] at h3; omega)]
theorem sm_seed_ok : sm_seed Inv := by
  intro mm x ⟨hT, hL, hS, hI⟩
  unfold f_X11_seed f_X12_seed
  by_cases h : 0 ≤ x
  · have hx := hS
    obtain ⟨nm, no, nt, ra, na, ol, nf, h1, h2, h3, h4, h5, h6, h7, h8, h9⟩ := hS
    obtain ⟨g0, g1, g2, g3, g4, g5, g6, g7, g8, g9, g10, g11, g12, g13, g14⟩ := h2
    refine ⟨mm.1 26 9, wI mm 26 9 x, wI (wI mm 26 9 x) 1089 8 x, ?_, ?_, ?_⟩
    · rw [if_pos h]
      rfl
    · rw [if_pos h]
      show some ((wI mm 26 9 x).1 1089 8, _) = _
      rw [wI_ne (by decide)]
      have e : mm.1 26 9 = mm.1 1089 8 := g13
      rw [e]
    · have ec : ∀ j, j < 200 → j ≠ 0 → cS (wI (wI mm 26 9 x) 1089 8 x) 26 j = cS mm 26 j := fun j hj hne => by
        unfold cS
        funext k
        rw [wI_ne (by omega), wI_ne (by omega)]
      have ef : ∀ j, j < 20 → j ≠ 1 → fS (wI (wI mm 26 9 x) 1089 8 x) j = fS mm j := fun j hj hne => by
        funext k
        unfold fS
        rw [wI_ne (by decide), wI_ne (by decide), wI_ne (by decide), wI_ne (by decide)]
        by_cases q0 : j = 0
        · rw [if_pos q0, if_pos q0]
        · rw [if_neg q0, if_neg q0]
          by_cases q1 : j = 19
          · rw [if_pos q1, if_pos q1]
          · rw [if_neg q1, if_neg q1, wI_ne (by omega), wI_ne (by omega)]
      have e0 : ∀ k, k ≠ 9 → cS (wI (wI mm 26 9 x) 1089 8 x) 26 0 k = cS mm 26 0 k := fun k hk => by
        show (wI (wI mm 26 9 x) 1089 8 x).1 26 k = mm.1 26 k
        rw [wI_ne (by decide), wI_pl hk]
      have e1 : ∀ k, k ≠ 8 → fS (wI (wI mm 26 9 x) 1089 8 x) 1 k = fS mm 1 k := fun k hk => by
        show (wI (wI mm 26 9 x) 1089 8 x).1 1089 k = mm.1 1089 k
        rw [wI_pl hk, wI_ne (by decide)]
      have e9 : cS (wI (wI mm 26 9 x) 1089 8 x) 26 0 9 = x := by
        show (wI (wI mm 26 9 x) 1089 8 x).1 26 9 = x
        rw [wI_ne (by decide), wI_at]
      have e8 : fS (wI (wI mm 26 9 x) 1089 8 x) 1 8 = x := wI_at _ _ _ _
      refine ⟨SimT_eq (by rw [wI_ne (by decide), wI_ne (by decide)]) (by rw [wI_ne (by decide), wI_ne (by decide)]) (by rw [wI_ne (by decide), wI_ne (by decide)]) (by rw [wI_ne (by decide), wI_ne (by decide)]) hT, SimL_eq (by rw [wI_ne (by decide), wI_ne (by decide)]) (by rw [wI_ne (by decide), wI_ne (by decide)]) (by rw [wI_ne (by decide), wI_ne (by decide)]) (fun i _ _ => by rw [wI_ne (by omega), wI_ne (by omega)]) (fun i _ _ => by rw [wI_ne (by omega), wI_ne (by omega)]) hL, ?_, SimI_eq (by rw [wI_ne (by decide), wI_ne (by decide)]) (by rw [wI_ne (by decide), wI_ne (by decide)]) (fun i _ _ => by rw [wI_ne (by omega), wI_ne (by omega)]) (by rw [wI_ne (by decide), wI_ne (by decide)]) hI⟩
      refine ⟨nm, no, nt, ra, na, ol, nf, h1, ?_, ?_, ?_, ?_, ?_, ?_, SimR_eq (fun j hj => ?_) (fun j hj => ?_) h8, fun a ha => SimR_eq (fun j hj => ?_) (fun j _ => by rw [gP_eq (ef 19 (by decide) (by decide))]) (h9 a ha)⟩
      · rw [ec 1 (by decide) (by decide), ef 0 (by decide) (by decide), e0 4 (by decide), e0 3 (by decide), e0 5 (by decide), e1 0 (by decide), e1 2 (by decide), e1 3 (by decide), e1 5 (by decide), e1 7 (by decide), e9, e8]
        exact ⟨g0, g1, g2, g3, g4, g5, g6, g7, g8, g9, g10, g11, g12, rfl, h⟩
      · rw [ec 2 (by decide) (by decide), ec 3 (by decide) (by decide), ef 2 (by decide) (by decide), ef 3 (by decide) (by decide)]; exact h3
      · rw [ec 4 (by decide) (by decide), ec 5 (by decide) (by decide), ef 6 (by decide) (by decide), ef 8 (by decide) (by decide)]; exact h4
      · rw [ec 6 (by decide) (by decide), ef 14 (by decide) (by decide), ef 15 (by decide) (by decide)]; exact h5
      · rw [ec 6 (by decide) (by decide), ef 14 (by decide) (by decide)]; exact h6
      · rw [ec 17 (by decide) (by decide), ec 18 (by decide) (by decide), ec 19 (by decide) (by decide), ef 16 (by decide) (by decide), ef 17 (by decide) (by decide), ef 18 (by decide) (by decide)]; exact h7
      · unfold cR
        rw [ec _ (by omega) (by omega)]
      · funext k
        unfold gR
        by_cases q0 : j = 0
        · rw [if_pos q0, if_pos q0, e1 6 (by decide), e1 1 (by decide), e1 4 (by decide)]
        · rw [if_neg q0, if_neg q0]
          have := (show ∀ j, j < 9 → j ≠ 0 → [0, 4, 5, 7, 9, 10, 11, 12, 13].getD j 0 < 20 ∧ [0, 4, 5, 7, 9, 10, 11, 12, 13].getD j 0 ≠ 1 by decide) j hj q0
          rw [ef _ this.1 this.2]
      · unfold cR
        have : (ol + a) % 20 < 20 := Nat.mod_lt _ (by decide)
        rw [ec _ (by omega) (by omega)]
  · refine ⟨-1, mm, mm, ?_, ?_, hT, hL, hS, hI⟩
    · rw [if_neg h]
    · rw [if_neg h]
theorem sm_end_ok : sm_end Inv := by
  intro mm x ⟨hT, hL, hS, hI⟩
  unfold f_X11_end f_X12_end
  obtain ⟨tl, t1, t2, t3, t4⟩ := id hT
  by_cases h : x < 0
  · exact ⟨-1, mm, mm, by rw [if_pos h], by rw [if_pos h], hT, hL, hS, hI⟩
  · by_cases h2 : x ≤ nI tl
    · obtain ⟨j, hj, e⟩ := nI_of2 (M := nI tl) (n := tl) (nI_toInt (by omega)) h h2
      refine ⟨x, wI mm 1 1 x, wI (wI mm 1 1 x) 1088 31 x, ?_, ?_, ?_⟩
      · rw [if_neg h, t2, if_pos h2]
        rfl
      · rw [if_neg h, wI_ne (by decide), t3, if_pos h2]
        rfl
      · refine ⟨⟨j, by omega, ?_, ?_, fun k hk => ?_⟩, SimL_eq (by rw [wI_ne (by decide), wI_ne (by decide)]) (by rw [wI_pl (by decide), wI_ne (by decide)]) (by rw [wI_pl (by decide), wI_ne (by decide)]) (fun i _ _ => by rw [wI_ne (by omega), wI_ne (by omega)]) (fun i _ _ => by rw [wI_ne (by omega), wI_ne (by omega)]) hL, SimN_eq (fun i _ _ => by rw [wI_ne (by omega), wI_ne (by omega)]) (fun i _ _ => by rw [wI_ne (by omega), wI_ne (by omega)]) (by rw [wI_pl (by decide), wI_ne (by decide)]) (by rw [wI_ne (by decide), wI_ne (by decide)]) hS, SimI_eq (by rw [wI_ne (by decide), wI_ne (by decide)]) (by rw [wI_ne (by decide), wI_ne (by decide)]) (fun i _ _ => by rw [wI_ne (by omega), wI_ne (by omega)]) (by rw [wI_ne (by decide), wI_ne (by decide)]) hI⟩
        · rw [wI_ne (by decide), wI_at, e]
        · rw [wI_at, e]
        · rw [wI_ne (by decide), wI_ne (by decide), wI_ne (by decide), wI_ne (by decide)]
          exact t4 k (by omega)
    · refine ⟨-1, mm, mm, ?_, ?_, hT, hL, hS, hI⟩
      · rw [if_neg h, t2, if_neg h2]
      · rw [if_neg h, t3, if_neg h2]
