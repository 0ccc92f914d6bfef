/-! PHASE 2: feed, rope -/
def F5 (x1 x2 x3 x4 x5 : Int32) (j : Nat) : Int32 := if j < 4 then byt x1 j else if j < 8 then byt x2 (j - 4) else if j < 12 then byt x3 (j - 8) else if j < 16 then byt x4 (j - 12) else byt x5 (j - 16)
theorem F5_byte (x1 x2 x3 x4 x5 : Int32) (j : Nat) : ∃ z : Int32, F5 x1 x2 x3 x4 x5 j = z.toInt8.toInt32 := by
  unfold F5
  by_cases h1 : j < 4
  · rw [if_pos h1]; exact byt_byte _ _
  · rw [if_neg h1]
    by_cases h2 : j < 8
    · rw [if_pos h2]; exact byt_byte _ _
    · rw [if_neg h2]
      by_cases h3 : j < 12
      · rw [if_pos h3]; exact byt_byte _ _
      · rw [if_neg h3]
        by_cases h4 : j < 16
        · rw [if_pos h4]; exact byt_byte _ _
        · rw [if_neg h4]; exact byt_byte _ _
def put5 (cl cb lp0 : Nat) (x1 x2 x3 x4 x5 : Int32) (m : Mm) (n : Nat) : Mm := putN cl cb lp0 x5 4 (putN cl cb lp0 x4 4 (putN cl cb lp0 x3 4 (putN cl cb lp0 x2 4 (putN cl cb lp0 x1 4 m n) (n + 4)) (n + 8)) (n + 12)) (n + 16)
theorem put5_ne {cl cb lp0 : Nat} {x1 x2 x3 x4 x5 : Int32} {m : Mm} {n i : Nat} (h1 : i ≠ cl) (h2 : i ≠ cb) : (put5 cl cb lp0 x1 x2 x3 x4 x5 m n).1 i = m.1 i := by
  unfold put5
  rw [putN_ne _ _ h1 h2, putN_ne _ _ h1 h2, putN_ne _ _ h1 h2, putN_ne _ _ h1 h2, putN_ne _ _ h1 h2]
theorem put5_pl {cl cb lp0 : Nat} {x1 x2 x3 x4 x5 : Int32} {m : Mm} {n k : Nat} (hc : cl ≠ cb) (h : k ≠ lp0) : (put5 cl cb lp0 x1 x2 x3 x4 x5 m n).1 cl k = m.1 cl k := by
  unfold put5
  rw [putN_pl hc _ _ h, putN_pl hc _ _ h, putN_pl hc _ _ h, putN_pl hc _ _ h, putN_pl hc _ _ h]
theorem put5_b {cl cb lp0 : Nat} {x1 x2 x3 x4 x5 : Int32} {m : Mm} {n k : Nat} (hc : cl ≠ cb) : (put5 cl cb lp0 x1 x2 x3 x4 x5 m n).1 cb k = if n ≤ k ∧ k < n + 20 then F5 x1 x2 x3 x4 x5 (k - n) else m.1 cb k := by
  unfold put5 F5
  rw [putN_b hc, putN_b hc, putN_b hc, putN_b hc, putN_b hc]
  by_cases h0 : n ≤ k ∧ k < n + 20
  · rw [if_pos h0]
    by_cases h1 : k - n < 4
    · rw [if_pos h1, if_neg (by omega), if_neg (by omega), if_neg (by omega), if_neg (by omega), if_pos (by omega)]
    · rw [if_neg h1]
      by_cases h2 : k - n < 8
      · rw [if_pos h2, if_neg (by omega), if_neg (by omega), if_neg (by omega), if_pos (by omega), show k - (n + 4) = k - n - 4 by omega]
      · rw [if_neg h2]
        by_cases h3 : k - n < 12
        · rw [if_pos h3, if_neg (by omega), if_neg (by omega), if_pos (by omega), show k - (n + 8) = k - n - 8 by omega]
        · rw [if_neg h3]
          by_cases h4 : k - n < 16
          · rw [if_pos h4, if_neg (by omega), if_pos (by omega), show k - (n + 12) = k - n - 12 by omega]
          · rw [if_neg h4, if_pos (by omega), show k - (n + 16) = k - n - 16 by omega]
  · rw [if_neg h0, if_neg (by omega), if_neg (by omega), if_neg (by omega), if_neg (by omega), if_neg (by omega)]
theorem put5_len {cl cb lp0 : Nat} {x1 x2 x3 x4 x5 : Int32} {m : Mm} {n : Nat} (hc : cl ≠ cb) (h : m.1 cl lp0 = nI n) : (put5 cl cb lp0 x1 x2 x3 x4 x5 m n).1 cl lp0 = nI (n + 20) := by
  unfold put5
  have e1 := putN_len (x := x1) hc h 4
  have e2 := putN_len (x := x2) hc e1 4
  have e3 := putN_len (x := x3) hc e2 4
  have e4 := putN_len (x := x4) hc e3 4
  exact putN_len (x := x5) hc e4 4
theorem feedC {m : Mm} {n : Nat} (h : m.1 1 1 = nI n) (hn : n + 20 ≤ 400) (x1 x2 x3 x4 x5 : Int32) : f_X11_feed m x1 x2 x3 x4 x5 = some (nI (n + 20), put5 1 2 1 x1 x2 x3 x4 x5 m n) := by
  unfold f_X11_feed
  have e1 := putN_len (cl := 1) (cb := 2) (x := x1) (by decide) h 4
  have e2 := putN_len (cl := 1) (cb := 2) (x := x2) (by decide) e1 4
  have e3 := putN_len (cl := 1) (cb := 2) (x := x3) (by decide) e2 4
  have e4 := putN_len (cl := 1) (cb := 2) (x := x4) (by decide) e3 4
  rw [h, if_pos (show nI n + 20 ≤ (400 : Int32) from by rw [show (20 : Int32) = nI 20 from rfl, nI_add]; exact nI_le (b := 400) (by omega) (by decide)), append_ok h (by omega), bi1_s, append_ok e1 (by omega), bi1_s, append_ok e2 (by omega), bi1_s, append_ok e3 (by omega), bi1_s, append_ok e4 (by omega), bi1_s]
  show some ((put5 1 2 1 x1 x2 x3 x4 x5 m n).1 1 1, put5 1 2 1 x1 x2 x3 x4 x5 m n) = _
  rw [put5_len (by decide) h]
theorem feedF {m : Mm} {n : Nat} (h : m.1 1088 31 = nI n) (hn : n + 20 ≤ 400) (x1 x2 x3 x4 x5 : Int32) : f_X12_feed m x1 x2 x3 x4 x5 = some (nI (n + 20), put5 1088 1119 31 x1 x2 x3 x4 x5 m n) := by
  unfold f_X12_feed
  have e1 := putN_len (cl := 1088) (cb := 1119) (x := x1) (by decide) h 4
  have e2 := putN_len (cl := 1088) (cb := 1119) (x := x2) (by decide) e1 4
  have e3 := putN_len (cl := 1088) (cb := 1119) (x := x3) (by decide) e2 4
  have e4 := putN_len (cl := 1088) (cb := 1119) (x := x4) (by decide) e3 4
  rw [h, if_pos (show nI n + 20 ≤ (400 : Int32) from by rw [show (20 : Int32) = nI 20 from rfl, nI_add]; exact nI_le (b := 400) (by omega) (by decide)), put_ok h (by omega), bi1_s, put_ok e1 (by omega), bi1_s, put_ok e2 (by omega), bi1_s, put_ok e3 (by omega), bi1_s, put_ok e4 (by omega), bi1_s]
  show some ((put5 1088 1119 31 x1 x2 x3 x4 x5 m n).1 1088 31, put5 1088 1119 31 x1 x2 x3 x4 x5 m n) = _
  rw [put5_len (by decide) h]
theorem sm_feed_ok : sm_feed Inv := by
  intro mm x1 x2 x3 x4 x5 ⟨hT, hL, hS, hI⟩
  obtain ⟨tl, t1, t2, t3, t4⟩ := id hT
  by_cases h : tl + 20 ≤ 400
  · have t3' : (put5 1 2 1 x1 x2 x3 x4 x5 mm tl).1 1088 31 = nI tl := by rw [put5_ne (by decide) (by decide)]; exact t3
    refine ⟨_, _, _, feedC t2 h x1 x2 x3 x4 x5, feedF t3' h x1 x2 x3 x4 x5, ⟨tl + 20, h, ?_, put5_len (by decide) t3', fun k hk => ?_⟩, ?_, ?_, ?_⟩
    · rw [put5_ne (by decide) (by decide), put5_len (by decide) t2]
    · rw [put5_ne (by decide) (by decide), put5_b (by decide), put5_b (by decide), put5_ne (by decide) (by decide)]
      by_cases hk2 : tl ≤ k ∧ k < tl + 20
      · rw [if_pos hk2, if_pos hk2]
        exact ⟨rfl, F5_byte _ _ _ _ _ _⟩
      · rw [if_neg hk2, if_neg hk2]
        exact t4 k (by omega)
    · exact SimL_eq (by rw [put5_ne (by decide) (by decide), put5_ne (by decide) (by decide)]) (by rw [put5_pl (by decide) (by decide), put5_ne (by decide) (by decide)]) (by rw [put5_pl (by decide) (by decide), put5_ne (by decide) (by decide)]) (fun i _ _ => by rw [put5_ne (by omega) (by omega), put5_ne (by omega) (by omega)]) (fun i _ _ => by rw [put5_ne (by omega) (by omega), put5_ne (by omega) (by omega)]) hL
    · exact SimN_eq (fun i _ _ => by rw [put5_ne (by omega) (by omega), put5_ne (by omega) (by omega)]) (fun i _ _ => by rw [put5_ne (by omega) (by omega), put5_ne (by omega) (by omega)]) (by rw [put5_pl (by decide) (by decide), put5_ne (by decide) (by decide)]) (by rw [put5_ne (by decide) (by decide), put5_ne (by decide) (by decide)]) hS
    · exact SimI_eq (by rw [put5_ne (by decide) (by decide), put5_ne (by decide) (by decide)]) (by rw [put5_ne (by decide) (by decide), put5_ne (by decide) (by decide)]) (fun i _ _ => by rw [put5_ne (by omega) (by omega), put5_ne (by omega) (by omega)]) (by rw [put5_ne (by decide) (by decide), put5_ne (by decide) (by decide)]) hI
  · have hc : ¬ nI tl + 20 ≤ (400 : Int32) := by
      rw [show (20 : Int32) = nI 20 from rfl, nI_add]
      exact nI_ge (a := 400) (b := tl + 20) (by omega) (by omega)
    refine ⟨-1, mm, mm, ?_, ?_, hT, hL, hS, hI⟩
    · unfold f_X11_feed
      rw [t2, if_neg hc]
    · unfold f_X12_feed
      rw [t3, if_neg hc]
/-! is it one of so many -/
theorem is_spec (x : Int32) (n : Nat) (hn : n ≤ 1000) : f_X12_in x.toInt64 (0 : Int64) (nI n - 1).toInt64 = if x < 0 ∨ nI n ≤ x then 0 else 1 := by
  have e : (nI n - 1).toInt = (n : Int) - 1 := pk_sub_toInt (a := n) (b := 1) (by omega) (by decide)
  rw [show (0 : Int64) = (0 : Int32).toInt64 from rfl, in_spec]
  by_cases h1 : x < 0
  · rw [if_pos (Or.inl h1), if_neg (fun z => by have := z.1; rw [le0_toInt] at this; rw [lt0_toInt] at h1; omega)]
  · by_cases h2 : nI n ≤ x
    · rw [if_pos (Or.inr h2), if_neg (fun z => by have h3 := z.2; rw [Int32.le_iff_toInt_le, e] at h3; rw [Int32.le_iff_toInt_le, nI_toInt (by omega)] at h2; omega)]
    · rw [if_pos ⟨nlt0.mp h1, by rw [Int32.le_iff_toInt_le, e]; rw [Int32.le_iff_toInt_le, nI_toInt (by omega)] at h2; omega⟩, if_neg (fun z => z.elim h1 h2)]
theorem is01 {c : Prop} [Decidable c] : ¬ (¬ (if c then (0 : Int32) else 1) = 0 ∧ ¬ (if c then (0 : Int32) else 1) = 1) := by
  by_cases h : c
  · rw [if_pos h]; decide
  · rw [if_neg h]; decide
theorem isRope_ok {m : Mm} {n : Nat} (h : m.1 1089 4 = nI n) (hn : n ≤ 1000) (x : Int32) : f_X12_isRope m x = some (if x < 0 ∨ nI n ≤ x then 0 else 1) := by
  unfold f_X12_isRope
  rw [h, is_spec x n hn, if_neg is01]
theorem sm_rope_ok : sm_rope Inv := by
  intro mm x w hInv
  have hS := hInv.2.2.1
  obtain ⟨nm, no, nt, ra, na, ol, nf, h1, h2, h3, h4, h5, h6, h7, h8, h9⟩ := hS
  obtain ⟨mi, nr, q1, q2, q3, q4, q5, q6, q7, q8, q9, q10⟩ := h8
  have c3 : mm.1 33 3 = nI nr := q6
  have f3 : mm.1 1089 4 = nI nr := q7
  unfold f_X11_rope f_X12_rope
  rw [isRope_ok f3 (by omega), bi1_s, c3]
  rcases i_cases x nr (by omega) with hx | hx | ⟨j, hj, rfl⟩
  · exact ⟨-1, by rw [if_pos hx], by rw [if_pos (Or.inl hx), if_pos rfl], hInv⟩
  · refine ⟨-1, ?_, by rw [if_pos (Or.inr hx), if_pos rfl], hInv⟩
    by_cases hx0 : x < 0
    · rw [if_pos hx0]
    · rw [if_neg hx0, if_neg (fun z => by rw [Int32.lt_iff_toInt_lt] at z; rw [Int32.le_iff_toInt_le] at hx; omega)]
  · obtain ⟨lo, hi, s, z1, z2, z3, z4, z5, z6, z7, z8, z9, z10, -⟩ := q10 j hj
    have a6 : mm.1 39 j = nI lo := z5
    have b6 : mm.1 1099 j = nI lo := z6
    have a7 : mm.1 40 j = nI hi := z7
    have b7 : mm.1 1100 j = nI hi := z8
    have a8 : mm.1 41 j = nI s := z9
    have b8 : mm.1 1101 j = nI s := z10
    simp (disch := omega) only [↓reduceIte, decide_true, decide_false, Bool.false_eq_true, eq_self, s10, s01, cont_ok, has_ok, b2i0, b2i1, reduceCtorEq, Nat.or_zero, Nat.add_zero, sN_le, sN_lt, sN_eq, sN_lt0, sN_le0, sN_0le, sN_0lt, sN_eq0, sN_cl, sN_ad, sN_a1, K2, K3, K4, K5, K6, K7, K8, K9, K12, K16, K20, false_or, or_false, if_neg, if_pos, vl_s, bi1_s, bi2_s, nx_or, nx_and, nx_sh, a6, b6, a7, b7, a8, b8]
    by_cases w0 : w = 0
    · exact ⟨nI lo, by rw [if_pos w0], by rw [if_pos w0], hInv⟩
    · rw [if_neg w0]
      by_cases w1 : w = 1
      · exact ⟨nI hi, by rw [if_pos w1], by rw [if_pos w1], hInv⟩
      · rw [if_neg w1]
        by_cases w2 : w = nI 2
        · exact ⟨nI s, by rw [if_pos w2], by rw [if_pos w2], hInv⟩
        · exact ⟨-1, by rw [if_neg w2], by rw [if_neg w2], hInv⟩
