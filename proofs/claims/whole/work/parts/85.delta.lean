/-! PHASE 2: delta, its unions -/
def Un (p : Nat → Nat) (c d : Nat) : Nat → Nat := fun t => if p c = p d then p t else if (p c ||| p d).testBit t then p c ||| p d else p t
theorem Un_in {V A : Dat} {p : Nat → Nat} (pp : PP V A p) {c d : Nat} (t : Nat) : (p c ||| p d).testBit t = true ↔ ¬ p t = 0 ∧ (p t = p c ∨ p t = p d) := by
  rw [Nat.testBit_or, Bool.or_eq_true]
  constructor
  · rintro (h | h)
    · have := pp.2.2.2 c t h
      exact ⟨(PP_ne pp t).mpr this.2, Or.inl this.1⟩
    · have := pp.2.2.2 d t h
      exact ⟨(PP_ne pp t).mpr this.2, Or.inr this.1⟩
  · rintro ⟨h0, h | h⟩
    · rw [← h]; exact Or.inl (pp.2.1 t ((PP_ne pp t).mp h0))
    · rw [← h]; exact Or.inr (pp.2.1 t ((PP_ne pp t).mp h0))
theorem Un_at {p : Nat → Nat} {c d : Nat} (h : ¬ p c = p d) (t : Nat) : Un p c d t = if (p c ||| p d).testBit t then p c ||| p d else p t := if_neg h
theorem Un_PP {V A : Dat} {p : Nat → Nat} (pp : PP V A p) {c d : Nat} (hcd : ¬ p c = p d) : PP V A (Un p c d) := by
  refine ⟨fun t => ?_, fun t ht => ?_, fun t ht => ?_, fun t u hu => ?_⟩
  · rw [Un_at hcd]
    split
    · exact Nat.or_lt_two_pow (n := 8) (pp.1 c) (pp.1 d)
    · exact pp.1 t
  · rw [Un_at hcd]
    by_cases h : (p c ||| p d).testBit t = true
    · rw [if_pos h]; exact h
    · rw [if_neg h]; exact pp.2.1 t ht
  · rw [Un_at hcd, if_neg (fun z => ((Un_in pp t).mp z).1 (pp.2.2.1 t ht))]
    exact pp.2.2.1 t ht
  · rw [Un_at hcd] at hu
    by_cases h : (p c ||| p d).testBit t = true
    · rw [if_pos h] at hu
      rw [Un_at hcd, Un_at hcd, if_pos h, if_pos hu]
      exact ⟨rfl, (PP_ne pp u).mp ((Un_in pp u).mp hu).1⟩
    · rw [if_neg h] at hu
      have h1 := pp.2.2.2 t u hu
      have h2 : ¬ (p c ||| p d).testBit u = true := fun z => by
        have := (Un_in pp u).mp z
        rw [h1.1] at this
        exact h ((Un_in pp t).mpr this)
      rw [Un_at hcd, Un_at hcd, if_neg h, if_neg h2]
      exact h1
theorem cnt_one {q r : Nat → Bool} {j : Nat} (hq : q j = true) (hr : r j = false) : ∀ n, (∀ t, t < n → ¬ t = j → q t = r t) → cnt q n = cnt r n + (if j < n then 1 else 0)
  | 0, _ => by rw [if_neg (by omega)]; rfl
  | n + 1, h => by
    rw [show cnt q (n + 1) = if q n then cnt q n + 1 else cnt q n from rfl, show cnt r (n + 1) = if r n then cnt r n + 1 else cnt r n from rfl, cnt_one hq hr n (fun t ht => h t (by omega))]
    by_cases c : n = j
    · subst c
      have e1 : (if n < n then 1 else 0) = 0 := if_neg (by omega)
      have e2 : (if n < n + 1 then 1 else 0) = 1 := if_pos (by omega)
      rw [e1, e2, hq, hr]
      rfl
    · have e1 : (if j < n then 1 else 0) = (if j < n + 1 then 1 else 0) := by
        by_cases d : j < n
        · rw [if_pos d, if_pos (show j < n + 1 by omega)]
        · rw [if_neg d, if_neg (show ¬ j < n + 1 by omega)]
      rw [h n (by omega) c, e1]
      cases r n
      · rfl
      · show cnt r n + _ + 1 = cnt r n + 1 + _
        omega
theorem cnt_pos {q : Nat → Bool} {j : Nat} (hq : q j = true) : ∀ n, j < n → 1 ≤ cnt q n
  | 0, h => absurd h (by omega)
  | n + 1, h => by
    rw [show cnt q (n + 1) = if q n then cnt q n + 1 else cnt q n from rfl]
    by_cases c : n = j
    · rw [c, hq, if_pos rfl]; omega
    · have := cnt_pos hq n (by omega)
      split <;> omega
theorem lst_iff (p : Nat → Nat) (t : Nat) : lst p t = true ↔ ¬ p t = 0 ∧ ∀ u, u < t → ¬ (p t).testBit u = true := by
  unfold lst
  rw [Bool.and_eq_true, decide_eq_true_iff, decide_eq_true_iff, low_and]
/-- one piece fewer -/
theorem Un_cnt {V A : Dat} {p : Nat → Nat} (ov : RvOk V) (pp : PP V A p) {c d : Nat} (hc : ¬ p c = 0) (hd : ¬ p d = 0) (hcd : ¬ p c = p d) : cnt (lst p) 8 = cnt (lst (Un p c d)) 8 + 1 ∧ 1 ≤ cnt (lst (Un p c d)) 8 := by
  have h8 := ov.2.2.1
  obtain ⟨lc, lc1, lc2⟩ := least_ex hc
  obtain ⟨ld, ld1, ld2⟩ := least_ex hd
  have plc := pp.2.2.2 c lc lc1
  have pld := pp.2.2.2 d ld ld1
  have hne : ¬ lc = ld := fun z => by
    rw [z, pld.1] at plc
    exact hcd plc.1.symm
  -- of the two, the greater one ceases
  have main : ∀ a b la lb, (p a ||| p b = p c ||| p d) → (p la = p a ∧ p lb = p b) → la < lb → (p a).testBit la = true → (∀ u, u < la → (p a).testBit u = false) → (p b).testBit lb = true → (∀ u, u < lb → (p b).testBit u = false) → ¬ p a = 0 → ¬ p b = 0 → lb < 8 → (∀ t, (p c ||| p d).testBit t = true → p t = p a ∨ p t = p b) → cnt (lst p) 8 = cnt (lst (Un p c d)) 8 + 1 ∧ 1 ≤ cnt (lst (Un p c d)) 8 := fun a b la lb hab hl hlt a1 a2 b1 b2 ha0 hb0 hb8 hin => by
    have inA : (p c ||| p d).testBit la = true := by rw [← hab, Nat.testBit_or, a1, Bool.true_or]
    have inB : (p c ||| p d).testBit lb = true := by rw [← hab, Nat.testBit_or, b1, Bool.or_true]
    have lA : lst (Un p c d) la = true := by
      rw [lst_iff, Un_at hcd, if_pos inA]
      refine ⟨fun z => ?_, fun u hu => ?_⟩
      · rw [z, Nat.zero_testBit] at inA; exact absurd inA (by decide)
      · rw [← hab, Nat.testBit_or, a2 u hu, b2 u (by omega)]; decide
    have lB : lst (Un p c d) lb = false := Bool.eq_false_iff.mpr (fun z => by
      rw [lst_iff, Un_at hcd, if_pos inB] at z
      exact z.2 la hlt inA)
    have lB' : lst p lb = true := by
      rw [lst_iff, hl.2]
      exact ⟨hb0, fun u hu => by rw [b2 u hu]; decide⟩
    have := cnt_one lB' lB 8 (fun t ht hne => ?_)
    · rw [if_pos hb8] at this
      exact ⟨this, cnt_pos lA 8 (by omega)⟩
    · by_cases hi : (p c ||| p d).testBit t = true
      · by_cases hta : t = la
        · rw [hta, lA, lst_iff, hl.1]
          exact ⟨ha0, fun u hu => by rw [a2 u hu]; decide⟩
        · have e1 : lst (Un p c d) t = false := Bool.eq_false_iff.mpr (fun z => by
            rw [lst_iff, Un_at hcd, if_pos hi] at z
            by_cases q : la < t
            · exact z.2 la q inA
            · rw [← hab, Nat.testBit_or, a2 t (by omega), b2 t (by omega)] at hi
              exact absurd hi (by decide))
          rw [e1]
          refine Bool.eq_false_iff.mpr (fun z => ?_)
          rw [lst_iff] at z
          have ht0 := pp.2.1 t ((PP_ne pp t).mp z.1)
          rcases hin t hi with h | h
          · rw [h] at z ht0
            by_cases q : la < t
            · exact z.2 la q a1
            · rw [a2 t (by omega)] at ht0; exact absurd ht0 (by decide)
          · rw [h] at z ht0
            by_cases q : lb < t
            · exact z.2 lb q b1
            · rw [b2 t (by omega)] at ht0; exact absurd ht0 (by decide)
      · unfold lst
        rw [Un_at hcd, if_neg hi]
  by_cases q : lc < ld
  · exact main c d lc ld rfl ⟨plc.1, pld.1⟩ q lc1 lc2 ld1 ld2 hc hd (by omega) (fun t ht => ((Un_in pp t).mp ht).2)
  · exact main d c ld lc (Nat.or_comm _ _) ⟨pld.1, plc.1⟩ (by omega) ld1 ld2 lc1 lc2 hd hc (by omega) (fun t ht => ((Un_in pp t).mp ht).2.symm)
/-- a union, and what it cost -/
abbrev Dl : Type := (Nat → Nat) × Nat × Nat
def dS1 (V : Dat) (x : Dl) : Dl := match bpO V x.1 8 8 with
  | none => x
  | some c => (Un x.1 c.1 c.2, x.2.1 + cst V c.1 c.2, x.2.2 + 1)
def dIt (V : Dat) (p : Nat → Nat) : Nat → Dl
  | 0 => (p, 0, 0)
  | i + 1 => dS1 V (dIt V p i)
theorem cand_iff {p : Nat → Nat} {a b : Nat} (h : cand p a b = true) : ¬ p a = 0 ∧ ¬ p b = 0 ∧ ¬ p a = p b := by
  unfold cand at h
  rw [Bool.and_eq_true, Bool.and_eq_true, decide_eq_true_iff, decide_eq_true_iff, decide_eq_true_iff] at h
  exact h
theorem dIt_PP {V A : Dat} {p : Nat → Nat} (pp : PP V A p) : ∀ i, PP V A (dIt V p i).1
  | 0 => pp
  | i + 1 => by
    have ih := dIt_PP pp i
    show PP V A (dS1 V (dIt V p i)).1
    unfold dS1
    cases hb : bpO V (dIt V p i).1 8 8 with
    | none => exact ih
    | some c =>
      have g := bpO_gd (V := V) (p := (dIt V p i).1) (N := 8) 8 (Nat.le_refl _)
      rw [hb] at g
      exact Un_PP ih (cand_iff g.2.2).2.2
theorem dIt_some {V : Dat} {p : Nat → Nat} {i : Nat} {c : Nat × Nat} (h : bpO V (dIt V p i).1 8 8 = some c) : dIt V p (i + 1) = (Un (dIt V p i).1 c.1 c.2, (dIt V p i).2.1 + cst V c.1 c.2, (dIt V p i).2.2 + 1) := by
  show dS1 V (dIt V p i) = _
  unfold dS1
  rw [h]
theorem dIt_none {V : Dat} {p : Nat → Nat} {i : Nat} (h : bpO V (dIt V p i).1 8 8 = none) : ∀ j, dIt V p (i + j) = dIt V p i
  | 0 => rfl
  | j + 1 => by
    show dS1 V (dIt V p (i + j)) = _
    rw [dIt_none h j]
    unfold dS1
    rw [h]
theorem dIt_cnt {V A : Dat} {p : Nat → Nat} (ov : RvOk V) (pp : PP V A p) : ∀ i, (∀ j, j < i → ¬ bpO V (dIt V p j).1 8 8 = none) → cnt (lst (dIt V p i).1) 8 + i = cnt (lst p) 8 ∧ (1 ≤ i → i + 1 ≤ cnt (lst p) 8)
  | 0, _ => ⟨rfl, fun h => absurd h (by omega)⟩
  | i + 1, h => by
    have ih := dIt_cnt ov pp i (fun j hj => h j (by omega))
    have hi := h i (by omega)
    cases hb : bpO V (dIt V p i).1 8 8 with
    | none => exact absurd hb hi
    | some c =>
      have g := bpO_gd (V := V) (p := (dIt V p i).1) (N := 8) 8 (Nat.le_refl _)
      rw [hb] at g
      have gc := cand_iff g.2.2
      have := Un_cnt ov (dIt_PP pp i) gc.1 gc.2.1 gc.2.2
      rw [dIt_some hb]
      show cnt (lst (Un (dIt V p i).1 c.1 c.2)) 8 + (i + 1) = _ ∧ _
      omega
theorem bindC_c {mm : Mm} {V A : Dat} {x : Dl} (hv : RvC mm 27 V) (ov : RvOk V) (pp : PP V A x.1) (hp : ∀ t, t < 8 → mm.1 230 t = nI (x.1 t)) (h6 : mm.1 232 6 = nI x.2.1) (h7 : mm.1 232 7 = nI x.2.2) : ∃ m1, f_X3_bindCheapest mm = some m1 ∧ (∀ t, t < 8 → m1.1 230 t = nI ((dS1 V x).1 t)) ∧ m1.1 232 6 = nI (dS1 V x).2.1 ∧ m1.1 232 7 = nI (dS1 V x).2.2 ∧ ∀ i, ¬ i = 230 → ¬ i = 232 → m1.1 i = mm.1 i := by
  unfold f_X3_bindCheapest
  rw [scan_c hv ov pp hp, bi1_s]
  unfold dS1
  have g := bpO_gd (V := V) (p := x.1) (N := 8) 8 (Nat.le_refl _)
  cases hb : bpO V x.1 8 8 with
  | none => exact ⟨mm, rfl, hp, h6, h7, fun _ _ _ => rfl⟩
  | some c =>
    rw [hb] at g
    have gc := cand_iff g.2.2
    have hc1 := ((PP_ne pp c.1).mp gc.1).1
    have hc2 := ((PP_ne pp c.2).mp gc.2.1).1
    have cl := cst_le ov hc1 hc2
    have em : mm = wA mm 230 (rowN 8 x.1 (mm.1 230)) := by
      rw [show rowN 8 x.1 (mm.1 230) = mm.1 230 from ?_, wA_self]
      funext t
      unfold rowN
      by_cases ht : t < 8
      · rw [if_pos ht, hp t ht]
      · rw [if_neg ht]
    have eu := unite_s (m0' := mm) (p := x.1) (f := mm.1 230) (fun t _ => pp.1 t) g.1 g.2.1
    rw [← em] at eu
    show ∃ m1, (if nI (cst V c.1 c.2) = -1 then some mm else bi1 (f_X2_unite mm (nI c.1) (nI c.2)) fun mm_27 => vlet (wI mm_27 232 6 (mm_27.1 232 6 + nI (cst V c.1 c.2))) fun mm_29 => vlet (wI mm_29 232 7 (mm_29.1 232 7 + 1)) fun mm_30 => some mm_30) = some m1 ∧ _
    rw [if_neg (nm1 (by omega)), eu, bi1_s, vl_s, vl_s]
    refine ⟨_, rfl, fun t ht => ?_, ?_, ?_, fun i i1 i2 => ?_⟩
    · rw [wI_ne (by decide), wI_ne (by decide), wA_at, rowN_at _ _ ht]
      rfl
    · rw [wI_pl (by decide), wI_at, wA_ne (by decide), h6, sN_ad]
    · rw [wI_at, wI_pl (by decide), wA_ne (by decide), h7, sN_a1]
    · rw [wI_ne i2, wI_ne i2, wA_ne i1]
theorem findDelta_c {mm : Mm} {V A : Dat} {L : Rop} {S : Int32} (hv : RvC mm 27 V) (ov : RvOk V) (hr : RaC mm 33 V A L S) (oa : RaOk V A L) : ∃ m1, f_X3_findDelta mm = some m1 ∧ m1.1 232 6 = nI (dIt V (pOf V A L 0) (cnt (lst (pOf V A L 0)) 8 - 1)).2.1 ∧ m1.1 232 7 = nI (dIt V (pOf V A L 0) (cnt (lst (pOf V A L 0)) 8 - 1)).2.2 ∧ ∀ i, ¬ scC i → m1.1 i = mm.1 i := by
  have pp := pOf_PP ov oa 0
  obtain ⟨m2, hm2⟩ : ∃ m2, m2 = wI (wI mm 232 6 0) 232 7 0 := ⟨_, rfl⟩
  have f2 : ∀ i, ¬ i = 232 → m2.1 i = mm.1 i := fun i hi => by rw [hm2, wI_ne hi, wI_ne hi]
  have hv2 : RvC m2 27 V := RvC_eq (fun j hj => f2 _ (by omega)) hv
  have ej := join_c hv2 ov (RaC_eq (fun j hj => f2 _ (by omega)) hr) oa (by decide) (by decide) (g := 0) (by decide)
  obtain ⟨m3, hm3⟩ : ∃ m3, m3 = wA m2 230 (rowN 8 (pOf V A L 0) (m2.1 230)) := ⟨_, rfl⟩
  rw [← hm3] at ej
  have f3 : ∀ i, ¬ i = 230 → ¬ i = 232 → m3.1 i = mm.1 i := fun i h1 h2 => by rw [hm3, wA_ne h1, f2 i h2]
  have p3 : ∀ t, t < 8 → m3.1 230 t = nI (pOf V A L 0 t) := fun t ht => by rw [hm3, wA_at, rowN_at _ _ ht]
  have s6 : m3.1 232 6 = nI 0 := by rw [hm3, wA_ne (by decide), hm2, wI_pl (by decide), wI_at]; rfl
  have s7 : m3.1 232 7 = nI 0 := by rw [hm3, wA_ne (by decide), hm2, wI_at]; rfl
  have eh := howMany_c (fun t ht => ⟨p3 t ht, pp.1 t⟩)
  have hcl := cnt_le (lst (pOf V A L 0)) 8
  have hx : ∃ w, lp (f_X3_findDelta_s34 (nI (cnt (lst (pOf V A L 0)) 8) - 1)) ((0 : Int32), m3) = some w ∧ w.1 232 6 = nI (dIt V (pOf V A L 0) (cnt (lst (pOf V A L 0)) 8 - 1)).2.1 ∧ w.1 232 7 = nI (dIt V (pOf V A L 0) (cnt (lst (pOf V A L 0)) 8 - 1)).2.2 ∧ ∀ i, ¬ i = 230 → ¬ i = 232 → w.1 i = mm.1 i := by
    by_cases c : cnt (lst (pOf V A L 0)) 8 = 0
    · rw [c]
      refine ⟨m3, lp_end ?_, s6, s7, f3⟩
      unfold f_X3_findDelta_s34
      dsimp only
      rw [if_pos (by decide)]
    · obtain ⟨N, hN⟩ : ∃ N, cnt (lst (pOf V A L 0)) 8 = N + 1 := ⟨cnt (lst (pOf V A L 0)) 8 - 1, by omega⟩
      rw [hN, nI_s1, show N + 1 - 1 = N by omega]
      refine lp_inv (fun k x => ∃ w, x = (nI k, w) ∧ (∀ t, t < 8 → w.1 230 t = nI ((dIt V (pOf V A L 0) k).1 t)) ∧ w.1 232 6 = nI (dIt V (pOf V A L 0) k).2.1 ∧ w.1 232 7 = nI (dIt V (pOf V A L 0) k).2.2 ∧ ∀ i, ¬ i = 230 → ¬ i = 232 → w.1 i = mm.1 i) _ N (fun k x hk hx => ?_) (fun x hx => ?_) 0 _ (Nat.zero_le _) ⟨m3, rfl, p3, s6, s7, f3⟩
      · obtain ⟨w, rfl, w1, w2, w3, w4⟩ := hx
        obtain ⟨m4, e4, g1, g2, g3, g4⟩ := bindC_c (RvC_eq (fun j hj => w4 _ (by omega) (by omega)) hv) ov (dIt_PP pp k) w1 w2 w3
        refine ⟨(nI (k + 1), m4), ?_, m4, rfl, g1, g2, g3, fun i i1 i2 => by rw [g4 i i1 i2, w4 i i1 i2]⟩
        unfold f_X3_findDelta_s34
        dsimp only
        rw [if_neg (by rw [sN_le (by omega) (by omega)]; omega), e4, bi1_s, sN_a1]
      · obtain ⟨w, rfl, w1, w2, w3, w4⟩ := hx
        refine ⟨w, ?_, w2, w3, w4⟩
        unfold f_X3_findDelta_s34
        dsimp only
        rw [if_pos (by rw [sN_le (by omega) (by omega)]; omega)]
  obtain ⟨w, e, h1, h2, h3⟩ := hx
  refine ⟨w, ?_, h1, h2, fun i hi => h3 i (fun z => hi (by unfold scC; omega)) (fun z => hi (by unfold scC; omega))⟩
  unfold f_X3_findDelta
  rw [vl_s, vl_s, ← hm2, show f_X2_join m2 33 27 (0 : Int32) = some m3 from ej, bi1_s, eh, bi1_s, e, bi1_s]
