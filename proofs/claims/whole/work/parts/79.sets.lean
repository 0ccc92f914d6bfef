/-! PHASE 2: bearers, sawn -/
theorem setq {a : Nat} (ha : a < 256) (x : Int32) : (∃ s, s < 256 ∧ x = nI s ∧ ndf s a = 0 ∧ (x &&& (nI a ^^^ (-1 : Int32))) = 0 ∧ ¬ x < 0) ∨ ¬ (x &&& (nI a ^^^ (-1 : Int32))) = 0 := by
  by_cases c : (x &&& (nI a ^^^ (-1 : Int32))) = 0
  · obtain ⟨n, hn⟩ : ∃ n, n = x.toBitVec.toNat := ⟨_, rfl⟩
    have hx : x = nI n := by rw [hn, nI_bv]
    have hlt : n < 2 ^ 32 := by rw [hn]; exact x.toBitVec.isLt
    have e : nI (ndf n a) = 0 := by rw [← nx_ndf, ← hx]; exact c
    have h0 : ndf n a = 0 := by
      have h1 := pk_tn (n := ndf n a) (Nat.lt_of_le_of_lt (ndf_le n a) hlt)
      rw [e] at h1
      exact h1.symm
    have hle : n ≤ a := Nat.le_of_testBit (fun i hi => by
      by_cases d : a.testBit i = true
      · exact d
      · exfalso
        have := zero_iff.mp h0 i
        rw [ndf_tb, hi, Bool.eq_false_iff.mpr d] at this
        exact this rfl)
    exact Or.inl ⟨n, by omega, hx, h0, c, by rw [hx]; exact nI_nn n (by omega)⟩
  · exact Or.inr c
theorem ndf_sub {s a : Nat} (h : ndf s a = 0) {t : Nat} (ht : s.testBit t = true) : a.testBit t = true := by
  by_cases d : a.testBit t = true
  · exact d
  · exfalso
    have := zero_iff.mp h t
    rw [ndf_tb, ht, Bool.eq_false_iff.mpr d] at this
    exact this rfl
theorem ndf_of {s a : Nat} (h : ∀ t, s.testBit t = true → a.testBit t = true) : ndf s a = 0 := zero_iff.mpr (fun t ht => by
  rw [ndf_tb, Bool.and_eq_true] at ht
  rw [h t ht.1] at ht
  exact absurd ht.2 (by decide))
theorem ndf_lea {s a : Nat} (h : ndf s a = 0) : s ≤ a := Nat.le_of_testBit (fun i hi => ndf_sub h hi)
def encO (c : Int32) : Option Nat → Int32
  | none => c
  | some k => nI k
def lessO (k : Nat) : Option Nat → Bool
  | none => true
  | some b => decide (pop k 12 < pop b 12)
/-- the best set below k -/
def bestS (q : Nat → Bool) : Nat → Option Nat
  | 0 => none
  | k + 1 => if q k && lessO k (bestS q k) then some k else bestS q k
theorem bestS_lt (q : Nat → Bool) : ∀ k b, bestS q k = some b → b < k
  | 0, b, h => by
    have h : (none : Option Nat) = some b := h
    cases h
  | k + 1, b, h => by
    rw [show bestS q (k + 1) = if q k && lessO k (bestS q k) then some k else bestS q k from rfl] at h
    by_cases c : (q k && lessO k (bestS q k)) = true
    · rw [if_pos c] at h
      have := Option.some.inj h
      omega
    · rw [if_neg c] at h
      have := bestS_lt q k b h
      omega
theorem bestS_skip {q : Nat → Bool} {n : Nat} (h : ∀ k, n ≤ k → q k = false) : ∀ d, bestS q (n + d) = bestS q n
  | 0 => rfl
  | d + 1 => by
    show (if q (n + d) && lessO (n + d) (bestS q (n + d)) then some (n + d) else bestS q (n + d)) = _
    rw [h (n + d) (by omega), Bool.false_and, if_neg (by decide), bestS_skip h d]
def bq (V A : Dat) (s o k : Nat) : Bool := decide (ndf k o = 0) && decide (0 ≤ lif V A (s ||| k) 0)
theorem pop_and_bc {k : Nat} (h : k < 4096) : f_J6_bitCount_0f7a4 (nI k) = nI (pop k 12) := bitc_ok k h
theorem isBorne_f {mm : Mm} {V A : Dat} {L : Rop} {S : Int32} (hv : RvF mm V) (ov : RvOk V) (hr : RaF mm V A L S) (oa : RaOk V A L) {s : Nat} (hs : s < 2 ^ 31) : f_X12_isBorne mm (nI s) = some (if 0 ≤ lif V A s 0 then 1 else 0) := by
  have h8 := ov.2.2.1
  have bf := sumZ_bd (f := fls V A s) (b := 100) (n := V 1 2) (by decide) (fun t ht => by
    have := oa.2.2.2.1 t ht
    unfold fls
    split <;> omega)
  have bw := sumZ_bd (f := wgs V A s) (b := 100) (n := V 1 2) (by decide) (fun t ht => by
    have := ov.2.2.2.2.1 t ht
    unfold wgs
    split <;> omega)
  have e := lif_fw V A s
  unfold f_X12_isBorne
  rw [floatOf_f hv ov hr hs, bi1_s, weightOf_f (A := A) hv ov hs, bi1_s]
  by_cases c : 0 ≤ lif V A s 0
  · rw [if_pos c, if_neg (by rw [zI_lt (by omega) (by omega) (by omega) (by omega)]; omega)]
  · rw [if_neg c, if_pos (by rw [zI_lt (by omega) (by omega) (by omega) (by omega)]; omega)]
theorem fewest_c {mm : Mm} {V A : Dat} {L : Rop} {S : Int32} (hv : RvC mm 27 V) (ov : RvOk V) (hr : RaC mm 33 V A L S) (oa : RaOk V A L) {s : Nat} (hs : s < 256) : f_X3_fewestBearers mm (nI s) = some (encO (-1) (bestS (bq V A s (ndf (thA V A 0) s)) 256)) := by
  have h8 := ov.2.2.1
  have hlt := thA_lt (A := A) (w := 0) h8
  unfold f_X3_fewestBearers
  rw [show (0 : Int32) = nI 0 from rfl, thingsAt_c hv ov hr oa (by decide), bi1_s, nx_ndf, vl_s]
  obtain ⟨o, ho⟩ : ∃ o, o = ndf (thA V A 0) s := ⟨_, rfl⟩
  rw [← ho]
  have hol : o < 256 := by rw [ho]; exact Nat.lt_of_le_of_lt (ndf_le _ _) hlt
  have e : lp (f_X3_fewestBearers_s18 mm (nI s) (nI o)) ((-1 : Int32), nI 0) = some (encO (-1) (bestS (bq V A s o) 256)) := by
    refine lpf (fun k => (encO (-1) (bestS (bq V A s o) k), nI k)) 256 rfl (fun k hk => ?_) ?_
    · have hor : s ||| k < 2 ^ 31 := Nat.lt_of_lt_of_le (Nat.or_lt_two_pow (n := 8) hs hk) (by decide)
      have hnd := ndf_le k o
      have hlb := lif_bd ov oa (s ||| k) 0
      have hpk := pop_le k 12
      unfold f_X3_fewestBearers_s18 f_X3_fewestBearers_j70
      rw [show bestS (bq V A s o) (k + 1) = if bq V A s o k && lessO k (bestS (bq V A s o) k) then some k else bestS (bq V A s o) k from rfl]
      dsimp only
      rw [show (256 : Int32) = nI 256 from rfl, if_neg (show ¬ nI 256 ≤ nI k by rw [sN_le (by decide) (by omega)]; omega), nx_ndf, nx_or, sN_a1]
      have hbq : bq V A s o k = (decide (ndf k o = 0) && decide (0 ≤ lif V A (s ||| k) 0)) := rfl
      have elf : f_X4_lift mm 33 27 (nI (s ||| k)) (0 : Int32) = some (zI (lif V A (s ||| k) 0)) := lift_c (mi := 0) hv ov hr oa hor (by decide)
      rw [hbq]
      by_cases c1 : ndf k o = 0
      · rw [if_pos (by rw [c1]; rfl), elf, bi1_s, decide_eq_true c1, Bool.true_and]
        by_cases c2 : 0 ≤ lif V A (s ||| k) 0
        · rw [if_pos (show (0 : Int32) ≤ zI _ by rw [zI_0, zI_le (by omega) (by omega) (by omega) (by omega)]; exact c2), decide_eq_true c2, Bool.true_and]
          cases hb : bestS (bq V A s o) k with
          | none => 
            rw [show encO (-1) (none : Option Nat) = -1 from rfl, if_pos rfl, show lessO k none = true from rfl, if_pos rfl]
            rfl
          | some b =>
            have hbl := bestS_lt _ k b hb
            rw [show encO (-1) (some b) = nI b from rfl, if_neg (show ¬ nI b = -1 from fun z => by have := nI_nn b (by omega); rw [z] at this; exact this (by decide)), pop_and_bc (by omega), pop_and_bc (by omega)]
            have hpb := pop_le b 12
            by_cases c3 : pop k 12 < pop b 12
            · rw [if_neg (by rw [sN_le (by omega) (by omega)]; omega), show lessO k (some b) = true from decide_eq_true c3, if_pos rfl]
              rfl
            · rw [if_pos (by rw [sN_le (by omega) (by omega)]; omega), show lessO k (some b) = false from decide_eq_false c3, if_neg (by decide)]
              rfl
        · rw [if_neg (show ¬ (0 : Int32) ≤ zI _ by rw [zI_0, zI_le (by omega) (by omega) (by omega) (by omega)]; exact c2), decide_eq_false c2, Bool.false_and, if_neg (by decide)]
      · rw [if_neg (by rw [sN_eq0 (by omega)]; exact c1), decide_eq_false c1, Bool.false_and, Bool.false_and, if_neg (by decide)]
    · unfold f_X3_fewestBearers_s18
      dsimp only
      rw [show (256 : Int32) = nI 256 from rfl, if_pos (by rw [sN_le (by decide) (by decide)]; omega)]
  rw [e]
  rfl
theorem bearersL_f {mm : Mm} {V A : Dat} {L : Rop} {S : Int32} (hv : RvF mm V) (ov : RvOk V) (hr : RaF mm V A L S) (oa : RaOk V A L) {s o : Nat} (hs : s < 256) (hol : o < 256) {y : Int32} : lp (f_X12_bearers_s50 mm (nI s) y (nI o)) ((-2 : Int32), (0 : Int32)) = some (encO (-2) (bestS (bq V A s o) 256)) := by
  have hsk : bestS (bq V A s o) 256 = bestS (bq V A s o) (o + 1) := by
    have := bestS_skip (q := bq V A s o) (n := o + 1) (fun k hk => by
      unfold bq
      rw [decide_eq_false (fun z => by have := ndf_lea z; omega), Bool.false_and]) (256 - (o + 1))
    rw [show o + 1 + (256 - (o + 1)) = 256 by omega] at this
    exact this
  rw [hsk]
  refine lpf (fun k => (encO (-2) (bestS (bq V A s o) k), nI k)) (o + 1) rfl (fun k hk => ?_) ?_
  · have hor : s ||| k < 2 ^ 31 := Nat.lt_of_lt_of_le (Nat.or_lt_two_pow (n := 8) hs (show k < 2 ^ 8 by omega)) (by decide)
    have hnd := ndf_le k o
    have hlb := lif_bd ov oa (s ||| k) 0
    have hpk := pop_le k 12
    unfold f_X12_bearers_s50 f_X12_bearers_j85
    rw [show bestS (bq V A s o) (k + 1) = if bq V A s o k && lessO k (bestS (bq V A s o) k) then some k else bestS (bq V A s o) k from rfl]
    dsimp only
    rw [if_neg (show ¬ nI o < nI k by rw [sN_lt (by omega) (by omega)]; omega), nx_ndf, nx_or, sN_a1, isBorne_f hv ov hr oa hor, bi1_s]
    have hbq : bq V A s o k = (decide (ndf k o = 0) && decide (0 ≤ lif V A (s ||| k) 0)) := rfl
    rw [hbq]
    by_cases c1 : ndf k o = 0
    · rw [if_pos (by rw [c1]; rfl), decide_eq_true c1, Bool.true_and]
      have fin : ∀ z : Int32, (if (if 0 ≤ lif V A (s ||| k) 0 then (1 : Int32) else 0) = 0 then some (Sum.inl (z, nI (k + 1))) else some (Sum.inl (nI k, nI (k + 1))) : Option ((Int32 × Int32) ⊕ Int32)) = some (Sum.inl ((if 0 ≤ lif V A (s ||| k) 0 then nI k else z), nI (k + 1))) := fun z => by
        by_cases c2 : 0 ≤ lif V A (s ||| k) 0
        · rw [if_pos c2, if_neg (by decide), if_pos c2]
        · rw [if_neg c2, if_pos rfl, if_neg c2]
      cases hb : bestS (bq V A s o) k with
      | none =>
        rw [show encO (-2) (none : Option Nat) = -2 from rfl, if_pos rfl, fin, show lessO k none = true from rfl, Bool.and_true]
        by_cases c2 : 0 ≤ lif V A (s ||| k) 0
        · rw [if_pos c2, decide_eq_true c2, if_pos rfl]; rfl
        · rw [if_neg c2, decide_eq_false c2, if_neg (by decide)]; rfl
      | some b =>
        have hbl := bestS_lt _ k b hb
        have hpb := pop_le b 12
        rw [show encO (-2) (some b) = nI b from rfl, if_neg (show ¬ nI b = -2 from fun z => by have := nI_nn b (by omega); rw [z] at this; exact this (by decide)), bits_ok (by omega), bi1_s, bits_ok (by omega), bi1_s, pop16 (by omega), pop16 (by omega), fin]
        by_cases c3 : pop k 12 < pop b 12
        · rw [if_neg (by rw [sN_le (by omega) (by omega)]; omega), show lessO k (some b) = true from decide_eq_true c3, Bool.and_true]
          by_cases c2 : 0 ≤ lif V A (s ||| k) 0
          · rw [if_pos c2, decide_eq_true c2, if_pos rfl]; rfl
          · rw [if_neg c2, decide_eq_false c2, if_neg (by decide)]; rfl
        · rw [if_pos (by rw [sN_le (by omega) (by omega)]; omega), show lessO k (some b) = false from decide_eq_false c3, Bool.and_false, if_neg (by decide)]
          rfl
    · rw [if_neg (by rw [sN_eq0 (by omega)]; exact c1), decide_eq_false c1, Bool.false_and, Bool.false_and, if_neg (by decide)]
  · unfold f_X12_bearers_s50
    dsimp only
    rw [if_pos (by rw [sN_lt (by omega) (by omega)]; omega)]
theorem isSet_c {mm : Mm} {V A : Dat} {L : Rop} {S : Int32} (hv : RvC mm 27 V) (ov : RvOk V) (hr : RaC mm 33 V A L S) (oa : RaOk V A L) (x : Int32) : f_X11_isSetAfloat mm x = some (if V 1 0 = 0 then 0 else if (x &&& (nI (thA V A 0) ^^^ (-1 : Int32))) = 0 then 1 else 0) := by
  unfold f_X11_isSetAfloat
  rw [hasRiver_ok hv.1.1 ov.1]
  by_cases c : V 1 0 = 0
  · rw [if_pos c, if_pos rfl, if_pos c]
  · rw [if_neg c, if_neg (by decide), if_neg c, show (0 : Int32) = nI 0 from rfl, thingsAt_c hv ov hr oa (by decide), bi1_s]
    by_cases d : (x &&& (nI (thA V A 0) ^^^ (-1 : Int32))) = 0
    · rw [if_pos (show _ = nI 0 from d), if_pos (show _ = nI 0 from d)]
    · rw [if_neg (show ¬ _ = nI 0 from d), if_neg (show ¬ _ = nI 0 from d)]
theorem in01 (x : Int32) : (x = 0 ∧ f_X12_in x.toInt64 (0 : Int64) (1 : Int64) = 1) ∨ (x = 1 ∧ f_X12_in x.toInt64 (0 : Int64) (1 : Int64) = 1) ∨ ((x < 0 ∨ (¬ x < 0 ∧ ¬ x ≤ 1)) ∧ f_X12_in x.toInt64 (0 : Int64) (1 : Int64) = 0) := by
  rcases rng x 0 1 (by decide) (by decide) (l := (0 : Int64)) (h := (1 : Int64)) (by decide) (by decide) with ⟨j, h1, h2, h3, h4⟩ | ⟨h1, h2⟩
  · have hc : j = 0 ∨ j = 1 := by omega
    rcases hc with rfl | rfl
    · exact Or.inl ⟨h3, h4⟩
    · exact Or.inr (Or.inl ⟨h3, h4⟩)
  · refine Or.inr (Or.inr ⟨?_, h2⟩)
    by_cases c : x < 0
    · exact Or.inl c
    · refine Or.inr ⟨c, fun z => ?_⟩
      rcases h1 with h1 | h1
      · exact c h1
      · rw [Int32.le_iff_toInt_le] at z
        rw [Int32.lt_iff_toInt_lt] at h1
        exact absurd h1 (by show ¬ (1 : Int32).toInt < x.toInt; omega)
theorem sm_bearers_ok : sm_bearers Inv := by
  intro mm x w hInv
  obtain ⟨ol, V, R, na, P, O, xx, hC, hF, ok⟩ := SimS_St hInv.2.2.1
  have hv := StC_rv hC
  have hr := StC_ra hC
  have hvF := rvF_RvF hF.1 ok.1
  have hrF := StF_ra hF
  have ov := ok.1.1
  have oa := ok.2.2.2.2.2.2.1
  have h99 := ov.1
  have h8 := ov.2.2.1
  have hlt := thA_lt (A := R.1) (w := 0) h8
  unfold f_X11_bearers f_X12_bearers
  rw [isSet_c hv ov hr oa, bi1_s, isRiver_ok hvF.1.1 h99]
  by_cases c0 : V 1 0 = 0
  · rw [if_pos c0, if_pos rfl, if_pos c0, if_pos rfl]
    exact ⟨-1, rfl, rfl, hInv⟩
  · rw [if_neg c0, if_neg c0, if_neg (show ¬ (1 : Int32) = 0 by decide), afloat_f hvF ov hrF oa, bi1_s]
    rcases setq hlt x with ⟨s, hs, rfl, hsub, hz, hnn⟩ | hz
    · rw [if_pos hz, if_neg (by decide), if_neg hnn, if_pos hz]
      rcases in01 w with ⟨rfl, hin⟩ | ⟨rfl, hin⟩ | ⟨hw, hin⟩
      · rw [if_neg (by decide), if_pos (by decide), fewest_c hv ov hr oa hs, bi1_s, hin, if_neg (show ¬ (1 : Int32) = 0 by decide), bi1_s, nx_ndf, vl_s, bearersL_f hvF ov hrF oa hs (Nat.lt_of_le_of_lt (ndf_le _ _) hlt), bi1_s]
        cases hb : bestS (bq V R.1 s (ndf (thA V R.1 0) s)) 256 with
        | none => exact ⟨-2, rfl, rfl, hInv⟩
        | some b =>
          have hbl := bestS_lt _ _ b hb
          rw [show encO (-1) (some b) = nI b from rfl, show encO (-2) (some b) = nI b from rfl, if_neg (show ¬ nI b = -1 from fun z => by have := nI_nn b (by omega); rw [z] at this; exact this (by decide)), if_neg (show ¬ nI b = -2 from fun z => by have := nI_nn b (by omega); rw [z] at this; exact this (by decide)), if_pos rfl, if_neg (by decide), bits_ok (by omega), bi1_s, pop_and_bc (by omega), pop16 (by omega)]
          exact ⟨_, rfl, rfl, hInv⟩
      · rw [if_neg (by decide), if_pos (by decide), fewest_c hv ov hr oa hs, bi1_s, hin, if_neg (show ¬ (1 : Int32) = 0 by decide), bi1_s, nx_ndf, vl_s, bearersL_f hvF ov hrF oa hs (Nat.lt_of_le_of_lt (ndf_le _ _) hlt), bi1_s]
        cases hb : bestS (bq V R.1 s (ndf (thA V R.1 0) s)) 256 with
        | none => exact ⟨-2, rfl, rfl, hInv⟩
        | some b =>
          have hbl := bestS_lt _ _ b hb
          rw [show encO (-1) (some b) = nI b from rfl, show encO (-2) (some b) = nI b from rfl, if_neg (show ¬ nI b = -1 from fun z => by have := nI_nn b (by omega); rw [z] at this; exact this (by decide)), if_neg (show ¬ nI b = -2 from fun z => by have := nI_nn b (by omega); rw [z] at this; exact this (by decide)), if_neg (by decide), if_pos rfl]
          exact ⟨_, rfl, rfl, hInv⟩
      · rw [hin, if_pos rfl]
        rcases hw with hw | ⟨hw1, hw2⟩
        · rw [if_pos hw]
          exact ⟨-1, rfl, rfl, hInv⟩
        · rw [if_neg hw1, if_neg hw2]
          exact ⟨-1, rfl, rfl, hInv⟩
    · rw [if_neg hz, if_pos rfl, if_neg hz]
      refine ⟨-1, rfl, ?_, hInv⟩
      by_cases c : x < 0
      · rw [if_pos c]
      · rw [if_neg c]
