/-! PHASE 2: locks -/
theorem find_locks_c {mm : Mm} {V A : Dat} {L : Rop} {S : Int32} (hv : RvC mm 27 V) (ov : RvOk V) (hr : RaC mm 33 V A L S) (oa : RaOk V A L) {room : Nat} (hroom : room ≤ 200) : ∃ m1, f_X0_find mm (nI room) = some ((if (go (wtI V A) room (ix V A 8) [] none).isSome then 1 else 0), m1) ∧ bOk m1 V A (go (wtI V A) room (ix V A 8) [] none) ∧ ∀ i, ¬ scC i → m1.1 i = mm.1 i := by
  obtain ⟨m2, hm2⟩ : ∃ m2, m2 = wI (wI mm 238 1 (nI room)) 238 2 9 := ⟨_, rfl⟩
  have f2 : ∀ i, ¬ i = 238 → m2.1 i = mm.1 i := fun i hi => by rw [hm2, wI_ne hi, wI_ne hi]
  obtain ⟨m3, e3, g3, h3⟩ := fill_c (mm := m2) (a := 241) (n := 8) (x := 0) (by decide)
  have f3 : ∀ i, ¬ i = 241 → m3.1 i = m2.1 i := fun i hi => by funext j; exact g3 i j (fun z => hi z.1)
  obtain ⟨m4, e4, b4, l4, w4, r4⟩ := putFrom_c (A := A) ov hroom 10 0 (by decide) (by decide) m3 [] none (by rw [f3 27 (by decide), f2 27 (by decide)]; exact hv.1.2.2) (fun u hu => by
    rw [f3 37 (by decide), f2 37 (by decide), f3 30 (by decide), f2 30 (by decide)]
    exact ⟨(hr.2.2.2.2 u hu).2.2, (oa.2.2.2.1 u hu).2.2, (hv.2.2.1 u hu).1⟩) (by rw [f3 238 (by decide), hm2, wI_pl (by decide), wI_at]) ⟨by rw [f3 238 (by decide), hm2, wI_at]; rfl, fun c hc => by cases hc⟩ (fun l hl => by rw [h3 l hl]; rfl) (fun u hu => absurd hu (by omega)) rfl trivial trivial
  have e40 : ix V A 8 - ix V A 0 = ix V A 8 := rfl
  rw [e40] at b4
  have ob := lgo_ok (W := wtI V A) (room := room) (ix_le V A 8) (ix V A 8) [] none (Nat.zero_add _) trivial trivial
  refine ⟨m4, ?_, b4, fun i hi => ?_⟩
  · unfold f_X0_find f_X0_putFrom
    rw [vl_s, vl_s, ← hm2, e3, bi1_s, show fd_X0_putFrom 10 m3 0 0 = some m4 from e4, bi1_s, b4.1]
    cases hb : go (wtI V A) room (ix V A 8) [] none with
    | none => rfl
    | some c =>
      rw [hb] at ob
      have hc := ob.1
      rw [show bc (some c) = c.1 from rfl, if_neg (by rw [K8, sN_lt (by decide) (by omega)]; omega)]
      rfl
  · rw [r4.1 i (fun z => hi (by unfold scC; omega)) (fun z => hi (by unfold scC; omega)) (fun z => hi (by unfold scC; omega)) (fun z => hi (by unfold scC; omega)), f3 i (fun z => hi (by unfold scC; omega)), f2 i (fun z => hi (by unfold scC; omega))]
theorem heavy_f {mm : Mm} {V A : Dat} {L : Rop} {S : Int32} (hv : RvF mm V) (ov : RvOk V) (hr : RaF mm V A L S) (oa : RaOk V A L) {room : Nat} (hroom : room ≤ 200) {y : Int32} : ((∃ t, t < V 1 2 ∧ (A 4 t = 0 ∧ room < V 4 t)) ∧ lp (f_X12_locks_s35 mm (nI room) y) (0 : Int32) = some (.inl ())) ∨ ((¬ ∃ t, t < V 1 2 ∧ (A 4 t = 0 ∧ room < V 4 t)) ∧ lp (f_X12_locks_s35 mm (nI room) y) (0 : Int32) = some (.inr ())) := by
  have h8 := ov.2.2.1
  refine lp_ex (fun t => A 4 t = 0 ∧ room < V 4 t) (V 1 2) (fun k hk hp => ?_) (fun k hk hp => ?_) ?_
  · have e4 := (hr.2.2.2.2 k hk).2.2
    have b4 := (oa.2.2.2.1 k hk).2.2
    have ew := (hv.2.2.1 k hk).1
    have bw := (ov.2.2.2.2.1 k hk).1
    unfold f_X12_locks_s35
    rw [hv.1.2.2, if_neg (by rw [sN_le (by omega) (by omega)]; omega), if_neg (gd_ok (by omega) (by decide)), cl_ok (by omega), e4, sN_a1]
    by_cases c : A 4 k = 0
    · rw [if_pos (by rw [c]; rfl), if_neg (show ¬ (nI k < 0 ∨ 8 ≤ k) from fun z => z.elim (nI_nn k (by omega)) (fun y => by omega)), ew, if_pos (by rw [sN_le (by omega) (by omega)]; omega)]
    · rw [if_neg (by rw [sN_eq0 (by omega)]; exact c)]
  · have e4 := (hr.2.2.2.2 k hk).2.2
    have ew := (hv.2.2.1 k hk).1
    have bw := (ov.2.2.2.2.1 k hk).1
    unfold f_X12_locks_s35
    rw [hv.1.2.2, if_neg (by rw [sN_le (by omega) (by omega)]; omega), if_neg (gd_ok (by omega) (by decide)), cl_ok (by omega), e4, if_pos (by rw [hp.1]; rfl), if_neg (show ¬ (nI k < 0 ∨ 8 ≤ k) from fun z => z.elim (nI_nn k (by omega)) (fun y => by omega)), ew, if_neg (by rw [sN_le (by omega) (by omega)]; omega)]
  · unfold f_X12_locks_s35
    rw [hv.1.2.2, if_pos (by rw [sN_le (by omega) (by omega)]; omega)]
theorem gather_f {mm : Mm} {V A : Dat} {L : Rop} {S : Int32} (hv : RvF mm V) (ov : RvOk V) (hr : RaF mm V A L S) (oa : RaOk V A L) {y : Int32} : ∃ m1, lp (f_X12_findsLocks_s4 y) ((0 : Int32), (0 : Int32), mm) = some (nI (ix V A 8), m1) ∧ tkOk m1 V A ∧ ∀ i, ¬ i = 1136 → m1.1 i = mm.1 i := by
  have h8 := ov.2.2.1
  have e8 : ix V A (V 1 2) = ix V A 8 := by
    have hs : ∀ d, ix V A (V 1 2 + d) = ix V A (V 1 2) := fun d => by
      induction d with
      | zero => rfl
      | succ d ih =>
        rw [← Nat.add_assoc, ix_su, show af V A (V 1 2 + d) = false from decide_eq_false (fun z => by omega), if_neg (by decide), ih]
    have := hs (8 - V 1 2)
    rw [show V 1 2 + (8 - V 1 2) = 8 by omega] at this
    exact this.symm
  have hx : ∃ w, lp (f_X12_findsLocks_s4 y) ((0 : Int32), (0 : Int32), mm) = some w ∧ ∃ m1, w = (nI (ix V A (V 1 2)), m1) ∧ (∀ i, i < ix V A (V 1 2) → m1.1 1136 i = nI (thI V A i)) ∧ ∀ i, ¬ i = 1136 → m1.1 i = mm.1 i := by
    refine lp_inv (fun k x => ∃ m, x = (nI (ix V A k), nI k, m) ∧ (∀ i, i < ix V A k → m.1 1136 i = nI (thI V A i)) ∧ ∀ i, ¬ i = 1136 → m.1 i = mm.1 i) _ (V 1 2) (fun k x hk hx => ?_) (fun x hx => ?_) 0 _ (Nat.zero_le _) ⟨mm, rfl, fun i hi => absurd hi (Nat.not_lt_zero _), fun _ _ => rfl⟩
    · obtain ⟨m, rfl, m1, m2⟩ := hx
      have hik := ix_le V A k
      have e3 : m.1 1089 3 = nI (V 1 2) := by rw [m2 1089 (by decide)]; exact hv.1.2.2
      have e4 : m.1 1097 k = nI (A 4 k) := by rw [m2 1097 (by decide)]; exact (hr.2.2.2.2 k hk).2.2
      have b4 := (oa.2.2.2.1 k hk).2.2
      unfold f_X12_findsLocks_s4
      dsimp only
      rw [e3, if_neg (by rw [sN_le (by omega) (by omega)]; omega), if_neg (gd_ok (show k < 8 by omega) (by decide)), cl_ok (by omega), e4, ix_su]
      by_cases c : A 4 k = 0
      · have ha : af V A k = true := af_iff.mpr ⟨hk, c⟩
        rw [if_pos (by rw [c]; rfl), if_neg (gd_ok (show ix V A k < 8 by omega) (by decide)), cl_ok (by omega), vl_s, if_pos ha]
        refine ⟨_, rfl, _, by rw [sN_a1, sN_a1], fun i hi => ?_, fun i hi => by rw [wI_ne hi, m2 i hi]⟩
        rw [wI_sm]
        by_cases d : i = ix V A k
        · rw [if_pos d, d, thI_ix (by omega) ha]
        · rw [if_neg d]; exact m1 i (by omega)
      · have ha : af V A k = false := decide_eq_false (fun z => c z.2)
        rw [if_neg (by rw [sN_eq0 (by omega)]; exact c), ha, if_neg (by decide)]
        exact ⟨_, rfl, m, by rw [sN_a1], m1, m2⟩
    · obtain ⟨m, rfl, m1, m2⟩ := hx
      have e3 : m.1 1089 3 = nI (V 1 2) := by rw [m2 1089 (by decide)]; exact hv.1.2.2
      refine ⟨_, ?_, m, rfl, m1, m2⟩
      unfold f_X12_findsLocks_s4
      dsimp only
      rw [e3, if_pos (by rw [sN_le (by omega) (by omega)]; omega)]
  obtain ⟨w, e, m1, rfl, h1, h2⟩ := hx
  rw [e8] at e h1
  exact ⟨m1, e, h1, h2⟩
theorem findsLocks_f {mm : Mm} {V A : Dat} {L : Rop} {S : Int32} (hv : RvF mm V) (ov : RvOk V) (hr : RaF mm V A L S) (oa : RaOk V A L) {room : Nat} (hroom : room ≤ 200) : ∃ m1, f_X12_findsLocks mm (nI room) = some m1 ∧ rb m1 (ix V A 8) (go (wtI V A) room (ix V A 8) [] none) ∧ (∀ i, ¬ i = 1088 → ¬ i = 1134 → ¬ i = 1135 → ¬ i = 1136 → m1.1 i = mm.1 i) ∧ ∀ k, ¬ k = 66 → m1.1 1088 k = mm.1 1088 k := by
  have h8 := ix_le V A 8
  obtain ⟨m1, e1, t1, f1⟩ := gather_f hv ov hr oa (y := nI room)
  unfold f_X12_findsLocks f_X12_findsLocks_j49
  rw [e1, bi1_s]
  by_cases c : ix V A 8 = 0
  · obtain ⟨m3, hm3⟩ : ∃ m3, m3 = wI (wI m1 1088 66 0) 1134 0 (-1) := ⟨_, rfl⟩
    have el : lp (f_X12_findsLocks_s61 (nI room) (nI 0)) ((0 : Int32), m3) = some m3 := by
      refine lp_end ?_
      unfold f_X12_findsLocks_s61
      dsimp only
      rw [if_neg (by decide), if_pos (by decide)]
    refine ⟨m3, ?_, ?_, fun i i1 i2 i3 i4 => by rw [hm3, wI_ne i2, wI_ne i1, f1 i i4], fun k hk => by rw [hm3, wI_ne (by decide), wI_pl hk, f1 1088 (by decide)]⟩
    · show (if nI (ix V A 8) = 0 then _ else _) = _
      rw [c, if_pos (show nI 0 = 0 from rfl), vl_s, vl_s, ← hm3, el, bi1_s]
    · rw [c]
      exact ⟨by rw [hm3, wI_ne (by decide), wI_at]; rfl, fun x hx i hi => absurd hi (by omega)⟩
  · obtain ⟨r, hr'⟩ : ∃ r, ix V A 8 = r + 1 := ⟨ix V A 8 - 1, by omega⟩
    obtain ⟨m3, hm3⟩ : ∃ m3, m3 = wI (wI m1 1088 66 (-1)) 1134 0 (-1) := ⟨_, rfl⟩
    have g3 : ∀ i, ¬ i = 1088 → ¬ i = 1134 → m3.1 i = m1.1 i := fun i i1 i2 => by rw [hm3, wI_ne i2, wI_ne i1]
    obtain ⟨m4, e4, k4, r4, f4⟩ := levels_f (A := A) ov hroom r [] (by rw [hr']; exact Nat.zero_add _) trivial 1 0 m3 none ⟨fun t ht => by rw [g3 1094 (by decide) (by decide), f1 1094 (by decide)]; exact (hv.2.2.1 t ht).1, fun i hi => by rw [g3 1136 (by decide) (by decide)]; exact t1 i hi⟩ trivial rfl (fun i hi => absurd hi (Nat.not_lt_zero _)) (by rw [hm3]; show (wI _ 1134 0 (-1)).1 1134 0 = _; rw [wI_at]; decide) ⟨by rw [hm3, wI_ne (by decide), wI_at]; rfl, fun x hx => by cases hx⟩
    have el : lp (f_X12_findsLocks_s61 (nI room) (nI (ix V A 8))) ((0 : Int32), m3) = some m4 := by
      rw [show ((0 : Int32), m3) = (nI ([] : List Nat).length, m3) from rfl, e4]
      refine lp_end ?_
      unfold f_X12_findsLocks_s61
      dsimp only
      rw [if_pos (by decide)]
    refine ⟨m4, ?_, ?_, fun i i1 i2 i3 i4 => by rw [f4.1 i i1 i2 i3, g3 i i1 i2, f1 i i4], fun k hk => by rw [f4.2 k hk, hm3, wI_ne (by decide), wI_pl hk, f1 1088 (by decide)]⟩
    · show (if nI (ix V A 8) = 0 then _ else _) = _
      rw [if_neg (by rw [sN_eq0 (by omega)]; exact c), vl_s, vl_s, ← hm3, el, bi1_s]
    · have eg : go (wtI V A) room (ix V A 8) [] none = fo (go (wtI V A) room r) (wtI V A) room [] 1 0 none := by
        rw [hr']
        rfl
      rw [eg]
      exact r4
theorem pieceIx_f {mm : Mm} {V A : Dat} {L : Rop} {S : Int32} (hv : RvF mm V) (ov : RvOk V) (hr : RaF mm V A L S) (oa : RaOk V A L) {t : Nat} (ht : t < 8) : lp (f_X12_locks_s92 mm (nI (t + 1))) ((0 : Int32), (0 : Int32)) = some (nI (ix V A t)) := by
  have h8 := ov.2.2.1
  refine lpa (0 : Int32) (fun k => nI (ix V A k)) t rfl (fun k hk => ?_) ?_
  · unfold f_X12_locks_s92 f_X12_locks_j115
    dsimp only
    rw [nI_s1, if_neg (by rw [sN_le (by omega) (by omega)]; omega), isAfloat_f hv ov hr oa, bi1_s, ix_su, sN_a1]
    by_cases c : af V A k = true
    · have := af_iff.mp c
      rw [pb_t (show Afl V A (nI k) from ⟨k, this, rfl⟩), if_pos rfl, if_neg (by decide), if_pos c, sN_a1]
    · rw [pb_f (show ¬ Afl V A (nI k) from fun ⟨u, h1, h2⟩ => by
        rw [nI_eq_iff (by omega) (by omega)] at h2
        rw [← h2] at h1
        exact c (af_iff.mpr h1)), if_pos (by decide), if_neg c, Int32.add_zero]
  · unfold f_X12_locks_s92
    dsimp only
    rw [nI_s1, if_pos (by rw [sN_le (by omega) (by omega)]; omega)]
theorem sm_locks_ok : sm_locks Inv := by
  intro mm x w hInv
  obtain ⟨ol, V, R, na, P, O, xx, hC, hF, ok⟩ := SimS_St hInv.2.2.1
  have hv := StC_rv hC
  have hr := StC_ra hC
  have hvF := rvF_RvF hF.1 ok.1
  have hrF := StF_ra hF
  have ov := ok.1.1
  have oa := ok.2.2.2.2.2.2.1
  have h99 := ov.1
  have h8 := ov.2.2.1
  have refn : (V 1 0 = 0 ∨ f_X12_in x.toInt64 (1 : Int64) (200 : Int64) = 0 ∨ f_X12_in w.toInt64 (0 : Int64) (8 : Int64) = 0) → f_X12_locks mm x w = some (-1, mm) := fun h => by
    unfold f_X12_locks
    rw [isRiver_ok hvF.1.1 h99]
    by_cases c1 : V 1 0 = 0
    · rw [if_pos c1, if_pos rfl]
    · rw [if_neg c1, if_neg (by decide)]
      by_cases c2 : f_X12_in x.toInt64 (1 : Int64) (200 : Int64) = 0
      · rw [if_pos c2]
      · rw [if_neg c2]
        rcases h with h | h | h
        · exact absurd h c1
        · exact absurd h c2
        · rw [if_pos h]
  have neg : (V 1 0 = 0 ∨ f_X12_in x.toInt64 (1 : Int64) (200 : Int64) = 0 ∨ f_X12_in w.toInt64 (0 : Int64) (8 : Int64) = 0) → ∃ r m1 m2, some ((-1 : Int32), mm) = some (r, m1) ∧ f_X12_locks m1 x w = some (r, m2) ∧ Inv m2 := fun h => ⟨-1, mm, mm, rfl, refn h, hInv⟩
  unfold f_X11_locks
  rw [hasRiver_ok hv.1.1 h99]
  by_cases c0 : V 1 0 = 0
  · rw [if_pos c0, if_pos rfl]
    exact neg (Or.inl c0)
  · rw [if_neg c0, if_neg (show ¬ (1 : Int32) = 0 by decide)]
    rcases rng x 1 200 (by decide) (by decide) (l := (1 : Int64)) (h := (200 : Int64)) (by decide) (by decide) with ⟨room, p1, p2, rfl, p3⟩ | ⟨p1, p2⟩
    · rw [if_neg (show ¬ nI room < 1 by rw [K1, sN_lt (by omega) (by decide)]; omega), if_neg (show ¬ (200 : Int32) < nI room by rw [show (200 : Int32) = nI 200 from rfl, sN_lt (by decide) (by omega)]; omega)]
      rcases rng w 0 8 (by decide) (by decide) (l := (0 : Int64)) (h := (8 : Int64)) (by decide) (by decide) with ⟨k, p4, p5, rfl, p6⟩ | ⟨p4, p5⟩
      · rw [if_neg (nI_nn k (by omega)), if_pos (show nI k ≤ 8 by rw [K8, sN_le (by omega) (by decide)]; exact p5)]
        obtain ⟨m1, e1, b1, f1⟩ := find_locks_c hv ov hr oa p2
        have hInv1 := Inv_sc hInv f1
        have hF1 : StF (fS m1) V R na P O xx := StF_cl (fun i hi => f1 i (sc_F hi)) hF
        have hv1 := rvF_RvF hF1.1 ok.1
        have hr1 := StF_ra hF1
        have head : ∀ q : Unit ⊕ Unit, lp (f_X12_locks_s35 m1 (nI room) (nI k)) (0 : Int32) = some q → f_X12_locks m1 (nI room) (nI k) = bi1 (some q) fun q => match q with | .inl () => some ((-2 : Int32), m1) | .inr (()) => bi1 (f_X12_findsLocks m1 (nI room)) fun mm_10 => if nI k = 0 then some ((mm_10.1 1088 66), mm_10) else bi1 (lp (f_X12_locks_s92 mm_10 (nI k)) ((0 : Int32), (0 : Int32))) fun w3_19 => bi1 (f_X12_isAfloat mm_10 (nI k - (1 : Int32))) fun r_21 => if r_21 = 0 then some ((-1 : Int32), mm_10) else if w3_19 < 0 ∨ 8 ≤ w3_19.toNatClampNeg then none else some ((mm_10.1 1135 w3_19.toNatClampNeg), mm_10) := fun q hq => by
          unfold f_X12_locks
          rw [isRiver_ok hv1.1.1 h99, if_neg c0, if_neg (show ¬ (1 : Int32) = 0 by decide), p3, if_neg (show ¬ (1 : Int32) = 0 by decide), p6, if_neg (show ¬ (1 : Int32) = 0 by decide), hq]
          cases q with
          | inl u => cases u; rfl
          | inr u => cases u; rfl
        rw [e1, bi2_s]
        have h8x := ix_le V R.1 8
        rcases heavy_f hv1 ov hr1 oa p2 (y := nI k) with ⟨⟨t, t1, t2, t3⟩, hh⟩ | ⟨hno, hh⟩
        · have ha : af V R.1 t = true := af_iff.mpr ⟨t1, t2⟩
          have hbad := go_bad (W := wtI V R.1) (room := room) (n := ix V R.1 8) (j := ix V R.1 t) (ix_lt (by omega) ha) (by rw [wtI_ix ov ha]; exact t3) (ix V R.1 8) [] none (Nat.zero_add _) (Nat.zero_le _)
          rw [hbad, show (none : Bt).isSome = false from rfl, if_neg (show ¬ false = true by decide), if_pos rfl]
          exact ⟨-2, m1, m1, rfl, head _ hh, hInv1⟩
        · have hgood := go_good (W := wtI V R.1) (room := room) h8x (fun j hj => by
            have hj2 := thI_ok hj
            rw [wtI_at hj]
            by_cases q : V 4 (thI V R.1 j) ≤ room
            · exact q
            · exact absurd ⟨_, hj2.1, hj2.2.1, by omega⟩ hno) (ix V R.1 8) [] (Nat.zero_add _) trivial
          obtain ⟨m2, e2, r2, g2, g3⟩ := findsLocks_f hv1 ov hr1 oa p2
          have hInv2 : Inv m2 := Inv_scF hInv1 (fun i hi h => g2 i h (fun z => hi (by unfold scF; omega)) (fun z => hi (by unfold scF; omega)) (fun z => hi (by unfold scF; omega))) (fun j hj => g3 j (by omega))
          have hv2 : RvF m2 V := RvF_eq (fun i i1 i2 => g2 i (by omega) (by omega) (by omega) (by omega)) hv1
          have hr2 : RaF m2 V R.1 R.2.1 R.2.2 := RaF_eq (fun i i1 i2 => g2 i (by omega) (by omega) (by omega) (by omega)) hr1
          rw [if_pos hgood, if_neg (show ¬ (1 : Int32) = 0 by decide)]
          cases hb : go (wtI V R.1) room (ix V R.1 8) [] none with
          | none => rw [hb] at hgood; exact absurd hgood (by decide)
          | some c =>
            rw [hb] at b1 r2
            have hd := head _ hh
            have hd2 : f_X12_locks m1 (nI room) (nI k) = if nI k = 0 then some (nI c.1, m2) else bi1 (lp (f_X12_locks_s92 m2 (nI k)) ((0 : Int32), (0 : Int32))) fun w3_19 => bi1 (f_X12_isAfloat m2 (nI k - (1 : Int32))) fun r_21 => if r_21 = 0 then some ((-1 : Int32), m2) else if w3_19 < 0 ∨ 8 ≤ w3_19.toNatClampNeg then none else some ((m2.1 1135 w3_19.toNatClampNeg), m2) := by
              rw [hd]
              show bi1 (f_X12_findsLocks m1 (nI room)) _ = _
              rw [e2, bi1_s, r2.1]
              rfl
            by_cases ck : k = 0
            · rw [if_pos (by rw [ck]; rfl)] at hd2
              exact ⟨_, m1, m2, by rw [if_pos (by rw [ck]; rfl), b1.1]; rfl, hd2, hInv2⟩
            · obtain ⟨t, rfl⟩ : ∃ t, k = t + 1 := ⟨k - 1, by omega⟩
              rw [if_neg (by rw [sN_eq0 (by omega)]; omega), pieceIx_f hv2 ov hr2 oa (by omega), bi1_s, nI_s1, isAfloat_f hv2 ov hr2 oa, bi1_s] at hd2
              rw [if_neg (by rw [sN_eq0 (by omega)]; omega), nI_s1, if_neg (gd_ok (show t < 8 by omega) (by decide)), cl_ok (by omega), b1.2 c rfl t (by omega)]
              by_cases ca : af V R.1 t = true
              · have hit := ix_lt (show t < 8 by omega) ca
                rw [pb_t (show Afl V R.1 (nI t) from ⟨t, af_iff.mp ca, rfl⟩), if_pos rfl, if_neg (show ¬ (1 : Int32) = 0 by decide), if_neg (gd_ok (show ix V R.1 t < 8 by omega) (by decide)), cl_ok (by omega), r2.2 c rfl _ hit] at hd2
                rw [if_pos ca]
                exact ⟨_, m1, m2, rfl, hd2, hInv2⟩
              · rw [pb_f (show ¬ Afl V R.1 (nI t) from fun ⟨u, h1, h2⟩ => by
                  rw [nI_eq_iff (by omega) (by omega)] at h2
                  rw [← h2] at h1
                  exact ca (af_iff.mpr h1)), if_pos (by decide)] at hd2
                rw [if_neg ca]
                exact ⟨_, m1, m2, rfl, hd2, hInv2⟩
      · rcases p4 with p4 | p4
        · rw [if_pos (show w < 0 from p4)]
          exact neg (Or.inr (Or.inr p5))
        · rw [if_neg (show ¬ w ≤ 8 from fun z => by rw [Int32.le_iff_toInt_le] at z; rw [Int32.lt_iff_toInt_lt] at p4; exact absurd p4 (by show ¬ (8 : Int32).toInt < w.toInt; omega))]
          by_cases d : w < 0
          · rw [if_pos d]
            exact neg (Or.inr (Or.inr p5))
          · rw [if_neg d]
            exact neg (Or.inr (Or.inr p5))
    · rcases p1 with p1 | p1
      · rw [if_pos (show x < 1 from p1)]
        exact neg (Or.inr (Or.inl p2))
      · rw [if_pos (show (200 : Int32) < x from p1)]
        by_cases d : x < 1
        · rw [if_pos d]
          exact neg (Or.inr (Or.inl p2))
        · rw [if_neg d]
          exact neg (Or.inr (Or.inl p2))
