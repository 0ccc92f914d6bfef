/-! PHASE 2: sawn, weak -/
theorem cnt_best (q : Nat → Bool) : ∀ k, cnt q k = 0 ↔ bestS q k = none
  | 0 => ⟨fun _ => rfl, fun _ => rfl⟩
  | k + 1 => by
    rw [show cnt q (k + 1) = if q k then cnt q k + 1 else cnt q k from rfl, show bestS q (k + 1) = if q k && lessO k (bestS q k) then some k else bestS q k from rfl]
    have ih := cnt_best q k
    by_cases c : q k = true
    · rw [if_pos c, c, Bool.true_and]
      refine ⟨fun h => absurd h (by omega), fun h => ?_⟩
      cases hb : bestS q k with
      | none =>
        rw [hb, show lessO k none = true from rfl, if_pos rfl] at h
        cases h
      | some b =>
        rw [hb] at h
        by_cases d : lessO k (some b) = true
        · rw [if_pos d] at h; cases h
        · rw [if_neg d] at h; cases h
    · rw [if_neg c, Bool.eq_false_iff.mpr c, Bool.false_and, if_neg (by decide)]
      exact ih
noncomputable def swq (V A : Dat) (L : Rop) (s k : Nat) : Bool := decide (nfl V A (pOf V A L k) (rid V A (pOf V A L k)) 8 = s)
theorem findSawn_c {mm : Mm} {V A : Dat} {L : Rop} {S : Int32} (hv : RvC mm 27 V) (ov : RvOk V) (hr : RaC mm 33 V A L S) (oa : RaOk V A L) {s : Nat} (hs : s < 256) : ∃ m1, f_X3_findSawn mm (nI s) = some m1 ∧ m1.1 232 4 = nI (cnt (swq V A L s) (2 ^ L.length)) ∧ m1.1 232 5 = encO 0 (bestS (swq V A L s) (2 ^ L.length)) ∧ ∀ i, ¬ scC i → m1.1 i = mm.1 i := by
  have hl := oa.2.1
  have hp : 2 ^ L.length ≤ 2 ^ 12 := Nat.pow_le_pow_right (by decide) hl
  have hx : ∃ w, lp (f_X3_findSawn_s12 (nI s)) ((0 : Int32), wI (wI mm 232 4 0) 232 5 0) = some w ∧ w.1 232 4 = nI (cnt (swq V A L s) (2 ^ L.length)) ∧ w.1 232 5 = encO 0 (bestS (swq V A L s) (2 ^ L.length)) ∧ ∀ i, ¬ scC i → w.1 i = mm.1 i := by
    refine lp_inv (fun k x => ∃ w, x = (nI k, w) ∧ w.1 232 4 = nI (cnt (swq V A L s) k) ∧ w.1 232 5 = encO 0 (bestS (swq V A L s) k) ∧ ∀ i, ¬ scC i → w.1 i = mm.1 i) _ (2 ^ L.length) (fun k x hk hx => ?_) (fun x hx => ?_) 0 _ (Nat.zero_le _) ⟨_, rfl, by rw [wI_pl (by decide), wI_at]; rfl, by rw [wI_at]; rfl, fun i hi => by rw [wI_ne (fun z => hi (by unfold scC; omega)), wI_ne (fun z => hi (by unfold scC; omega))]⟩
    · obtain ⟨w, rfl, w1, w2, w3⟩ := hx
      have hvw : RvC w 27 V := RvC_eq (fun j hj => w3 _ (fun z => by unfold scC at z; omega)) hv
      have hrw : RaC w 33 V A L S := RaC_eq (fun j hj => w3 _ (fun z => by unfold scC at z; omega)) hr
      have e3 : w.1 33 3 = nI L.length := hrw.2.2.1.1
      have ef := find_c hvw ov hrw oa (by decide) (by decide) (g := k) (by omega)
      obtain ⟨m, hm⟩ : ∃ m, m = wA (wA w 230 (rowN 8 (pOf V A L k) (w.1 230))) 231 (rowN 6 (rid V A (pOf V A L k)) (w.1 231)) := ⟨_, rfl⟩
      rw [← hm] at ef
      have fm : ∀ i, ¬ i = 230 → ¬ i = 231 → m.1 i = w.1 i := fun i h1 h2 => by rw [hm, wA_ne h2, wA_ne h1]
      have hvm : RvC m 27 V := RvC_eq (fun j hj => fm _ (by omega) (by omega)) hvw
      have hrm : RaC m 33 V A L S := RaC_eq (fun j hj => fm _ (by omega) (by omega)) hrw
      have hpm : ∀ t, t < 8 → m.1 230 t = nI (pOf V A L k t) ∧ pOf V A L k t < 256 := fun t ht => ⟨by rw [hm, wA_ne (by decide), wA_at, rowN_at _ _ ht], pOf_lt _ _ _ _ _⟩
      have hqm : ∀ o, o < 6 → m.1 231 o = nI (rid V A (pOf V A L k) o) ∧ rid V A (pOf V A L k) o < 256 := fun o ho => ⟨by rw [hm, wA_at, rowN_at _ _ ho], rid_lt (fun t _ => pOf_lt _ _ _ _ _) o⟩
      have en := notFloating_c hvm ov hrm oa hpm hqm
      have hnl := nfl_lt (V := V) (A := A) (q := rid V A (pOf V A L k)) (fun t _ => pOf_lt V A L k t) 8 (Nat.le_refl _)
      have w1' : m.1 232 4 = nI (cnt (swq V A L s) k) := by rw [fm 232 (by decide) (by decide)]; exact w1
      have w2' : m.1 232 5 = encO 0 (bestS (swq V A L s) k) := by rw [fm 232 (by decide) (by decide)]; exact w2
      have fr : ∀ i, ¬ scC i → m.1 i = mm.1 i := fun i hi => by rw [fm i (fun z => hi (by unfold scC; omega)) (fun z => hi (by unfold scC; omega)), w3 i hi]
      have hcl := cnt_le (swq V A L s) k
      have hpk := pop_le k 12
      have ec : cnt (swq V A L s) (k + 1) = if swq V A L s k then cnt (swq V A L s) k + 1 else cnt (swq V A L s) k := rfl
      have eb : bestS (swq V A L s) (k + 1) = if swq V A L s k && lessO k (bestS (swq V A L s) k) then some k else bestS (swq V A L s) k := rfl
      have hcb := cnt_best (swq V A L s) k
      unfold f_X3_findSawn_s12 f_X3_findSawn_j76 f_X3_findSawn_j81
      dsimp only
      rw [e3, nx_sh _ (by omega), if_neg (by rw [sN_le (by omega) (by omega)]; omega), ef, bi1_s, en, bi1_s, w1', w2']
      by_cases c : nfl V A (pOf V A L k) (rid V A (pOf V A L k)) 8 = s
      · have hq : swq V A L s k = true := decide_eq_true c
        rw [hq, if_pos rfl] at ec
        rw [hq, Bool.true_and] at eb
        rw [if_pos (by rw [c])]
        cases hb : bestS (swq V A L s) k with
        | none =>
          have h0 : cnt (swq V A L s) k = 0 := hcb.mpr hb
          rw [hb, show lessO k none = true from rfl, if_pos rfl] at eb
          rw [h0] at ec
          rw [h0, if_pos (show nI 0 = 0 from rfl)]
          refine ⟨_, rfl, _, by rw [sN_a1], ?_, ?_, fun i hi => ?_⟩
          · rw [wI_at, wI_pl (by decide), w1', h0, ec]; rfl
          · rw [wI_pl (by decide), wI_at, eb]; rfl
          · rw [wI_ne (fun z => hi (by unfold scC; omega)), wI_ne (fun z => hi (by unfold scC; omega)), fr i hi]
        | some b =>
          have hbl := bestS_lt _ k b hb
          have hpb := pop_le b 12
          have h0 : ¬ cnt (swq V A L s) k = 0 := fun z => by rw [hcb, hb] at z; cases z
          rw [hb] at eb
          rw [if_neg (by rw [sN_eq0 (by omega)]; exact h0), show encO 0 (some b) = nI b from rfl, pop_and_bc (by omega), pop_and_bc (by omega)]
          by_cases c3 : pop k 12 < pop b 12
          · rw [show lessO k (some b) = true from decide_eq_true c3, if_pos rfl] at eb
            rw [if_neg (by rw [sN_le (by omega) (by omega)]; omega)]
            refine ⟨_, rfl, _, by rw [sN_a1], ?_, ?_, fun i hi => ?_⟩
            · rw [wI_at, wI_pl (by decide), w1', ec, sN_a1]
            · rw [wI_pl (by decide), wI_at, eb]; rfl
            · rw [wI_ne (fun z => hi (by unfold scC; omega)), wI_ne (fun z => hi (by unfold scC; omega)), fr i hi]
          · rw [show lessO k (some b) = false from decide_eq_false c3, if_neg (by decide)] at eb
            rw [if_pos (by rw [sN_le (by omega) (by omega)]; omega)]
            refine ⟨_, rfl, _, by rw [sN_a1], ?_, ?_, fun i hi => ?_⟩
            · rw [wI_at, ec, sN_a1]
            · rw [wI_pl (by decide), w2', hb, eb]
            · rw [wI_ne (fun z => hi (by unfold scC; omega)), fr i hi]
      · have hq : swq V A L s k = false := decide_eq_false c
        rw [hq, if_neg (by decide)] at ec
        rw [hq, Bool.false_and, if_neg (by decide)] at eb
        rw [if_neg (by rw [sN_eq (by omega) (by omega)]; exact c)]
        exact ⟨_, rfl, m, by rw [sN_a1], by rw [ec]; exact w1', by rw [eb]; exact w2', fr⟩
    · obtain ⟨w, rfl, w1, w2, w3⟩ := hx
      have e3 : w.1 33 3 = nI L.length := by rw [w3 33 (fun z => by unfold scC at z; omega)]; exact hr.2.2.1.1
      refine ⟨w, ?_, w1, w2, w3⟩
      unfold f_X3_findSawn_s12
      dsimp only
      rw [e3, nx_sh _ (by omega), if_pos (by rw [sN_le (by omega) (by omega)]; omega)]
  obtain ⟨w, e, h1, h2, h3⟩ := hx
  refine ⟨w, ?_, h1, h2, h3⟩
  unfold f_X3_findSawn
  rw [vl_s, vl_s, e, bi1_s]
theorem sawnL_f {mm : Mm} {V A : Dat} {L : Rop} {S : Int32} (hv : RvF mm V) (ov : RvOk V) (hr : RaF mm V A L S) (oa : RaOk V A L) {s : Nat} (hs : s < 256) {y : Int32} : lp (f_X12_sawn_s45 mm (nI s) y) ((0 : Int32), (-2 : Int32), (0 : Int32)) = some (nI (cnt (swq V A L s) (2 ^ L.length)), encO (-2) (bestS (swq V A L s) (2 ^ L.length))) := by
  have hl := oa.2.1
  have hp : 2 ^ L.length ≤ 2 ^ 12 := Nat.pow_le_pow_right (by decide) hl
  have hp0 : 0 < 2 ^ L.length := Nat.two_pow_pos _
  refine lpf (fun k => (nI (cnt (swq V A L s) k), encO (-2) (bestS (swq V A L s) k), nI k)) (2 ^ L.length) rfl (fun k hk => ?_) ?_
  · have hnl := nfl_lt (V := V) (A := A) (q := rid V A (pOf V A L k)) (fun t _ => pOf_lt V A L k t) 8 (Nat.le_refl _)
    have hpk := pop_le k 12
    have p16 : ∀ {z : Nat}, z < 4096 → pop z 16 = pop z 12 := fun {z} hz => pop_more (n := 12) hz 4
    unfold f_X12_sawn_s45 f_X12_sawn_j94 f_X12_sawn_j101
    rw [show bestS (swq V A L s) (k + 1) = if swq V A L s k && lessO k (bestS (swq V A L s) k) then some k else bestS (swq V A L s) k from rfl, show cnt (swq V A L s) (k + 1) = if swq V A L s k then cnt (swq V A L s) k + 1 else cnt (swq V A L s) k from rfl]
    dsimp only
    rw [allRopes_f hr oa, if_neg (by rw [sN_lt (by omega) (by omega)]; omega), nx_ndf, sinking_f hv ov hr oa (RR_less hl k), bi1_s, sN_a1]
    by_cases c : nfl V A (pOf V A L k) (rid V A (pOf V A L k)) 8 = s
    · have hq : swq V A L s k = true := decide_eq_true c
      rw [if_pos (by rw [c]), hq, if_pos rfl, Bool.true_and, sN_a1]
      cases hb : bestS (swq V A L s) k with
      | none =>
        rw [show encO (-2) (none : Option Nat) = -2 from rfl, if_pos rfl, show lessO k none = true from rfl, if_pos rfl]
        rfl
      | some b =>
        have hbl := bestS_lt _ k b hb
        have hpb := pop_le b 12
        rw [show encO (-2) (some b) = nI b from rfl, if_neg (show ¬ nI b = -2 from fun z => by have := nI_nn b (by omega); rw [z] at this; exact this (by decide)), bits_ok (by omega), bi1_s, bits_ok (by omega), bi1_s, p16 (by omega), p16 (by omega)]
        by_cases c3 : pop k 12 < pop b 12
        · rw [if_neg (by rw [sN_le (by omega) (by omega)]; omega), show lessO k (some b) = true from decide_eq_true c3, if_pos rfl]
          rfl
        · rw [if_pos (by rw [sN_le (by omega) (by omega)]; omega), show lessO k (some b) = false from decide_eq_false c3, if_neg (by decide)]
          rfl
    · have hq : swq V A L s k = false := decide_eq_false c
      rw [if_neg (by rw [sN_eq (by omega) (by omega)]; exact c), hq, if_neg (by decide), Bool.false_and, if_neg (by decide), sN_a1]
  · unfold f_X12_sawn_s45
    dsimp only
    rw [allRopes_f hr oa, if_pos (by rw [sN_lt (by omega) (by omega)]; omega)]
theorem sm_sawn_ok : sm_sawn Inv := by
  intro mm x w hInv
  obtain ⟨ol, V, R, na, P, O, xx, hC, hF, ok⟩ := SimS_St hInv.2.2.1
  have hv := StC_rv hC
  have hr := StC_ra hC
  have hvF := rvF_RvF hF.1 ok.1
  have hrF := StF_ra hF
  have ov := ok.1.1
  have oa := ok.2.2.2.2.2.2.1
  have h99 := ov.1
  have h8 := ov.2.2.1
  have hl := oa.2.1
  have hp : 2 ^ R.2.1.length ≤ 2 ^ 12 := Nat.pow_le_pow_right (by decide) hl
  have hlt := thA_lt (A := R.1) (w := 0) h8
  have neg : f_X12_sawn mm x w = some (-1) → ∃ r m1, some ((-1 : Int32), mm) = some (r, m1) ∧ f_X12_sawn m1 x w = some r ∧ Inv m1 := fun h => ⟨-1, mm, rfl, h, hInv⟩
  unfold f_X11_sawn
  rw [isSet_c hv ov hr oa, bi1_s]
  by_cases c0 : V 1 0 = 0
  · rw [if_pos c0, if_pos rfl]
    refine neg ?_
    unfold f_X12_sawn
    rw [isRiver_ok hvF.1.1 h99, if_pos c0, if_pos rfl]
  · rw [if_neg c0]
    rcases setq hlt x with ⟨s, hs, rfl, hsub, hz, hnn⟩ | hz
    · rw [if_pos hz, if_neg (by decide)]
      have head : ∀ m : Mm, RvF m V → RaF m V R.1 R.2.1 R.2.2 → f_X12_sawn m (nI s) w = if (f_X12_in (w.toInt64) (0 : Int64) (2 : Int64)) = 0 then some (-1 : Int32) else if w = (2 : Int32) then some (nI (cnt (swq V R.1 R.2.1 s) (2 ^ R.2.1.length))) else if encO (-2) (bestS (swq V R.1 R.2.1 s) (2 ^ R.2.1.length)) = (-2 : Int32) then some (encO (-2) (bestS (swq V R.1 R.2.1 s) (2 ^ R.2.1.length))) else if w = (1 : Int32) then some (encO (-2) (bestS (swq V R.1 R.2.1 s) (2 ^ R.2.1.length))) else bi1 (f_X12_bits m (encO (-2) (bestS (swq V R.1 R.2.1 s) (2 ^ R.2.1.length)))) fun r_26 => some r_26 := fun m hvm hrm => by
        unfold f_X12_sawn
        rw [isRiver_ok hvm.1.1 h99, if_neg c0, if_neg (show ¬ (1 : Int32) = 0 by decide), if_neg hnn, afloat_f hvm ov hrm oa, bi1_s, if_pos hz, sawnL_f hvm ov hrm oa hs, bi1_s]
      rcases rng w 0 2 (by decide) (by decide) (l := (0 : Int64)) (h := (2 : Int64)) (by decide) (by decide) with ⟨k, k1, k2, rfl, hin⟩ | ⟨hw, hin⟩
      · rw [if_neg (nI_nn k (by omega)), if_pos (show nI k ≤ 2 by rw [K2, sN_le (by omega) (by decide)]; exact k2)]
        obtain ⟨m1, e1, s1, s2, f1⟩ := findSawn_c hv ov hr oa hs
        have hInv1 := Inv_sc hInv f1
        have hF1 : StF (fS m1) V R na P O xx := StF_cl (fun i hi => f1 i (sc_F hi)) hF
        have hd := head m1 (rvF_RvF hF1.1 ok.1) (StF_ra hF1)
        rw [hin, if_neg (by decide)] at hd
        rw [e1, bi1_s, s1, s2]
        have hcl := cnt_le (swq V R.1 R.2.1 s) (2 ^ R.2.1.length)
        have hcb := cnt_best (swq V R.1 R.2.1 s) (2 ^ R.2.1.length)
        by_cases k2' : nI k = 2
        · rw [if_pos k2'] at hd
          rw [if_pos k2']
          exact ⟨_, m1, rfl, hd, hInv1⟩
        · rw [if_neg k2'] at hd
          rw [if_neg k2']
          cases hb : bestS (swq V R.1 R.2.1 s) (2 ^ R.2.1.length) with
          | none =>
            rw [hb, show encO (-2) (none : Option Nat) = -2 from rfl, if_pos rfl] at hd
            rw [hcb.mpr hb, if_pos (show nI 0 = 0 from rfl)]
            exact ⟨_, m1, rfl, hd, hInv1⟩
          | some b =>
            have hbl := bestS_lt _ _ b hb
            have h0 : ¬ cnt (swq V R.1 R.2.1 s) (2 ^ R.2.1.length) = 0 := fun z => by rw [hcb, hb] at z; cases z
            rw [hb, show encO (-2) (some b) = nI b from rfl, if_neg (show ¬ nI b = -2 from fun z => by have := nI_nn b (by omega); rw [z] at this; exact this (by decide))] at hd
            rw [if_neg (by rw [sN_eq0 (by omega)]; exact h0), show encO 0 (some b) = nI b from rfl]
            by_cases k0 : nI k = 0
            · rw [if_pos k0, pop_and_bc (by omega)]
              rw [if_neg (by rw [k0]; decide), bits_ok (by omega), bi1_s, show pop b 16 = pop b 12 from pop_more (n := 12) (by omega) 4] at hd
              exact ⟨_, m1, rfl, hd, hInv1⟩
            · rw [if_neg k0]
              have k1' : nI k = 1 := by
                rw [sN_eq1 (by omega)]
                rw [sN_eq0 (by omega)] at k0
                rw [K2, sN_eq (by omega) (by decide)] at k2'
                omega
              rw [if_pos k1'] at hd
              exact ⟨_, m1, rfl, hd, hInv1⟩
      · have hd := head mm hvF hrF
        rw [hin, if_pos rfl] at hd
        by_cases h0 : w < 0
        · rw [if_pos h0]; exact neg hd
        · rw [if_neg h0, if_neg (show ¬ w ≤ 2 from fun z => ?_)]
          · exact neg hd
          · rcases hw with hw | hw
            · exact h0 hw
            · rw [Int32.le_iff_toInt_le] at z; rw [Int32.lt_iff_toInt_lt] at hw; exact absurd hw (by show ¬ (2 : Int32).toInt < w.toInt; omega)
    · rw [if_neg hz, if_pos rfl]
      refine neg ?_
      unfold f_X12_sawn
      rw [isRiver_ok hvF.1.1 h99, if_neg c0, if_neg (show ¬ (1 : Int32) = 0 by decide), afloat_f hvF ov hrF oa, bi1_s, if_neg hz]
      by_cases c : x < 0
      · rw [if_pos c]
      · rw [if_neg c]
