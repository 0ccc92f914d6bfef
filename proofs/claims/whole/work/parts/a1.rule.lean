/-! PHASE 2: rule, the simulation -/
theorem seg_map {A D R : Es} : (List.range D.length).map (fun k => nI (en (A ++ (D ++ R)) (A.length + k)).1) = D.map fun e => nI e.1 := by
  apply List.ext_getElem
  · simp
  · intro i h1 h2
    rw [List.length_map] at h2
    have e : en (A ++ (D ++ R)) (A.length + i) = D[i] := by
      unfold en
      rw [List.getD_eq_getElem?_getD, List.getElem?_append_right (by omega), Nat.add_sub_cancel_left, List.getElem?_append_left h2, List.getElem?_eq_getElem h2]
      rfl
    simp [e]
theorem oneV_cg {g g' : Nat → Int32} {i j : Nat} (h : ∀ z, z < j → g' z = g z) (ho : oneV g i j) : oneV g' i j := by
  unfold oneV at ho ⊢
  rw [show (List.range (j - i)).map (fun k => g' (i + k)) = (List.range (j - i)).map (fun k => g (i + k)) from List.map_congr_left (fun k hk => h _ (by have := List.mem_range.1 hk; omega))]
  exact ho
theorem oneB_cg {g g' : Nat → Int32} {i j : Nat} (h : ∀ z, z < j → g' z = g z) (ho : oneB g i j) : oneB g' i j := by
  unfold oneB at ho ⊢
  rw [show (List.range (j - i)).map (fun k => g' (i + k)) = (List.range (j - i)).map (fun k => g (i + k)) from List.map_congr_left (fun k hk => h _ (by have := List.mem_range.1 hk; omega))]
  exact ho
theorem oneB_seg {A D R : Es} (h : bOf (D.map fun e => nI e.1) [] = [true]) : oneB (fun z => nI (en (A ++ (D ++ R)) z).1) A.length (A.length + D.length) := by
  unfold oneB
  rw [Nat.add_sub_cancel_left, seg_map]
  exact h
theorem oneV_seg {A D R : Es} (h : hOf (D.map fun e => nI e.1) 0 = some 1) : oneV (fun z => nI (en (A ++ (D ++ R)) z).1) A.length (A.length + D.length) := by
  unfold oneV
  rw [Nat.add_sub_cancel_left, seg_map]
  exact h
theorem SimU_fr {mm m' : Mm} {u : Nat} (hu : u < 6) (h1 : ∀ j, j < 6 → m'.1 (1052 + 6 * u + j) = mm.1 (1052 + 6 * u + j)) (h2 : ∀ k, k < 300 → m'.1 1120 (300 * u + k) = mm.1 1120 (300 * u + k) ∧ m'.1 1121 (300 * u + k) = mm.1 1121 (300 * u + k)) (h3 : m'.1 1122 u = mm.1 1122 u) (h4 : ∀ i, 1123 ≤ i → i ≤ 1125 → ∀ q, q < 12 → m'.1 i (12 * u + q) = mm.1 i (12 * u + q)) (h : SimU mm u) : SimU m' u := by
  obtain ⟨len, nc, g1, g2, g3, g4, g5, g6, g7⟩ := h
  have e0 : m'.1 (1052 + 6 * u) = mm.1 (1052 + 6 * u) := h1 0 (by decide)
  refine ⟨len, nc, g1, g2, g3, by rw [e0]; exact g4, by rw [h3]; exact g5, fun i hi => ?_, fun q hq => ?_⟩
  · obtain ⟨s, v, k1, k2, k3, k4, k5, k6, k7⟩ := g6 i hi
    exact ⟨s, v, k1, k2, k3, k4, by rw [(h2 i (by omega)).1]; exact k5, by rw [(h2 i (by omega)).2]; exact k6, by rw [h1 1 (by decide)]; exact k7⟩
  · obtain ⟨i, j, k, l1, l2, l3, l4, l5, l6, l7, l8, l9, l10, l11⟩ := g7 q hq
    refine ⟨i, j, k, l1, l2, l3, by rw [h1 2 (by decide)]; exact l4, by rw [h4 1123 (by decide) (by decide) q (by omega)]; exact l5, by rw [h1 3 (by decide)]; exact l6, by rw [h4 1124 (by decide) (by decide) q (by omega)]; exact l7, by rw [h1 4 (by decide)]; exact l8, by rw [h4 1125 (by decide) (by decide) q (by omega)]; exact l9, oneV_cg (fun z hz => (h2 z (by omega)).1) l10, ?_⟩
    rcases l11 with z | z
    · exact Or.inl z
    · exact Or.inr ⟨oneV_cg (fun z hz => (h2 z (by omega)).1) z.1, oneB_cg (fun z hz => (h2 z (by omega)).1) z.2⟩
theorem SimU_new {m : Mm} {u : Nat} {E : Es} {Q : List Tr} (hE : E.length ≤ 280) (he : ∀ e, e ∈ E → egd e) (hq1 : 1 ≤ Q.length) (hq2 : Q.length ≤ 12) (hT : ∀ T, T ∈ Q → okT E T) (c5 : m.1 (1052 + 6 * u) 5 = nI Q.length) (f5 : m.1 1122 u = nI Q.length) (cE : ∀ k, k < E.length → m.1 (1052 + 6 * u + 1) k = nI (en E k).2 * 16 + kOf (nI (en E k).1)) (fE : ∀ k, k < E.length → m.1 1120 (300 * u + k) = nI (en E k).1 ∧ m.1 1121 (300 * u + k) = nI (en E k).2) (cQ : ∀ q, q < Q.length → m.1 (1052 + 6 * u + 2) q = nI (tg Q q).1 ∧ m.1 (1052 + 6 * u + 3) q = nI (tg Q q).2.1 ∧ m.1 (1052 + 6 * u + 4) q = nI (tg Q q).2.2) (fQ : fTb m u Q) : SimU m u := by
  refine ⟨E.length, Q.length, by omega, hq1, hq2, c5, f5, fun i hi => ?_, fun q hq => ?_⟩
  · have hm : en E i ∈ E := by
      unfold en
      rw [List.getD_eq_getElem?_getD, List.getElem?_eq_getElem hi]
      exact List.getElem_mem hi
    obtain ⟨k1, k2, k3, k4⟩ := he _ hm
    exact ⟨(en E i).1, (en E i).2, k1, k2, k3, k4, (fE i hi).1, (fE i hi).2, cE i hi⟩
  · obtain ⟨A, D, G, R, h1, h2, h3, h4⟩ := hT _ (tg_mem hq)
    obtain ⟨a1, a2, a3⟩ := cQ q hq
    obtain ⟨b1, b2, b3⟩ := fQ q hq
    rw [h2] at a1 a2 a3 b1 b2 b3
    have hl : A.length + D.length + G.length ≤ E.length := by
      rw [h1]
      simp
      omega
    refine ⟨A.length, A.length + D.length, A.length + D.length + G.length, by omega, by omega, hl, a1, b1, a2, b2, a3, b3, oneV_cg (fun z hz => (fE z (by omega)).1) ?_, ?_⟩
    · rw [h1]
      exact oneV_seg h3
    · rcases h4 with z | z
      · exact Or.inl (by rw [z]; rfl)
      · refine Or.inr ⟨oneV_cg (fun z hz => (fE z (by omega)).1) ?_, oneB_cg (fun z hz => (fE z (by omega)).1) ?_⟩
        · rw [h1, show A ++ (D ++ (G ++ R)) = (A ++ D) ++ (G ++ R) by simp, show A.length + D.length = (A ++ D).length by rw [List.length_append]]
          exact oneV_seg z.1
        · rw [h1, show A ++ (D ++ (G ++ R)) = (A ++ D) ++ (G ++ R) by simp, show A.length + D.length = (A ++ D).length by rw [List.length_append]]
          exact oneB_seg z.2
/-- what a rule's text does in the reference -/
theorem rule_f {m : Mm} {n : Nat} {t : Nat → Nat} (h : TxF m n t) (ok : TxOk n t) (h12 : m.1 1088 40 = 12) {u : Nat} (hu : u < 6) (h35 : m.1 1088 35 = nI u) : ∃ m2, (∀ i, ¬ (i = 1088 ∨ (1120 ≤ i ∧ i ≤ 1126)) → m2.1 i = m.1 i) ∧ (∀ k, ¬ (31 ≤ k ∧ k ≤ 39) → m2.1 1088 k = m.1 1088 k) ∧ m2.1 1088 31 = 0 ∧ (∀ k, k < 300 * u → m2.1 1120 k = m.1 1120 k ∧ m2.1 1121 k = m.1 1121 k) ∧ (∀ k, ¬ k = u → m2.1 1122 k = m.1 1122 k) ∧ (∀ i, 1123 ≤ i → i ≤ 1125 → ∀ k, k < 12 * u → m2.1 i k = m.1 i k) ∧ ((∃ f, rls n t 12 (0, [], 0) [] = .inl f ∧ f_X12_rule m = some (-2 - nI f, m2) ∧ m2.1 1088 35 = nI u) ∨ ∃ E Q, rls n t 12 (0, [], 0) [] = .inr (E, Q) ∧ f_X12_rule m = some (nI u, m2) ∧ m2.1 1088 35 = nI (u + 1) ∧ m2.1 1122 u = nI Q.length ∧ (∀ k, k < E.length → m2.1 1120 (300 * u + k) = nI (en E k).1 ∧ m2.1 1121 (300 * u + k) = nI (en E k).2) ∧ fTb m2 u Q) := by
  obtain ⟨a, ha⟩ : ∃ a, wI (wI (wI (wI (wI (wI m 1088 34 (nI u)) 1088 32 0) 1088 33 0) 1088 36 0) 1088 37 0) 1088 38 0 = a := ⟨_, rfl⟩
  have fa : ∀ i, ¬ i = 1088 → a.1 i = m.1 i := fun i hi => by rw [← ha, wI_ne hi, wI_ne hi, wI_ne hi, wI_ne hi, wI_ne hi, wI_ne hi]
  have ga : ∀ k, ¬ (32 ≤ k ∧ k ≤ 38 ∧ ¬ k = 35) → a.1 1088 k = m.1 1088 k := fun k hk => by rw [← ha, wI_pl (by omega), wI_pl (by omega), wI_pl (by omega), wI_pl (by omega), wI_pl (by omega), wI_pl (by omega)]
  have a34 : a.1 1088 34 = nI u := by rw [← ha]; simp [wI_get]
  have a32 : a.1 1088 32 = 0 := by rw [← ha]; simp [wI_get]
  have a33 : a.1 1088 33 = 0 := by rw [← ha]; simp [wI_get]
  have a36 : a.1 1088 36 = 0 := by rw [← ha]; simp [wI_get]
  have a37 : a.1 1088 37 = 0 := by rw [← ha]; simp [wI_get]
  have a38 : a.1 1088 38 = 0 := by rw [← ha]; simp [wI_get]
  have oa : fOk n t u a (0, [], 0) := ⟨⟨by rw [ga 31 (by decide)]; exact h.1, fun k hk => by rw [fa 1119 (by decide)]; exact h.2 k hk⟩, by rw [ga 40 (by decide)]; exact h12, a32, Nat.zero_le _, a33, ⟨a36, a34, fun k hk => absurd hk (Nat.not_lt_zero _), a38⟩, Nat.zero_le _, Nat.zero_le _⟩
  obtain ⟨w, b, e1, fb, hr⟩ := rls_f ok hu 12 (0, [], 0) [] a rfl oa a37 (fun q hq => absurd hq (Nat.not_lt_zero _))
  have b34 : b.1 1088 34 = nI u := by rw [fb.2.1 34 (by decide)]; exact a34
  obtain ⟨d, hd⟩ : ∃ d, wI (wI b 1088 31 0) 1122 u w = d := ⟨_, rfl⟩
  have d35 : d.1 1088 35 = nI u := by rw [← hd, wI_ne (by decide), wI_pl (by decide), fb.2.1 35 (by decide), ga 35 (by decide)]; exact h35
  have d33 : d.1 1088 33 = b.1 1088 33 := by rw [← hd, wI_ne (by decide), wI_pl (by decide)]
  have hs : f_X12_rule m = if d.1 1088 33 = 0 then f_X12_rule_j79 d 1 (nI u) else f_X12_rule_j79 d 0 (nI u) := by
    unfold f_X12_rule f_X12_starts
    rw [h35, if_neg (by rw [K6, sN_eq (by omega) (by decide)]; omega), vl_s, vl_s, vl_s, vl_s, vl_s, vl_s, ha, bi1_s, show lp f_X12_rule_s27 ((0 : Int32), (1 : Int32), a) = some (w, b) from e1, bi1_s]
    show (vlet (wI b 1088 31 (0 : Int32)) fun mm_17 => _) = _
    rw [vl_s, wI_pl (by decide), b34, if_neg (gd_ok (show u < 6 from hu) (by decide)), cl_ok (by omega), vl_s, hd, d35]
  have fr : ∀ x, (∀ i, ¬ (i = 1088 ∨ (1120 ≤ i ∧ i ≤ 1126)) → (wI d 1088 35 x).1 i = m.1 i) ∧ (∀ k, ¬ (31 ≤ k ∧ k ≤ 39) → (wI d 1088 35 x).1 1088 k = m.1 1088 k) ∧ (wI d 1088 35 x).1 1088 31 = 0 ∧ (∀ k, k < 300 * u → (wI d 1088 35 x).1 1120 k = m.1 1120 k ∧ (wI d 1088 35 x).1 1121 k = m.1 1121 k) ∧ (∀ k, ¬ k = u → (wI d 1088 35 x).1 1122 k = m.1 1122 k) ∧ (∀ i, 1123 ≤ i → i ≤ 1125 → ∀ k, k < 12 * u → (wI d 1088 35 x).1 i k = m.1 i k) := fun x => by
    refine ⟨fun i hi => ?_, fun k hk => ?_, ?_, fun k hk => ?_, fun k hk => ?_, fun i i1 i2 k hk => ?_⟩
    · rw [wI_ne (by omega), ← hd, wI_ne (by omega), wI_ne (by omega), fb.1 i (by omega), fa i (by omega)]
    · rw [wI_pl (by omega), ← hd, wI_ne (by decide), wI_pl (by omega), fb.2.1 k (by omega), ga k (by omega)]
    · rw [wI_pl (by decide), ← hd, wI_ne (by decide), wI_at]
    · rw [wI_ne (by decide), wI_ne (by decide), ← hd, wI_ne (by decide), wI_ne (by decide), wI_ne (by decide), wI_ne (by decide), (fb.2.2.1 k hk).1, (fb.2.2.1 k hk).2, fa 1120 (by decide), fa 1121 (by decide)]
      exact ⟨rfl, rfl⟩
    · rw [wI_ne (by decide), ← hd, wI_pl hk, wI_ne (by decide), fb.1 1122 (by decide), fa 1122 (by decide)]
    · rw [wI_ne (by omega), ← hd, wI_ne (by omega), wI_ne (by omega), fb.2.2.2 i i1 i2 k (by omega), fa i (by omega)]
  rcases hr with ⟨f, r1, r2, r3, r4⟩ | ⟨E, Q, r1, r2, r3, r4, r5⟩
  · rw [d33, r2, if_neg (show ¬ nI f = 0 by rw [show (0 : Int32) = nI 0 from rfl, sN_eq (by omega) (by decide)]; omega)] at hs
    unfold f_X12_rule_j79 at hs
    rw [show (nI u + 0 : Int32) = nI u by rw [show (0 : Int32) = nI 0 from rfl, sN_ad]; rfl, vl_s, wI_pl (by decide), d33, r2, if_neg (fun z => by rw [sN_le0 (by omega)] at z; omega)] at hs
    obtain ⟨q1, q2, q3, q4, q5, q6⟩ := fr (nI u)
    exact ⟨_, q1, q2, q3, q4, q5, q6, Or.inl ⟨f, r1, hs, wI_at _ _ _ _⟩⟩
  · rw [d33, r2, if_pos rfl] at hs
    unfold f_X12_rule_j79 at hs
    rw [sN_a1, vl_s, wI_pl (by decide), d33, r2, if_pos (by decide), wI_at, nI_s1] at hs
    obtain ⟨q1, q2, q3, q4, q5, q6⟩ := fr (nI (u + 1))
    refine ⟨_, q1, q2, q3, q4, q5, q6, Or.inr ⟨E, Q, r1, hs, wI_at _ _ _ _, ?_, fun k hk => ?_, fun q hq => ?_⟩⟩
    · rw [wI_ne (by decide), ← hd, wI_at]
      exact r3
    · rw [wI_ne (by decide), wI_ne (by decide), ← hd, wI_ne (by decide), wI_ne (by decide), wI_ne (by decide), wI_ne (by decide)]
      exact r4 k hk
    · rw [wI_ne (by decide), wI_ne (by decide), wI_ne (by decide), ← hd, wI_ne (by decide), wI_ne (by decide), wI_ne (by decide), wI_ne (by decide), wI_ne (by decide), wI_ne (by decide)]
      exact r5 q hq
theorem readR_c {m : Mm} {n : Nat} {t : Nat → Nat} (h : TxC m n t) (ok : TxOk n t) : rC m (f_X8_read m) (rls n t 12 (0, [], 0) []) := by
  obtain ⟨a, ha⟩ : ∃ a, wI (wI (wI (wI (wI (wI m 1 2 0) 1 3 0) 1 4 0) 20 1 0) 20 5 0) 19 2 0 = a := ⟨_, rfl⟩
  have fa : frG m a := ⟨fun i hi => by rw [← ha, wI_ne (by omega), wI_ne (by omega), wI_ne (by omega), wI_ne (by omega), wI_ne (by omega), wI_ne (by omega)], by rw [← ha]; simp [wI_get]⟩
  have oa : cOk n t a (0, [], 0) := ⟨fa.tx h, by unfold atC; rw [← ha]; simp [wI_get]; rfl, Nat.zero_le _, ⟨by rw [← ha]; simp [wI_get]; rfl, fun k hk => absurd hk (Nat.not_lt_zero _), by rw [← ha]; simp [wI_get]; rfl⟩, Nat.zero_le _, Nat.zero_le _⟩
  rw [read_K]
  unfold f_X10_open f_X7_clear
  rw [vl_s, vl_s, vl_s, bi1_s, vl_s, vl_s, bi1_s, vl_s, ha]
  exact rC.tr fa (rls_c ok 12 (0, [], 0) [] a rfl oa (fun q hq => absurd hq (Nat.not_lt_zero _)))
theorem sm_rule_ok : sm_rule Inv := by
  intro mm hInv
  obtain ⟨n, t, tc, tf, ok⟩ := SimT_Tx hInv.1
  obtain ⟨nr, g1, g2, g3, g4, g5⟩ := hInv.2.1
  unfold f_X11_rule
  by_cases c6 : nr = 6
  · refine ⟨-1, mm, mm, ?_, ?_, hInv⟩
    · rw [g2, if_neg (by rw [c6]; decide)]
    · unfold f_X12_rule
      rw [g3, if_pos (by rw [c6]; rfl)]
  · have hu : nr < 6 := by omega
    rw [g2, if_pos (by rw [K6, sN_lt (by omega) (by decide)]; exact hu)]
    obtain ⟨m1, f1, ⟨f, r1, r2, r3⟩ | ⟨E, Q, r1, r2, r3, r4, r5, r6⟩⟩ := readR_c tc ok
    · rw [r2, bi2_s, vl_s, if_pos rfl, wI_pl (by decide), r3]
      obtain ⟨m2, hm2⟩ : ∃ m2, wI m1 1 1 0 = m2 := ⟨_, rfl⟩
      have k2 : ∀ i, ¬ (i = 1 ∨ (19 ≤ i ∧ i ≤ 24)) → m2.1 i = mm.1 i := fun i hi => by rw [← hm2, wI_ne (by omega), f1.1 i hi]
      have tf2 : TxF m2 n t := ⟨by rw [k2 1088 (by decide)]; exact tf.1, fun k hk => by rw [k2 1119 (by decide)]; exact tf.2 k hk⟩
      obtain ⟨m3, q1, q2, q3, q4, q5, q6, ⟨f', s1, s2, s3⟩ | ⟨E, Q, s1, _⟩⟩ := rule_f tf2 ok (by rw [k2 1088 (by decide)]; exact g4) hu (by rw [k2 1088 (by decide)]; exact g3)
      · rw [r1] at s1
        have hff := Sum.inl.inj s1
        rw [hm2]
        refine ⟨_, m2, m3, rfl, by rw [s2, hff], ?_⟩
        have g : ∀ i, ¬ (i = 1088 ∨ (1120 ≤ i ∧ i ≤ 1126)) → ¬ (i = 1 ∨ (19 ≤ i ∧ i ≤ 24)) → m3.1 i = mm.1 i := fun i i1 i2 => by rw [q1 i i1, k2 i i2]
        have g8 : ∀ k, k = 40 ∨ k = 55 → m3.1 1088 k = mm.1 1088 k := fun k hk => by rw [q2 k (by omega), k2 1088 (by decide)]
        refine ⟨⟨0, by decide, ?_, q3, fun k hk => absurd hk (Nat.not_lt_zero _)⟩, ⟨nr, g1, by rw [g 0 (by omega) (by omega)]; exact g2, s3, by rw [g8 40 (by omega)]; exact g4, fun u hu' => SimU_fr (by omega) (fun j hj => g _ (by omega) (by omega)) (fun k hk => ?_) ?_ (fun i i1 i2 q hq => ?_) (g5 u hu')⟩, SimN_eq (fun i h1 h2 => g i (by omega) (by omega)) (fun i h1 h2 => g i (by omega) (by omega)) (g8 55 (by omega)) (g 1129 (by omega) (by omega)) hInv.2.2.1, SimI_eq (g 227 (by omega) (by omega)) (g 1140 (by omega) (by omega)) (fun i h1 h2 => g i (by omega) (by omega)) (g 1139 (by omega) (by omega)) hInv.2.2.2⟩
        · rw [q1 1 (by decide), ← hm2, wI_at]
          rfl
        · rw [(q4 (300 * u + k) (by omega)).1, (q4 (300 * u + k) (by omega)).2, k2 1120 (by decide), k2 1121 (by decide)]
          exact ⟨rfl, rfl⟩
        · rw [q5 u (by omega), k2 1122 (by decide)]
        · rw [q6 i i1 i2 _ (by omega), k2 i (by omega)]
      · rw [r1] at s1
        cases s1
    · obtain ⟨ok1, ok2, ok3, ok4, ok5⟩ := rls_ok 12 (0, [], 0) [] E Q rfl (Nat.zero_le _) (Nat.zero_le _) (Nat.zero_le _) (fun e he => absurd he (by simp)) (fun T hT => absurd hT (by simp)) r1
      rw [r2, bi2_s, vl_s, if_neg (show ¬ (1 : Int32) = 0 by decide), wI_ne (by decide), f1.1 0 (by decide), g2, if_neg (gd_ok (show nr < 6 from hu) (by decide)), cl_ok (by omega)]
      obtain ⟨m2, hm2⟩ : ∃ m2, wI m1 1 1 0 = m2 := ⟨_, rfl⟩
      have k2 : ∀ i, ¬ (i = 1 ∨ (19 ≤ i ∧ i ≤ 24)) → m2.1 i = mm.1 i := fun i hi => by rw [← hm2, wI_ne (by omega), f1.1 i hi]
      have l2 : ∀ i, 19 ≤ i → i ≤ 24 → m2.1 i = m1.1 i := fun i i1 i2 => by rw [← hm2, wI_ne (by omega)]
      have hcp : ∃ m3, f_X7_copyFrom m2 (1052 + 6 * nr) = some m3 ∧ (∀ i, ¬ (1052 + 6 * nr ≤ i ∧ i < 1052 + 6 * nr + 6) → m3.1 i = m2.1 i) ∧ m3.1 (1052 + 6 * nr) 5 = m2.1 20 5 ∧ (∀ k, k < 400 → m3.1 (1052 + 6 * nr + 1) k = m2.1 21 k) ∧ ∀ q, q < 12 → m3.1 (1052 + 6 * nr + 2) q = m2.1 22 q ∧ m3.1 (1052 + 6 * nr + 3) q = m2.1 23 q ∧ m3.1 (1052 + 6 * nr + 4) q = m2.1 24 q := by
        unfold f_X7_copyFrom
        obtain ⟨U, hU⟩ : ∃ U, 1052 + 6 * nr = U := ⟨_, rfl⟩
        rw [hU, vl_s, vl_s, vl_s, vl_s, vl_s, vl_s]
        refine ⟨_, rfl, fun i hi => ?_, ?_, fun k hk => ?_, fun q hq => ⟨?_, ?_, ?_⟩⟩
        · rw [wA_get, if_neg (by omega), wA_get, if_neg (by omega), wA_get, if_neg (by omega), wA_get, if_neg (by omega), wI_ne (by omega), wI_ne (by omega)]
        · rw [wA_get, if_neg (by omega), wA_get, if_neg (by omega), wA_get, if_neg (by omega), wA_get, if_neg (by omega), wI_at, wI_ne (by omega)]
        · rw [wA_get, if_neg (by omega), wA_get, if_neg (by omega), wA_get, if_neg (by omega), wA_get, if_pos rfl, cpy0 hk, wI_ne (by omega), wI_ne (by omega)]
        · rw [wA_get, if_neg (by omega), wA_get, if_neg (by omega), wA_get, if_pos rfl, cpy0 hq, wA_get, if_neg (by omega), wI_ne (by omega), wI_ne (by omega)]
        · rw [wA_get, if_neg (by omega), wA_get, if_pos rfl, cpy0 hq, wA_get, if_neg (by omega), wA_get, if_neg (by omega), wI_ne (by omega), wI_ne (by omega)]
        · rw [wA_get, if_pos rfl, cpy0 hq, wA_get, if_neg (by omega), wA_get, if_neg (by omega), wA_get, if_neg (by omega), wI_ne (by omega), wI_ne (by omega)]
      obtain ⟨m3, e3, p1, p2, p3, p4⟩ := hcp
      rw [hm2, e3, bi1_s, p1 0 (by omega), k2 0 (by decide), g2, sN_a1, vl_s, wI_at, nI_s1]
      obtain ⟨m4, hm4⟩ : ∃ m4, wI m3 0 7 (nI (nr + 1)) = m4 := ⟨_, rfl⟩
      rw [hm4]
      have p0 : ∀ i, ¬ i = 0 → m4.1 i = m3.1 i := fun i hi => by rw [← hm4, wI_ne hi]
      have k4 : ∀ i, ¬ (i = 0 ∨ i = 1 ∨ (19 ≤ i ∧ i ≤ 24) ∨ (1052 + 6 * nr ≤ i ∧ i < 1052 + 6 * nr + 6)) → m4.1 i = mm.1 i := fun i hi => by rw [p0 i (by omega), p1 i (by omega), k2 i (by omega)]
      have tf4 : TxF m4 n t := ⟨by rw [k4 1088 (by omega)]; exact tf.1, fun k hk => by rw [k4 1119 (by omega)]; exact tf.2 k hk⟩
      obtain ⟨m5, q1, q2, q3, q4, q5, q6, ⟨f', s1, _⟩ | ⟨E', Q', s1, s2, s3, s4, s5, s6⟩⟩ := rule_f tf4 ok (by rw [k4 1088 (by omega)]; exact g4) hu (by rw [k4 1088 (by omega)]; exact g3)
      · rw [r1] at s1
        cases s1
      · rw [r1] at s1
        obtain ⟨hE, hQ⟩ := Prod.mk.inj (Sum.inr.inj s1)
        subst hE
        subst hQ
        refine ⟨_, m4, m5, rfl, s2, ?_⟩
        have g : ∀ i, ¬ (i = 1088 ∨ (1120 ≤ i ∧ i ≤ 1126)) → ¬ (i = 0 ∨ i = 1 ∨ (19 ≤ i ∧ i ≤ 24) ∨ (1052 + 6 * nr ≤ i ∧ i < 1052 + 6 * nr + 6)) → m5.1 i = mm.1 i := fun i i1 i2 => by rw [q1 i i1, k4 i i2]
        have g8 : ∀ k, k = 40 ∨ k = 55 → m5.1 1088 k = mm.1 1088 k := fun k hk => by rw [q2 k (by omega), k4 1088 (by omega)]
        refine ⟨⟨0, by decide, ?_, q3, fun k hk => absurd hk (Nat.not_lt_zero _)⟩, ⟨nr + 1, by omega, ?_, s3, by rw [g8 40 (by omega)]; exact g4, fun u hu' => ?_⟩, SimN_eq (fun i h1 h2 => g i (by omega) (by omega)) (fun i h1 h2 => g i (by omega) (by omega)) (g8 55 (by omega)) (g 1129 (by omega) (by omega)) hInv.2.2.1, SimI_eq (g 227 (by omega) (by omega)) (g 1140 (by omega) (by omega)) (fun i h1 h2 => g i (by omega) (by omega)) (g 1139 (by omega) (by omega)) hInv.2.2.2⟩
        · rw [q1 1 (by decide), p0 1 (by decide), p1 1 (by omega), ← hm2, wI_at]
          rfl
        · rw [q1 0 (by decide), ← hm4, wI_at]
        · by_cases z : u = nr
          · subst z
            have c : ∀ j, j < 6 → m5.1 (1052 + 6 * u + j) = m3.1 (1052 + 6 * u + j) := fun j hj => by rw [q1 _ (by omega), p0 _ (by omega)]
            refine SimU_new ok1 ok2 ok3 ok4 ok5 ?_ s4 (fun k hk => ?_) s5 (fun q hq => ?_) s6
            · rw [show m5.1 (1052 + 6 * u) = m3.1 (1052 + 6 * u) from c 0 (by decide), p2, l2 20 (by decide) (by decide)]
              exact r6
            · rw [c 1 (by decide), p3 k (by omega), l2 21 (by decide) (by decide)]
              exact r4 k hk
            · rw [c 2 (by decide), c 3 (by decide), c 4 (by decide), (p4 q (by omega)).1, (p4 q (by omega)).2.1, (p4 q (by omega)).2.2, l2 22 (by decide) (by decide), l2 23 (by decide) (by decide), l2 24 (by decide) (by decide)]
              exact r5 q hq
          · have hu2 : u < nr := by omega
            refine SimU_fr (by omega) (fun j hj => g _ (by omega) (by omega)) (fun k hk => ?_) ?_ (fun i i1 i2 q hq => ?_) (g5 u hu2)
            · rw [(q4 (300 * u + k) (by omega)).1, (q4 (300 * u + k) (by omega)).2, k4 1120 (by omega), k4 1121 (by omega)]
              exact ⟨rfl, rfl⟩
            · rw [q5 u (by omega), k4 1122 (by omega)]
            · rw [q6 i i1 i2 _ (by omega), k4 i (by omega)]
