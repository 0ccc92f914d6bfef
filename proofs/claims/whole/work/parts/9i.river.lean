/-! PHASE 2: river, the reference's reading -/
theorem rapLoop_f {m : Mm} {X : Bv} (hX : bF m X) (hO : bO X) (h0 : m.1 1088 33 = 0) {v b : Nat} (hv : v < 100) (hb : b ≤ 500) : lp (f_X12_readsRapid_s31 (nI (X.1 1 3)) (nI b) (nI v)) ((0 : Int32), m) = some (if X.1 6 v = 0 then m else wI m 1088 33 (nI (2 + 8 * b))) := by
  have h6 := hO.1.2.1
  have r5 := hO.1.2.2.2.1
  have r6 := hO.1.2.2.2.2
  have h99 := hO.1.1.1
  have endd : ∀ m', f_X12_readsRapid_s31 (nI (X.1 1 3)) (nI b) (nI v) (nI (X.1 1 3), m') = some (.inr m') := fun m' => by
    unfold f_X12_readsRapid_s31
    dsimp only
    rw [if_pos (by rw [sN_le (by omega) (by omega)]; omega)]
  have step : ∀ k m', k < X.1 1 3 → m'.1 1117 k = nI (X.1 7 k) → f_X12_readsRapid_s31 (nI (X.1 1 3)) (nI b) (nI v) (nI k, m') = if X.1 7 k = v then (if m'.1 1088 33 = 0 then bi1 (f_X12_fails m' (1 : Int32) (nI b)) fun mm_10 => some (.inl (nI (k + 1), mm_10)) else some (.inl (nI (k + 1), m'))) else some (.inl (nI (k + 1), m')) := fun k m' hk hm => by
    have := r5 k hk
    unfold f_X12_readsRapid_s31
    dsimp only
    rw [if_neg (by rw [sN_le (by omega) (by omega)]; omega), if_neg (gd_ok (show k < 6 by omega) (by decide)), cl_ok (by omega), hm, sN_a1]
    by_cases q : X.1 7 k = v
    · rw [if_pos q, if_pos (by rw [q])]
    · rw [if_neg q, if_neg (by rw [sN_eq (by omega) (by omega)]; exact q)]
  by_cases c : X.1 6 v = 0
  · rw [if_pos c]
    refine lpf (fun k => (nI k, m)) (X.1 1 3) rfl (fun k hk => ?_) (endd m)
    rw [step k m hk (hX.2.2.2.2 k hk).1, if_neg (fun z => by
      have := r5 k hk
      rw [z, c] at this
      omega)]
  · rw [if_neg c]
    have hex : ∃ k, k < X.1 1 3 ∧ X.1 7 k = v := by
      by_cases q : ∃ k, k < X.1 1 3 ∧ X.1 7 k = v
      · exact q
      · exact absurd (r6 v hv (fun k hk z => q ⟨k, hk, z⟩)) c
    obtain ⟨k0, hk0, hkv⟩ := hex
    obtain ⟨m', hm'⟩ : ∃ m', m' = wI m 1088 33 (nI (2 + 8 * b)) := ⟨_, rfl⟩
    have z' : ¬ m'.1 1088 33 = 0 := by rw [hm', wI_at]; exact nz_ne (by omega) (by omega)
    have x' : ∀ k, k < X.1 1 3 → m'.1 1117 k = nI (X.1 7 k) := fun k hk => by rw [hm', wI_ne (by decide)]; exact (hX.2.2.2.2 k hk).1
    rw [← hm']
    refine lpf (fun k => (nI k, if k ≤ k0 then m else m')) (X.1 1 3) (by show _ = (nI 0, if 0 ≤ k0 then m else m'); rw [if_pos (Nat.zero_le _)]; rfl) (fun k hk => ?_) (by show f_X12_readsRapid_s31 _ _ _ (nI (X.1 1 3), if X.1 1 3 ≤ k0 then m else m') = _; rw [if_neg (show ¬ X.1 1 3 ≤ k0 by omega)]; exact endd m')
    show f_X12_readsRapid_s31 _ _ _ (nI k, if k ≤ k0 then m else m') = some (.inl (nI (k + 1), if k + 1 ≤ k0 then m else m'))
    rcases Nat.lt_trichotomy k k0 with q | q | q
    · rw [if_pos (show k ≤ k0 by omega), if_pos (show k + 1 ≤ k0 by omega), step k m hk (hX.2.2.2.2 k hk).1, if_neg (fun z => (r5 k0 hk0).2.2.2.2 k q (by rw [z, hkv]))]
    · rw [if_pos (show k ≤ k0 by omega), if_neg (show ¬ k + 1 ≤ k0 by omega), step k m hk (hX.2.2.2.2 k hk).1, if_pos (by rw [q]; exact hkv), if_pos h0, K1, fails_0 b 1 h0, bi1_s, show 1 + 8 * b + 1 = 2 + 8 * b by omega, ← hm']
    · rw [if_neg (show ¬ k ≤ k0 by omega), if_neg (show ¬ k + 1 ≤ k0 by omega), step k m' hk (x' k hk), if_neg z']
      split <;> rfl
theorem rapLoopX {m : Mm} {f l : Nat} (hf : flt m f) (hl : l < 6) {x y : Int32} : lp (f_X12_readsRapid_s31 (nI l) x y) ((0 : Int32), m) = some m := by
  refine lpf (fun k => (nI k, m)) l rfl (fun k hk => ?_) ?_
  · unfold f_X12_readsRapid_s31
    dsimp only
    rw [if_neg (by rw [sN_le (by omega) (by omega)]; omega), if_neg (gd_ok (show k < 6 by omega) (by decide)), if_neg (flt_ne hf), sN_a1]
    split <;> rfl
  · unfold f_X12_readsRapid_s31
    dsimp only
    rw [if_pos (by rw [sN_le (by omega) (by omega)]; omega)]
theorem rq4_f {m : Mm} {n : Nat} {t : Nat → Nat} (h : TxF m n t) (ok : TxOk n t) {i : Nat} (ha : m.1 1088 32 = nI i) (hi : i ≤ n) (h0 : m.1 1088 33 = 0) {X : Bv} (hX : bF m X) (hO : bO X) (hr : X.1 1 3 < 6) : rdQ m (f_X12_readsRapid m) (part n t 4 i X) := by
  have h4 := ok.1
  have h99 := hO.1.1.1
  have hbe := bl_le t hi
  have hg : ¬ (nI (X.1 1 3) < 0 ∨ 6 ≤ X.1 1 3) := fun z => z.elim (nI_nn _ (by omega)) (fun y => by omega)
  unfold f_X12_readsRapid part
  rw [if_neg (by decide), if_neg (by decide), if_neg (by decide), if_neg (by decide), blanks_f h ok ha (by omega), bi1_s, wI_at, hX.1.2.2.2.2, cl_ok (show X.1 1 3 < 100000 by omega)]
  simp only [if_neg hg]
  obtain ⟨m0, hm0⟩ : ∃ m0, m0 = wI m 1088 32 (nI (bl n t i)) := ⟨_, rfl⟩
  have f0 : frU m m0 := by rw [hm0]; exact frU_w m (Or.inl rfl)
  have a0 : m0.1 1088 32 = nI (bl n t i) := by rw [hm0, wI_at]
  have z0 : m0.1 1088 33 = 0 := by rw [hm0, wI_pl (by decide)]; exact h0
  have tx0 := f0.tx h
  have ec : m0.1 1107 0 = zI (X.1 1 0 : Int) := by rw [f0.1 1107 (by decide)]; exact hX.1.1
  rw [← hm0, ec, ← num_bl n t i, show (1 : Int32) = zI 1 from rfl, show (9 : Int32) = zI 9 from rfl]
  have tail : ∀ (m1 : Mm) (f : Nat) (r : Int32), TxF m1 n t → flt m1 f → rdX m1 (vlet (wI m1 1117 (X.1 1 3) r) fun mm_14 => bi2 (f_X12_amount mm_14 (zI 1) (zI 9)) fun r_18 mm_16 => vlet (wI mm_16 1118 (X.1 1 3) r_18) fun mm_19 => vlet (wI mm_19 1107 5 (mm_19.1 1107 5 + zI 1)) fun mm_21 => some mm_21) f := fun m1 f r tx g => by
    rw [vl_s]
    refine rdX.tr (frV_w m1 (by decide)) (rdX_num ((frV_w m1 (by decide)).tx tx) ok (flt_w g (by decide)) (fun r2 m3 f3 g3 => ?_))
    rw [vl_s, vl_s]
    exact ⟨_, rfl, (frV_w _ (by decide)).tr (frV_w _ (by decide)), flt_w (flt_w g3 (by decide)) (by decide)⟩
  refine rdQ.tr f0.v (rdQ_num (lo := 1) (hi' := (X.1 1 0 : Int)) tx0 ok a0 hbe z0 (by decide) (by decide) (by omega) (by omega) (fun r m1 f f1 g1 => ?_) (fun v e m1 e1 f1 a1 z1 => ?_))
  · rw [rapLoopX g1 hr, bi1_s]
    exact tail m1 f r (f1.tx tx0) g1
  · have n1 := num_ok e1
    have tx1 := f1.tx tx0
    have x1 : bF m1 X := bF_eq (fun c c1 c2 => by rw [f1.1 c (by omega), f0.1 c (by omega)]) hX
    dsimp only
    rw [rapLoop_f x1 hO z1 (by omega) (by omega), bi1_s]
    by_cases c : X.1 6 v = 0
    · rw [if_pos c, if_pos c, vl_s]
      have tx2 := (frV_w m1 (i := 1117) (k := X.1 1 3) (x := nI v) (by decide)).tx tx1
      refine rdQ.tr (frV_w m1 (by decide)) (rdQ_num (lo := 1) (hi' := 9) tx2 ok (by rw [wI_ne (by decide)]; exact a1) n1.2.2.1 (by rw [wI_ne (by decide)]; exact z1) (by decide) (by decide) (by decide) (by decide) (fun r m3 f f3 g3 => ?_) (fun v2 e2 m3 e3 f3 a3 z3 => ?_))
      · rw [vl_s, vl_s]
        exact ⟨_, rfl, (frV_w _ (by decide)).tr (frV_w _ (by decide)), flt_w (flt_w g3 (by decide)) (by decide)⟩
      · have ec3 : m3.1 1107 5 = nI (X.1 1 3) := by rw [f3.1 1107 (by decide), wI_ne (by decide)]; exact x1.1.2.2.2.2
        rw [vl_s, wI_ne (by decide), ec3, show zI 1 = (1 : Int32) from rfl, sN_a1, vl_s]
        refine Or.inr ⟨_, e2, _, rfl, rfl, (frV_w _ (by decide)).tr (frV_w _ (by decide)), by rw [wI_ne (by decide), wI_ne (by decide)]; exact a3, by rw [wI_ne (by decide), wI_ne (by decide)]; exact z3, ?_⟩
        refine bF_eq (m := wI (wI (wI m1 1117 (X.1 1 3) (nI v)) 1118 (X.1 1 3) (nI v2)) 1107 5 (nI (X.1 1 3 + 1))) (fun c c1 c2 => ?_) ?_
        · funext k
          rw [wI_get, wI_get, f3.1 c (by omega), wI_get, wI_get, wI_get, wI_get]
        · obtain ⟨x1, x2, x3, x4, x5⟩ := x1
          refine ⟨⟨?_, ?_, ?_, ?_, ?_⟩, ⟨?_, fun k hk => ?_⟩, fun o ho => ?_, fun u hu => ?_, fun k hk => ?_⟩
          · simp [wI_get, rapP, s2]; exact x1.1
          · simp [wI_get]; exact x1.2.1
          · simp [wI_get, rapP, s2]; exact x1.2.2.1
          · simp [wI_get, rapP, s2]; exact x1.2.2.2.1
          · simp [wI_get, rapP, s2]
          · simp [wI_get]; exact x2.1
          · have := x2.2 k hk
            simp [wI_get]; exact this
          · have ho : o < X.1 1 1 := ho
            have := x3 o ho
            simp [wI_get, rapP, s2]; exact this
          · have hu : u < X.1 1 2 := hu
            have := x4 u hu
            simp [wI_get, rapP, s2]; exact this
          · have hk : k < X.1 1 3 + 1 := hk
            by_cases q : k = X.1 1 3
            · rw [q]
              simp [wI_get, rapP, s2]
            · have := x5 k (by omega)
              simp [wI_get, rapP, s2, q]; exact this
    · rw [if_neg c, if_neg c]
      have f4 : frU m1 (wI m1 1088 33 (nI (2 + 8 * bl n t i))) := frU_w m1 (Or.inr rfl)
      exact Or.inl ⟨_, rfl, rdX.tr f4.v (tail _ _ _ (f4.tx tx1) ⟨wI_at _ _ _ _, by omega, by omega, e, by omega, by rw [wI_pl (by decide)]; exact a1⟩)⟩
/-! a clause -/
theorem fw_frst {n : Nat} {t : Nat → Nat} {b : Nat} : fw n t b (wl 0) 0 = if frst (fun w => ws n t b (7 + w)) 5 < 5 then some (frst (fun w => ws n t b (7 + w)) 5) else none := by
  cases h7 : ws n t b 7 <;> cases h8 : ws n t b 8 <;> cases h9 : ws n t b 9 <;> cases h10 : ws n t b 10 <;> cases h11 : ws n t b 11 <;> simp [fw, wl, frst, h7, h8, h9, h10, h11]
theorem rw_ok : ∀ w, w < 5 → f_X12_riverWord (nI w) = 7 + w ∧ sL.getD (7 + w) 0 = 5 := by unfold f_X12_riverWord; decide +kernel
theorem clause_f {m : Mm} {n : Nat} {t : Nat → Nat} (h : TxF m n t) (ok : TxOk n t) {i : Nat} (ha : m.1 1088 32 = nI i) (hi : i ≤ n) (h0 : m.1 1088 33 = 0) {X : Bv} (hX : bF m X) (hO : bO X) {c : Nat} (hc : c ≤ 40) : rdQ m (f_X12_riverClause m (nI c)) (clause n t c i X) := by
  have h4 := ok.1
  have hb := bl_le t hi
  obtain ⟨b, hbd⟩ : ∃ b, b = bl n t i := ⟨_, rfl⟩
  obtain ⟨m0, hm0⟩ : ∃ m0, m0 = wI m 1088 32 (nI b) := ⟨_, rfl⟩
  have f0 : frU m m0 := by rw [hm0]; exact frU_w m (Or.inl rfl)
  have a0 : m0.1 1088 32 = nI b := by rw [hm0, wI_at]
  have z0 : m0.1 1088 33 = 0 := by rw [hm0, wI_pl (by decide)]; exact h0
  have tx0 := f0.tx h
  have x0 : bF m0 X := bF_eq (fun c c1 c2 => f0.1 c (by omega)) hX
  obtain ⟨k1, k2, k3⟩ := frst_ok 5 (fun w => ws n t b (7 + w))
  unfold f_X12_riverClause clause
  rw [blanks_f h ok ha (by omega), bi1_s, ← hbd, ← hm0, a0]
  rw [← hbd] at hb
  have step : ∀ k, k < 5 → f_X12_riverClause_s11 m0 (nI c) (nI b) (nI k) = if ws n t b (7 + k) then some (.inr (nI k)) else some (.inl (nI (k + 1))) := fun k hk => by
    unfold f_X12_riverClause_s11
    rw [if_neg (by rw [K5, sN_le (by omega) (by omega)]; omega), (rw_ok k hk).1, stood_f tx0 ok a0 (by omega) (by omega), bi1_s, sN_a1]
    cases ws n t b (7 + k) <;> rfl
  have eloop : lp (f_X12_riverClause_s11 m0 (nI c) (nI b)) (0 : Int32) = some (nI (frst (fun w => ws n t b (7 + w)) 5)) := by
    refine lpf (fun k => nI k) (frst (fun w => ws n t b (7 + w)) 5) rfl (fun k hk => ?_) ?_
    · have := k2 k hk
      rw [step k (by omega), show ws n t b (7 + k) = false from this]
      rfl
    · by_cases q : frst (fun w => ws n t b (7 + w)) 5 < 5
      · have := k3 q
        rw [step _ q, show ws n t b (7 + frst (fun w => ws n t b (7 + w)) 5) = true from this]
        rfl
      · unfold f_X12_riverClause_s11
        rw [if_pos (by rw [K5, sN_le (by omega) (by omega)]; omega)]
  rw [eloop, bi1_s, fw_frst]
  refine rdQ.tr f0.v ?_
  obtain ⟨w, hw⟩ : ∃ w, w = frst (fun w => ws n t b (7 + w)) 5 := ⟨_, rfl⟩
  rw [← hw] at k1 k3 ⊢
  by_cases c5 : w < 5
  · have hws : ws n t b (7 + w) = true := k3 c5
    rw [if_pos c5, if_neg (by rw [K5, sN_eq (by omega) (by omega)]; omega)]
    dsimp only
    have hlt : lte n t b = b + 5 := by
      unfold ws at hws
      rw [Bool.and_eq_true, decide_eq_true_iff, (rw_ok w c5).2] at hws
      have := (lte_ok n t b).1
      omega
    have hle := (lte_ok n t b).2.1 hb
    have h6 := hO.1.1.2.1
    have h8 := hO.1.1.2.2.1
    have h3 := hO.1.2.1
    have hL := hO.2.1.2.1
    have efull : f_X12_isFull m0 (nI w) (nI c) = if pb (fullX c w X) = true then 1 else 0 := by
      have e40 : (nI c = (40 : Int32)) = (c = 40) := by rw [show (40 : Int32) = nI 40 from rfl, sN_eq (by omega) (by decide)]
      have ew : (nI w = 0) = (w = 0) := sN_eq0 (by omega)
      have ecc : (nI c = 0) = (c = 0) := sN_eq0 (by omega)
      have s1 : (nI w = 1) = (w = 1) := by rw [K1, sN_eq (by omega) (by decide)]
      have s2' : (nI w = 2) = (w = 2) := by rw [K2, sN_eq (by omega) (by decide)]
      have s3 : (nI w = 3) = (w = 3) := by rw [K3, sN_eq (by omega) (by decide)]
      have s4 : (nI w = 4) = (w = 4) := by rw [K4, sN_eq (by omega) (by decide)]
      have t6 : (nI (X.1 1 1) = 6) = (X.1 1 1 = 6) := by rw [K6, sN_eq (by omega) (by decide)]
      have t8 : (nI (X.1 1 2) = 8) = (X.1 1 2 = 8) := by rw [K8, sN_eq (by omega) (by decide)]
      have t12 : (nI X.2.2.1.length = 12) = (X.2.2.1.length = 12) := by rw [K12, sN_eq (by omega) (by decide)]
      have t3 : (nI (X.1 1 3) = 6) = (X.1 1 3 = 6) := by rw [K6, sN_eq (by omega) (by decide)]
      have g12 : m0.1 1107 2 = nI (X.1 1 1) := x0.1.2.2.1
      have g13 : m0.1 1107 3 = nI (X.1 1 2) := x0.1.2.2.2.1
      have g14 : m0.1 1107 4 = nI X.2.2.1.length := x0.2.1.1
      have g15 : m0.1 1107 5 = nI (X.1 1 3) := x0.1.2.2.2.2
      unfold f_X12_isFull f_X12_isFull_j15 f_X12_isFull_j24
      simp only [g12, g13, g14, g15, e40, ew, ecc, s1, s2', s3, s4, t6, t8, t12, t3]
      by_cases q : fullX c w X
      · rw [pb_t q, if_pos rfl]
        unfold fullX at q
        rcases (show w = 0 ∨ w = 1 ∨ w = 2 ∨ w = 3 ∨ w = 4 by omega) with rfl | rfl | rfl | rfl | rfl <;> by_cases q1 : c = 40 <;> by_cases q2 : c = 0 <;> simp [q1, q2] at q ⊢ <;> omega
      · rw [pb_f q, if_neg (show ¬ false = true by decide)]
        unfold fullX at q
        rcases (show w = 0 ∨ w = 1 ∨ w = 2 ∨ w = 3 ∨ w = 4 by omega) with rfl | rfl | rfl | rfl | rfl <;> by_cases q1 : c = 40 <;> by_cases q2 : c = 0 <;> simp [q1, q2] at q ⊢ <;> omega
    rw [efull]
    by_cases q : fullX c w X
    · rw [pb_t q, if_pos rfl, if_neg (show ¬ (1 : Int32) = 0 by decide), K4, fails_0 b 4 z0, bi1_s, if_pos rfl, show 1 + 8 * b + 4 = 5 + 8 * b by omega]
      exact Or.inl ⟨_, rfl, _, rfl, (frU_w m0 (Or.inr rfl)).v, wI_at _ _ _ _, by omega, by omega, b, by omega, by rw [wI_pl (by decide)]; exact a0⟩
    · rw [pb_f q, if_neg (show ¬ false = true by decide), if_pos rfl, if_neg (show ¬ false = true by decide), (rw_ok w c5).1, show sLn (7 + w) = nI 5 by unfold sLn; rw [(rw_ok w c5).2]; rfl, sN_ad, vl_s, ← hlt]
      obtain ⟨m1, hm1⟩ : ∃ m1, m1 = wI m0 1088 32 (nI (lte n t b)) := ⟨_, rfl⟩
      have f1 : frU m0 m1 := by rw [hm1]; exact frU_w m0 (Or.inl rfl)
      have a1 : m1.1 1088 32 = nI (lte n t b) := by rw [hm1, wI_at]
      have z1 : m1.1 1088 33 = 0 := by rw [hm1, wI_pl (by decide)]; exact z0
      have tx1 := f1.tx tx0
      have x1 : bF m1 X := bF_eq (fun c c1 c2 => f1.1 c (by omega)) x0
      rw [← hm1]
      have wrap : ∀ res p, rdQ m1 res p → rdQ m1 (bi1 res fun mm => some mm) p := fun res p g => by
        have : (bi1 res fun mm => some mm) = res := by cases res <;> rfl
        rw [this]
        exact g
      refine rdQ.tr f1.v (wrap _ _ ?_)
      unfold fullX at q
      rcases (show w = 0 ∨ w = 1 ∨ w = 2 ∨ w = 3 ∨ w = 4 by omega) with w0 | w0 | w0 | w0 | w0
      · rw [w0]; exact rq0_f tx1 ok a1 hle z1 x1
      · rw [w0]; exact rq1_f tx1 ok a1 hle z1 x1 hO (by omega)
      · rw [w0]; exact rq2_f tx1 ok a1 hle z1 x1 hO (by omega)
      · rw [w0]
        exact wrap _ _ (rq3_f tx1 ok a1 hle z1 x1 hO (by omega))
      · rw [w0]
        exact wrap _ _ (rq4_f tx1 ok a1 hle z1 x1 hO (by omega))
  · rw [if_neg c5, if_pos (by rw [show w = 5 by omega]; rfl), show (0 : Int32) = nI 0 from rfl, fails_0 b 0 z0, bi1_s, Nat.add_zero]
    exact Or.inl ⟨_, rfl, _, rfl, (frU_w m0 (Or.inr rfl)).v, wI_at _ _ _ _, by omega, by omega, b, by omega, by rw [wI_pl (by decide)]; exact a0⟩
