/-! PHASE 2: river, the reference's ropes and rapids -/
theorem num_bl (n : Nat) (t : Nat → Nat) (i : Nat) (lo hi : Int) : num n t (bl n t i) lo hi = num n t i lo hi := by
  unfold num
  rw [bl_id]
theorem bndX {m : Mm} {n : Nat} {t : Nat → Nat} (h : TxF m n t) (ok : TxOk n t) {f l : Nat} (hf : flt m f) (hl : l < 12) {a b : Int32} : rdX m (f_X12_readsBound_j74 m (nI l) a b) f := by
  have hg : ¬ (nI l < 0 ∨ 12 ≤ (nI l).toNatClampNeg) := gd_ok hl (by decide)
  have j109 : ∀ (m : Mm) (z : Int32), TxF m n t → flt m f → rdX m (f_X12_readsBound_j109 m (nI l) z (nI l)) f := fun m z tx g => by
    unfold f_X12_readsBound_j109
    simp only [if_neg hg]
    rw [vl_s]
    refine rdX.tr (frV_w m (by decide)) (rdX_num ((frV_w m (by decide)).tx tx) ok (flt_w g (by decide)) (fun r2 m3 f3 g3 => ?_))
    rw [vl_s, vl_s]
    exact ⟨_, rfl, (frV_w _ (by decide)).tr (frV_w _ (by decide)), flt_w (flt_w g3 (by decide)) (by decide)⟩
  have j91 : ∀ z : Int32, rdX m (f_X12_readsBound_j91 m (nI l) a b z (nI l)) f := fun z => by
    unfold f_X12_readsBound_j91
    rw [if_neg hg, vl_s]
    have tx := (frV_w m (i := 1114) (k := (nI l).toNatClampNeg) (x := z) (by decide)).tx h
    split
    · exact rdX.tr (frV_w m (by decide)) (j109 _ _ tx (flt_w hf (by decide)))
    · exact rdX.tr (frV_w m (by decide)) (j109 _ _ tx (flt_w hf (by decide)))
  unfold f_X12_readsBound_j74
  split
  · exact j91 _
  · exact j91 _
theorem bndG {m m0 : Mm} {n : Nat} {t : Nat → Nat} (h : TxF m n t) (ok : TxOk n t) {e : Nat} (ha : m.1 1088 32 = nI e) (he : e ≤ n) (h0 : m.1 1088 33 = 0) {X : Bv} (hX : bF m X) (hl : X.2.2.1.length < 12) {a b : Nat} (hab : ¬ b = a) (ha1 : a < 100) (hb1 : b < 100) : rdQ m (f_X12_readsBound_j74 m (nI X.2.2.1.length) (nI a) (nI b)) (sbd (num n t e 1 9) fun c => .inr (c.2, (X.1, (X.2.1, X.2.2.1 ++ [((if b < a then b else a), (if a < b then b else a), c.1)], X.2.2.2)))) := by
  have hg : ¬ (nI X.2.2.1.length < 0 ∨ 12 ≤ (nI X.2.2.1.length).toNatClampNeg) := gd_ok hl (by decide)
  obtain ⟨lo, hlo⟩ : ∃ lo, lo = if b < a then b else a := ⟨_, rfl⟩
  obtain ⟨hi, hhi⟩ : ∃ hi, hi = if a < b then b else a := ⟨_, rfl⟩
  rw [← hlo, ← hhi]
  have main : ∀ m1 : Mm, m1 = wI m 1114 X.2.2.1.length (nI lo) → rdQ m1 (f_X12_readsBound_j109 m1 (nI X.2.2.1.length) (nI hi) (nI X.2.2.1.length)) (sbd (num n t e 1 9) fun c => .inr (c.2, (X.1, (X.2.1, X.2.2.1 ++ [(lo, hi, c.1)], X.2.2.2)))) := fun m1 hm1 => by
    have f1 : frV m m1 := by rw [hm1]; exact frV_w m (by decide)
    unfold f_X12_readsBound_j109
    simp only [if_neg hg]
    rw [cl_ok (by omega), vl_s, show (1 : Int32) = zI 1 from rfl, show (9 : Int32) = zI 9 from rfl]
    have tx := (f1.tr (frV_w m1 (i := 1115) (k := X.2.2.1.length) (x := nI hi) (by decide))).tx h
    refine rdQ.tr (frV_w m1 (by decide)) (rdQ_num (lo := 1) (hi' := 9) tx ok (by rw [wI_ne (by decide), hm1, wI_ne (by decide)]; exact ha) he (by rw [wI_ne (by decide), hm1, wI_ne (by decide)]; exact h0) (by decide) (by decide) (by decide) (by decide) (fun r m3 f f3 g3 => ?_) (fun v e2 m3 e3 f3 a3 z3 => ?_))
    · rw [vl_s, vl_s]
      exact ⟨_, rfl, (frV_w _ (by decide)).tr (frV_w _ (by decide)), flt_w (flt_w g3 (by decide)) (by decide)⟩
    · have ec : m3.1 1107 4 = nI X.2.2.1.length := by rw [f3.1 1107 (by decide), wI_ne (by decide), hm1, wI_ne (by decide)]; exact hX.2.1.1
      rw [vl_s, wI_ne (by decide), ec, show zI 1 = (1 : Int32) from rfl, sN_a1, vl_s]
      refine Or.inr ⟨_, e2, _, rfl, rfl, (frV_w _ (by decide)).tr (frV_w _ (by decide)), by rw [wI_ne (by decide), wI_ne (by decide)]; exact a3, by rw [wI_ne (by decide), wI_ne (by decide)]; exact z3, ?_⟩
      refine bF_eq (m := wI (wI (wI (wI m 1114 X.2.2.1.length (nI lo)) 1115 X.2.2.1.length (nI hi)) 1116 X.2.2.1.length (nI v)) 1107 4 (nI (X.2.2.1.length + 1))) (fun c c1 c2 => ?_) ?_
      · funext k
        rw [wI_get, wI_get, f3.1 c (by omega), wI_get, hm1, wI_get, wI_get, wI_get, wI_get, wI_get]
      · obtain ⟨x1, x2, x3, x4, x5⟩ := hX
        refine ⟨⟨?_, ?_, ?_, ?_, ?_⟩, ⟨?_, fun k hk => ?_⟩, fun o ho => ?_, fun u hu => ?_, fun k hk => ?_⟩
        · simp [wI_get]; exact x1.1
        · simp [wI_get]; exact x1.2.1
        · simp [wI_get]; exact x1.2.2.1
        · simp [wI_get]; exact x1.2.2.2.1
        · simp [wI_get]; exact x1.2.2.2.2
        · simp [wI_get]
        · rw [List.length_append] at hk
          have hk : k < X.2.2.1.length + 1 := hk
          by_cases q : k = X.2.2.1.length
          · have er : rp (X.2.2.1 ++ [(lo, hi, v)]) k = (lo, hi, v) := by
              unfold rp
              rw [q, List.getD_eq_getElem?_getD, List.getElem?_append_right (Nat.le_refl _), Nat.sub_self]
              rfl
            rw [er, q]
            simp [wI_get]
          · have er : rp (X.2.2.1 ++ [(lo, hi, v)]) k = rp X.2.2.1 k := by
              unfold rp
              rw [List.getD_eq_getElem?_getD, List.getD_eq_getElem?_getD, List.getElem?_append_left (by omega)]
            rw [er]
            have := x2.2 k (by omega)
            simp [wI_get, q]
            exact this
        · have := x3 o ho
          simp [wI_get]; exact this
        · have := x4 u hu
          simp [wI_get]; exact this
        · have := x5 k hk
          simp [wI_get]; exact this
  unfold f_X12_readsBound_j74 f_X12_readsBound_j91
  by_cases c : b < a
  · rw [if_pos c] at hlo
    rw [if_neg (show ¬ a < b by omega)] at hhi
    rw [if_pos (by rw [sN_le (by omega) (by omega)]; omega), if_neg hg, cl_ok (by omega), vl_s, if_pos (by rw [sN_le (by omega) (by omega)]; omega), ← hlo]
    have := main (wI m 1114 X.2.2.1.length (nI lo)) rfl
    rw [hhi] at this ⊢
    exact rdQ.tr (frV_w m (by decide)) this
  · rw [if_neg c] at hlo
    rw [if_pos (show a < b by omega)] at hhi
    rw [if_neg (by rw [sN_le (by omega) (by omega)]; omega), if_neg hg, cl_ok (by omega), vl_s, if_neg (by rw [sN_le (by omega) (by omega)]; omega), ← hlo]
    have := main (wI m 1114 X.2.2.1.length (nI lo)) rfl
    rw [hhi] at this ⊢
    exact rdQ.tr (frV_w m (by decide)) this
theorem isNewBound_f {m : Mm} {X : Bv} (hX : bF m X) (hO : bO X) {a b : Nat} (hab : ¬ b = a) (ha : a < 100) (hb : b < 100) : f_X12_isNewBound m (nI a) (nI b) = some (if pb (Bnd X.2.2.1 a b) then 1 else 0) := by
  have hl := hO.2.1.2.1
  have h8 := hO.1.1.2.2.1
  have step : ∀ k, k < X.2.2.1.length → f_X12_isNewBound_s2 m (nI a) (nI b) (nI k) = if (rp X.2.2.1 k).1 = (if b < a then b else a) ∧ (rp X.2.2.1 k).2.1 = (if a < b then b else a) then some (.inr (.inl ())) else some (.inl (nI (k + 1))) := fun k hk => by
    have r := hX.2.1.2 k hk
    have o := hO.2.1.2.2.2.2 k hk
    have hg : ¬ (nI k < 0 ∨ 12 ≤ k) := fun z => z.elim (nI_nn _ (by omega)) (fun y => by omega)
    unfold f_X12_isNewBound_s2 f_X12_isNewBound_j32
    rw [hX.2.1.1, if_neg (by rw [sN_le (by omega) (by omega)]; omega), cl_ok (show k < 100000 by omega), if_neg hg, if_neg hg, if_neg hg, if_neg hg, r.1, r.2.1, sN_a1]
    have q1 : (nI (rp X.2.2.1 k).1 = nI a) = ((rp X.2.2.1 k).1 = a) := sN_eq (by omega) (by omega)
    have q2 : (nI (rp X.2.2.1 k).2.1 = nI b) = ((rp X.2.2.1 k).2.1 = b) := sN_eq (by omega) (by omega)
    have q3 : (nI (rp X.2.2.1 k).1 = nI b) = ((rp X.2.2.1 k).1 = b) := sN_eq (by omega) (by omega)
    have q4 : (nI (rp X.2.2.1 k).2.1 = nI a) = ((rp X.2.2.1 k).2.1 = a) := sN_eq (by omega) (by omega)
    simp only [q1, q2, q3, q4]
    by_cases c : a < b
    · rw [if_neg (show ¬ b < a by omega), if_pos c]
      by_cases d1 : (rp X.2.2.1 k).1 = a
      · rw [if_pos d1]
        by_cases d2 : (rp X.2.2.1 k).2.1 = b
        · rw [if_pos d2, if_pos ⟨d1, d2⟩]
        · rw [if_neg d2, if_neg (show ¬ (rp X.2.2.1 k).1 = b by omega), if_neg (fun z => d2 z.2)]
      · rw [if_neg d1, if_neg (show ¬ ((rp X.2.2.1 k).1 = a ∧ (rp X.2.2.1 k).2.1 = b) from fun z => d1 z.1)]
        by_cases d3 : (rp X.2.2.1 k).1 = b
        · rw [if_pos d3, if_neg (show ¬ (rp X.2.2.1 k).2.1 = a by omega)]
        · rw [if_neg d3]
    · rw [if_pos (show b < a by omega), if_neg c]
      by_cases d1 : (rp X.2.2.1 k).1 = a
      · rw [if_pos d1, if_neg (show ¬ (rp X.2.2.1 k).2.1 = b by omega), if_neg (show ¬ (rp X.2.2.1 k).1 = b by omega), if_neg (show ¬ ((rp X.2.2.1 k).1 = b ∧ (rp X.2.2.1 k).2.1 = a) by omega)]
      · rw [if_neg d1]
        by_cases d3 : (rp X.2.2.1 k).1 = b
        · rw [if_pos d3]
          by_cases d4 : (rp X.2.2.1 k).2.1 = a
          · rw [if_pos d4, if_pos ⟨d3, d4⟩]
          · rw [if_neg d4, if_neg (fun z => d4 z.2)]
        · rw [if_neg d3, if_neg (fun z => d3 z.1)]
  unfold f_X12_isNewBound
  rcases lp_ex (st := f_X12_isNewBound_s2 m (nI a) (nI b)) (fun k => (rp X.2.2.1 k).1 = (if b < a then b else a) ∧ (rp X.2.2.1 k).2.1 = (if a < b then b else a)) X.2.2.1.length (fun k hk hp => by rw [step k hk, if_neg hp]) (fun k hk hp => by rw [step k hk, if_pos hp]) (by
    unfold f_X12_isNewBound_s2
    rw [hX.2.1.1, if_pos (by rw [sN_le (by omega) (by omega)]; omega)]) with ⟨hp, e⟩ | ⟨hno, e⟩
  · rw [e, pb_t (show Bnd X.2.2.1 a b from hp)]
    rfl
  · rw [e, pb_f (show ¬ Bnd X.2.2.1 a b from hno)]
    rfl
theorem rq3_f {m : Mm} {n : Nat} {t : Nat → Nat} (h : TxF m n t) (ok : TxOk n t) {i : Nat} (ha : m.1 1088 32 = nI i) (hi : i ≤ n) (h0 : m.1 1088 33 = 0) {X : Bv} (hX : bF m X) (hO : bO X) (hr : X.2.2.1.length < 12) : rdQ m (f_X12_readsBound m) (part n t 3 i X) := by
  have h4 := ok.1
  have h8 := hO.1.1.2.2.1
  have e0 : nI (X.1 1 2) - 1 = zI ((X.1 1 2 : Int) - 1) := by rw [zI_n, show (1 : Int32) = zI 1 from rfl, zI_sb]
  unfold f_X12_readsBound part
  rw [if_neg (by decide), if_neg (by decide), if_neg (by decide), if_pos rfl, hX.1.2.2.2.1, hX.2.1.1, e0]
  refine rdQ_num (lo := 0) (hi' := (X.1 1 2 : Int) - 1) h ok ha hi h0 (by decide) (by decide) (by omega) (by omega) (fun r m1 f f1 g1 => ?_) (fun v e m1 e1 f1 a1 z1 => ?_)
  · obtain ⟨j, j1, j2⟩ := g1.2.2.2
    have tx1 := f1.tx h
    rw [blanks_f tx1 ok j2 j1, bi1_s]
    have f2 : frU m1 (wI m1 1088 32 (nI (bl n t j))) := frU_w m1 (Or.inl rfl)
    have g2 : flt (wI m1 1088 32 (nI (bl n t j))) f := ⟨by rw [wI_pl (by decide)]; exact g1.1, g1.2.1, g1.2.2.1, bl n t j, bl_5 ok j1, wI_at _ _ _ _⟩
    refine rdX.tr f2.v (rdX_num (f2.tx tx1) ok g2 (fun r2 m3 f3 g3 => ?_))
    rw [if_neg (flt_ne g3)]
    exact bndX (f3.tx (f2.tx tx1)) ok g3 hr
  · have n1 := num_ok e1
    have tx1 := f1.tx h
    dsimp only
    rw [blanks_f tx1 ok a1 (by omega), bi1_s, wI_at]
    obtain ⟨m2, hm2⟩ : ∃ m2, m2 = wI m1 1088 32 (nI (bl n t e)) := ⟨_, rfl⟩
    have f2 : frU m1 m2 := by rw [hm2]; exact frU_w m1 (Or.inl rfl)
    have a2 : m2.1 1088 32 = nI (bl n t e) := by rw [hm2, wI_at]
    have z2 : m2.1 1088 33 = 0 := by rw [hm2, wI_pl (by decide)]; exact z1
    have ec : m2.1 1107 3 = nI (X.1 1 2) := by rw [f2.1 1107 (by decide), f1.1 1107 (by decide)]; exact hX.1.2.2.2.1
    rw [← hm2, ec, e0, ← num_bl n t e]
    have hbe := bl_le t n1.2.2.1
    refine rdQ.tr f2.v (rdQ_num (lo := 0) (hi' := (X.1 1 2 : Int) - 1) (f2.tx tx1) ok a2 hbe z2 (by decide) (by decide) (by omega) (by omega) (fun r m3 f f3 g3 => ?_) (fun v2 e2 m3 e3 f3 a3 z3 => ?_))
    · rw [if_neg (flt_ne g3)]
      exact bndX (f3.tx (f2.tx tx1)) ok g3 hr
    · have n2 := num_ok e3
      have tx3 := f3.tx (f2.tx tx1)
      have x3 : bF m3 X := bF_eq (fun c c1 c2 => by rw [f3.1 c (by omega), f2.1 c (by omega), f1.1 c (by omega)]) hX
      dsimp only
      rw [if_pos z3]
      have bad : rdQ m3 (f_X12_readsBound_j68 m3 (nI X.2.2.1.length) (nI v) (nI (bl n t e)) (nI v2)) (.inl (2 + 8 * bl n t e)) := by
        unfold f_X12_readsBound_j68
        rw [K1, fails_0 _ 1 z3, bi1_s, show 1 + 8 * bl n t e + 1 = 2 + 8 * bl n t e by omega]
        have f4 : frU m3 (wI m3 1088 33 (nI (2 + 8 * bl n t e))) := frU_w m3 (Or.inr rfl)
        exact Or.inl ⟨_, rfl, rdX.tr f4.v (bndX (f4.tx tx3) ok ⟨wI_at _ _ _ _, by omega, by omega, e2, by omega, by rw [wI_pl (by decide)]; exact a3⟩ hr)⟩
      by_cases c : v2 = v
      · rw [if_pos (show nI v = nI v2 by rw [c]), if_pos (Or.inl c)]
        exact bad
      · rw [if_neg (show ¬ nI v = nI v2 by rw [sN_eq (by omega) (by omega)]; omega), isNewBound_f x3 hO c (by omega) (by omega), bi1_s]
        cases hb : pb (Bnd X.2.2.1 v v2)
        · rw [if_neg (show ¬ false = true by decide), if_pos rfl, if_neg (show ¬ (v2 = v ∨ false = true) from fun z => z.elim c (by decide))]
          exact bndG (m0 := m3) tx3 ok a3 n2.2.2.1 z3 x3 hr c (by omega) (by omega)
        · rw [if_pos rfl, if_neg (show ¬ (1 : Int32) = 0 by decide), if_pos (Or.inr rfl)]
          exact bad
