/-! PHASE 2: river, the reference's clauses -/
def bF (m : Mm) (X : Bv) : Prop := (m.1 1107 0 = nI (X.1 1 0) ∧ m.1 1107 1 = X.2.2.2 ∧ m.1 1107 2 = nI (X.1 1 1) ∧ m.1 1107 3 = nI (X.1 1 2) ∧ m.1 1107 5 = nI (X.1 1 3)) ∧ RpOk (m.1 1107 4) (m.1 1114) (m.1 1115) (m.1 1116) X.2.2.1 ∧ (∀ o, o < X.1 1 1 → m.1 1108 o = nI (X.1 2 o) ∧ m.1 1109 o = nI (X.1 3 o)) ∧ (∀ u, u < X.1 1 2 → m.1 1110 u = nI (X.2.1 2 u) ∧ m.1 1111 u = nI (X.1 4 u) ∧ m.1 1112 u = nI (X.2.1 3 u) ∧ m.1 1113 u = nI (X.1 5 u)) ∧ ∀ k, k < X.1 1 3 → m.1 1117 k = nI (X.1 7 k) ∧ m.1 1118 k = nI (X.1 8 k)
theorem bF_eq {m m1 : Mm} {X : Bv} (h : ∀ i, 1107 ≤ i → i < 1119 → m1.1 i = m.1 i) (g : bF m X) : bF m1 X := by
  unfold bF
  rw [h 1107 (by decide) (by decide), h 1108 (by decide) (by decide), h 1109 (by decide) (by decide), h 1110 (by decide) (by decide), h 1111 (by decide) (by decide), h 1112 (by decide) (by decide), h 1113 (by decide) (by decide), h 1114 (by decide) (by decide), h 1115 (by decide) (by decide), h 1116 (by decide) (by decide), h 1117 (by decide) (by decide), h 1118 (by decide) (by decide)]
  exact g
def frV (m m1 : Mm) : Prop := (∀ i, ¬ i = 1088 → ¬ (1107 ≤ i ∧ i < 1119) → m1.1 i = m.1 i) ∧ ∀ k, ¬ k = 32 → ¬ k = 33 → m1.1 1088 k = m.1 1088 k
theorem frV.rf (m : Mm) : frV m m := ⟨fun _ _ _ => rfl, fun _ _ _ => rfl⟩
theorem frV.tr {a b c : Mm} (h1 : frV a b) (h2 : frV b c) : frV a c := ⟨fun i i1 i2 => (h2.1 i i1 i2).trans (h1.1 i i1 i2), fun k k1 k2 => (h2.2 k k1 k2).trans (h1.2 k k1 k2)⟩
theorem frU.v {m m1 : Mm} (h : frU m m1) : frV m m1 := ⟨fun i i1 _ => h.1 i i1, h.2⟩
theorem frV.tx {m m1 : Mm} {n : Nat} {t : Nat → Nat} (f : frV m m1) (h : TxF m n t) : TxF m1 n t := ⟨by rw [f.2 31 (by decide) (by decide)]; exact h.1, fun k hk => by rw [f.1 1119 (by decide) (by decide)]; exact h.2 k hk⟩
theorem frV_w (m : Mm) {i k : Nat} {x : Int32} (h : 1107 ≤ i ∧ i < 1119) : frV m (wI m i k x) := ⟨fun j _ j2 => wI_ne (by omega), fun k _ _ => by rw [wI_ne (by omega)]⟩
def flt (m : Mm) (f : Nat) : Prop := m.1 1088 33 = nI f ∧ 1 ≤ f ∧ f < 5000 ∧ ∃ j, j ≤ 500 ∧ m.1 1088 32 = nI j
theorem flt_w {m : Mm} {f i k : Nat} {x : Int32} (h : flt m f) (hi : 1107 ≤ i ∧ i < 1119) : flt (wI m i k x) f := by
  unfold flt
  rw [wI_ne (by omega)]
  exact h
theorem flt_ne {m : Mm} {f : Nat} (h : flt m f) : ¬ m.1 1088 33 = 0 := by
  rw [h.1]
  exact nz_ne h.2.1 (by have := h.2.2.1; omega)
/-- behind a fault -/
def rdX (m : Mm) (res : Option Mm) (f : Nat) : Prop := ∃ m1, res = some m1 ∧ frV m m1 ∧ flt m1 f
def rdQ (m : Mm) (res : Option Mm) (p : Nat ⊕ (Nat × Bv)) : Prop := (∃ f, p = .inl f ∧ rdX m res f) ∨ ∃ m1 e X', p = .inr (e, X') ∧ res = some m1 ∧ frV m m1 ∧ m1.1 1088 32 = nI e ∧ m1.1 1088 33 = 0 ∧ bF m1 X'
theorem rdX.tr {m m1 : Mm} {res : Option Mm} {f : Nat} (h : frV m m1) (g : rdX m1 res f) : rdX m res f := by
  obtain ⟨m2, g1, g2, g3⟩ := g
  exact ⟨m2, g1, h.tr g2, g3⟩
theorem rdQ.tr {m m1 : Mm} {res : Option Mm} {p : Nat ⊕ (Nat × Bv)} (h : frV m m1) (g : rdQ m1 res p) : rdQ m res p := by
  rcases g with ⟨f, g1, g2⟩ | ⟨m2, e, X', g1, g2, g3, g4⟩
  · exact Or.inl ⟨f, g1, rdX.tr h g2⟩
  · exact Or.inr ⟨m2, e, X', g1, g2, h.tr g3, g4⟩
theorem rdX_num {m : Mm} {n : Nat} {t : Nat → Nat} (h : TxF m n t) (ok : TxOk n t) {f : Nat} (hf : flt m f) {x y : Int32} {k : Int32 → Mm → Option Mm} (hk : ∀ r m1, frU m m1 → flt m1 f → rdX m1 (k r m1) f) : rdX m (bi2 (f_X12_amount m x y) k) f := by
  obtain ⟨j, j1, j2⟩ := hf.2.2.2
  rw [amount_x h ok j2 j1 (flt_ne hf), bi2_s]
  have f1 : frU m (wI m 1088 32 (nI (bl n t j))) := frU_w m (Or.inl rfl)
  exact rdX.tr f1.v (hk _ _ f1 ⟨by rw [wI_pl (by decide)]; exact hf.1, hf.2.1, hf.2.2.1, bl n t j, bl_5 ok j1, wI_at _ _ _ _⟩)
theorem rdQ_num {m : Mm} {n : Nat} {t : Nat → Nat} (h : TxF m n t) (ok : TxOk n t) {i : Nat} (ha : m.1 1088 32 = nI i) (hi : i ≤ n) (h0 : m.1 1088 33 = 0) {lo hi' : Int} (l1 : -1000 < lo) (l2 : lo < 100000) (l3 : -1000 < hi') (l4 : hi' < 100000) {K : Nat × Nat → Nat ⊕ (Nat × Bv)} {k : Int32 → Mm → Option Mm} (hx : ∀ r m1 f, frU m m1 → flt m1 f → rdX m1 (k r m1) f) (hk : ∀ v e m1, num n t i lo hi' = .inr (v, e) → frU m m1 → m1.1 1088 32 = nI e → m1.1 1088 33 = 0 → rdQ m1 (k (nI v) m1) (K (v, e))) : rdQ m (bi2 (f_X12_amount m (zI lo) (zI hi')) k) (sbd (num n t i lo hi') K) := by
  have h4 := ok.1
  obtain ⟨m1, f1, ⟨f, r, j, e1, e2, e3, e4, e5, e6, e7⟩ | ⟨v, e, e1, e2, e3, e4, e5⟩⟩ := amount_f h ok ha (by omega) h0 l1 l2 l3 l4
  · rw [e1, e2, bi2_s]
    exact Or.inl ⟨f, rfl, rdX.tr f1.v (hx r m1 f f1 ⟨e3, e6, e7, j, e5, e4⟩)⟩
  · rw [e1, e2, bi2_s]
    exact rdQ.tr f1.v (hk v e m1 e1 f1 e3 e4)
theorem rq0_f {m : Mm} {n : Nat} {t : Nat → Nat} (h : TxF m n t) (ok : TxOk n t) {i : Nat} (ha : m.1 1088 32 = nI i) (hi : i ≤ n) (h0 : m.1 1088 33 = 0) {X : Bv} (hX : bF m X) : rdQ m (f_X12_riverPart m (nI 0)) (part n t 0 i X) := by
  unfold f_X12_riverPart part
  rw [if_pos (show nI 0 = 0 from rfl), if_pos rfl, show (2 : Int32) = zI 2 from rfl, show (99 : Int32) = zI 99 from rfl, zI_0]
  refine rdQ_num h ok ha hi h0 (by decide) (by decide) (by decide) (by decide) (fun r m1 f f1 g1 => ?_) (fun v e m1 e1 f1 a1 z1 => ?_)
  · rw [vl_s]
    refine rdX.tr (frV_w m1 (by decide)) (rdX_num ((f1.v.tr (frV_w m1 (by decide))).tx h) ok (flt_w g1 (by decide)) (fun r2 m3 f3 g3 => ?_))
    rw [vl_s]
    exact ⟨_, rfl, frV_w m3 (by decide), flt_w g3 (by decide)⟩
  · rw [vl_s]
    refine rdQ.tr (frV_w m1 (by decide)) (rdQ_num ((f1.v.tr (frV_w m1 (by decide))).tx h) ok (by rw [wI_ne (by decide)]; exact a1) (num_ok e1).2.2.1 (by rw [wI_ne (by decide)]; exact z1) (by decide) (by decide) (by decide) (by decide) (fun r m3 f f3 g3 => ?_) (fun v2 e2 m3 e3 f3 a3 z3 => ?_))
    · rw [vl_s]
      exact ⟨_, rfl, frV_w m3 (by decide), flt_w g3 (by decide)⟩
    · rw [vl_s]
      refine Or.inr ⟨_, e2, _, rfl, rfl, frV_w m3 (by decide), by rw [wI_ne (by decide)]; exact a3, by rw [wI_ne (by decide)]; exact z3, ?_⟩
      refine bF_eq (m := wI (wI m 1107 0 (nI v)) 1107 1 (nI v2)) (fun c c1 c2 => ?_) ?_
      · funext k
        rw [wI_get, f3.1 c (by omega), wI_get, f1.1 c (by omega), wI_get, wI_get]
      · obtain ⟨x1, x2, x3, x4, x5⟩ := hX
        refine ⟨⟨?_, ?_, ?_, ?_, ?_⟩, ⟨?_, fun k hk => ?_⟩, fun o ho => ?_, fun u hu => ?_, fun k hk => ?_⟩
        · simp [wI_get, s2]
        · simp [wI_get]
        · simp [wI_get, s2]; exact x1.2.2.1
        · simp [wI_get, s2]; exact x1.2.2.2.1
        · simp [wI_get, s2]; exact x1.2.2.2.2
        · simp [wI_get]; exact x2.1
        · have := x2.2 k hk
          simp [wI_get]; exact this
        · have ho : o < X.1 1 1 := ho
          have := x3 o ho
          simp [wI_get, s2]; exact this
        · have hu : u < X.1 1 2 := hu
          have := x4 u hu
          simp [wI_get, s2]; exact this
        · have hk : k < X.1 1 3 := hk
          have := x5 k hk
          simp [wI_get, s2]; exact this
theorem rq1_f {m : Mm} {n : Nat} {t : Nat → Nat} (h : TxF m n t) (ok : TxOk n t) {i : Nat} (ha : m.1 1088 32 = nI i) (hi : i ≤ n) (h0 : m.1 1088 33 = 0) {X : Bv} (hX : bF m X) (hO : bO X) (hr : X.1 1 1 < 6) : rdQ m (f_X12_riverPart m (nI 1)) (part n t 1 i X) := by
  have h99 := hO.1.1.1
  unfold f_X12_riverPart part
  rw [if_neg (show ¬ nI 1 = 0 by decide), if_pos (show nI 1 = 1 from rfl), if_neg (by decide), if_pos rfl, hX.1.1, hX.1.2.2.1, zI_n (X.1 1 0), show (20 : Int32) = zI 20 from rfl, show (1 : Int32) = zI 1 from rfl, cl_ok (show X.1 1 1 < 100000 by omega)]
  have hg : ¬ (nI (X.1 1 1) < 0 ∨ 6 ≤ X.1 1 1) := fun z => z.elim (nI_nn _ (by omega)) (fun y => by omega)
  simp only [if_neg hg]
  refine rdQ_num h ok ha hi h0 (by decide) (by decide) (by omega) (by omega) (fun r m1 f f1 g1 => ?_) (fun v e m1 e1 f1 a1 z1 => ?_)
  · rw [vl_s]
    refine rdX.tr (frV_w m1 (by decide)) (rdX_num ((f1.v.tr (frV_w m1 (by decide))).tx h) ok (flt_w g1 (by decide)) (fun r2 m3 f3 g3 => ?_))
    rw [vl_s, vl_s]
    exact ⟨_, rfl, (frV_w _ (by decide)).tr (frV_w _ (by decide)), flt_w (flt_w g3 (by decide)) (by decide)⟩
  · rw [vl_s, zI_0]
    refine rdQ.tr (frV_w m1 (by decide)) (rdQ_num ((f1.v.tr (frV_w m1 (by decide))).tx h) ok (by rw [wI_ne (by decide)]; exact a1) (num_ok e1).2.2.1 (by rw [wI_ne (by decide)]; exact z1) (by decide) (by decide) (by decide) (by decide) (fun r m3 f f3 g3 => ?_) (fun v2 e2 m3 e3 f3 a3 z3 => ?_))
    · rw [vl_s, vl_s]
      exact ⟨_, rfl, (frV_w _ (by decide)).tr (frV_w _ (by decide)), flt_w (flt_w g3 (by decide)) (by decide)⟩
    · have ec : m3.1 1107 2 = nI (X.1 1 1) := by rw [f3.1 1107 (by decide), wI_ne (by decide), f1.1 1107 (by decide)]; exact hX.1.2.2.1
      rw [vl_s, wI_ne (by decide), ec, show zI 1 = (1 : Int32) from rfl, sN_a1, vl_s]
      refine Or.inr ⟨_, e2, _, rfl, rfl, (frV_w _ (by decide)).tr (frV_w _ (by decide)), by rw [wI_ne (by decide), wI_ne (by decide)]; exact a3, by rw [wI_ne (by decide), wI_ne (by decide)]; exact z3, ?_⟩
      refine bF_eq (m := wI (wI (wI m 1108 (X.1 1 1) (nI v)) 1109 (X.1 1 1) (nI v2)) 1107 2 (nI (X.1 1 1 + 1))) (fun c c1 c2 => ?_) ?_
      · funext k
        rw [wI_get, wI_get, f3.1 c (by omega), wI_get, f1.1 c (by omega), wI_get, wI_get, wI_get]
      · obtain ⟨x1, x2, x3, x4, x5⟩ := hX
        refine ⟨⟨?_, ?_, ?_, ?_, ?_⟩, ⟨?_, fun k hk => ?_⟩, fun o ho => ?_, fun u hu => ?_, fun k hk => ?_⟩
        · simp [wI_get, ownP, s2]; exact x1.1
        · simp [wI_get]; exact x1.2.1
        · simp [wI_get, ownP, s2]
        · simp [wI_get, ownP, s2]; exact x1.2.2.2.1
        · simp [wI_get, ownP, s2]; exact x1.2.2.2.2
        · simp [wI_get]; exact x2.1
        · have := x2.2 k hk
          simp [wI_get]; exact this
        · have ho : o < X.1 1 1 + 1 := ho
          by_cases q : o = X.1 1 1
          · rw [q]
            simp [wI_get, ownP, s2]
          · have := x3 o (by omega)
            simp [wI_get, ownP, s2, q]; exact this
        · have hu : u < X.1 1 2 := hu
          have := x4 u hu
          simp [wI_get, ownP, s2]; exact this
        · have hk : k < X.1 1 3 := hk
          have := x5 k hk
          simp [wI_get, ownP, s2]; exact this
theorem rq2_f {m : Mm} {n : Nat} {t : Nat → Nat} (h : TxF m n t) (ok : TxOk n t) {i : Nat} (ha : m.1 1088 32 = nI i) (hi : i ≤ n) (h0 : m.1 1088 33 = 0) {X : Bv} (hX : bF m X) (hO : bO X) (hr : X.1 1 2 < 8) : rdQ m (f_X12_riverPart m (nI 2)) (part n t 2 i X) := by
  have h6 := hO.1.1.2.1
  have e0 : nI (X.1 1 1) - 1 = zI ((X.1 1 1 : Int) - 1) := by rw [zI_n, show (1 : Int32) = zI 1 from rfl, zI_sb]
  unfold f_X12_riverPart part
  rw [if_neg (show ¬ nI 2 = 0 by decide), if_neg (show ¬ nI 2 = 1 by decide), if_pos (show nI 2 = 2 from rfl), if_neg (by decide), if_neg (by decide), if_pos rfl, hX.1.2.2.1, hX.1.2.2.2.1, e0, show (50 : Int32) = zI 50 from rfl, show (99 : Int32) = zI 99 from rfl, show (9 : Int32) = zI 9 from rfl, cl_ok (show X.1 1 2 < 100000 by omega)]
  have hg : ¬ (nI (X.1 1 2) < 0 ∨ 8 ≤ X.1 1 2) := fun z => z.elim (nI_nn _ (by omega)) (fun y => by omega)
  simp only [if_neg hg]
  have bad4 : ∀ (m : Mm) (f : Nat) (r : Int32), flt m f → rdX m (vlet (wI m 1113 (X.1 1 2) r) fun mm_41 => vlet (wI mm_41 1107 3 (mm_41.1 1107 3 + 1)) fun mm_43 => some mm_43) f := fun m f r g => by
    rw [vl_s, vl_s]
    exact ⟨_, rfl, (frV_w _ (by decide)).tr (frV_w _ (by decide)), flt_w (flt_w g (by decide)) (by decide)⟩
  have bad3 : ∀ (m : Mm) (f : Nat) (r : Int32), TxF m n t → flt m f → rdX m (vlet (wI m 1112 (X.1 1 2) r) fun mm_36 => bi2 (f_X12_amount mm_36 0 (zI 9)) fun r_40 mm_38 => vlet (wI mm_38 1113 (X.1 1 2) r_40) fun mm_41 => vlet (wI mm_41 1107 3 (mm_41.1 1107 3 + 1)) fun mm_43 => some mm_43) f := fun m f r tx g => by
    rw [vl_s]
    exact rdX.tr (frV_w m (by decide)) (rdX_num ((frV_w m (by decide)).tx tx) ok (flt_w g (by decide)) (fun r2 m3 f3 g3 => bad4 m3 f r2 g3))
  have bad2 : ∀ (m : Mm) (f : Nat) (r : Int32), TxF m n t → flt m f → rdX m (vlet (wI m 1111 (X.1 1 2) r) fun mm_31 => bi2 (f_X12_amount mm_31 0 (zI 99)) fun r_35 mm_33 => vlet (wI mm_33 1112 (X.1 1 2) r_35) fun mm_36 => bi2 (f_X12_amount mm_36 0 (zI 9)) fun r_40 mm_38 => vlet (wI mm_38 1113 (X.1 1 2) r_40) fun mm_41 => vlet (wI mm_41 1107 3 (mm_41.1 1107 3 + 1)) fun mm_43 => some mm_43) f := fun m f r tx g => by
    rw [vl_s]
    exact rdX.tr (frV_w m (by decide)) (rdX_num ((frV_w m (by decide)).tx tx) ok (flt_w g (by decide)) (fun r2 m3 f3 g3 => bad3 m3 f r2 (f3.tx ((frV_w m (by decide)).tx tx)) g3))
  refine rdQ_num (lo := 0) (hi' := (X.1 1 1 : Int) - 1) h ok ha hi h0 (by decide) (by decide) (by omega) (by omega) (fun r m1 f f1 g1 => ?_) (fun v e m1 e1 f1 a1 z1 => ?_)
  · rw [vl_s]
    exact rdX.tr (frV_w m1 (by decide)) (rdX_num ((f1.v.tr (frV_w m1 (by decide))).tx h) ok (flt_w g1 (by decide)) (fun r2 m3 f3 g3 => bad2 m3 f r2 (f3.tx ((f1.v.tr (frV_w m1 (by decide))).tx h)) g3))
  · have tx1 := (f1.v.tr (frV_w m1 (i := 1110) (k := X.1 1 2) (x := nI v) (by decide))).tx h
    rw [vl_s]
    refine rdQ.tr (frV_w m1 (by decide)) (rdQ_num (lo := 0) (hi' := 50) tx1 ok (by rw [wI_ne (by decide)]; exact a1) (num_ok e1).2.2.1 (by rw [wI_ne (by decide)]; exact z1) (by decide) (by decide) (by decide) (by decide) (fun r m3 f f3 g3 => bad2 m3 f r (f3.tx tx1) g3) (fun v2 e2 m3 e3 f3 a3 z3 => ?_))
    have tx2 := (f3.v.tr (frV_w m3 (i := 1111) (k := X.1 1 2) (x := nI v2) (by decide))).tx tx1
    rw [vl_s]
    refine rdQ.tr (frV_w m3 (by decide)) (rdQ_num (lo := 0) (hi' := 99) tx2 ok (by rw [wI_ne (by decide)]; exact a3) (num_ok e3).2.2.1 (by rw [wI_ne (by decide)]; exact z3) (by decide) (by decide) (by decide) (by decide) (fun r m5 f f5 g5 => bad3 m5 f r (f5.tx tx2) g5) (fun v3 e4 m5 e5 f5 a5 z5 => ?_))
    have tx3 := (f5.v.tr (frV_w m5 (i := 1112) (k := X.1 1 2) (x := nI v3) (by decide))).tx tx2
    rw [vl_s]
    refine rdQ.tr (frV_w m5 (by decide)) (rdQ_num (lo := 0) (hi' := 9) tx3 ok (by rw [wI_ne (by decide)]; exact a5) (num_ok e5).2.2.1 (by rw [wI_ne (by decide)]; exact z5) (by decide) (by decide) (by decide) (by decide) (fun r m7 f f7 g7 => bad4 m7 f r g7) (fun v4 e6 m7 e7 f7 a7 z7 => ?_))
    have ec : m7.1 1107 3 = nI (X.1 1 2) := by rw [f7.1 1107 (by decide), wI_ne (by decide), f5.1 1107 (by decide), wI_ne (by decide), f3.1 1107 (by decide), wI_ne (by decide), f1.1 1107 (by decide)]; exact hX.1.2.2.2.1
    rw [vl_s, wI_ne (by decide), ec, sN_a1, vl_s]
    refine Or.inr ⟨_, e6, _, rfl, rfl, (frV_w _ (by decide)).tr (frV_w _ (by decide)), by rw [wI_ne (by decide), wI_ne (by decide)]; exact a7, by rw [wI_ne (by decide), wI_ne (by decide)]; exact z7, ?_⟩
    refine bF_eq (m := wI (wI (wI (wI (wI m 1110 (X.1 1 2) (nI v)) 1111 (X.1 1 2) (nI v2)) 1112 (X.1 1 2) (nI v3)) 1113 (X.1 1 2) (nI v4)) 1107 3 (nI (X.1 1 2 + 1))) (fun c c1 c2 => ?_) ?_
    · funext k
      rw [wI_get, wI_get, f7.1 c (by omega), wI_get, f5.1 c (by omega), wI_get, f3.1 c (by omega), wI_get, f1.1 c (by omega), wI_get, wI_get, wI_get, wI_get, wI_get]
    · obtain ⟨x1, x2, x3, x4, x5⟩ := hX
      refine ⟨⟨?_, ?_, ?_, ?_, ?_⟩, ⟨?_, fun k hk => ?_⟩, fun o ho => ?_, fun u hu => ?_, fun k hk => ?_⟩
      · simp [wI_get, thgP, s2]; exact x1.1
      · simp [wI_get]; exact x1.2.1
      · simp [wI_get, thgP, s2]; exact x1.2.2.1
      · simp [wI_get, thgP, s2]
      · simp [wI_get, thgP, s2]; exact x1.2.2.2.2
      · simp [wI_get]; exact x2.1
      · have := x2.2 k hk
        simp [wI_get]; exact this
      · have ho : o < X.1 1 1 := ho
        have := x3 o ho
        simp [wI_get, thgP, s2]; exact this
      · have hu : u < X.1 1 2 + 1 := hu
        by_cases q : u = X.1 1 2
        · rw [q]
          simp [wI_get, thgP, thgA, s2]
        · have := x4 u (by omega)
          simp [wI_get, thgP, thgA, s2, q]; exact this
      · have hk : k < X.1 1 3 := hk
        have := x5 k hk
        simp [wI_get, thgP, s2]; exact this
