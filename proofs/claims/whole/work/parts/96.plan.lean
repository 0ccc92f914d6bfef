/-! PHASE 2: plan, the reference's search -/
theorem skip_f {m : Mm} {all : Nat} (ha : all < 256) {p : List Nat} (ho : okS all p) (hp : p.length ≤ 8) {y : Int32} : ∀ (d l : Nat), l + d = 8 → ∃ l', l ≤ l' ∧ l' ≤ 8 ∧ (∀ j, l ≤ j → j < l' → vld all p j = false) ∧ (l' < 8 → vld all p l' = true) ∧ lp (f_X12_findsRows_s85 (nI all) y (nI p.length) (nI (setOf p))) (wI m 1131 p.length (nI l)) = some (wI m 1131 p.length (nI l')) := by
  have hs := setOf_lt ha ho
  intro d
  induction d with
  | zero =>
    intro l hl
    refine ⟨l, Nat.le_refl _, by omega, fun j j1 j2 => absurd j2 (by omega), fun z => absurd z (by omega), lp_end ?_⟩
    unfold f_X12_findsRows_s85
    rw [if_neg (gd_ok (show p.length < 9 by omega) (by decide)), cl_ok (by omega), wI_at, if_pos (by rw [K8, sN_le (by omega) (by omega)]; omega)]
  | succ d ih =>
    intro l hl
    have hst : f_X12_findsRows_s85 (nI all) y (nI p.length) (nI (setOf p)) (wI m 1131 p.length (nI l)) = if vld all p l then some (.inr (wI m 1131 p.length (nI l))) else some (.inl (wI m 1131 p.length (nI (l + 1)))) := by
      have hg : ¬ (nI p.length < 0 ∨ 9 ≤ p.length) := fun z => z.elim (nI_nn _ (by omega)) (fun y => by omega)
      unfold f_X12_findsRows_s85 f_X12_findsRows_j123 vld
      rw [if_neg (gd_ok (show p.length < 9 by omega) (by decide)), cl_ok (by omega), wI_at, if_neg (by rw [K8, sN_le (by omega) (by omega)]; omega), if_neg hg, has_ok (by omega) (by omega), if_neg hg, if_neg hg, sN_a1, vl_s, wI_wI, if_neg hg, has_ok (by omega) (by omega)]
      cases c1 : all.testBit l
      · rfl
      · cases c2 : (setOf p).testBit l
        · rfl
        · rfl
    by_cases c : vld all p l = true
    · rw [if_pos c] at hst
      exact ⟨l, Nat.le_refl _, by omega, fun j j1 j2 => absurd j2 (by omega), fun _ => c, lp_end hst⟩
    · rw [if_neg c] at hst
      obtain ⟨l', a1, a2, a3, a4, e⟩ := ih (l + 1) (by omega)
      refine ⟨l', by omega, a2, fun j j1 j2 => ?_, a4, by rw [lp_go hst, e]⟩
      by_cases q : j = l
      · rw [q]; exact Bool.eq_false_iff.mpr c
      · exact a3 j (by omega) j2
def yOk (p : List Nat) (l : Nat) (y4 : Int32) : Prop := (l = 0 → y4 = nI (setOf p)) ∧ ∀ t, l = t + 1 → ∃ s, s < 256 ∧ y4 = nI s ∧ ndf s (2 ^ t) = setOf p
theorem lookP_f {m : Mm} {all n : Nat} (ha : all < 256) {p : List Nat} (ho : okS all p) (hn : p.length < n) (hn8 : n ≤ 8) {l : Nat} (hl : l ≤ 8) {y4 : Int32} (hy : yOk p l y4) (e : m.1 1131 p.length = nI l - 1) : ∃ l', l ≤ l' ∧ l' ≤ 8 ∧ (∀ j, l ≤ j → j < l' → vld all p j = false) ∧ (l' < 8 → vld all p l' = true) ∧ f_X12_findsRows_s41 (nI all) (nI n) (nI p.length, y4, m) = if l' = 8 then some (.inl (nI p.length - 1, nI (setOf p), wI m 1131 p.length (nI l'))) else if p.length + 1 = n then bi1 (f_X12_takesRow (wI m 1131 p.length (nI l')) (nI n)) fun m3 => some (.inl (nI p.length, nI (setOf p), m3)) else some (.inl (nI (p.length + 1), nI (setOf (l' :: p)), wI (wI m 1131 p.length (nI l')) 1131 (p.length + 1) (-1))) := by
  have hs := setOf_lt ha ho
  obtain ⟨l', a1, a2, a3, a4, es⟩ := skip_f (m := m) ha ho (by omega) (y := nI n) (8 - l) l (by omega)
  refine ⟨l', a1, a2, a3, a4, ?_⟩
  have e0 : nI l - 1 + 1 = nI l := by rw [Int32.sub_add_cancel]
  have hg : ¬ (nI p.length < 0 ∨ 9 ≤ p.length) := fun z => z.elim (nI_nn _ (by omega)) (fun y => by omega)
  have j73 : f_X12_findsRows_j73 m (nI all) (nI n) (nI p.length) (nI (setOf p)) = if l' = 8 then some (.inl (nI p.length - 1, nI (setOf p), wI m 1131 p.length (nI l'))) else if p.length + 1 = n then bi1 (f_X12_takesRow (wI m 1131 p.length (nI l')) (nI n)) fun m3 => some (.inl (nI p.length, nI (setOf p), m3)) else some (.inl (nI (p.length + 1), nI (setOf (l' :: p)), wI (wI m 1131 p.length (nI l')) 1131 (p.length + 1) (-1))) := by
    unfold f_X12_findsRows_j73
    rw [if_neg (gd_ok (show p.length < 9 by omega) (by decide)), cl_ok (by omega), if_neg hg, e, e0, vl_s, es, bi1_s, if_neg hg, wI_at]
    by_cases c : l' = 8
    · rw [if_pos c, if_pos (by rw [c]; rfl), nI_m1]
    · rw [if_neg c, if_neg (by rw [K8, sN_eq (by omega) (by omega)]; exact c)]
      obtain ⟨k, rfl⟩ : ∃ k, n = k + 1 := ⟨n - 1, by omega⟩
      by_cases d : p.length + 1 = k + 1
      · rw [if_pos d, if_pos (by rw [nI_s1, show p.length = k by omega])]
      · rw [if_neg d, if_neg (by rw [nI_s1, sN_eq (by omega) (by omega)]; omega), if_neg hg, nx_sh l' (by omega), nx_or, vl_s, sN_a1, if_neg (gd_ok (show p.length + 1 < 9 by omega) (by decide)), cl_ok (by omega), vl_s]
        rfl
  rw [← j73]
  unfold f_X12_findsRows_s41
  dsimp only
  rw [if_neg (nI_nn _ (by omega)), if_neg (gd_ok (show p.length < 9 by omega) (by decide)), cl_ok (by omega), e, if_neg hg]
  cases l with
  | zero =>
    rw [hy.1 rfl, if_pos (show nI 0 - 1 = -1 by decide)]
  | succ t =>
    obtain ⟨s, s1, s2, s3⟩ := hy.2 t rfl
    rw [nI_s1, if_neg (nm1 (by omega)), s2, nx_sh t (by omega), nx_ndf, s3]
theorem sm_up {f : Nat → Nat} : ∀ {a b : Nat}, a ≤ b → sm f a ≤ sm f b
  | a, 0, h => by rw [show a = 0 by omega]; exact Nat.le_refl _
  | a, b + 1, h => by
    by_cases c : a = b + 1
    · rw [c]; exact Nat.le_refl _
    · have := sm_up (f := f) (show a ≤ b by omega)
      exact Nat.le_trans this (Nat.le_add_right _ _)
theorem foP_skip {all : Nat} {F : List Nat → Bp} {p : List Nat} {b : Bp} : ∀ (d k l : Nat), (∀ j, l ≤ j → j < l + d → vld all p j = false) → foP all F p (d + k) l b = foP all F p k (l + d) b
  | 0, k, l, _ => by rw [Nat.zero_add, Nat.add_zero]
  | d + 1, k, l, h => by
    rw [show d + 1 + k = (d + k) + 1 by omega]
    show foP all F p (d + k) (l + 1) (if vld all p l then mg b (F (l :: p)) else b) = _
    rw [h l (Nat.le_refl _) (by omega), if_neg (by decide), foP_skip d k (l + 1) (fun j j1 j2 => h j (by omega) (by omega)), show l + 1 + d = l + (d + 1) by omega]
theorem smT_skip {G : List Nat} {all r : Nat} {p : List Nat} : ∀ (d l : Nat), (∀ j, l ≤ j → j < l + d → vld all p j = false) → sm (fT G all r p) (l + d) = sm (fT G all r p) l
  | 0, l, _ => rfl
  | d + 1, l, h => by
    show sm (fT G all r p) (l + d) + fT G all r p (l + d) = _
    have : fT G all r p (l + d) = 0 := if_neg (by rw [h (l + d) (by omega) (by omega)]; decide)
    rw [this, Nat.add_zero, smT_skip d l (fun j j1 j2 => h j j1 (by omega))]
theorem rbP_1 {m : Mm} {n k : Nat} {x : Int32} {b : Bp} (h : rbP m n b) : rbP (wI m 1131 k x) n b := ⟨by rw [wI_ne (by decide)]; exact h.1, fun z i hi => by rw [wI_ne (by decide)]; exact h.2 z i hi⟩
theorem levelP_f {G : List Nat} {all n B : Nat} (ha : all < 256) (hn8 : n ≤ 8) (r : Nat) {p : List Nat} (hn : p.length + (r + 1) = n) (ho : okS all p)
    (hch : ∀ (m : Mm) (b : Bp) (l : Nat), stP m G → vld all p l = true → l < 8 → b.1 + cW G all r (l :: p) ≤ B → rk m (l :: p) → rbP m n b → ∃ x y4 m3, (if p.length + 1 = n then bi1 (f_X12_takesRow m (nI n)) fun m3 => some (.inl (nI p.length, nI (setOf p), m3)) else some (.inl (nI (p.length + 1), nI (setOf (l :: p)), wI m 1131 (p.length + 1) (-1)))) = some (Sum.inl x : (Int32 × Int32 × Mm) ⊕ Mm) ∧ lp (f_X12_findsRows_s41 (nI all) (nI n)) x = lp (f_X12_findsRows_s41 (nI all) (nI n)) (nI p.length, y4, m3) ∧ yOk p (l + 1) y4 ∧ rk m3 (l :: p) ∧ rbP m3 n (mg b (cf G all r (l :: p))) ∧ frQ m m3) :
    ∀ (K k l : Nat) (y4 : Int32) (m : Mm) (b : Bp), k ≤ K → stP m G → l + k = 8 → b.1 + sm (fT G all r p) 8 ≤ B + sm (fT G all r p) l → yOk p l y4 → rk m p → m.1 1131 p.length = nI l - 1 → rbP m n b → ∃ m1, lp (f_X12_findsRows_s41 (nI all) (nI n)) (nI p.length, y4, m) = lp (f_X12_findsRows_s41 (nI all) (nI n)) (nI p.length - 1, nI (setOf p), m1) ∧ rk m1 p ∧ rbP m1 n (foP all (cf G all r) p k l b) ∧ frQ m m1 := by
  intro K
  induction K with
  | zero =>
    intro k l y4 m b hkK hs hl hB hy hk e hr
    obtain ⟨l', a1, a2, a3, a4, e1⟩ := lookP_f ha ho (by omega) hn8 (by omega) hy e
    have hl8 : l' = 8 := by omega
    rw [if_pos hl8] at e1
    refine ⟨wI m 1131 p.length (nI l'), lp_go e1, rk_1 hk, ?_, frQ_1 _ _ _⟩
    rw [show k = 0 by omega]
    exact rbP_1 hr
  | succ K ihK =>
    intro k l y4 m b hkK hs hl hB hy hk e hr
    obtain ⟨l', a1, a2, a3, a4, e1⟩ := lookP_f ha ho (by omega) hn8 (by omega) hy e
    have hfo : foP all (cf G all r) p k l b = foP all (cf G all r) p (8 - l') l' b := by
      have := foP_skip (F := cf G all r) (b := b) (l' - l) (8 - l') l (fun j j1 j2 => a3 j j1 (by omega))
      rw [show l' - l + (8 - l') = k by omega, show l + (l' - l) = l' by omega] at this
      exact this
    have hsm : sm (fT G all r p) l' = sm (fT G all r p) l := by
      have := smT_skip (G := G) (r := r) (l' - l) l (fun j j1 j2 => a3 j j1 (by omega))
      rw [show l + (l' - l) = l' by omega] at this
      exact this
    rw [hfo]
    by_cases c : l' = 8
    · rw [if_pos c] at e1
      refine ⟨wI m 1131 p.length (nI l'), lp_go e1, rk_1 hk, ?_, frQ_1 _ _ _⟩
      rw [c]
      exact rbP_1 hr
    · rw [if_neg c] at e1
      have hv := a4 (by omega)
      have hs1 : sm (fT G all r p) (l' + 1) = sm (fT G all r p) l' + cW G all r (l' :: p) := by
        show sm (fT G all r p) l' + fT G all r p l' = _
        rw [show fT G all r p l' = cW G all r (l' :: p) from if_pos hv]
      have hup := sm_up (f := fT G all r p) (show l' + 1 ≤ 8 by omega)
      obtain ⟨x, y5, m3, e2, e3, y3, k3, r3, f3⟩ := hch (wI m 1131 p.length (nI l')) b l' ((frQ_1 _ _ _).st hs) hv (by omega) (by omega) (rk_c hk l') (rbP_1 hr)
      rw [e2] at e1
      obtain ⟨k4, e4⟩ := rk_t k3
      obtain ⟨m5, e5, k5, r5, f5⟩ := ihK (8 - (l' + 1)) (l' + 1) y5 m3 (mg b (cf G all r (l' :: p))) (by omega) (f3.st ((frQ_1 _ _ _).st hs)) (by omega) (by show b.1 + cW G all r (l' :: p) + _ ≤ _; omega) y3 k4 (by rw [e4, nI_s1]) r3
      refine ⟨m5, by rw [lp_go e1, e3, e5], k5, ?_, (frQ_1 _ _ _).tr (f3.tr f5)⟩
      rw [show 8 - l' = (8 - (l' + 1)) + 1 by omega]
      show rbP m5 n (foP all (cf G all r) p (8 - (l' + 1)) (l' + 1) (if vld all p l' then mg b (cf G all r (l' :: p)) else b))
      rw [if_pos hv]
      exact r5
theorem levelsP_f {G : List Nat} (hd : gdef G) {all n B : Nat} (ha : all < 256) (hn8 : n ≤ 8) (hB : B < 2 ^ 31) : ∀ (r : Nat) (p : List Nat), p.length + (r + 1) = n → okS all p → ∀ (k l : Nat) (y4 : Int32) (m : Mm) (b : Bp), stP m G → l + k = 8 → b.1 + sm (fT G all r p) 8 ≤ B + sm (fT G all r p) l → yOk p l y4 → rk m p → m.1 1131 p.length = nI l - 1 → rbP m n b → ∃ m1, lp (f_X12_findsRows_s41 (nI all) (nI n)) (nI p.length, y4, m) = lp (f_X12_findsRows_s41 (nI all) (nI n)) (nI p.length - 1, nI (setOf p), m1) ∧ rk m1 p ∧ rbP m1 n (foP all (cf G all r) p k l b) ∧ frQ m m1
  | 0, p, hn, ho => by
    intro k l y4 m b hs hl hb hy hk e hr
    refine levelP_f ha hn8 0 hn ho (fun m2 b l s2 hv hl hb k2 r2 => ?_) k k l y4 m b (Nat.le_refl _) hs hl hb hy hk e hr
    have hlen : (l :: p).length = n := by rw [List.length_cons]; omega
    have ho2 : okS all (l :: p) := ⟨hv, ho⟩
    obtain ⟨m3, e3, f3, g3, r3⟩ := takesRow_f (b := b) (all := all) s2 hd k2 (okS_lt ha ho2) (by omega) (by omega) (by rw [hlen]; exact r2)
    rw [hlen] at e3 r3
    refine ⟨_, nI (setOf p), m3, by rw [if_pos (by omega), e3, bi1_s], rfl, ⟨fun z => absurd z (by omega), fun t ht => ⟨setOf p, setOf_lt ha ho, rfl, ?_⟩⟩, fun j hj => by rw [g3]; exact k2 j hj, r3, f3⟩
    rw [show t = l by omega]
    exact ndf_same (Bool.eq_false_iff.mpr (vld_iff.mp hv).2)
  | r + 1, p, hn, ho => by
    intro k l y4 m b hs hl hb hy hk e hr
    refine levelP_f ha hn8 (r + 1) hn ho (fun m2 b l s2 hv hl hb k2 r2 => ?_) k k l y4 m b (Nat.le_refl _) hs hl hb hy hk e hr
    have hlen : (l :: p).length = p.length + 1 := rfl
    have ho2 : okS all (l :: p) := ⟨hv, ho⟩
    obtain ⟨m3, hm3⟩ : ∃ m3, m3 = wI m2 1131 (p.length + 1) (-1) := ⟨_, rfl⟩
    have k3 : rk m3 (l :: p) := by rw [hm3]; exact rk_1 k2
    obtain ⟨m5, e5, k5, r5, f5⟩ := levelsP_f hd ha hn8 hB r (l :: p) (by rw [hlen]; omega) ho2 8 0 (nI (setOf (l :: p))) m3 b (by rw [hm3]; exact (frQ_1 _ _ _).st s2) rfl hb ⟨fun _ => rfl, fun t ht => absurd ht (by omega)⟩ k3 (by rw [hlen, hm3, wI_at]; decide) (by rw [hm3]; exact rbP_1 r2)
    refine ⟨_, nI (setOf (l :: p)), m5, by rw [if_neg (by omega)], ?_, ⟨fun z => absurd z (by omega), fun t ht => ⟨setOf (l :: p), setOf_lt ha ho2, rfl, ?_⟩⟩, k5, rb_fo r5, (show frQ m2 m3 from by rw [hm3]; exact frQ_1 _ _ _).tr f5⟩
    · rw [← hm3, show nI (p.length + 1) = nI (l :: p).length from rfl, e5, hlen, nI_s1]
    · rw [show t = l by omega]
      refine tb_ext (fun u => ?_)
      have hnl := Bool.eq_false_iff.mpr (vld_iff.mp hv).2
      rw [ndf_tb, show setOf (l :: p) = setOf p ||| 2 ^ l from rfl, Nat.testBit_or, one_tb]
      by_cases q : l = u
      · rw [← q, hnl, decide_eq_true rfl]
        rfl
      · rw [decide_eq_false q, Bool.or_false, Bool.not_false, Bool.and_true]
theorem findsRows_f {mm : Mm} {V A : Dat} {L : Rop} {S : Int32} (hv : RvF mm V) (ov : RvOk V) (hr : RaF mm V A L S) (oa : RaOk V A L) (hn : pop (thA V A 0) 8 ≤ 7) : ∃ m1, f_X12_findsRows mm (nI (thA V A 0)) = some m1 ∧ frP mm m1 ∧ m1.1 1088 62 = nI (if gAll V A (V 1 0 - A 0 1) then cntA V A else 0) ∧ (gAll V A (V 1 0 - A 0 1) = true → 0 < cntA V A → ∀ i, i < pop (thA V A 0) 8 → m1.1 1132 i = nI (gt' (rowA V A) i)) := by
  have h8 := ov.2.2.1
  have ha : thA V A 0 < 256 := thA_lt h8
  have f0 : frP mm (wI mm 1088 62 0) := frP_8 (Or.inr rfl)
  obtain ⟨m1, e1, f1, q0, q1, q2⟩ := laysLater_f (f0.rv hv) ov (f0.ra hr) oa
  have hpop : pop (thA V A 0) 16 = pop (thA V A 0) 8 := pop_more (n := 8) ha 8
  unfold f_X12_findsRows
  rw [vl_s, bits_ok (by omega), bi1_s, e1, bi2_s, hpop]
  cases hg : gAll V A (V 1 0 - A 0 1)
  · rw [if_neg (show ¬ false = true by decide), if_pos rfl]
    refine ⟨m1, rfl, f0.tr f1, ?_, fun z => absurd z (by decide)⟩
    rw [q0, wI_at]
    rfl
  · rw [if_pos rfl, if_neg (show ¬ (1 : Int32) = 0 by decide), if_pos rfl]
    by_cases c : pop (thA V A 0) 8 = 0
    · rw [if_pos (by rw [c]; rfl), vl_s]
      refine ⟨_, rfl, f0.tr (f1.tr (frP_8 (Or.inr rfl))), ?_, fun _ _ i hi => absurd hi (by omega)⟩
      rw [wI_at, cntA_wy h8, c]
      rfl
    · obtain ⟨r, hr'⟩ : ∃ r, pop (thA V A 0) 8 = r + 1 := ⟨pop (thA V A 0) 8 - 1, by omega⟩
      rw [if_neg (by rw [sN_eq0 (by omega)]; exact c), vl_s]
      obtain ⟨m2, hm2⟩ : ∃ m2, m2 = wI m1 1131 0 (-1) := ⟨_, rfl⟩
      rw [← hm2]
      have f2 : frP m1 m2 := by rw [hm2]; exact frP_w (Or.inl rfl)
      have hb := cW_le (gps V A (V 1 0 - A 0 1)) (thA V A 0) (pop (thA V A 0) 8) []
      have hb8 := pw8 hn
      have hb2 : cW (gps V A (V 1 0 - A 0 1)) (thA V A 0) (r + 1) [] ≤ 2097152 := by rw [← hr']; omega
      obtain ⟨m3, e3, k3, r3, f3⟩ := levelsP_f (G := gps V A (V 1 0 - A 0 1)) (gps_def ov oa _) (n := pop (thA V A 0) 8) (B := 2097152) ha (by omega) (by decide) r [] (by rw [hr']; exact Nat.zero_add _) trivial 8 0 0 m2 (0, []) ⟨by rw [hm2, wI_ne (by decide)]; exact q1, by rw [hm2, wI_ne (by decide)]; exact q2⟩ rfl (by show 0 + cW (gps V A (V 1 0 - A 0 1)) (thA V A 0) (r + 1) [] ≤ 2097152 + 0; omega) ⟨fun _ => rfl, fun t ht => absurd ht (by omega)⟩ (fun j hj => absurd hj (by show ¬ j < 0; omega)) (by rw [hm2]; show (wI m1 1131 0 (-1)).1 1131 0 = _; rw [wI_at]; decide) ⟨by rw [hm2, wI_ne (by decide), q0, wI_at]; rfl, fun z => absurd z (by show ¬ 0 < 0; omega)⟩
      have e4 : lp (f_X12_findsRows_s41 (nI (thA V A 0)) (nI (pop (thA V A 0) 8))) ((0 : Int32), (0 : Int32), m2) = some m3 := by
        refine Eq.trans e3 (lp_end ?_)
        unfold f_X12_findsRows_s41
        dsimp only
        rw [if_pos (show nI ([] : List Nat).length - 1 < 0 by decide)]
      rw [e4, bi1_s]
      have r4 := rb_fo r3
      have e5 : (mg ((0, []) : Bp) (cf (gps V A (V 1 0 - A 0 1)) (thA V A 0) (r + 1) [])) = (cntA V A, rowA V A) := by
        show (0 + cW (gps V A (V 1 0 - A 0 1)) (thA V A 0) (r + 1) [], if 0 < 0 then [] else fR (gps V A (V 1 0 - A 0 1)) (thA V A 0) (r + 1) []) = _
        rw [Nat.zero_add, if_neg (by omega), ← hr']
        rfl
      rw [e5] at r4
      exact ⟨m3, rfl, f0.tr (f1.tr (f2.tr ⟨fun i i1 i2 => f3.1 i i1 (by omega) (by omega), fun k _ k2 => f3.2 k k2⟩)), r4.1, fun _ hp i hi => r4.2 hp i hi⟩
