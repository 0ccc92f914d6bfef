/-! PHASE 2: rule, the reference's clauses -/
def frC (u c : Nat) (m m1 : Mm) : Prop := (∀ i, ¬ (i = 1088 ∨ i = 1120 ∨ i = 1121 ∨ i = 1126 ∨ (1123 ≤ i ∧ i ≤ 1125)) → m1.1 i = m.1 i) ∧ (∀ k, ¬ (k = 32 ∨ k = 33 ∨ k = 36 ∨ k = 37 ∨ k = 38 ∨ k = 39) → m1.1 1088 k = m.1 1088 k) ∧ (∀ k, k < 300 * u → m1.1 1120 k = m.1 1120 k ∧ m1.1 1121 k = m.1 1121 k) ∧ ∀ i, 1123 ≤ i → i ≤ 1125 → ∀ k, k < 12 * u + c → m1.1 i k = m.1 i k
theorem frC.tr {u c : Nat} {a b d : Mm} (h1 : frC u c a b) (h2 : frC u c b d) : frC u c a d := ⟨fun i hi => (h2.1 i hi).trans (h1.1 i hi), fun k hk => (h2.2.1 k hk).trans (h1.2.1 k hk), fun k hk => ⟨(h2.2.2.1 k hk).1.trans (h1.2.2.1 k hk).1, (h2.2.2.1 k hk).2.trans (h1.2.2.1 k hk).2⟩, fun i i1 i2 k hk => (h2.2.2.2 i i1 i2 k hk).trans (h1.2.2.2 i i1 i2 k hk)⟩
theorem frC.dn {u c d : Nat} {a b : Mm} (h : frC u c a b) (hd : d ≤ c) : frC u d a b := ⟨h.1, h.2.1, h.2.2.1, fun i i1 i2 k hk => h.2.2.2 i i1 i2 k (by omega)⟩
theorem frH.c {u c : Nat} {m m1 : Mm} (h : frH u m m1) : frC u c m m1 := ⟨fun i hi => h.1 i (by omega), h.2.1, h.2.2, fun i i1 i2 k _ => by rw [h.1 i (by omega)]⟩
theorem frC_w {u c i k : Nat} (m : Mm) {v : Int32} (h1 : 1123 ≤ i) (h2 : i ≤ 1125) (hk : 12 * u + c ≤ k) : frC u c m (wI m i k v) := ⟨fun j hj => wI_ne (by omega), fun j _ => by rw [wI_ne (by omega)], fun j _ => by rw [wI_ne (by omega), wI_ne (by omega)]; exact ⟨rfl, rfl⟩, fun j j1 j2 q hq => by rw [wI_get, if_neg (by omega)]⟩
theorem fOk_w3 {n : Nat} {t : Nat → Nat} {u i k : Nat} {m : Mm} {v : Int32} {x : Ps} (h1 : 1123 ≤ i) (h2 : i ≤ 1125) (h : fOk n t u m x) : fOk n t u (wI m i k v) x := by
  obtain ⟨⟨k1, k1'⟩, k2, k3, k4, k5, ⟨k6, k6', k6'', k6'''⟩, k7, k8⟩ := h
  exact ⟨⟨by rw [wI_ne (by omega)]; exact k1, fun k hk => by rw [wI_ne (by omega)]; exact k1' k hk⟩, by rw [wI_ne (by omega)]; exact k2, by rw [wI_ne (by omega)]; exact k3, k4, by rw [wI_ne (by omega)]; exact k5, ⟨by rw [wI_ne (by omega)]; exact k6, by rw [wI_ne (by omega)]; exact k6', fun k hk => by rw [wI_ne (by omega), wI_ne (by omega)]; exact k6'' k hk, by rw [wI_ne (by omega)]; exact k6'''⟩, k7, k8⟩
theorem flB_w3 {B f i k : Nat} {m : Mm} {v : Int32} (h1 : 1123 ≤ i) (h : flB B m f) : flB B (wI m i k v) f := by
  obtain ⟨j1, j2, j3, j, j4, j5⟩ := h
  exact ⟨by rw [wI_ne (by omega)]; exact j1, j2, j3, j, j4, by rw [wI_ne (by omega)]; exact j5⟩
theorem takes_f {n : Nat} {t : Nat → Nat} (ok : TxOk n t) {u : Nat} {m : Mm} {y : Ps} (h : fOk n t u m y) {b : Nat} (hb : bl n t y.1 = b) : ∃ m1, frU m m1 ∧ ((ws n t b 3 = true ∧ f_X12_takes m 3 = some (1, m1) ∧ fOk n t u m1 (b + 2, y.2.1, y.2.2)) ∨ (ws n t b 3 = false ∧ f_X12_takes m 3 = some (0, m1) ∧ fOk n t u m1 (b, y.2.1, y.2.2))) := by
  have h400 := ok.1
  have h4 := h.2.2.2.1
  have hbn : b ≤ n := by rw [← hb]; exact bl_le t h4
  have hl := (lte_ok n t b).2.1 hbn
  have o1 := fOk_at h hbn
  unfold f_X12_takes f_X12_takes_j27
  rw [blanks_f h.1 ok (i := y.1) h.2.2.1 (by omega), hb, bi1_s, stood_f o1.1 ok (i := b) o1.2.2.1 (by omega) (k := 3) (by decide), bi1_s, wI_at]
  by_cases w : ws n t b 3 = true
  · have dl : lte n t b = b + 2 := ws_lte w
    rw [if_pos w, if_neg (show ¬ (1 : Int32) = 0 by decide), show sLn 3 = nI 2 from rfl, sN_ad, vl_s, wI_wI, if_neg (fun z => z.2 rfl)]
    exact ⟨_, frU_w m (Or.inl rfl), Or.inl ⟨w, rfl, fOk_at h (by omega)⟩⟩
  · rw [if_neg w, if_pos rfl, show (nI b + 0 : Int32) = nI b by rw [show (0 : Int32) = nI 0 from rfl, sN_ad]; rfl, vl_s, wI_wI, if_neg (fun z => z.1 rfl)]
    exact ⟨_, frU_w m (Or.inl rfl), Or.inr ⟨by simpa using w, rfl, o1⟩⟩
theorem cls_f {n : Nat} {t : Nat → Nat} (ok : TxOk n t) {u : Nat} (hu : u < 6) {m : Mm} {x : Ps} {c : Nat} (hx : fOk n t u m x) (h37 : m.1 1088 37 = 0) (hc : c ≤ 12) : ∃ m1, f_X12_ruleClause m (nI c) = some m1 ∧ frC u c m m1 ∧ ((∃ f, cls n t c x = .inl f ∧ flB 430 m1 f) ∨ (c < 12 ∧ ∃ y T, cls n t c x = .inr (y, T) ∧ fOk n t u m1 y ∧ m1.1 1088 37 = 0 ∧ m1.1 1123 (12 * u + c) = nI T.1 ∧ m1.1 1124 (12 * u + c) = nI T.2.1 ∧ m1.1 1125 (12 * u + c) = nI T.2.2)) := by
  have h400 := ok.1
  have h4 := hx.2.2.2.1
  obtain ⟨b, hb⟩ : ∃ b, bl n t x.1 = b := ⟨_, rfl⟩
  have hbn : b ≤ n := by rw [← hb]; exact bl_le t h4
  have hl := (lte_ok n t b).2.1 hbn
  have o1 := fOk_at hx hbn
  have f1 : frU m (wI m 1088 32 (nI b)) := frU_w m (Or.inl rfl)
  unfold f_X12_ruleClause f_X12_ruleClause_j104
  rw [blanks_f hx.1 ok (i := x.1) hx.2.2.1 (by omega), hb, bi1_s, stood_f o1.1 ok (i := b) o1.2.2.1 (by omega) (k := 1) (by decide), bi1_s, o1.2.2.1]
  obtain ⟨m0, hm0⟩ : ∃ m0, wI m 1088 32 (nI b) = m0 := ⟨_, rfl⟩
  rw [hm0] at o1 f1 ⊢
  by_cases w : ws n t b 1 = true
  · have dl : lte n t b = b + 3 := ws_lte w
    rw [if_pos w, if_neg (show ¬ (1 : Int32) = 0 by decide)]
    by_cases c2 : c = 12
    · rw [if_pos (by rw [c2]; rfl), K4, fails_0 b 4 o1.2.2.2.2.1, bi1_s]
      exact ⟨_, rfl, (f1.j.h.tr (frJ_w _ (by omega)).h).c, Or.inl ⟨5 + 8 * b, by unfold cls; rw [hb, if_pos w, if_pos c2], by rw [wI_at, show 1 + 8 * b + 4 = 5 + 8 * b by omega], by omega, by omega, b, by omega, by rw [wI_pl (by decide)]; exact o1.2.2.1⟩⟩
    · have ec : cls n t c x = sbd (smv n t (b + 3, x.2.1, x.2.2)) fun y => if ws n t (bl n t y.1) 3 = true then sbd (tst n t (fct n t 10) (bl n t y.1 + 2, y.2.1, y.2.2)) fun z => .inr (z, (x.2.1.length, y.2.1.length, z.2.1.length)) else .inr ((bl n t y.1, y.2.1, y.2.2), (x.2.1.length, y.2.1.length, y.2.1.length)) := by
        unfold cls
        rw [hb, if_pos w, if_neg c2]
      have o2 := fOk_at o1 (i := b + 3) (by omega)
      have f2 : frU m0 (wI m0 1088 32 (nI (b + 3))) := frU_w m0 (Or.inl rfl)
      rw [if_neg (show ¬ nI c = 12 by rw [K12, sN_eq (by omega) (by decide)]; exact c2), show nI b + 3 = nI (b + 3) from sN_ad b 3, vl_s]
      obtain ⟨m2, hm2⟩ : ∃ m2, wI m0 1088 32 (nI (b + 3)) = m2 := ⟨_, rfl⟩
      rw [hm2] at o2 f2 ⊢
      have e34 : (12 : Int32) * m2.1 1088 34 + nI c = nI (12 * u + c) := by
        rw [o2.2.2.2.2.2.1.2.1, K12, show nI 12 * nI u = nI (12 * u) from (Int32.ofNat_mul _ _).symm, sN_ad]
      obtain ⟨K, hK⟩ : ∃ K, 12 * u + c = K := ⟨_, rfl⟩
      have gd := gd_ok (show K < 72 by omega) (by decide)
      rw [cl_ok (by omega)] at gd
      rw [e34, hK, vl_s, cl_ok (by omega), if_neg gd, o2.2.2.2.2.2.1.1, vl_s]
      have o3 := fOk_w3 (i := 1123) (k := K) (v := nI x.2.1.length) (by decide) (by decide) o2
      have t3 : m2.1 1088 37 = 0 := by rw [f2.2 37 (by decide) (by decide), f1.2 37 (by decide) (by decide)]; exact h37
      have fc3 : frC u c m (wI m2 1123 K (nI x.2.1.length)) := ((f1.tr f2).j.h.c).tr (frC_w _ (by decide) (by decide) (by omega))
      have q3 : (wI m2 1123 K (nI x.2.1.length)).1 1123 K = nI x.2.1.length := wI_at _ _ _ _
      have t3 : (wI m2 1123 K (nI x.2.1.length)).1 1088 37 = 0 := by rw [wI_ne (by decide)]; exact t3
      have o3 : fOk n t u (wI m2 1123 K (nI x.2.1.length)) (b + 3, x.2.1, x.2.2) := o3
      show ∃ m1, (bi1 (f_X12_sum (wI m2 1123 K (nI x.2.1.length))) _) = some m1 ∧ _
      obtain ⟨m3, hm3⟩ : ∃ m3, wI m2 1123 K (nI x.2.1.length) = m3 := ⟨_, rfl⟩
      rw [hm3] at o3 fc3 q3 t3 ⊢
      rcases sum_f ok hu o3 with ⟨f, m4, v1, v2, v3, v4⟩ | ⟨y, m4, v1, v2, v3, v4, v5⟩
      · rw [v2, bi1_s, if_neg gd, vl_s, if_neg (show ¬ (wI m4 1124 K (m4.1 1088 36)).1 1088 33 = 0 by rw [wI_ne (by decide)]; exact flB_ne v4), if_neg gd, vl_s]
        exact ⟨_, rfl, ((fc3.tr v3.h.c).tr (frC_w _ (by decide) (by decide) (by omega))).tr (frC_w _ (by decide) (by decide) (by omega)), Or.inl ⟨f, by rw [ec, v1]; rfl, flB_w3 (by decide) (flB_w3 (by decide) (v4.mo (by decide)))⟩⟩
      · rw [v2, bi1_s, if_neg gd, v4.2.2.2.2.2.1.1, vl_s]
        have o5 := fOk_w3 (i := 1124) (k := K) (v := nI y.2.1.length) (by decide) (by decide) v4
        have fc5 : frC u c m (wI m4 1124 K (nI y.2.1.length)) := (fc3.tr v3.h.c).tr (frC_w _ (by decide) (by decide) (by omega))
        have q5 : (wI m4 1124 K (nI y.2.1.length)).1 1123 K = nI x.2.1.length := by rw [wI_ne (by decide), v3.1 1123 (by decide)]; exact q3
        have q5' : (wI m4 1124 K (nI y.2.1.length)).1 1124 K = nI y.2.1.length := wI_at _ _ _ _
        have t5 : (wI m4 1124 K (nI y.2.1.length)).1 1088 37 = 0 := by rw [wI_ne (by decide), v3.2.1 37 (by decide)]; exact t3
        obtain ⟨m5, hm5⟩ : ∃ m5, wI m4 1124 K (nI y.2.1.length) = m5 := ⟨_, rfl⟩
        rw [hm5] at o5 fc5 q5 q5' t5 ⊢
        rw [if_pos o5.2.2.2.2.1]
        obtain ⟨b2, hb2⟩ : ∃ b2, bl n t y.1 = b2 := ⟨_, rfl⟩
        obtain ⟨m6, f6, ⟨w3, e6, o6⟩ | ⟨w3, e6, o6⟩⟩ := takes_f ok o5 hb2
        · have ec2 : cls n t c x = sbd (tst n t (fct n t 10) (b2 + 2, y.2.1, y.2.2)) fun z => .inr (z, (x.2.1.length, y.2.1.length, z.2.1.length)) := by
            rw [ec, v1]
            show (if ws n t (bl n t y.1) 3 = true then _ else _) = _
            rw [hb2, if_pos w3]
          rw [e6, bi2_s, if_neg (show ¬ (1 : Int32) = 0 by decide)]
          rcases test_f ok hu o6 (by rw [f6.2 37 (by decide) (by decide)]; exact t5) with ⟨f, m7, r1, r2, r3, r4⟩ | ⟨z, m7, r1, r2, r3, r4, r5⟩
          · rw [r2, bi1_s, if_neg gd, vl_s]
            exact ⟨_, rfl, ((fc5.tr f6.j.h.c).tr r3.c).tr (frC_w _ (by decide) (by decide) (by omega)), Or.inl ⟨f, by rw [ec2, r1]; rfl, flB_w3 (by decide) r4⟩⟩
          · rw [r2, bi1_s, if_neg gd, r4.2.2.2.2.2.1.1, vl_s]
            refine ⟨_, rfl, ((fc5.tr f6.j.h.c).tr r3.c).tr (frC_w _ (by decide) (by decide) (by omega)), Or.inr ⟨by omega, z, _, by rw [ec2, r1]; rfl, fOk_w3 (by decide) (by decide) r4, by rw [wI_ne (by decide)]; exact r5, ?_, ?_, wI_at _ _ _ _⟩⟩
            · rw [wI_ne (by decide), r3.1 1123 (by decide), f6.1 1123 (by decide)]
              exact q5
            · rw [wI_ne (by decide), r3.1 1124 (by decide), f6.1 1124 (by decide)]
              exact q5'
        · have ec2 : cls n t c x = .inr ((b2, y.2.1, y.2.2), (x.2.1.length, y.2.1.length, y.2.1.length)) := by
            rw [ec, v1]
            show (if ws n t (bl n t y.1) 3 = true then _ else _) = _
            rw [hb2, if_neg (by rw [w3]; decide)]
          rw [e6, bi2_s, if_pos rfl, if_neg gd, o6.2.2.2.2.2.1.1, vl_s]
          refine ⟨_, rfl, (fc5.tr f6.j.h.c).tr (frC_w _ (by decide) (by decide) (by omega)), Or.inr ⟨by omega, _, _, ec2, fOk_w3 (by decide) (by decide) o6, by rw [wI_ne (by decide), f6.2 37 (by decide) (by decide)]; exact t5, ?_, ?_, wI_at _ _ _ _⟩⟩
          · rw [wI_ne (by decide), f6.1 1123 (by decide)]
            exact q5
          · rw [wI_ne (by decide), f6.1 1124 (by decide)]
            exact q5'
  · rw [if_neg w, if_pos rfl, show f_X12_fails m0 0 (nI b) = _ from fails_0 b 0 o1.2.2.2.2.1, bi1_s]
    exact ⟨_, rfl, (f1.j.h.tr (frJ_w _ (by omega)).h).c, Or.inl ⟨1 + 8 * b, by unfold cls; rw [hb, if_neg w], wI_at _ _ _ _, by omega, by omega, b, by omega, by rw [wI_pl (by decide)]; exact o1.2.2.1⟩⟩
def fTb (m : Mm) (u : Nat) (Q : List Tr) : Prop := ∀ q, q < Q.length → m.1 1123 (12 * u + q) = nI (tg Q q).1 ∧ m.1 1124 (12 * u + q) = nI (tg Q q).2.1 ∧ m.1 1125 (12 * u + q) = nI (tg Q q).2.2
def rF (u : Nat) (m : Mm) (res : Option (Int32 × Mm)) (p : Nat ⊕ (Es × List Tr)) : Prop := ∃ w m1, res = some (w, m1) ∧ frC u 0 m m1 ∧ ((∃ f, p = .inl f ∧ m1.1 1088 33 = nI f ∧ 1 ≤ f ∧ f < 5000) ∨ ∃ E Q, p = .inr (E, Q) ∧ m1.1 1088 33 = 0 ∧ w = nI Q.length ∧ (∀ k, k < E.length → m1.1 1120 (300 * u + k) = nI (en E k).1 ∧ m1.1 1121 (300 * u + k) = nI (en E k).2) ∧ fTb m1 u Q)
theorem rls_f {n : Nat} {t : Nat → Nat} (ok : TxOk n t) {u : Nat} (hu : u < 6) : ∀ (g : Nat) (x : Ps) (Q : List Tr) (m : Mm), g + Q.length = 12 → fOk n t u m x → m.1 1088 37 = 0 → fTb m u Q → rF u m (lp f_X12_rule_s27 (nI Q.length, 1, m)) (rls n t g x Q) := by
  have h400 := ok.1
  have stop : ∀ w m, lp f_X12_rule_s27 (w, 0, m) = some (w, m) := fun w m => lp_end (by unfold f_X12_rule_s27; exact if_pos rfl)
  have step : ∀ c m m1 r m2, f_X12_ruleClause m (nI c) = some m1 → f_X12_goesOn m1 = some (r, m2) → f_X12_rule_s27 (nI c, 1, m) = some (.inl (nI (c + 1), r, m2)) := fun c m m1 r m2 h1 h2 => by
    unfold f_X12_rule_s27
    show (if (1 : Int32) = 0 then _ else _) = _
    rw [if_neg (by decide), h1, bi1_s, h2, bi2_s, sN_a1]
  have flt' : ∀ (Q : List Tr) (m m1 : Mm) (f : Nat), TxF m n t → f_X12_ruleClause m (nI Q.length) = some m1 → frC u Q.length m m1 → flB 430 m1 f → ∃ w m2, lp f_X12_rule_s27 (nI Q.length, 1, m) = some (w, m2) ∧ frC u 0 m m2 ∧ m2.1 1088 33 = nI f ∧ 1 ≤ f ∧ f < 5000 := fun Q m m1 f ht h1 h2 h3 => by
    have t1 : TxF m1 n t := ⟨by rw [h2.2.1 31 (by decide)]; exact ht.1, fun k hk => by rw [h2.1 1119 (by decide)]; exact ht.2 k hk⟩
    obtain ⟨m2, g1, g2, g3⟩ := goesX t1 ok (show flt m1 f from h3.mo (by decide))
    exact ⟨_, m2, by rw [lp_go (step _ _ _ _ _ h1 g1)]; exact stop _ _, (h2.dn (Nat.zero_le _)).tr g2.j.h.c, g3, h3.2.1, h3.2.2.1⟩
  intro g
  induction g with
  | zero =>
    intro x Q m hg hz h37 hT
    obtain ⟨m1, e0, f1, ⟨f, e1, e2⟩ | ⟨e1, _⟩⟩ := cls_f ok hu hz h37 (c := Q.length) (by omega)
    · obtain ⟨w, m2, g1, g2, g3⟩ := flt' Q m m1 f hz.1 e0 f1 e2
      exact ⟨w, m2, g1, g2, Or.inl ⟨f, by unfold rls; rw [e1]; rfl, g3⟩⟩
    · omega
  | succ g ih =>
    intro x Q m hg hz h37 hT
    obtain ⟨m1, e0, f1, ⟨f, e1, e2⟩ | ⟨e1, y, T, e2, e3, e4, e5, e6, e7⟩⟩ := cls_f ok hu hz h37 (c := Q.length) (by omega)
    · obtain ⟨w, m2, g1, g2, g3⟩ := flt' Q m m1 f hz.1 e0 f1 e2
      exact ⟨w, m2, g1, g2, Or.inl ⟨f, by unfold rls; rw [e1]; rfl, g3⟩⟩
    · have k3 := e3.2.2.2.1
      have hbn := bl_le t k3
      have er : rls n t (g + 1) x Q = if n ≤ bl n t y.1 then .inr (y.2.1, Q ++ [T]) else if t (bl n t y.1) = 59 then rls n t g (bl n t y.1 + 1, y.2.1, y.2.2) (Q ++ [T]) else .inl (1 + 8 * bl n t y.1) := by
        rw [rls, e2]
        rfl
      have ql : (Q ++ [T]).length = Q.length + 1 := by rw [List.length_append]; rfl
      have t2 : ∀ m2, frU m1 m2 → fTb m2 u (Q ++ [T]) := fun m2 f2 q hq => by
        rw [ql] at hq
        rw [f2.1 1123 (by decide), f2.1 1124 (by decide), f2.1 1125 (by decide)]
        by_cases z : q = Q.length
        · rw [z, tg_at]
          exact ⟨e5, e6, e7⟩
        · rw [tg_lt (by omega), f1.2.2.2 1123 (by decide) (by decide) _ (by omega), f1.2.2.2 1124 (by decide) (by decide) _ (by omega), f1.2.2.2 1125 (by decide) (by decide) _ (by omega)]
          exact hT q (by omega)
      obtain ⟨m2, f2, ⟨c1, g1, g2⟩ | ⟨c1, c2, g1, g2, g3⟩ | ⟨c1, c2, g1, g2⟩⟩ := goesOn_f e3.1 ok e3.2.2.1 k3 e3.2.2.2.2.1
      · rw [er, if_pos c1]
        refine ⟨_, m2, by rw [lp_go (step _ _ _ _ _ e0 g1)]; exact stop _ _, (f1.dn (Nat.zero_le _)).tr f2.j.h.c, Or.inr ⟨_, _, rfl, g2, by rw [ql], fun k hk => ?_, t2 m2 f2⟩⟩
        rw [f2.1 1120 (by decide), f2.1 1121 (by decide)]
        exact e3.2.2.2.2.2.1.2.2.1 k hk
      · rw [er, if_neg (by omega), if_pos c2, lp_go (step _ _ _ _ _ e0 g1)]
        have o2 : fOk n t u m2 (bl n t y.1 + 1, y.2.1, y.2.2) := by
          obtain ⟨a1, a2, a3, a4, a5, a6, a7, a8⟩ := e3
          exact ⟨f2.tx a1, by rw [f2.2 40 (by decide) (by decide)]; exact a2, g3, by show bl n t y.1 + 1 ≤ n; omega, g2, eF_U f2 a6, a7, a8⟩
        have := ih (bl n t y.1 + 1, y.2.1, y.2.2) (Q ++ [T]) m2 (by rw [ql]; omega) o2 (by rw [f2.2 37 (by decide) (by decide)]; exact e4) (t2 m2 f2)
        rw [ql] at this
        obtain ⟨w, m3, s1, s2, s3⟩ := this
        exact ⟨w, m3, s1, ((f1.dn (Nat.zero_le _)).tr f2.j.h.c).tr s2, s3⟩
      · rw [er, if_neg (by omega), if_neg c2]
        exact ⟨_, m2, by rw [lp_go (step _ _ _ _ _ e0 g1)]; exact stop _ _, (f1.dn (Nat.zero_le _)).tr f2.j.h.c, Or.inl ⟨_, rfl, g2, by omega, by omega⟩⟩
