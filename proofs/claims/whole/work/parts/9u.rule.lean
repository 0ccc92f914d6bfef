/-! PHASE 2: rule, the class's sums and comparisons -/
theorem acc_c {m : Mm} {n : Nat} {t : Nat → Nat} (h : TxC m n t) (ok : TxOk n t) {i : Nat} (ha : atC m i) (hi : i ≤ 500) {c : Nat} (hc : c < 1000) {b : Nat} (hb : bl n t i = b) : ∃ m1, frT m m1 ∧ ((b < n ∧ t b = c ∧ f_X10_accept m (nI c) = some (1, m1) ∧ atC m1 (b + 1) ∧ m1.1 1 3 = nI b) ∨ (¬ (b < n ∧ t b = c) ∧ f_X10_accept m (nI c) = some (0, m1) ∧ atC m1 b)) := by
  rw [accept_c h ok ha hi hc, hb]
  by_cases q : b < n ∧ t b = c
  · rw [if_pos q]
    exact ⟨_, (frT_w m (by decide)).tr (frT_w _ (by decide)), Or.inl ⟨q.1, q.2, rfl, wI_at _ _ _ _, by rw [wI_pl (by decide), wI_at]⟩⟩
  · rw [if_neg q]
    exact ⟨_, frT_w m (by decide), Or.inr ⟨q, rfl, wI_at _ _ _ _⟩⟩
theorem acW_c {m : Mm} {n : Nat} {t : Nat → Nat} (h : TxC m n t) (ok : TxOk n t) {i : Nat} (ha : atC m i) (hi : i ≤ 500) {k : Nat} (hk : k < 7) (hk0 : ¬ k = 0) (hk2 : ¬ k = 2) {b : Nat} (hb : bl n t i = b) : ∃ m1, frT m m1 ∧ ((ws n t b k = true ∧ f_X10_acceptWord m k = some (1, m1) ∧ atC m1 (b + sL.getD k 0) ∧ m1.1 1 3 = nI b) ∨ (ws n t b k = false ∧ f_X10_acceptWord m k = some (0, m1) ∧ atC m1 b)) := by
  obtain ⟨m1, f1, e1, e2, e3, e4⟩ := wordAmong_c h ok ha hi hk
  have ew : fw n t b (wl k) 0 = if ws n t b k = true then some 0 else none := by
    rw [show wl k = [(0, sL.getD k 0, k)] by unfold wl; rw [if_neg hk0, if_neg hk2]]
    rfl
  rw [hb] at e1 e3 e4
  rw [ew] at e1 e3 e4
  unfold f_X10_acceptWord
  rw [e1, bi2_s]
  by_cases q : ws n t b k = true
  · rw [if_pos q] at e4 ⊢
    obtain ⟨g1, g2⟩ := e4 0 rfl
    rw [ws_lte q] at g1
    exact ⟨m1, f1, Or.inl ⟨q, rfl, g1, g2⟩⟩
  · rw [if_neg q] at e3 ⊢
    obtain ⟨g1, g2⟩ := e3 rfl
    exact ⟨m1, f1, Or.inr ⟨by simpa using q, rfl, g1⟩⟩
theorem op_c {m : Mm} {n : Nat} {t : Nat → Nat} (h : TxC m n t) (ok : TxOk n t) {i : Nat} (ha : atC m i) (hi : i ≤ 500) {b : Nat} (hb : bl n t i = b) : ∃ m1, frT m m1 ∧ ((opAt n t b = 0 ∧ f_X8_acceptOperator m = some (-1, m1) ∧ atC m1 b) ∨ (¬ opAt n t b = 0 ∧ f_X8_acceptOperator m = some (kOf (nI (opAt n t b)), m1) ∧ atC m1 (b + 1))) := by
  have hb5 : b ≤ 500 := by rw [← hb]; exact bl_5 ok hi
  have hid : bl n t b = b := by rw [← hb, bl_id]
  unfold f_X8_acceptOperator
  obtain ⟨m1, f1, ⟨c1, c2, e, a, _⟩ | ⟨c, e, a⟩⟩ := acc_c h ok ha hi (c := 43) (by decide) hb
  · rw [show f_X10_accept m 43 = _ from e, bi2_s, if_neg (show ¬ (1 : Int32) = 0 by decide)]
    have o : opAt n t b = 2 := by unfold opAt; rw [if_pos c1, if_pos c2]
    rw [o]
    exact ⟨m1, f1, Or.inr ⟨by decide, rfl, a⟩⟩
  rw [show f_X10_accept m 43 = _ from e, bi2_s, if_pos rfl]
  obtain ⟨m2, f2, ⟨c1, c2, e2, a2, _⟩ | ⟨d, e2, a2⟩⟩ := acc_c (f1.tx h) ok a hb5 (c := 45) (by decide) hid
  · rw [show f_X10_accept m1 45 = _ from e2, bi2_s, if_neg (show ¬ (1 : Int32) = 0 by decide)]
    have o : opAt n t b = 3 := by unfold opAt; rw [if_pos c1, if_neg (fun z => c ⟨c1, z⟩), if_pos c2]
    rw [o]
    exact ⟨m2, f1.tr f2, Or.inr ⟨by decide, rfl, a2⟩⟩
  rw [show f_X10_accept m1 45 = _ from e2, bi2_s, if_pos rfl]
  have f2 := f1.tr f2
  obtain ⟨m3, f3, ⟨c1, c2, e3, a3, _⟩ | ⟨d3, e3, a3⟩⟩ := acc_c (f2.tx h) ok a2 hb5 (c := 42) (by decide) hid
  · rw [show f_X10_accept m2 42 = _ from e3, bi2_s, if_neg (show ¬ (1 : Int32) = 0 by decide)]
    have o : opAt n t b = 13 := by unfold opAt; rw [if_pos c1, if_neg (fun z => c ⟨c1, z⟩), if_neg (fun z => d ⟨c1, z⟩), if_pos c2]
    rw [o]
    exact ⟨m3, f2.tr f3, Or.inr ⟨by decide, rfl, a3⟩⟩
  rw [show f_X10_accept m2 42 = _ from e3, bi2_s, if_pos rfl]
  have f3 := f2.tr f3
  obtain ⟨m4, f4, ⟨c1, c2, e4, a4, _⟩ | ⟨d4, e4, a4⟩⟩ := acc_c (f3.tx h) ok a3 hb5 (c := 47) (by decide) hid
  · rw [show f_X10_accept m3 47 = _ from e4, bi2_s, if_neg (show ¬ (1 : Int32) = 0 by decide)]
    have o : opAt n t b = 14 := by unfold opAt; rw [if_pos c1, if_neg (fun z => c ⟨c1, z⟩), if_neg (fun z => d ⟨c1, z⟩), if_neg (fun z => d3 ⟨c1, z⟩), if_pos c2]
    rw [o]
    exact ⟨m4, f3.tr f4, Or.inr ⟨by decide, rfl, a4⟩⟩
  rw [show f_X10_accept m3 47 = _ from e4, bi2_s, if_pos rfl]
  have f4 := f3.tr f4
  obtain ⟨m5, f5, ⟨c1, c2, e5, a5, _⟩ | ⟨d5, e5, a5⟩⟩ := acc_c (f4.tx h) ok a4 hb5 (c := 37) (by decide) hid
  · rw [show f_X10_accept m4 37 = _ from e5, bi2_s, if_neg (show ¬ (1 : Int32) = 0 by decide)]
    have o : opAt n t b = 15 := by unfold opAt; rw [if_pos c1, if_neg (fun z => c ⟨c1, z⟩), if_neg (fun z => d ⟨c1, z⟩), if_neg (fun z => d3 ⟨c1, z⟩), if_neg (fun z => d4 ⟨c1, z⟩), if_pos c2]
    rw [o]
    exact ⟨m5, f4.tr f5, Or.inr ⟨by decide, rfl, a5⟩⟩
  · rw [show f_X10_accept m4 37 = _ from e5, bi2_s, if_pos rfl]
    have o : opAt n t b = 0 := by
      unfold opAt
      by_cases q : b < n
      · rw [if_pos q, if_neg (fun z => c ⟨q, z⟩), if_neg (fun z => d ⟨q, z⟩), if_neg (fun z => d3 ⟨q, z⟩), if_neg (fun z => d4 ⟨q, z⟩), if_neg (fun z => d5 ⟨q, z⟩)]
      · rw [if_neg q]
    exact ⟨m5, f4.tr f5, Or.inl ⟨o, rfl, a5⟩⟩
theorem atOnce_c {m : Mm} {n : Nat} {t : Nat → Nat} (h : TxC m n t) (ok : TxOk n t) {i : Nat} (ha : atC m i) (hi : i ≤ 500) : f_X10_acceptAtOnce m 61 = some (if i < n ∧ t i = 61 then (1, wI m 1 2 (nI (i + 1))) else (0, m)) := by
  have h4 := ok.1
  unfold f_X10_acceptAtOnce
  rw [h.1, show m.1 1 2 = nI i from ha]
  by_cases c : i < n
  · rw [if_neg (by rw [sN_le (by omega) (by omega)]; omega), if_neg (gd_ok (show i < 400 by omega) (by decide)), cl_ok (by omega), h.2 _ c]
    by_cases q : t i = 61
    · rw [if_pos ((sb_61 _ (ok.2 _ c)).mpr q), if_pos ⟨c, q⟩, sN_a1, vl_s]
    · rw [if_neg (fun z => q ((sb_61 _ (ok.2 _ c)).mp z)), if_neg (fun z => q z.2)]
  · rw [if_pos (by rw [sN_le (by omega) (by omega)]; omega), if_neg (fun z => c z.1)]
theorem cpr_c {m : Mm} {n : Nat} {t : Nat → Nat} (h : TxC m n t) (ok : TxOk n t) {i : Nat} (ha : atC m i) (hi : i ≤ 490) {b : Nat} (hb : bl n t i = b) : ∃ m1, frT m m1 ∧ (((cpAt n t b).1 = 0 ∧ f_X8_acceptComparing m = some (-1, m1) ∧ atC m1 b) ∨ (¬ (cpAt n t b).1 = 0 ∧ f_X8_acceptComparing m = some (kOf (nI (cpAt n t b).1), m1) ∧ atC m1 (b + (cpAt n t b).2) ∧ m1.1 1 3 = nI b)) := by
  have hb5 : b ≤ 490 := by rw [← hb]; exact bl_B ok hi (by decide)
  have hid : bl n t b = b := by rw [← hb, bl_id]
  have J : ∀ m1, TxC m1 n t → atC m1 (b + 1) → m1.1 1 3 = nI b → ∀ y : Int32, ∃ m2, frT m1 m2 ∧ m2.1 1 3 = nI b ∧ ((b + 1 < n ∧ t (b + 1) = 61 ∧ f_X8_acceptComparing_j43 m1 y = some (if y = 0 then 11 else 9, m2) ∧ atC m2 (b + 2)) ∨ (¬ (b + 1 < n ∧ t (b + 1) = 61) ∧ f_X8_acceptComparing_j43 m1 y = some (if y = 0 then 12 else 8, m2) ∧ atC m2 (b + 1))) := fun m1 t1 a1 g1 y => by
    unfold f_X8_acceptComparing_j43
    rw [atOnce_c t1 ok a1 (by omega)]
    by_cases q : b + 1 < n ∧ t (b + 1) = 61
    · rw [if_pos q, bi2_s, if_neg (show ¬ (1 : Int32) = 0 by decide)]
      refine ⟨_, frT_w m1 (k := 2) (x := nI (b + 1 + 1)) (by decide), by rw [wI_pl (by decide)]; exact g1, Or.inl ⟨q.1, q.2, ?_, wI_at _ _ _ _⟩⟩
      split <;> rfl
    · rw [if_neg q, bi2_s, if_pos rfl]
      refine ⟨m1, frT.rf _, g1, Or.inr ⟨q, ?_, a1⟩⟩
      split <;> rfl
  unfold f_X8_acceptComparing
  obtain ⟨m1, f1, ⟨c1, c2, e, a, g⟩ | ⟨c, e, a⟩⟩ := acc_c h ok ha (by omega) (c := 61) (by decide) hb
  · rw [show f_X10_accept m 61 = _ from e, bi2_s, if_neg (show ¬ (1 : Int32) = 0 by decide)]
    have o : cpAt n t b = (6, 1) := by unfold cpAt; rw [if_pos c1, if_pos c2]
    rw [o]
    exact ⟨m1, f1, Or.inr ⟨by decide, rfl, a, g⟩⟩
  rw [show f_X10_accept m 61 = _ from e, bi2_s, if_pos rfl]
  obtain ⟨m2, f2, ⟨c1, c2, e2, a2, g2⟩ | ⟨d, e2, a2⟩⟩ := acc_c (f1.tx h) ok a (by omega) (c := 60) (by decide) hid
  · rw [show f_X10_accept m1 60 = _ from e2, bi2_s, if_neg (show ¬ (1 : Int32) = 0 by decide)]
    have f2 := f1.tr f2
    obtain ⟨m3, f3, g3, ⟨q1, q2, e3, a3⟩ | ⟨q, e3, a3⟩⟩ := J m2 (f2.tx h) a2 g2 1
    · rw [e3]
      have o : cpAt n t b = (5, 2) := by unfold cpAt; rw [if_pos c1, if_neg (fun z => c ⟨c1, z⟩), if_pos c2, if_pos ⟨q1, q2⟩]
      rw [o]
      exact ⟨m3, f2.tr f3, Or.inr ⟨by decide, rfl, a3, g3⟩⟩
    · rw [e3]
      have o : cpAt n t b = (4, 1) := by unfold cpAt; rw [if_pos c1, if_neg (fun z => c ⟨c1, z⟩), if_pos c2, if_neg q]
      rw [o]
      exact ⟨m3, f2.tr f3, Or.inr ⟨by decide, rfl, a3, g3⟩⟩
  rw [show f_X10_accept m1 60 = _ from e2, bi2_s, if_pos rfl]
  have f2 := f1.tr f2
  obtain ⟨m3, f3, ⟨c1, c2, e3, a3, g3⟩ | ⟨d3, e3, a3⟩⟩ := acc_c (f2.tx h) ok a2 (by omega) (c := 62) (by decide) hid
  · rw [show f_X10_accept m2 62 = _ from e3, bi2_s, if_neg (show ¬ (1 : Int32) = 0 by decide)]
    have f3 := f2.tr f3
    obtain ⟨m4, f4, g4, ⟨q1, q2, e4, a4⟩ | ⟨q, e4, a4⟩⟩ := J m3 (f3.tx h) a3 g3 0
    · rw [e4]
      have o : cpAt n t b = (7, 2) := by unfold cpAt; rw [if_pos c1, if_neg (fun z => c ⟨c1, z⟩), if_neg (fun z => d ⟨c1, z⟩), if_pos c2, if_pos ⟨q1, q2⟩]
      rw [o]
      exact ⟨m4, f3.tr f4, Or.inr ⟨by decide, rfl, a4, g4⟩⟩
    · rw [e4]
      have o : cpAt n t b = (8, 1) := by unfold cpAt; rw [if_pos c1, if_neg (fun z => c ⟨c1, z⟩), if_neg (fun z => d ⟨c1, z⟩), if_pos c2, if_neg q]
      rw [o]
      exact ⟨m4, f3.tr f4, Or.inr ⟨by decide, rfl, a4, g4⟩⟩
  · rw [show f_X10_accept m2 62 = _ from e3, bi2_s, if_pos rfl]
    have o : cpAt n t b = (0, 0) := by
      unfold cpAt
      by_cases q : b < n
      · rw [if_pos q, if_neg (fun z => c ⟨q, z⟩), if_neg (fun z => d ⟨q, z⟩), if_neg (fun z => d3 ⟨q, z⟩)]
      · rw [if_neg q]
    rw [o]
    exact ⟨m3, f2.tr f3, Or.inl ⟨rfl, rfl, a3⟩⟩
/-- the class reads at x, all its bounds kept -/
def cOk (n : Nat) (t : Nat → Nat) (m : Mm) (x : Ps) : Prop := TxC m n t ∧ atC m x.1 ∧ x.1 ≤ n ∧ eC m x.2.1 x.2.2 ∧ x.2.2 ≤ 60 ∧ 3 * x.2.1.length ≤ 14 * x.2.2
theorem cOk_l {n : Nat} {t : Nat → Nat} {m : Mm} {x : Ps} (h : cOk n t m x) : x.2.1.length < 300 := by
  have h1 := h.2.2.2.2.1
  have h2 := h.2.2.2.2.2
  omega
theorem kC_ok {n : Nat} {t : Nat → Nat} {m : Mm} {x : Ps} {c : Int} {res : Option (Int32 × Mm)} {p : Nat ⊕ Ps} (h : cOk n t m x) (g : kC m res p) (hr : ∀ y, p = .inr y → rdg n c x y) (hc : 0 ≤ c) : (∃ f m1, p = .inl f ∧ res = some (0, m1) ∧ frK m m1 ∧ m1.1 1 4 = nI f ∧ ∃ L, L ≤ 400 ∧ m1.1 20 1 = nI L) ∨ ∃ y m1, p = .inr y ∧ res = some (1, m1) ∧ frK m m1 ∧ cOk n t m1 y ∧ rdg n c x y := by
  obtain ⟨m1, g1, ⟨f, g2, g3, g4, g5⟩ | ⟨y, g2, g3, g4, g5⟩⟩ := g
  · exact Or.inl ⟨f, m1, g2, g3, g1, g4, g5⟩
  · have q := hr y g2
    obtain ⟨h1, h2, h3, h4, h5, h6⟩ := h
    refine Or.inr ⟨y, m1, g2, g3, g1, ⟨g1.tx h1, g4, q.2.2.1, g5, q.2.2.2, ?_⟩, q⟩
    have := q.1.2.2.1
    omega
def pcI : Es → Int32
  | [] => -1
  | e :: _ => kOf (nI e.1)
noncomputable def sumK : ((Int32 × Mm) ⊕ ((Mm) ⊕ (Int32 × Mm))) → Option (Int32 × Mm) := fun q => match q with
  | .inl (w1, m1) => f_X8_readSum_j103 m1 w1
  | .inr (.inl m1) => some (0, m1)
  | .inr (.inr (w1, m1)) => f_X8_readSum_j103 m1 w1
theorem j103_c {n : Nat} {t : Nat → Nat} {m : Mm} {i p : Nat} {E P : Es} (hP : P = [] ∨ P = [(2, 0)] ∨ P = [(3, 0)]) (ha : atC m i) (hE : eC m E p) (hl : E.length < 300) : kC m (f_X8_readSum_j103 m (pcI P)) (.inr (i, E ++ P, p)) := by
  unfold f_X8_readSum_j103
  have S : ∀ s x, x = kOf (nI s) → ¬ x = -1 → kC m (if x = -1 then some (1, m) else bi1 (f_X7_add m 20 x 0) fun m2 => some (1, m2)) (.inr (i, E ++ [(s, 0)], p)) := fun s x hx hn => by
    obtain ⟨m2, g1, g2, g3, g4⟩ := add_c hE hl (s := s) (v := 0) hx
    rw [if_neg hn, show f_X7_add m 20 x 0 = some m2 from g1, bi1_s]
    exact ⟨m2, ⟨fun i hi => g2 i (by omega), by rw [g2 1 (by decide)], g3⟩, Or.inr ⟨_, rfl, rfl, by unfold atC; rw [g2 1 (by decide)]; exact ha, g4⟩⟩
  rcases hP with q | q | q
  · rw [q, List.append_nil, if_pos (show pcI [] = -1 from rfl)]
    exact ⟨m, frK.rf m, Or.inr ⟨_, rfl, rfl, ha, hE⟩⟩
  · rw [q]
    exact S 2 _ rfl (by decide)
  · rw [q]
    exact S 3 _ rfl (by decide)
theorem flat_c {n : Nat} {t : Nat → Nat} (ok : TxOk n t) : ∀ (g : Nat), g ≤ 400 → ∀ (P : Es) (x : Ps) (m : Mm), (P = [] ∨ P = [(2, 0)] ∨ P = [(3, 0)]) → cOk n t m x → 3 * (x.2.1.length + P.length) ≤ 14 * x.2.2 → kC m (bi1 (lp f_X8_readSum_s13 (pcI P, nI (400 - g), m)) sumK) (flat n t g P x)
  | 0, hg, P, x, m, hP, hx, hc => by
    obtain ⟨h1, h2, h3, h4, h5, h6⟩ := hx
    have hs : f_X8_readSum_s13 (pcI P, nI (400 - 0), m) = some (.inr (.inr (.inr (pcI P, m)))) := by
      unfold f_X8_readSum_s13
      exact if_pos (by decide)
    rw [lp_end hs, bi1_s]
    exact j103_c (n := n) (t := t) hP h2 h4 (by omega)
  | g + 1, hg, P, x, m, hP, hx, hc => by
    have h400 := ok.1
    obtain ⟨h1, h2, h3, h4, h5, h6⟩ := hx
    obtain ⟨b, hb⟩ : ∃ b, bl n t x.1 = b := ⟨_, rfl⟩
    have hbn : b ≤ n := by rw [← hb]; exact bl_le t h3
    have hcn : ¬ (400 : Int32) ≤ nI (400 - (g + 1)) := by
      rw [show (400 : Int32) = nI 400 from rfl, sN_le (by decide) (by omega)]
      omega
    have hc1 : nI (400 - (g + 1)) + 1 = nI (400 - g) := by
      rw [sN_a1, show 400 - (g + 1) + 1 = 400 - g by omega]
    unfold flat
    rw [hb]
    obtain ⟨m1, f1, ⟨o, e, a⟩ | ⟨o, e, a⟩⟩ := op_c h1 ok h2 (by omega) hb
    · have hs : f_X8_readSum_s13 (pcI P, nI (400 - (g + 1)), m) = some (.inr (.inl (pcI P, m1))) := by
        unfold f_X8_readSum_s13
        show (if (400 : Int32) ≤ nI (400 - (g + 1)) then _ else _) = _
        rw [if_neg hcn, e, bi2_s, if_pos rfl]
      rw [if_pos o, lp_end hs, bi1_s]
      exact kC.tr f1.k (j103_c (n := n) (t := t) hP a (eC_T f1 h4) (by omega))
    · obtain ⟨o1, o2, o3, o4, o5, o6, o7⟩ := opAt_ok o
      obtain ⟨w, hw⟩ : ∃ w, opAt n t b = w := ⟨_, rfl⟩
      rw [hw] at o o2 o3 o4 o5 o6 o7 e ⊢
      rw [if_neg o]
      by_cases d : w < 4
      · rw [if_pos d]
        have o6 := o6 d
        have kk : ¬ kOf (nI w) = -1 ∧ (kOf (nI w) = 3 ∨ kOf (nI w) = 4) := by rcases o6 with q | q <;> rw [q] <;> decide
        have hs1 : f_X8_readSum_s13 (pcI P, nI (400 - (g + 1)), m) = f_X8_readSum_j43 m1 (pcI P) (nI (400 - (g + 1))) (kOf (nI w)) := by
          unfold f_X8_readSum_s13
          show (if (400 : Int32) ≤ nI (400 - (g + 1)) then _ else _) = _
          rw [if_neg hcn, e, bi2_s, if_neg kk.1]
          rcases kk.2 with q | q
          · rw [if_pos q]
          · rw [if_neg (by rw [q]; decide), if_pos q]
        have hA : ∃ m2, frK m1 m2 ∧ atC m2 (b + 1) ∧ eC m2 (x.2.1 ++ P) x.2.2 ∧ f_X8_readSum_j43 m1 (pcI P) (nI (400 - (g + 1))) (kOf (nI w)) = f_X8_readSum_j69 m2 (pcI P) (nI (400 - (g + 1))) (kOf (nI w)) 1 := by
          unfold f_X8_readSum_j43 f_X8_readSum_j48
          rw [if_neg (show ¬ (1 : Int32) = 0 by decide)]
          have S : ∀ s, (¬ kOf (nI s) = -1) → ∃ m2, frK m1 m2 ∧ atC m2 (b + 1) ∧ eC m2 (x.2.1 ++ [(s, 0)]) x.2.2 ∧ (if kOf (nI s) = -1 then f_X8_readSum_j69 m1 (kOf (nI s)) (nI (400 - (g + 1))) (kOf (nI w)) 1 else bi1 (f_X7_add m1 20 (kOf (nI s)) 0) fun mm => f_X8_readSum_j69 mm (kOf (nI s)) (nI (400 - (g + 1))) (kOf (nI w)) 1) = f_X8_readSum_j69 m2 (kOf (nI s)) (nI (400 - (g + 1))) (kOf (nI w)) 1 := fun s hn => by
            obtain ⟨m2, g1, g2, g3, g4⟩ := add_c (eC_T f1 h4) (by omega) (s := s) (v := 0) rfl
            rw [if_neg hn, show f_X7_add m1 20 (kOf (nI s)) 0 = some m2 from g1, bi1_s]
            exact ⟨m2, ⟨fun i hi => g2 i (by omega), by rw [g2 1 (by decide)], g3⟩, by unfold atC; rw [g2 1 (by decide)]; exact a, g4, rfl⟩
          rcases hP with q | q | q
          · rw [q, List.append_nil]
            exact ⟨m1, frK.rf _, a, eC_T f1 h4, if_pos rfl⟩
          · rw [q]
            exact S 2 (by decide)
          · rw [q]
            exact S 3 (by decide)
        obtain ⟨m2, k1, k2, k3, k4⟩ := hA
        have fk := f1.k.tr k1
        refine kC.tr fk ?_
        have hz : cOk n t m2 (b + 1, x.2.1 ++ P, x.2.2) := ⟨fk.tx h1, k2, by show b + 1 ≤ n; omega, k3, h5, by show 3 * (x.2.1 ++ P).length ≤ _; rw [List.length_append]; exact hc⟩
        rcases kC_ok hz (val_c hz.1 ok hz.2.1 hz.2.2.1 hz.2.2.2.1 hz.2.2.2.2.1 (cOk_l hz)) (fun y hy => val_sg hz.2.2.1 hy) (by decide) with ⟨f, m3, v1, v2, v3, v4, v5⟩ | ⟨y, m3, v1, v2, v3, v4, v5⟩
        · have hs : f_X8_readSum_s13 (pcI P, nI (400 - (g + 1)), m) = some (.inr (.inr (.inl m3))) := by
            rw [hs1, k4]
            unfold f_X8_readSum_j69
            rw [v2, bi2_s, if_pos rfl]
          rw [lp_end hs, bi1_s, v1]
          exact ⟨m3, v3, Or.inl ⟨f, rfl, rfl, v4, v5⟩⟩
        · have hs : f_X8_readSum_s13 (pcI P, nI (400 - (g + 1)), m) = some (.inl (kOf (nI w), nI (400 - g), m3)) := by
            rw [hs1, k4]
            unfold f_X8_readSum_j69
            rw [v2, bi2_s, if_neg (show ¬ (1 : Int32) = 0 by decide), if_neg (show ¬ (1 : Int32) = 0 by decide), hc1]
          rw [lp_go hs, v1]
          have := flat_c ok g (by omega) [(w, 0)] y m3 (by rcases o6 with q | q <;> rw [q] <;> decide) v4 (by
            have q1 := v5.1.2.2.1
            have q2 := hz.2.2.2.2.2
            simp
            simp at q1 q2
            omega)
          exact kC.tr v3 this
      · rw [if_neg d]
        have o7 := o7 d
        have kk : ¬ kOf (nI w) = -1 ∧ ¬ kOf (nI w) = 3 ∧ ¬ kOf (nI w) = 4 := by rcases o7 with q | q | q <;> rw [q] <;> decide
        have hs1 : f_X8_readSum_s13 (pcI P, nI (400 - (g + 1)), m) = f_X8_readSum_j69 m1 (pcI P) (nI (400 - (g + 1))) (kOf (nI w)) 0 := by
          unfold f_X8_readSum_s13
          show (if (400 : Int32) ≤ nI (400 - (g + 1)) then _ else _) = _
          rw [if_neg hcn, e, bi2_s, if_neg kk.1, if_neg kk.2.1, if_neg kk.2.2]
          unfold f_X8_readSum_j48
          rw [if_pos rfl]
        refine kC.tr f1.k ?_
        have hz : cOk n t m1 (b + 1, x.2.1, x.2.2) := ⟨f1.tx h1, a, by show b + 1 ≤ n; omega, eC_T f1 h4, h5, h6⟩
        rcases kC_ok hz (val_c hz.1 ok hz.2.1 hz.2.2.1 hz.2.2.2.1 hz.2.2.2.2.1 (cOk_l hz)) (fun y hy => val_sg hz.2.2.1 hy) (by decide) with ⟨f, m3, v1, v2, v3, v4, v5⟩ | ⟨y, m3, v1, v2, v3, v4, v5⟩
        · have hs : f_X8_readSum_s13 (pcI P, nI (400 - (g + 1)), m) = some (.inr (.inr (.inl m3))) := by
            rw [hs1]
            unfold f_X8_readSum_j69
            rw [v2, bi2_s, if_pos rfl]
          rw [lp_end hs, bi1_s, v1]
          exact ⟨m3, v3, Or.inl ⟨f, rfl, rfl, v4, v5⟩⟩
        · obtain ⟨r1, r2, r3, r4, r5, r6⟩ := v4
          obtain ⟨m4, g1, g2, g3, g4⟩ := add_c r4 (by omega) (s := w) (v := 0) rfl
          have hs : f_X8_readSum_s13 (pcI P, nI (400 - (g + 1)), m) = some (.inl (pcI P, nI (400 - g), m4)) := by
            rw [hs1]
            unfold f_X8_readSum_j69
            rw [v2, bi2_s, if_neg (show ¬ (1 : Int32) = 0 by decide), if_pos rfl, show f_X7_add m3 20 (kOf (nI w)) 0 = some m4 from g1, bi1_s, hc1]
          have fk : frK m3 m4 := ⟨fun i hi => g2 i (by omega), by rw [g2 1 (by decide)], g3⟩
          rw [lp_go hs, v1]
          have q1 := v5.1.2.2.1
          have q1 : 14 * (x.2.2 : Int) - 3 * (x.2.1.length : Int) + 11 ≤ 14 * (y.2.2 : Int) - 3 * (y.2.1.length : Int) := q1
          have := flat_c ok g (by omega) P (apE y [(w, 0)]) m4 hP ⟨fk.tx r1, by unfold atC; rw [g2 1 (by decide)]; exact r2, r3, g4, r5, by show 3 * (y.2.1 ++ [(w, 0)]).length ≤ 14 * y.2.2; rw [List.length_append]; simp; omega⟩ (by show 3 * ((y.2.1 ++ [(w, 0)]).length + P.length) ≤ 14 * y.2.2; rw [List.length_append]; simp; omega)
          exact kC.tr (v3.tr fk) this
theorem readSum_K (m : Mm) : f_X8_readSum m = bi2 (f_X8_readValue m) fun r m1 => if r = 0 then some (0, m1) else bi1 (lp f_X8_readSum_s13 ((-1 : Int32), (0 : Int32), m1)) sumK := rfl
theorem smv_c {n : Nat} {t : Nat → Nat} (ok : TxOk n t) {m : Mm} {x : Ps} (hz : cOk n t m x) : kC m (f_X8_readSum m) (smv n t x) := by
  rw [readSum_K]
  unfold smv
  rcases kC_ok hz (val_c hz.1 ok hz.2.1 hz.2.2.1 hz.2.2.2.1 hz.2.2.2.2.1 (cOk_l hz)) (fun y hy => val_sg hz.2.2.1 hy) (by decide) with ⟨f, m3, v1, v2, v3, v4, v5⟩ | ⟨y, m3, v1, v2, v3, v4, v5⟩
  · rw [v2, bi2_s, if_pos rfl, v1]
    exact ⟨m3, v3, Or.inl ⟨f, rfl, rfl, v4, v5⟩⟩
  · rw [v2, bi2_s, if_neg (show ¬ (1 : Int32) = 0 by decide), v1]
    exact kC.tr v3 (flat_c ok 400 (Nat.le_refl _) [] y m3 (Or.inl rfl) v4 (by simpa using v4.2.2.2.2.2))
