/-! PHASE 2: run, what a rule wants -/
def RuD (sF vF tI tJ tK : Nat → Nat) (len nc : Nat) : Prop := len ≤ 300 ∧ nc ≤ 12 ∧ (∀ k, k < len → gdE (sF k) (vF k)) ∧ ∀ q, q < nc → tI q ≤ tJ q ∧ tJ q ≤ tK q ∧ tK q ≤ len ∧ oneV (fun z => nI (sF z)) (tI q) (tJ q) ∧ (tJ q = tK q ∨ (oneV (fun z => nI (sF z)) (tJ q) (tK q) ∧ oneB (fun z => nI (sF z)) (tJ q) (tK q)))
def RuC (m : Mm) (U : Nat) (sF vF tI tJ tK : Nat → Nat) (len nc : Nat) : Prop := m.1 U 5 = nI nc ∧ (∀ k, k < len → m.1 (U + 1) k = nI (vF k) * 16 + kOf (nI (sF k))) ∧ ∀ q, q < nc → m.1 (U + 2) q = nI (tI q) ∧ m.1 (U + 3) q = nI (tJ q) ∧ m.1 (U + 4) q = nI (tK q)
def RuF (m : Mm) (u : Nat) (sF vF tI tJ tK : Nat → Nat) (len nc : Nat) : Prop := m.1 1122 u = nI nc ∧ (∀ k, k < len → m.1 1120 (300 * u + k) = nI (sF k) ∧ m.1 1121 (300 * u + k) = nI (vF k)) ∧ ∀ q, q < nc → m.1 1123 (12 * u + q) = nI (tI q) ∧ m.1 1124 (12 * u + q) = nI (tJ q) ∧ m.1 1125 (12 * u + q) = nI (tK q)
theorem SimU_D {mm : Mm} {u : Nat} (h : SimU mm u) : ∃ sF vF tI tJ tK len nc, RuD sF vF tI tJ tK len nc ∧ RuC mm (1052 + 6 * u) sF vF tI tJ tK len nc ∧ RuF mm u sF vF tI tJ tK len nc := by
  obtain ⟨len, nc, g1, g2, g3, g4, g5, g6, g7⟩ := h
  obtain ⟨sF, hsF⟩ : ∃ sF : Nat → Nat, ∀ k, sF k = (mm.1 1120 (300 * u + k)).toNatClampNeg := ⟨_, fun _ => rfl⟩
  obtain ⟨vF, hvF⟩ : ∃ vF : Nat → Nat, ∀ k, vF k = (mm.1 1121 (300 * u + k)).toNatClampNeg := ⟨_, fun _ => rfl⟩
  obtain ⟨tI, htI⟩ : ∃ tI : Nat → Nat, ∀ k, tI k = (mm.1 1123 (12 * u + k)).toNatClampNeg := ⟨_, fun _ => rfl⟩
  obtain ⟨tJ, htJ⟩ : ∃ tJ : Nat → Nat, ∀ k, tJ k = (mm.1 1124 (12 * u + k)).toNatClampNeg := ⟨_, fun _ => rfl⟩
  obtain ⟨tK, htK⟩ : ∃ tK : Nat → Nat, ∀ k, tK k = (mm.1 1125 (12 * u + k)).toNatClampNeg := ⟨_, fun _ => rfl⟩
  have E : ∀ k, k < len → gdE (sF k) (vF k) ∧ mm.1 1120 (300 * u + k) = nI (sF k) ∧ mm.1 1121 (300 * u + k) = nI (vF k) ∧ mm.1 (1052 + 6 * u + 1) k = nI (vF k) * 16 + kOf (nI (sF k)) := fun k hk => by
    obtain ⟨s, v, k1, k2, k3, k4, k5, k6, k7⟩ := g6 k hk
    have es : sF k = s := by rw [hsF, k5, cl_ok (by omega)]
    have ev : vF k = v := by rw [hvF, k6, cl_ok (by omega)]
    rw [es, ev]
    exact ⟨⟨k1, k2, k3, k4⟩, k5, k6, k7⟩
  have T : ∀ q, q < nc → ∃ i j k : Nat, tI q = i ∧ tJ q = j ∧ tK q = k ∧ i ≤ j ∧ j ≤ k ∧ k ≤ len ∧ mm.1 (1052 + 6 * u + 2) q = nI i ∧ mm.1 1123 (12 * u + q) = nI i ∧ mm.1 (1052 + 6 * u + 3) q = nI j ∧ mm.1 1124 (12 * u + q) = nI j ∧ mm.1 (1052 + 6 * u + 4) q = nI k ∧ mm.1 1125 (12 * u + q) = nI k ∧ oneV (fun z => mm.1 1120 (300 * u + z)) i j ∧ (j = k ∨ (oneV (fun z => mm.1 1120 (300 * u + z)) j k ∧ oneB (fun z => mm.1 1120 (300 * u + z)) j k)) := fun q hq => by
    obtain ⟨i, j, k, l1, l2, l3, l4, l5, l6, l7, l8, l9, l10, l11⟩ := g7 q hq
    exact ⟨i, j, k, by rw [htI, l5, cl_ok (by omega)], by rw [htJ, l7, cl_ok (by omega)], by rw [htK, l9, cl_ok (by omega)], l1, l2, l3, l4, l5, l6, l7, l8, l9, l10, l11⟩
  refine ⟨sF, vF, tI, tJ, tK, len, nc, ⟨g1, g3, fun k hk => (E k hk).1, fun q hq => ?_⟩, ⟨g4, fun k hk => (E k hk).2.2.2, fun q hq => ?_⟩, ⟨g5, fun k hk => ⟨(E k hk).2.1, (E k hk).2.2.1⟩, fun q hq => ?_⟩⟩
  · obtain ⟨i, j, k, e1, e2, e3, l1, l2, l3, l4, l5, l6, l7, l8, l9, l10, l11⟩ := T q hq
    rw [e1, e2, e3]
    refine ⟨l1, l2, l3, oneV_cg (fun z hz => (E z (by omega)).2.1.symm) l10, ?_⟩
    rcases l11 with z | z
    · exact Or.inl z
    · exact Or.inr ⟨oneV_cg (fun z hz => (E z (by omega)).2.1.symm) z.1, oneB_cg (fun z hz => (E z (by omega)).2.1.symm) z.2⟩
  · obtain ⟨i, j, k, e1, e2, e3, l1, l2, l3, l4, l5, l6, l7, l8, l9, l10, l11⟩ := T q hq
    rw [e1, e2, e3]
    exact ⟨l4, l6, l8⟩
  · obtain ⟨i, j, k, e1, e2, e3, l1, l2, l3, l4, l5, l6, l7, l8, l9, l10, l11⟩ := T q hq
    rw [e1, e2, e3]
    exact ⟨l5, l7, l9⟩
noncomputable def evv (W : Nat → Int64) (sF vF : Nat → Nat) (i j : Nat) : Int64 := (ev W sF vF (j - i) i []).headD 0
theorem evv_b {W : Nat → Int64} {sF vF : Nat → Nat} {len i j : Nat} (hg : ∀ k, k < len → gdE (sF k) (vF k)) (hi : i ≤ j) (hj : j ≤ len) (ho : oneV (fun z => nI (sF z)) i j) (hb : oneB (fun z => nI (sF z)) i j) : evv W sF vF i j = 0 ∨ evv W sF vF i j = 1 := by
  have h := oB_ev (W := W) hg (j - i) i [] [] 1 (by omega) trivial ho
  unfold oneB at hb
  rw [show bOf ((List.range (j - i)).map (fun k => nI (sF (i + k)))) [] = [true] from hb] at h
  unfold evv
  cases he : ev W sF vF (j - i) i [] with
  | nil =>
    rw [he] at h
    exact h.elim
  | cons x r =>
    rw [he] at h
    exact h.1 rfl
theorem valueOf_c {u : Nat} {W : Nat → Int64} {sF vF : Nat → Nat} {len : Nat} (hlen : len ≤ 300) {m0 : Mm} {a b : Int32} (hW : ∀ m' : Mm, m'.1 = m0.1 → ∀ w, w < 12 → f_X7_wordOf m' (nI w) a b = some (W w)) (hc : ∀ k, k < len → m0.1 (u + 1) k = nI (vF k) * 16 + kOf (nI (sF k))) (hg : ∀ k, k < len → gdE (sF k) (vF k)) {i j : Nat} (hi : i ≤ j) (hj : j ≤ len) (ho : oneV (fun z => nI (sF z)) i j) {m : Mm} (hm : m.1 = m0.1) : ∃ m1, f_X7_valueOf m u (nI i) (nI j) a b = some (evv W sF vF i j, m1) ∧ m1.1 = m0.1 := by
  obtain ⟨m1, e1, e2, e3, e4⟩ := vOf_c hlen hW hc hg (j - i) i [] m 1 (by omega) hm (fun k hk => absurd hk (Nat.not_lt_zero _)) (by decide) ho
  rw [show i + (j - i) = j by omega] at e1
  refine ⟨m1, ?_, e2⟩
  unfold f_X7_valueOf
  rw [show lp (f_X7_valueOf_s6 u (nI j) a b) ((0 : Int32), nI i, m) = some (.inr m1) from e1, bi1_s]
  unfold evv
  cases he : ev W sF vF (j - i) i [] with
  | nil =>
    rw [he] at e4
    exact absurd e4 (by decide)
  | cons x r =>
    rw [he] at e3 e4
    have hr : r = [] := List.eq_nil_of_length_eq_zero (by have : r.length + 1 = 1 := e4; omega)
    subst hr
    show some (m1.2 (u + 5) 0, m1) = some (x, m1)
    rw [show m1.2 (u + 5) 0 = x from stkL_top e3]
theorem answer_f {u : Nat} (hu : u < 6) {W : Nat → Int64} {sF vF : Nat → Nat} {len : Nat} (hlen : len ≤ 300) {m0 : Mm} (h0 : ∀ k, k < len → m0.1 1120 (300 * u + k) = nI (sF k) ∧ m0.1 1121 (300 * u + k) = nI (vF k)) (hg : ∀ k, k < len → gdE (sF k) (vF k)) {i j : Nat} (hi : i ≤ j) (hj : j ≤ len) (ho : oneV (fun z => nI (sF z)) i j) {m : Mm} (hm : m.1 = m0.1) (hw : ∀ w, w < 12 → m.2 1127 w = W w) : ∃ m1, f_X12_answer m (nI u) (nI i) (nI j) = some (evv W sF vF i j, m1) ∧ m1.1 = m0.1 ∧ m1.2 1127 = m.2 1127 := by
  obtain ⟨m1, e1, e2, e2', e3, e4⟩ := ans_f hu hlen h0 hg (j - i) i [] m 1 (by omega) hm hw (fun k hk => absurd hk (Nat.not_lt_zero _)) (by decide) ho
  rw [show i + (j - i) = j by omega] at e1
  refine ⟨m1, ?_, e2, e2'⟩
  unfold f_X12_answer
  rw [show lp (f_X12_answer_s6 (nI u) (nI j)) ((0 : Int32), nI i, m) = some m1 from e1, bi1_s]
  unfold evv
  cases he : ev W sF vF (j - i) i [] with
  | nil =>
    rw [he] at e4
    exact absurd e4 (by decide)
  | cons x r =>
    rw [he] at e3 e4
    have hr : r = [] := List.eq_nil_of_length_eq_zero (by have : r.length + 1 = 1 := e4; omega)
    subst hr
    rw [show m1.2 1128 0 = x from stkL_top e3]
    rfl
noncomputable def hitB (W : Nat → Int64) (sF vF tJ tK : Nat → Nat) (q : Nat) : Bool := decide (tJ q = tK q) || decide (¬ evv W sF vF (tJ q) (tK q) = 0)
noncomputable def wvl (W : Nat → Int64) (sF vF tI tJ tK : Nat → Nat) (nc : Nat) : Int64 := if frst (hitB W sF vF tJ tK) nc < nc then evv W sF vF (tI (frst (hitB W sF vF tJ tK) nc)) (tJ (frst (hitB W sF vF tJ tK) nc)) else 0
theorem worth_c {U : Nat} {W : Nat → Int64} {sF vF tI tJ tK : Nat → Nat} {len nc : Nat} (hD : RuD sF vF tI tJ tK len nc) {m0 : Mm} (hC : RuC m0 U sF vF tI tJ tK len nc) {a b : Int32} (hW : ∀ m' : Mm, m'.1 = m0.1 → ∀ w, w < 12 → f_X7_wordOf m' (nI w) a b = some (W w)) {m : Mm} (hm : m.1 = m0.1) : ∃ m1, f_X7_worth m U a b = some (wvl W sF vF tI tJ tK nc, m1) ∧ m1.1 = m0.1 := by
  obtain ⟨d1, d2, d3, d4⟩ := hD
  obtain ⟨c1, c2, c3⟩ := hC
  obtain ⟨k1, k2, k3⟩ := frst_ok nc (hitB W sF vF tJ tK)
  obtain ⟨fq, hfq⟩ : ∃ fq, frst (hitB W sF vF tJ tK) nc = fq := ⟨_, rfl⟩
  rw [hfq] at k1 k2 k3
  have L : ∃ r, lp (f_X7_worth_s3 U a b) ((0 : Int32), m) = some r ∧ ((∃ m1, r = .inr m1 ∧ m1.1 = m0.1 ∧ ¬ fq < nc) ∨ ∃ m1, r = .inl (nI fq, m1) ∧ m1.1 = m0.1 ∧ fq < nc) := by
    refine lp_stop (fun k x => ∃ m1, x = (nI k, m1) ∧ m1.1 = m0.1 ∧ k ≤ fq) _ nc (fun k x hk hx => ?_) 0 _ (Nat.zero_le _) ⟨m, rfl, hm, Nat.zero_le _⟩
    obtain ⟨m1, rfl, e1, e2⟩ := hx
    by_cases z : k = nc
    · refine Or.inr ⟨.inr m1, ?_, Or.inl ⟨m1, rfl, e1, by omega⟩⟩
      unfold f_X7_worth_s3
      show (if m1.1 U 5 ≤ nI k then _ else _) = _
      rw [e1, c1, if_pos (by rw [sN_le (by omega) (by omega)]; omega)]
    · have hkn : k < nc := by omega
      obtain ⟨t1, t2, t3, t4, t5⟩ := d4 k hkn
      obtain ⟨u1, u2, u3⟩ := c3 k hkn
      have gd := gd_ok (show k < 12 by omega) (by decide)
      have gd' := gd
      rw [cl_ok (by omega)] at gd'
      have pre : f_X7_worth_s3 U a b (nI k, m1) = if nI (tJ k) = nI (tK k) then f_X7_worth_j57 U m1 a b (nI k) else bi2 (f_X7_valueOf m1 U (nI (tJ k)) (nI (tK k)) a b) fun r_12 mm_10 => if (lg_cmp r_12 (0 : Int64)) = 0 then f_X7_worth_j62 U mm_10 a b (nI k) (0 : Int32) else f_X7_worth_j57 U mm_10 a b (nI k) := by
        unfold f_X7_worth_s3
        show (if m1.1 U 5 ≤ nI k then _ else _) = _
        rw [e1, c1, if_neg (by rw [sN_le (by omega) (by omega)]; omega), if_neg gd, if_neg gd, cl_ok (by omega), u2, u3, if_neg gd', if_neg gd']
      have j57 : ∀ m2 : Mm, f_X7_worth_j57 U m2 a b (nI k) = some (.inr (.inl (nI k, m2))) := fun m2 => by
        unfold f_X7_worth_j57 f_X7_worth_j62
        rw [if_neg (by decide)]
      have hhit : hitB W sF vF tJ tK k = true → k = fq := fun q => by
        rcases Nat.lt_or_ge k fq with w | w
        · rw [k2 k w] at q
          exact absurd q (by decide)
        · omega
      by_cases c : tJ k = tK k
      · rw [if_pos (by rw [c]), j57] at pre
        have := hhit (by unfold hitB; rw [decide_eq_true c]; rfl)
        exact Or.inr ⟨_, pre, Or.inr ⟨m1, by rw [this], e1, by omega⟩⟩
      · have c' : ¬ nI (tJ k) = nI (tK k) := by rw [sN_eq (by omega) (by omega)]; exact c
        rcases t5 with t5 | ⟨t5, t6⟩
        · exact absurd t5 c
        · obtain ⟨m2, v1, v2⟩ := valueOf_c d1 hW c2 d3 t2 t3 t5 e1
          rw [if_neg c', v1, bi2_s] at pre
          by_cases w : evv W sF vF (tJ k) (tK k) = 0
          · rw [if_pos ((lgE _ _).mpr w)] at pre
            unfold f_X7_worth_j62 at pre
            rw [if_pos rfl, sN_a1] at pre
            refine Or.inl ⟨hkn, _, pre, m2, rfl, v2, ?_⟩
            rcases Nat.lt_or_ge k fq with x | x
            · omega
            · exfalso
              have := k3 (by omega)
              rw [show fq = k by omega] at this
              unfold hitB at this
              rw [decide_eq_false c, decide_eq_false (fun z => z w)] at this
              exact absurd this (by decide)
          · rw [if_neg (fun z => w ((lgE _ _).mp z)), j57] at pre
            have := hhit (by unfold hitB; rw [decide_eq_true w, Bool.or_true])
            exact Or.inr ⟨_, pre, Or.inr ⟨m2, by rw [this], v2, by omega⟩⟩
  obtain ⟨r, r1, r2⟩ := L
  unfold f_X7_worth wvl
  rw [r1, bi1_s, hfq]
  rcases r2 with ⟨m1, q1, q2, q3⟩ | ⟨m1, q1, q2, q3⟩
  · rw [q1, if_neg q3]
    exact ⟨m1, rfl, q2⟩
  · rw [q1, if_pos q3]
    obtain ⟨t1, t2, t3, t4, t5⟩ := d4 fq q3
    obtain ⟨u1, u2, u3⟩ := c3 fq q3
    obtain ⟨m2, v1, v2⟩ := valueOf_c d1 hW c2 d3 t1 (show tJ fq ≤ len by omega) t4 q2
    have gd := gd_ok (show fq < 12 by omega) (by decide)
    show ∃ m2, (if nI fq < 0 ∨ 12 ≤ (nI fq).toNatClampNeg then none else if nI fq < 0 ∨ 12 ≤ (nI fq).toNatClampNeg then none else bi2 (f_X7_valueOf m1 U (m1.1 (U + 2) (nI fq).toNatClampNeg) (m1.1 (U + 3) (nI fq).toNatClampNeg) a b) fun r_21 mm_19 => some (r_21, mm_19)) = some (_, m2) ∧ _
    rw [if_neg gd, if_neg gd, cl_ok (by omega), q2, u1, u2, v1, bi2_s]
    exact ⟨m2, rfl, v2⟩
theorem wanted_f {u : Nat} (hu : u < 6) {W : Nat → Int64} {sF vF tI tJ tK : Nat → Nat} {len nc : Nat} (hD : RuD sF vF tI tJ tK len nc) {m0 : Mm} (hF : RuF m0 u sF vF tI tJ tK len nc) {m : Mm} (hm : m.1 = m0.1) (hw : ∀ w, w < 12 → m.2 1127 w = W w) : ∃ m1, f_X12_wanted m (nI u) = some (wvl W sF vF tI tJ tK nc, m1) ∧ m1.1 = m0.1 := by
  obtain ⟨d1, d2, d3, d4⟩ := hD
  obtain ⟨c1, c2, c3⟩ := hF
  obtain ⟨k1, k2, k3⟩ := frst_ok nc (hitB W sF vF tJ tK)
  obtain ⟨fq, hfq⟩ : ∃ fq, frst (hitB W sF vF tJ tK) nc = fq := ⟨_, rfl⟩
  rw [hfq] at k1 k2 k3
  have e12 : (12 : Int32) * nI u = nI (12 * u) := by rw [K12, show nI 12 * nI u = nI (12 * u) from (Int32.ofNat_mul _ _).symm]
  have L : ∃ r, lp (f_X12_wanted_s5 (nI u)) ((12 : Int32) * nI u, m) = some r ∧ ((∃ m1, r = .inr m1 ∧ m1.1 = m0.1 ∧ ¬ fq < nc) ∨ ∃ m1, r = .inl (nI (12 * u + fq), m1) ∧ m1.1 = m0.1 ∧ m1.2 1127 = m.2 1127 ∧ fq < nc) := by
    refine lp_stop (fun k x => ∃ m1, x = (nI (12 * u + k), m1) ∧ m1.1 = m0.1 ∧ m1.2 1127 = m.2 1127 ∧ k ≤ fq) _ nc (fun k x hk hx => ?_) 0 _ (Nat.zero_le _) ⟨m, by rw [e12]; rfl, hm, rfl, Nat.zero_le _⟩
    obtain ⟨m1, rfl, e1, e1', e2⟩ := hx
    have gu := gd_ok (show u < 6 from hu) (by decide)
    by_cases z : k = nc
    · refine Or.inr ⟨.inr m1, ?_, Or.inl ⟨m1, rfl, e1, by omega⟩⟩
      unfold f_X12_wanted_s5
      show (if nI u < 0 ∨ 6 ≤ (nI u).toNatClampNeg then none else _) = _
      rw [if_neg gu, cl_ok (by omega), e1, c1, e12, sN_ad, if_pos (by rw [sN_le (by omega) (by omega)]; omega)]
    · have hkn : k < nc := by omega
      obtain ⟨t1, t2, t3, t4, t5⟩ := d4 k hkn
      obtain ⟨u1, u2, u3⟩ := c3 k hkn
      have gd := gd_ok (show 12 * u + k < 72 by omega) (by decide)
      have gd' := gd
      rw [cl_ok (by omega)] at gd'
      have pre : f_X12_wanted_s5 (nI u) (nI (12 * u + k), m1) = if nI (tJ k) = nI (tK k) then some (.inr (.inl (nI (12 * u + k), m1))) else bi2 (f_X12_answer m1 (nI u) (nI (tJ k)) (nI (tK k))) fun r_10 mm_8 => if (lg_cmp r_10 (1 : Int64)) = 0 then some (.inr (.inl (nI (12 * u + k), mm_8))) else some (.inl ((nI (12 * u + k) + 1), mm_8)) := by
        unfold f_X12_wanted_s5
        show (if nI u < 0 ∨ 6 ≤ (nI u).toNatClampNeg then none else _) = _
        rw [if_neg gu, cl_ok (show u < 100000 by omega), e1, c1, e12, sN_ad, if_neg (by rw [sN_le (by omega) (by omega)]; omega), if_neg gd, if_neg gd, cl_ok (by omega), u2, u3, if_neg gd', if_neg gd']
      have hhit : hitB W sF vF tJ tK k = true → k = fq := fun q => by
        rcases Nat.lt_or_ge k fq with w | w
        · rw [k2 k w] at q
          exact absurd q (by decide)
        · omega
      by_cases c : tJ k = tK k
      · rw [if_pos (by rw [c])] at pre
        have := hhit (by unfold hitB; rw [decide_eq_true c]; rfl)
        exact Or.inr ⟨_, pre, Or.inr ⟨m1, by rw [this], e1, e1', by omega⟩⟩
      · have c' : ¬ nI (tJ k) = nI (tK k) := by rw [sN_eq (by omega) (by omega)]; exact c
        rcases t5 with t5 | ⟨t5, t6⟩
        · exact absurd t5 c
        · obtain ⟨m2, v1, v2, v3⟩ := answer_f (W := W) hu d1 c2 d3 t2 t3 t5 e1 (fun w hw' => by rw [e1']; exact hw w hw')
          have hb := evv_b (W := W) d3 t2 t3 t5 t6
          rw [if_neg c', v1, bi2_s] at pre
          by_cases w : evv W sF vF (tJ k) (tK k) = 0
          · rw [if_neg (fun z => by rw [lgE, w] at z; exact absurd z (by decide)), sN_a1] at pre
            refine Or.inl ⟨hkn, _, pre, m2, rfl, v2, v3.trans e1', ?_⟩
            rcases Nat.lt_or_ge k fq with x | x
            · omega
            · exfalso
              have := k3 (by omega)
              rw [show fq = k by omega] at this
              unfold hitB at this
              rw [decide_eq_false c, decide_eq_false (fun z => z w)] at this
              exact absurd this (by decide)
          · rw [if_pos ((lgE _ _).mpr (hb.resolve_left w))] at pre
            have := hhit (by unfold hitB; rw [decide_eq_true w, Bool.or_true])
            exact Or.inr ⟨_, pre, Or.inr ⟨m2, by rw [this], v2, v3.trans e1', by omega⟩⟩
  obtain ⟨r, r1, r2⟩ := L
  unfold f_X12_wanted wvl
  rw [r1, bi1_s, hfq]
  rcases r2 with ⟨m1, q1, q2, q3⟩ | ⟨m1, q1, q2, q2', q3⟩
  · rw [q1, if_neg q3]
    exact ⟨m1, rfl, q2⟩
  · rw [q1, if_pos q3]
    obtain ⟨t1, t2, t3, t4, t5⟩ := d4 fq q3
    obtain ⟨u1, u2, u3⟩ := c3 fq q3
    obtain ⟨m2, v1, v2, v3⟩ := answer_f (W := W) hu d1 c2 d3 t1 (show tJ fq ≤ len by omega) t4 q2 (fun w hw' => by rw [q2']; exact hw w hw')
    have gd := gd_ok (show 12 * u + fq < 72 by omega) (by decide)
    show ∃ m2, (if nI (12 * u + fq) < 0 ∨ 72 ≤ (nI (12 * u + fq)).toNatClampNeg then none else if nI (12 * u + fq) < 0 ∨ 72 ≤ (nI (12 * u + fq)).toNatClampNeg then none else bi2 (f_X12_answer m1 (nI u) (m1.1 1123 (nI (12 * u + fq)).toNatClampNeg) (m1.1 1124 (nI (12 * u + fq)).toNatClampNeg)) fun r_19 mm_17 => some (r_19, mm_17)) = some (_, m2) ∧ _
    rw [if_neg gd, if_neg gd, cl_ok (by omega), q2, u1, u2, v1, bi2_s]
    exact ⟨m2, rfl, v2⟩
