/-! PHASE 2: plan, the reference's rows -/
def rk (m : Mm) (p : List Nat) : Prop := ∀ j, j < p.length → m.1 1131 j = nI (gt' p j)
def stP (m : Mm) (G : List Nat) : Prop := m.1 1088 61 = nI G.length ∧ hold (m.1 1133) G
def frQ (m m1 : Mm) : Prop := (∀ i, ¬ i = 1088 → ¬ i = 1131 → ¬ i = 1132 → m1.1 i = m.1 i) ∧ ∀ k, ¬ k = 62 → m1.1 1088 k = m.1 1088 k
theorem frQ.rf (m : Mm) : frQ m m := ⟨fun _ _ _ _ => rfl, fun _ _ => rfl⟩
theorem frQ.tr {a b c : Mm} (h1 : frQ a b) (h2 : frQ b c) : frQ a c := ⟨fun i i1 i2 i3 => (h2.1 i i1 i2 i3).trans (h1.1 i i1 i2 i3), fun k hk => (h2.2 k hk).trans (h1.2 k hk)⟩
theorem frQ.st {m m1 : Mm} {G : List Nat} (h : frQ m m1) (g : stP m G) : stP m1 G := ⟨by rw [h.2 61 (by decide)]; exact g.1, by rw [h.1 1133 (by decide) (by decide) (by decide)]; exact g.2⟩
theorem frQ_1 (m : Mm) (k : Nat) (x : Int32) : frQ m (wI m 1131 k x) := ⟨fun i _ i2 _ => wI_ne i2, fun k _ => by rw [wI_ne (by decide)]⟩
theorem wI_wI (m : Mm) (a k : Nat) (x y : Int32) : wI (wI m a k x) a k y = wI m a k y := by
  refine Prod.ext ?_ rfl
  funext i j
  rw [wI_get, wI_get, wI_get]
  by_cases q : i = a ∧ j = k
  · rw [if_pos q, if_pos q]
  · rw [if_neg q, if_neg q, if_neg q]
theorem rk_1 {m : Mm} {p : List Nat} (h : rk m p) {x : Int32} : rk (wI m 1131 p.length x) p := fun j hj => by
  rw [wI_pl (by omega)]
  exact h j hj
theorem rk_c {m : Mm} {p : List Nat} (h : rk m p) (l : Nat) : rk (wI m 1131 p.length (nI l)) (l :: p) := fun i hi => by
  rw [List.length_cons] at hi
  rw [wI_sm]
  by_cases c : i = p.length
  · rw [if_pos c, c, gt_at]
  · rw [if_neg c, gt_lt (by omega)]
    exact h i (by omega)
theorem rk_t {m : Mm} {p : List Nat} {l : Nat} (h : rk m (l :: p)) : rk m p ∧ m.1 1131 p.length = nI l := ⟨fun i hi => by rw [h i (by rw [List.length_cons]; omega), gt_lt hi], by rw [h p.length (by rw [List.length_cons]; omega), gt_at]⟩
theorem okS_lt {all : Nat} (ha : all < 256) : ∀ {p : List Nat}, okS all p → ∀ j, j < p.length → gt' p j < 8
  | [], _, j, h => absurd h (by show ¬ j < 0; omega)
  | t :: p, ho, j, h => by
    show (if j = p.length then t else gt' p j) < 8
    rw [List.length_cons] at h
    split
    · exact tb8 ha (vld_iff.mp ho.1).1
    · exact okS_lt ha ho.2 j (by omega)
/-! together -/
def rnf (f : Nat → Nat) (g : Nat) : Nat → Nat
  | 0 => 0
  | k + 1 => rnf f g k + (if g.testBit (f k) && !(decide (0 < k) && g.testBit (f (k - 1))) then 1 else 0)
theorem rnf_cg {f h : Nat → Nat} {g : Nat} : ∀ k, (∀ j, j < k → f j = h j) → rnf f g k = rnf h g k
  | 0, _ => rfl
  | k + 1, e => by
    show rnf f g k + _ = rnf h g k + _
    rw [rnf_cg k (fun j hj => e j (by omega)), e k (by omega)]
    by_cases c : 0 < k
    · rw [e (k - 1) (by omega)]
    · rw [decide_eq_false c, Bool.false_and, Bool.false_and]
theorem rnf_le (f : Nat → Nat) (g : Nat) : ∀ k, rnf f g k ≤ k
  | 0 => Nat.le_refl _
  | k + 1 => by
    have := rnf_le f g k
    show rnf f g k + (if g.testBit (f k) && !(decide (0 < k) && g.testBit (f (k - 1))) then 1 else 0) ≤ k + 1
    split <;> omega
theorem runs_f (g : Nat) : ∀ p : List Nat, runs g p = rnf (gt' p) g p.length
  | [] => rfl
  | t :: p => by
    have e1 : rnf (gt' (t :: p)) g (p.length + 1) = rnf (gt' (t :: p)) g p.length + (if g.testBit (gt' (t :: p) p.length) && !(decide (0 < p.length) && g.testBit (gt' (t :: p) (p.length - 1))) then 1 else 0) := rfl
    rw [List.length_cons, e1, gt_at, rnf_cg (f := gt' (t :: p)) (h := gt' p) p.length (fun j hj => gt_lt hj), ← runs_f g p]
    show runs g p + (if g.testBit t && !hdIn g p then 1 else 0) = _
    cases p with
    | nil => rfl
    | cons a q =>
      rw [gt_lt (by rw [List.length_cons]; omega), List.length_cons, Nat.add_sub_cancel, gt_at, decide_eq_true (by omega), Bool.true_and]
      rfl
theorem runsOf_f {m : Mm} {G : List Nat} {p : List Nat} (hst : stP m G) (hd : gdef G) (hr : rk m p) (hlt : ∀ j, j < p.length → gt' p j < 8) (hp : p.length ≤ 8) {k : Nat} (hk : k < G.length) : lp (f_X12_areTogether_s15 m (nI p.length) (nI k)) ((0 : Int32), (0 : Int32)) = some (nI (runs (G.getD k 0) p)) := by
  have h6 := hd.1
  have hg := hd.2 k hk
  rw [runs_f]
  refine lpf (fun j => (nI (rnf (gt' p) (G.getD k 0) j), nI j)) p.length rfl (fun j hj => ?_) ?_
  · have e1 : rnf (gt' p) (G.getD k 0) (j + 1) = rnf (gt' p) (G.getD k 0) j + (if (G.getD k 0).testBit (gt' p j) && !(decide (0 < j) && (G.getD k 0).testBit (gt' p (j - 1))) then 1 else 0) := rfl
    have hb := hlt j hj
    have main : ∀ b : Bool, (decide (0 < j) && (G.getD k 0).testBit (gt' p (j - 1))) = b → f_X12_areTogether_j52 m (nI p.length) (nI k) (nI (rnf (gt' p) (G.getD k 0) j)) (nI j) (if b then 1 else 0) = some (.inl (nI (rnf (gt' p) (G.getD k 0) (j + 1)), nI (j + 1))) := fun b hbb => by
      unfold f_X12_areTogether_j52 f_X12_areTogether_j83 f_X12_areTogether_j84
      rw [if_neg (gd_ok (show k < 7 by omega) (by decide)), if_neg (gd_ok (show j < 9 by omega) (by decide)), cl_ok (by omega), cl_ok (by omega), hst.2 k hk, hr j hj, has_ok (by omega) (by omega), e1, hbb, sN_a1]
      cases c : (G.getD k 0).testBit (gt' p j)
      · rw [if_neg (show ¬ false = true by decide), if_pos rfl, Int32.add_zero]
        rfl
      · rw [if_pos rfl, if_neg (show ¬ (1 : Int32) = 0 by decide)]
        cases b
        · rw [if_neg (show ¬ false = true by decide), if_pos rfl, sN_a1]
          rfl
        · rw [if_pos rfl, if_neg (show ¬ (1 : Int32) = 0 by decide), Int32.add_zero]
          rfl
    unfold f_X12_areTogether_s15 f_X12_areTogether_j51
    dsimp only
    rw [if_neg (by rw [sN_le (by omega) (by omega)]; omega)]
    by_cases c : j = 0
    · rw [if_pos (by rw [sN_le0 (by omega)]; exact c)]
      exact main false (by rw [decide_eq_false (by omega), Bool.false_and])
    · obtain ⟨i, rfl⟩ : ∃ i, j = i + 1 := ⟨j - 1, by omega⟩
      rw [if_neg (by rw [sN_le0 (by omega)]; exact c), if_neg (gd_ok (show k < 7 by omega) (by decide)), nI_s1, if_neg (gd_ok (show i < 9 by omega) (by decide)), cl_ok (by omega), cl_ok (by omega), hst.2 k hk, hr i (by omega), has_ok (by omega) (by have := hlt i (by omega); omega)]
      cases d : (G.getD k 0).testBit (gt' p i)
      · rw [if_neg (show ¬ false = true by decide), if_pos rfl]
        exact main false (by rw [decide_eq_true (by omega), Bool.true_and]; exact d)
      · rw [if_pos rfl, if_neg (show ¬ (1 : Int32) = 0 by decide)]
        exact main true (by rw [decide_eq_true (by omega), Bool.true_and]; exact d)
  · unfold f_X12_areTogether_s15
    dsimp only
    rw [if_pos (by rw [sN_le (by omega) (by omega)]; omega)]
theorem areTogether_f {m : Mm} {G : List Nat} {p : List Nat} (hst : stP m G) (hd : gdef G) (hr : rk m p) (hlt : ∀ j, j < p.length → gt' p j < 8) (hp : p.length ≤ 8) : f_X12_areTogether m (nI p.length) = some (if tog G p then 1 else 0) := by
  have h6 := hd.1
  have step : ∀ k, k < G.length → f_X12_areTogether_s2 m (nI p.length) (nI k) = if runs (G.getD k 0) p ≤ 1 then some (.inl (nI (k + 1))) else some (.inr (.inl ())) := fun k hk => by
    have hb : runs (G.getD k 0) p ≤ 8 := by rw [runs_f]; exact Nat.le_trans (rnf_le _ _ _) hp
    unfold f_X12_areTogether_s2
    rw [hst.1, if_neg (by rw [sN_le (by omega) (by omega)]; omega), runsOf_f hst hd hr hlt hp hk, bi1_s, sN_a1]
    by_cases q : runs (G.getD k 0) p ≤ 1
    · rw [if_pos q, if_pos (by rw [K1, sN_le (by omega) (by omega)]; exact q)]
    · rw [if_neg q, if_neg (by rw [K1, sN_le (by omega) (by omega)]; exact q)]
  unfold f_X12_areTogether
  rcases lp_ex (st := f_X12_areTogether_s2 m (nI p.length)) (fun k => ¬ runs (G.getD k 0) p ≤ 1) G.length (fun k hk hp => by rw [step k hk, if_pos (Classical.not_not.mp hp)]) (fun k hk hp => by rw [step k hk, if_neg hp]) (by
    unfold f_X12_areTogether_s2
    rw [hst.1, if_pos (by rw [sN_le (by omega) (by omega)]; omega)]) with ⟨⟨k, hk, hp⟩, e⟩ | ⟨hno, e⟩
  · rw [e, show tog G p = false from Bool.eq_false_iff.mpr (fun z => hp (of_decide_eq_true ((all_getD G).mp z k hk)))]
    rfl
  · rw [e, show tog G p = true from (all_getD G).mpr (fun k hk => decide_eq_true (Classical.not_not.mp (fun z => hno ⟨k, hk, z⟩)))]
    rfl
/-! what is gathered -/
abbrev Bp : Type := Nat × List Nat
def mg (b x : Bp) : Bp := (b.1 + x.1, if 0 < b.1 then b.2 else x.2)
def rbP (m : Mm) (n : Nat) (b : Bp) : Prop := m.1 1088 62 = nI b.1 ∧ (0 < b.1 → ∀ i, i < n → m.1 1132 i = nI (gt' b.2 i))
def foP (all : Nat) (F : List Nat → Bp) (p : List Nat) : Nat → Nat → Bp → Bp
  | 0, _, b => b
  | k + 1, l, b => foP all F p k (l + 1) (if vld all p l then mg b (F (l :: p)) else b)
def cf (G : List Nat) (all r : Nat) (p : List Nat) : Bp := (cW G all r p, fR G all r p)
def fT (G : List Nat) (all r : Nat) (p : List Nat) (t : Nat) : Nat := if vld all p t then cW G all r (t :: p) else 0
theorem foP_1 {G : List Nat} {all r : Nat} {p : List Nat} : ∀ k l b, (foP all (cf G all r) p k l b).1 + sm (fT G all r p) l = b.1 + sm (fT G all r p) (l + k)
  | 0, l, b => rfl
  | k + 1, l, b => by
    have e : sm (fT G all r p) (l + 1) = sm (fT G all r p) l + fT G all r p l := rfl
    have ih := foP_1 (G := G) (all := all) (r := r) (p := p) k (l + 1) (if vld all p l then mg b (cf G all r (l :: p)) else b)
    rw [show l + 1 + k = l + (k + 1) by omega] at ih
    show (foP all (cf G all r) p k (l + 1) (if vld all p l then mg b (cf G all r (l :: p)) else b)).1 + _ = _
    by_cases c : vld all p l = true
    · rw [if_pos c] at ih ⊢
      have e2 : (mg b (cf G all r (l :: p))).1 = b.1 + cW G all r (l :: p) := rfl
      have e3 : fT G all r p l = cW G all r (l :: p) := if_pos c
      omega
    · rw [if_neg c] at ih ⊢
      have e3 : fT G all r p l = 0 := if_neg c
      omega
theorem foP_2 {G : List Nat} {all r : Nat} {p : List Nat} : ∀ k l b, 0 < b.1 → (foP all (cf G all r) p k l b).2 = b.2
  | 0, l, b, _ => rfl
  | k + 1, l, b, h => by
    show (foP all (cf G all r) p k (l + 1) (if vld all p l then mg b (cf G all r (l :: p)) else b)).2 = b.2
    by_cases c : vld all p l = true
    · rw [if_pos c, foP_2 k (l + 1) _ (by show 0 < b.1 + _; omega)]
      exact if_pos h
    · rw [if_neg c]
      exact foP_2 k (l + 1) b h
theorem frst_is {q : Nat → Bool} {n l : Nat} (hl : l < n) (h1 : ∀ j, j < l → q j = false) (h2 : q l = true) : frst q n = l := by
  obtain ⟨k1, k2, k3⟩ := frst_ok n q
  rcases Nat.lt_trichotomy (frst q n) l with h | h | h
  · have := k3 (by omega)
    rw [h1 _ h] at this
    exact absurd this (by decide)
  · exact h
  · rw [k2 l h] at h2
    exact absurd h2 (by decide)
theorem foP_3 {G : List Nat} {all r : Nat} {p : List Nat} : ∀ k l b, l + k = 8 → b.1 = 0 → (∀ j, j < l → (vld all p j && decide (0 < cW G all r (j :: p))) = false) → 0 < (foP all (cf G all r) p k l b).1 → (foP all (cf G all r) p k l b).2 = fR G all (r + 1) p
  | 0, l, b, _, hb, _, h => absurd h (by show ¬ 0 < b.1; omega)
  | k + 1, l, b, hl, hb, hq, h => by
    have h : 0 < (foP all (cf G all r) p k (l + 1) (if vld all p l then mg b (cf G all r (l :: p)) else b)).1 := h
    show (foP all (cf G all r) p k (l + 1) (if vld all p l then mg b (cf G all r (l :: p)) else b)).2 = fR G all (r + 1) p
    by_cases c : vld all p l = true
    · rw [if_pos c] at h ⊢
      have e2 : (mg b (cf G all r (l :: p))).1 = b.1 + cW G all r (l :: p) := rfl
      by_cases d : 0 < cW G all r (l :: p)
      · rw [foP_2 k (l + 1) _ (by omega)]
        show (if 0 < b.1 then b.2 else fR G all r (l :: p)) = fR G all r (frst (fun t => vld all p t && decide (0 < cW G all r (t :: p))) 8 :: p)
        rw [if_neg (by omega), frst_is (l := l) (by omega) hq (by rw [c, decide_eq_true d]; rfl)]
      · refine foP_3 k (l + 1) _ (by omega) (by omega) (fun j hj => ?_) h
        by_cases e : j = l
        · rw [e, decide_eq_false d, Bool.and_false]
        · exact hq j (by omega)
    · rw [if_neg c] at h ⊢
      refine foP_3 k (l + 1) b (by omega) hb (fun j hj => ?_) h
      by_cases e : j = l
      · rw [e, Bool.eq_false_iff.mpr c, Bool.false_and]
      · exact hq j (by omega)
theorem rb_fo {m : Mm} {n : Nat} {G : List Nat} {all r : Nat} {p : List Nat} {b : Bp} (h : rbP m n (foP all (cf G all r) p 8 0 b)) : rbP m n (mg b (cf G all (r + 1) p)) := by
  have e1 := foP_1 (G := G) (all := all) (r := r) (p := p) 8 0 b
  have e2 : (foP all (cf G all r) p 8 0 b).1 = b.1 + cW G all (r + 1) p := e1
  refine ⟨by rw [h.1, e2]; rfl, fun hp i hi => ?_⟩
  have hp : 0 < b.1 + cW G all (r + 1) p := hp
  rw [h.2 (by omega) i hi]
  show _ = nI (gt' (if 0 < b.1 then b.2 else fR G all (r + 1) p) i)
  by_cases c : 0 < b.1
  · rw [if_pos c, foP_2 8 0 b c]
  · rw [if_neg c, foP_3 8 0 b rfl (by omega) (fun j hj => absurd hj (by omega)) (by omega)]
theorem takesRow_f {m : Mm} {G : List Nat} {all : Nat} {p : List Nat} {b : Bp} (hst : stP m G) (hd : gdef G) (hr : rk m p) (hlt : ∀ j, j < p.length → gt' p j < 8) (hp : p.length ≤ 8) (hb : b.1 < 2 ^ 31) (hrb : rbP m p.length b) : ∃ m1, f_X12_takesRow m (nI p.length) = some m1 ∧ frQ m m1 ∧ m1.1 1131 = m.1 1131 ∧ rbP m1 p.length (mg b (cf G all 0 p)) := by
  unfold f_X12_takesRow
  rw [areTogether_f hst hd hr hlt hp, bi1_s]
  cases c : tog G p
  · rw [if_neg (show ¬ false = true by decide), if_pos rfl]
    refine ⟨m, rfl, frQ.rf m, rfl, ?_⟩
    have e : cf G all 0 p = (0, p) := by
      show ((if tog G p then 1 else 0), p) = (0, p)
      rw [c]
      rfl
    rw [e]
    refine ⟨hrb.1, fun h i hi => ?_⟩
    have h : 0 < b.1 := h
    rw [hrb.2 h i hi]
    show _ = nI (gt' (if 0 < b.1 then b.2 else p) i)
    rw [if_pos h]
  · rw [if_pos rfl, if_neg (show ¬ (1 : Int32) = 0 by decide)]
    have e : cf G all 0 p = (1, p) := by
      show ((if tog G p then 1 else 0), p) = (1, p)
      rw [c]
      rfl
    rw [e]
    by_cases d : 0 < b.1
    · have hne : ¬ m.1 1088 62 = 0 := by
        rw [hrb.1]
        exact fun z => by
          have := (nI_eq (a := b.1) (b := 0) (by omega) (by omega)).mp z
          omega
      have el : lp (f_X12_takesRow_s10 (nI p.length)) ((0 : Int32), m) = some m := by
        refine lp_end ?_
        unfold f_X12_takesRow_s10
        dsimp only
        by_cases q : nI p.length ≤ 0
        · rw [if_pos q]
        · rw [if_neg q, if_neg hne]
      rw [el, bi1_s, vl_s, hrb.1, sN_a1]
      refine ⟨_, rfl, ⟨fun i i1 _ _ => wI_ne i1, fun k hk => wI_pl hk⟩, wI_ne (by decide), by rw [wI_at]; rfl, fun _ i hi => ?_⟩
      rw [wI_ne (by decide), hrb.2 d i hi]
      show _ = nI (gt' (if 0 < b.1 then b.2 else p) i)
      rw [if_pos d]
    · have hz : m.1 1088 62 = 0 := by
        rw [hrb.1, show b.1 = 0 by omega]
        rfl
      obtain ⟨m1, e1, g1, g2⟩ := row_loop (st := f_X12_takesRow_s10 (nI p.length)) (mm := m) (fun i => i = 1132) (fun _ k => nI (gt' p k)) p.length (fun k m' hk hm => by
        unfold f_X12_takesRow_s10
        dsimp only
        rw [if_neg (by rw [sN_le (by omega) (by omega)]; omega), hm 1088 62 (fun z => absurd z.1 (by decide)), if_pos hz, if_neg (gd_ok (show k < 9 by omega) (by decide)), if_neg (gd_ok (show k < 8 by omega) (by decide)), cl_ok (by omega), hm 1131 k (fun z => absurd z.1 (by decide)), hr k hk, vl_s, sN_a1]
        exact ⟨_, rfl, fun i j h => by rw [wI_get, if_neg (fun z => h z)], fun i hi => by rw [hi, wI_at]⟩) (fun m' hm => by
        unfold f_X12_takesRow_s10
        dsimp only
        rw [if_pos (by rw [sN_le (by omega) (by omega)]; omega)])
      have g1' : ∀ i, ¬ i = 1132 → m1.1 i = m.1 i := fun i hi => funext (fun j => g1 i j (fun z => hi z.1))
      rw [e1, bi1_s, vl_s, g1' 1088 (by decide), hz]
      refine ⟨_, rfl, ⟨fun i i1 _ i3 => by rw [wI_ne i1, g1' i i3], fun k hk => by rw [wI_pl hk, g1' 1088 (by decide)]⟩, by rw [wI_ne (by decide), g1' 1131 (by decide)], ?_, fun _ i hi => ?_⟩
      · rw [wI_at]
        show (0 : Int32) + 1 = nI (b.1 + 1)
        rw [show b.1 = 0 by omega]
        rfl
      · rw [wI_ne (by decide), g2 1132 i rfl hi]
        show _ = nI (gt' (if 0 < b.1 then b.2 else p) i)
        rw [if_neg d]
