/-! PHASE 2: river, what a text tells -/
def s2 (V : Dat) (j k x : Nat) : Dat := fun a b => if a = j ∧ b = k then x else V a b
theorem s2_at (V : Dat) (j k x : Nat) : s2 V j k x j k = x := if_pos ⟨rfl, rfl⟩
theorem s2_pl {V : Dat} {j k x b : Nat} (h : ¬ b = k) : s2 V j k x j b = V j b := if_neg (fun z => h z.2)
theorem s2_ne {V : Dat} {j k x a b : Nat} (h : ¬ a = j) : s2 V j k x a b = V a b := if_neg (fun z => h z.1)
abbrev Bv : Type := Dat × Rf
def sbd {α β : Type} (x : Nat ⊕ α) (f : α → Nat ⊕ β) : Nat ⊕ β := match x with
  | .inl e => .inl e
  | .inr a => f a
def ownP (V : Dat) (a b : Nat) : Dat := s2 (s2 (s2 V 2 (V 1 1) a) 3 (V 1 1) b) 1 1 (V 1 1 + 1)
def thgP (V : Dat) (b d : Nat) : Dat := s2 (s2 (s2 V 4 (V 1 2) b) 5 (V 1 2) d) 1 2 (V 1 2 + 1)
def thgA (V A : Dat) (a c : Nat) : Dat := s2 (s2 A 2 (V 1 2) a) 3 (V 1 2) c
def rapP (V : Dat) (m f : Nat) : Dat := s2 (s2 (s2 (s2 V 6 m f) 7 (V 1 3) m) 8 (V 1 3) f) 1 3 (V 1 3 + 1)
noncomputable def part (n : Nat) (t : Nat → Nat) (w e : Nat) (X : Bv) : Nat ⊕ (Nat × Bv) :=
  if w = 0 then sbd (num n t e 2 99) fun a => sbd (num n t a.2 0 99) fun b => .inr (b.2, (s2 X.1 1 0 a.1, (X.2.1, X.2.2.1, nI b.1)))
  else if w = 1 then sbd (num n t e 1 (X.1 1 0)) fun a => sbd (num n t a.2 0 20) fun b => .inr (b.2, (ownP X.1 a.1 b.1, X.2))
  else if w = 2 then sbd (num n t e 0 ((X.1 1 1 : Int) - 1)) fun a => sbd (num n t a.2 0 50) fun b => sbd (num n t b.2 0 99) fun c => sbd (num n t c.2 0 9) fun d => .inr (d.2, (thgP X.1 b.1 d.1, (thgA X.1 X.2.1 a.1 c.1, X.2.2.1, X.2.2.2)))
  else if w = 3 then sbd (num n t e 0 ((X.1 1 2 : Int) - 1)) fun a => sbd (num n t a.2 0 ((X.1 1 2 : Int) - 1)) fun b => if b.1 = a.1 ∨ pb (Bnd X.2.2.1 a.1 b.1) = true then .inl (2 + 8 * bl n t a.2) else sbd (num n t b.2 1 9) fun c => .inr (c.2, (X.1, (X.2.1, X.2.2.1 ++ [((if b.1 < a.1 then b.1 else a.1), (if a.1 < b.1 then b.1 else a.1), c.1)], X.2.2.2)))
  else sbd (num n t e 1 (X.1 1 0)) fun a => if X.1 6 a.1 = 0 then sbd (num n t a.2 1 9) fun b => .inr (b.2, (rapP X.1 a.1 b.1, X.2)) else .inl (2 + 8 * bl n t e)
theorem num_ok {n : Nat} {t : Nat → Nat} {i : Nat} {lo hi : Int} {v e : Nat} (h : num n t i lo hi = .inr (v, e)) : lo ≤ v ∧ (v : Int) ≤ hi ∧ e ≤ n ∧ v ≤ 99999 := by
  unfold num at h
  by_cases c : bl n t i < n ∧ isD (t (bl n t i)) = true
  · rw [if_pos c] at h
    obtain ⟨d1, d2, d3⟩ := dge_ok n t (bl n t i)
    have hv := dv_bd d3
    by_cases c2 : 5 < dge n t (bl n t i) - bl n t i ∨ (dv t (bl n t i) (dge n t (bl n t i) - bl n t i) : Int) < lo ∨ hi < (dv t (bl n t i) (dge n t (bl n t i) - bl n t i) : Int)
    · rw [if_pos c2] at h
      exact absurd h (by simp)
    · rw [if_neg c2] at h
      have h := Sum.inr.inj h
      have h1 := (Prod.mk.inj h).1
      have h2 := (Prod.mk.inj h).2
      have d2 := d2 (by omega)
      omega
  · rw [if_neg c] at h
    exact absurd h (by simp)
def bC (m : Mm) (X : Bv) : Prop := (RvC m 4 X.1 ∧ m.1 4 3 = nI (X.1 1 3)) ∧ RaC m 10 X.1 X.2.1 X.2.2.1 X.2.2.2 ∧ (∀ o, o < 6 → m.1 11 o = 0) ∧ ∀ t, t < 8 → m.1 14 t = 0
theorem bC_eq {m m1 : Mm} {X : Bv} (h : ∀ i, 4 ≤ i → i < 19 → m1.1 i = m.1 i) (g : bC m X) : bC m1 X := ⟨⟨RvC_eq (fun j hj => h _ (by omega) (by omega)) g.1.1, by rw [h 4 (by decide) (by decide)]; exact g.1.2⟩, RaC_eq (fun j hj => h _ (by omega) (by omega)) g.2.1, fun o ho => by rw [h 11 (by decide) (by decide)]; exact g.2.2.1 o ho, fun t ht => by rw [h 14 (by decide) (by decide)]; exact g.2.2.2 t ht⟩
def bO (X : Bv) : Prop := RvX X.1 ∧ RaOk X.1 X.2.1 X.2.2.1 ∧ (∀ k, X.2.1 0 k = 0) ∧ (∀ o, X.2.1 1 o = 0) ∧ ∀ t, X.2.1 4 t = 0
/-- only the tape and the reader's river and raft differ -/
def frW (m m1 : Mm) : Prop := (∀ i, ¬ (i = 1 ∨ (4 ≤ i ∧ i < 19)) → m1.1 i = m.1 i) ∧ m1.1 1 1 = m.1 1 1
theorem frW.tr {a b c : Mm} (h1 : frW a b) (h2 : frW b c) : frW a c := ⟨fun i hi => (h2.1 i hi).trans (h1.1 i hi), h2.2.trans h1.2⟩
theorem frT.w {m m1 : Mm} (h : frT m m1) : frW m m1 := ⟨fun i hi => h.1 i (fun z => hi (Or.inl z)), h.2⟩
theorem frW.tx {m m1 : Mm} {n : Nat} {t : Nat → Nat} (f : frW m m1) (h : TxC m n t) : TxC m1 n t := ⟨by rw [f.2]; exact h.1, fun k hk => by rw [f.1 2 (by decide)]; exact h.2 k hk⟩
theorem frW_w (m : Mm) {i k : Nat} {x : Int32} (h : 4 ≤ i ∧ i < 19) : frW m (wI m i k x) := ⟨fun j hj => wI_ne (by omega), by rw [wI_ne (by omega)]⟩
/-- what a reading function of the class does -/
def rdP (m : Mm) (res : Option (Int32 × Mm)) (p : Nat ⊕ (Nat × Bv)) : Prop := ∃ m1, frW m m1 ∧ ((∃ f, p = .inl f ∧ res = some (0, m1) ∧ m1.1 1 4 = nI f) ∨ ∃ e X', p = .inr (e, X') ∧ res = some (1, m1) ∧ atC m1 e ∧ bC m1 X' ∧ m1.1 1 4 = m.1 1 4)
theorem rdP_num {m : Mm} {n : Nat} {t : Nat → Nat} (h : TxC m n t) (ok : TxOk n t) {i : Nat} (ha : atC m i) (hi : i ≤ n) {lo hi' : Int} (l1 : -1000 < lo) (l2 : lo < 100000) (l3 : -1000 < hi') (l4 : hi' < 100000) {X : Bv} (hX : bC m X) {K : Nat × Nat → Nat ⊕ (Nat × Bv)} {k : Int32 → Mm → Option (Int32 × Mm)} (hk : ∀ v e m1, num n t i lo hi' = .inr (v, e) → TxC m1 n t → atC m1 e → m1.1 1 3 = nI (bl n t i) → m1.1 1 4 = m.1 1 4 → bC m1 X → rdP m1 (k (nI v) m1) (K (v, e))) : rdP m (bi2 (f_X10_number m (zI lo) (zI hi')) fun r m1 => if r = (-1 : Int32) then some ((0 : Int32), m1) else k r m1) (sbd (num n t i lo hi') K) := by
  have h4 := ok.1
  obtain ⟨m1, f1, ⟨f, e1, e2, e3⟩ | ⟨v, e, e1, e2, e3, e4, e5⟩⟩ := number_c h ok ha (by omega) l1 l2 l3 l4
  · rw [e1, e2, bi2_s, if_pos rfl]
    exact ⟨m1, f1.w, Or.inl ⟨f, rfl, rfl, e3⟩⟩
  · have hv := num_ok e1
    have hX1 : bC m1 X := bC_eq (fun j j1 j2 => f1.1 j (by omega)) hX
    obtain ⟨m2, f2, r2⟩ := hk v e m1 e1 (f1.tx h) e3 e4 e5 hX1
    rw [e1, e2, bi2_s, if_neg (nm1 (by omega))]
    refine ⟨m2, f1.w.tr f2, ?_⟩
    rcases r2 with ⟨f, q1, q2, q3⟩ | ⟨e', X', q1, q2, q3, q4, q5⟩
    · exact Or.inl ⟨f, q1, q2, q3⟩
    · exact Or.inr ⟨e', X', q1, q2, q3, q4, by rw [q5, e5]⟩
theorem rd0_c {m : Mm} {n : Nat} {t : Nat → Nat} (h : TxC m n t) (ok : TxOk n t) {i : Nat} (ha : atC m i) (hi : i ≤ n) {X : Bv} (hX : bC m X) : rdP m (f_X6_readMilesAndStore m) (part n t 0 i X) := by
  unfold f_X6_readMilesAndStore part
  rw [if_pos rfl, show (2 : Int32) = zI 2 from rfl, show (99 : Int32) = zI 99 from rfl, show (0 : Int32) = zI 0 from rfl]
  refine rdP_num h ok ha hi (by decide) (by decide) (by decide) (by decide) hX (fun v e m1 e1 t1 a1 _ z1 x1 => ?_)
  refine rdP_num t1 ok a1 (num_ok e1).2.2.1 (by decide) (by decide) (by decide) (by decide) x1 (fun v2 e2 m2 e3 t2 a2 _ z2 x2 => ?_)
  rw [vl_s, vl_s]
  refine ⟨_, (frW_w _ (by decide)).tr (frW_w _ (by decide)), Or.inr ⟨e2, _, rfl, rfl, ?_, ?_, ?_⟩⟩
  · unfold atC
    rw [wI_ne (by decide), wI_ne (by decide)]
    exact a2
  · obtain ⟨⟨x3, x4⟩, x5, x6, x7⟩ := x2
    refine ⟨⟨⟨⟨?_, ?_, ?_⟩, fun o ho => ?_, fun u hu => ?_, fun k hk => ?_⟩, ?_⟩, ⟨?_, ?_, ?_, fun o ho => ?_, fun u hu => ?_⟩, fun o ho => ?_, fun u hu => ?_⟩
    · rw [wI_ne (by decide), wI_at]; rfl
    · rw [wI_ne (by decide), wI_pl (by decide)]; exact x3.1.2.1
    · rw [wI_ne (by decide), wI_pl (by decide)]; exact x3.1.2.2
    · rw [wI_ne (by decide), wI_ne (by decide), wI_ne (by decide), wI_ne (by decide)]; exact x3.2.1 o ho
    · rw [wI_ne (by decide), wI_ne (by decide), wI_ne (by decide), wI_ne (by decide)]; exact x3.2.2.1 u hu
    · rw [wI_ne (by decide), wI_ne (by decide)]; exact x3.2.2.2 k hk
    · rw [wI_ne (by decide), wI_pl (by decide)]; exact x4
    · rw [wI_pl (by decide), wI_ne (by decide)]; exact x5.1
    · rw [wI_at]
    · rw [wI_pl (by decide), wI_ne (by decide), wI_ne (by decide), wI_ne (by decide), wI_ne (by decide), wI_ne (by decide), wI_ne (by decide), wI_ne (by decide)]; exact x5.2.2.1
    · rw [wI_ne (by decide), wI_ne (by decide)]; exact x5.2.2.2.1 o ho
    · rw [wI_ne (by decide), wI_ne (by decide), wI_ne (by decide), wI_ne (by decide), wI_ne (by decide), wI_ne (by decide)]; exact x5.2.2.2.2 u hu
    · rw [wI_ne (by decide), wI_ne (by decide)]; exact x6 o ho
    · rw [wI_ne (by decide), wI_ne (by decide)]; exact x7 u hu
  · rw [wI_ne (by decide), wI_ne (by decide)]
theorem rd1_c {m : Mm} {n : Nat} {t : Nat → Nat} (h : TxC m n t) (ok : TxOk n t) {i : Nat} (ha : atC m i) (hi : i ≤ n) {X : Bv} (hX : bC m X) (hO : bO X) (hr : X.1 1 1 < 6) : rdP m (f_X6_readOwner m) (part n t 1 i X) := by
  have h99 := hO.1.1.1
  unfold f_X6_readOwner part
  rw [if_neg (by decide), if_pos rfl, hX.1.1.1.1, show (1 : Int32) = zI 1 from rfl, show (20 : Int32) = zI 20 from rfl, show (0 : Int32) = zI 0 from rfl, zI_n (X.1 1 0)]
  refine rdP_num h ok ha hi (by decide) (by decide) (by omega) (by omega) hX (fun v e m1 e1 t1 a1 _ z1 x1 => ?_)
  refine rdP_num t1 ok a1 (num_ok e1).2.2.1 (by decide) (by decide) (by decide) (by decide) x1 (fun v2 e2 m2 e3 t2 a2 _ z2 x2 => ?_)
  obtain ⟨⟨x3, x4⟩, x5, x6, x7⟩ := x2
  have e41 : m2.1 4 1 = nI (X.1 1 1) := x3.1.2.1
  rw [← zI_0, e41, if_neg (gd_ok hr (by decide)), cl_ok (by omega), vl_s, wI_ne (by decide), e41, if_neg (gd_ok hr (by decide)), cl_ok (by omega), vl_s, wI_ne (by decide), wI_ne (by decide), e41, show zI 1 = (1 : Int32) from rfl, sN_a1, vl_s]
  refine ⟨_, (frW_w _ (by decide)).tr ((frW_w _ (by decide)).tr (frW_w _ (by decide))), Or.inr ⟨e2, _, rfl, rfl, ?_, ?_, ?_⟩⟩
  · unfold atC
    rw [wI_ne (by decide), wI_ne (by decide), wI_ne (by decide)]
    exact a2
  · refine ⟨⟨⟨⟨?_, ?_, ?_⟩, fun o ho => ?_, fun u hu => ?_, fun k hk => ?_⟩, ?_⟩, ⟨?_, ?_, ?_, fun o ho => ?_, fun u hu => ?_⟩, fun o ho => ?_, fun u hu => ?_⟩
    · rw [wI_pl (by decide), wI_ne (by decide), wI_ne (by decide)]; exact x3.1.1
    · rw [wI_at]; rfl
    · rw [wI_pl (by decide), wI_ne (by decide), wI_ne (by decide)]; exact x3.1.2.2
    · have ho : o < X.1 1 1 + 1 := ho
      show (wI (wI (wI m2 5 (X.1 1 1) (nI v)) 6 (X.1 1 1) (nI v2)) 4 1 (nI (X.1 1 1 + 1))).1 5 o = nI (ownP X.1 v v2 2 o) ∧ (wI (wI (wI m2 5 (X.1 1 1) (nI v)) 6 (X.1 1 1) (nI v2)) 4 1 (nI (X.1 1 1 + 1))).1 6 o = nI (ownP X.1 v v2 3 o)
      by_cases q : o = X.1 1 1
      · rw [q]
        simp [wI_get, ownP, s2]
      · have := x3.2.1 o (by omega)
        simp [wI_get, ownP, s2, q]
        exact this
    · rw [wI_ne (by decide), wI_ne (by decide), wI_ne (by decide), wI_ne (by decide), wI_ne (by decide), wI_ne (by decide)]; exact x3.2.2.1 u hu
    · rw [wI_ne (by decide), wI_ne (by decide), wI_ne (by decide)]; exact x3.2.2.2 k hk
    · rw [wI_pl (by decide), wI_ne (by decide), wI_ne (by decide)]; exact x4
    · rw [wI_ne (by decide), wI_ne (by decide), wI_ne (by decide)]; exact x5.1
    · rw [wI_ne (by decide), wI_ne (by decide), wI_ne (by decide)]; exact x5.2.1
    · rw [wI_ne (by decide), wI_ne (by decide), wI_ne (by decide), wI_ne (by decide), wI_ne (by decide), wI_ne (by decide), wI_ne (by decide), wI_ne (by decide), wI_ne (by decide), wI_ne (by decide), wI_ne (by decide), wI_ne (by decide)]; exact x5.2.2.1
    · have ho : o < X.1 1 1 + 1 := ho
      rw [wI_ne (by decide), wI_ne (by decide), wI_ne (by decide), hO.2.2.2.1 o]
      exact x6 o (by omega)
    · rw [wI_ne (by decide), wI_ne (by decide), wI_ne (by decide), wI_ne (by decide), wI_ne (by decide), wI_ne (by decide), wI_ne (by decide), wI_ne (by decide), wI_ne (by decide)]; exact x5.2.2.2.2 u hu
    · rw [wI_ne (by decide), wI_ne (by decide), wI_ne (by decide)]; exact x6 o ho
    · rw [wI_ne (by decide), wI_ne (by decide), wI_ne (by decide)]; exact x7 u hu
  · rw [wI_ne (by decide), wI_ne (by decide), wI_ne (by decide)]
theorem rd2_c {m : Mm} {n : Nat} {t : Nat → Nat} (h : TxC m n t) (ok : TxOk n t) {i : Nat} (ha : atC m i) (hi : i ≤ n) {X : Bv} (hX : bC m X) (hO : bO X) (hr : X.1 1 2 < 8) : rdP m (f_X6_readThing m) (part n t 2 i X) := by
  have h6 := hO.1.1.2.1
  have e0 : nI (X.1 1 1) - 1 = zI ((X.1 1 1 : Int) - 1) := by rw [zI_n, show (1 : Int32) = zI 1 from rfl, zI_sb]
  unfold f_X6_readThing part
  rw [if_neg (by decide), if_neg (by decide), if_pos rfl, hX.1.1.1.2.1, e0, show (50 : Int32) = zI 50 from rfl, show (99 : Int32) = zI 99 from rfl, show (9 : Int32) = zI 9 from rfl, show (0 : Int32) = zI 0 from rfl]
  refine rdP_num h ok ha hi (by decide) (by decide) (by omega) (by omega) hX (fun v e m1 e1 t1 a1 _ z1 x1 => ?_)
  refine rdP_num t1 ok a1 (num_ok e1).2.2.1 (by decide) (by decide) (by decide) (by decide) x1 (fun v2 e2 m2 e3 t2 a2 _ z2 x2 => ?_)
  refine rdP_num t2 ok a2 (num_ok e3).2.2.1 (by decide) (by decide) (by decide) (by decide) x2 (fun v3 e4 m3 e5 t3 a3 _ z3 x3 => ?_)
  refine rdP_num t3 ok a3 (num_ok e5).2.2.1 (by decide) (by decide) (by decide) (by decide) x3 (fun v4 e6 m4 e7 t4 a4 _ z4 x4 => ?_)
  obtain ⟨⟨x3, x4⟩, x5, x6, x7⟩ := x4
  have e42 : m4.1 4 2 = nI (X.1 1 2) := x3.1.2.2
  rw [← zI_0, e42, if_neg (gd_ok hr (by decide)), cl_ok (by omega), vl_s, wI_ne (by decide), e42, if_neg (gd_ok hr (by decide)), cl_ok (by omega), vl_s, wI_ne (by decide), wI_ne (by decide), e42, if_neg (gd_ok hr (by decide)), cl_ok (by omega), vl_s, wI_ne (by decide), wI_ne (by decide), wI_ne (by decide), e42, if_neg (gd_ok hr (by decide)), cl_ok (by omega), vl_s, wI_ne (by decide), wI_ne (by decide), wI_ne (by decide), wI_ne (by decide), e42, sN_a1, vl_s]
  refine ⟨_, (frW_w _ (by decide)).tr ((frW_w _ (by decide)).tr ((frW_w _ (by decide)).tr ((frW_w _ (by decide)).tr (frW_w _ (by decide))))), Or.inr ⟨e6, _, rfl, rfl, ?_, ?_, ?_⟩⟩
  · unfold atC
    simp [wI_get]
    exact a4
  · refine ⟨⟨⟨⟨?_, ?_, ?_⟩, fun o ho => ?_, fun u hu => ?_, fun k hk => ?_⟩, ?_⟩, ⟨?_, ?_, ?_, fun o ho => ?_, fun u hu => ?_⟩, fun o ho => ?_, fun u hu => ?_⟩
    · simp [wI_get, thgP, s2]; exact x3.1.1
    · simp [wI_get, thgP, s2]; exact x3.1.2.1
    · simp [wI_get, thgP, s2]
    · have ho : o < X.1 1 1 := ho
      have := x3.2.1 o ho
      simp [wI_get, thgP, s2]; exact this
    · have hu : u < X.1 1 2 + 1 := hu
      by_cases q : u = X.1 1 2
      · rw [q]
        simp [wI_get, thgP, s2]
      · have := x3.2.2.1 u (by omega)
        simp [wI_get, thgP, s2, q]
        exact this
    · have := x3.2.2.2 k hk
      simp [wI_get, thgP, s2]; exact this
    · simp [wI_get, thgP, s2]; exact x4
    · simp [wI_get, thgA, s2]; exact x5.1
    · simp [wI_get, thgA, s2]; exact x5.2.1
    · rw [wI_ne (by decide), wI_ne (by decide), wI_ne (by decide), wI_ne (by decide), wI_ne (by decide), wI_ne (by decide), wI_ne (by decide), wI_ne (by decide), wI_ne (by decide), wI_ne (by decide), wI_ne (by decide), wI_ne (by decide), wI_ne (by decide), wI_ne (by decide), wI_ne (by decide), wI_ne (by decide), wI_ne (by decide), wI_ne (by decide), wI_ne (by decide), wI_ne (by decide)]; exact x5.2.2.1
    · have ho : o < X.1 1 1 := ho
      have := x5.2.2.2.1 o ho
      simp [wI_get, thgA, s2]; exact this
    · have hu : u < X.1 1 2 + 1 := hu
      by_cases q : u = X.1 1 2
      · have := x7 u (by omega)
        have h4 := hO.2.2.2.2 (X.1 1 2)
        rw [q] at this ⊢
        simp [wI_get, thgA, s2, h4]
        exact this
      · have := x5.2.2.2.2 u (by omega)
        simp [wI_get, thgA, s2, q]
        exact this
    · have := x6 o ho
      simp [wI_get]; exact this
    · have := x7 u hu
      simp [wI_get]; exact this
  · simp [wI_get]
