/-! PHASE 2: rule, the clauses -/
abbrev Tr : Type := Nat × Nat × Nat
def cls (n : Nat) (t : Nat → Nat) (c : Nat) (x : Ps) : Nat ⊕ (Ps × Tr) :=
  if ws n t (bl n t x.1) 1 = true then
    if c = 12 then .inl (5 + 8 * bl n t x.1)
    else sbd (smv n t (bl n t x.1 + 3, x.2.1, x.2.2)) fun y =>
      if ws n t (bl n t y.1) 3 = true then sbd (tst n t (fct n t 10) (bl n t y.1 + 2, y.2.1, y.2.2)) fun z => .inr (z, (x.2.1.length, y.2.1.length, z.2.1.length))
      else .inr ((bl n t y.1, y.2.1, y.2.2), (x.2.1.length, y.2.1.length, y.2.1.length))
  else .inl (1 + 8 * bl n t x.1)
def rls (n : Nat) (t : Nat → Nat) : Nat → Ps → List Tr → Nat ⊕ (Es × List Tr)
  | 0, x, Q => sbd (cls n t Q.length x) fun _ => .inl 0
  | g + 1, x, Q => sbd (cls n t Q.length x) fun y => if n ≤ bl n t y.1.1 then .inr (y.1.2.1, Q ++ [y.2]) else if t (bl n t y.1.1) = 59 then rls n t g (bl n t y.1.1 + 1, y.1.2.1, y.1.2.2) (Q ++ [y.2]) else .inl (1 + 8 * bl n t y.1.1)
/-- a clause's stretches: one value each -/
def okT (E : Es) (T : Tr) : Prop := ∃ A D G R : Es, E = A ++ (D ++ (G ++ R)) ∧ T = (A.length, A.length + D.length, A.length + D.length + G.length) ∧ hOf (D.map fun e => nI e.1) 0 = some 1 ∧ (G = [] ∨ (hOf (G.map fun e => nI e.1) 0 = some 1 ∧ bOf (G.map fun e => nI e.1) [] = [true]))
theorem okT_ext {E X : Es} {T : Tr} (h : okT E T) : okT (E ++ X) T := by
  obtain ⟨A, D, G, R, h1, h2⟩ := h
  exact ⟨A, D, G, R ++ X, by rw [h1]; simp, h2⟩
theorem cls_ok {n : Nat} {t : Nat → Nat} {c : Nat} {x : Ps} (hi : x.1 ≤ n) (hp : x.2.2 ≤ 60) {y : Ps} {T : Tr} (h : cls n t c x = .inr (y, T)) : x.1 < y.1 ∧ y.1 ≤ n ∧ y.2.2 ≤ 60 ∧ (14 * (x.2.2 : Int) - 3 * (x.2.1.length : Int) ≤ 14 * (y.2.2 : Int) - 3 * (y.2.1.length : Int)) ∧ okT y.2.1 T ∧ ∃ D : Es, y.2.1 = x.2.1 ++ D ∧ ∀ e, e ∈ D → egd e := by
  have hb := bl_ge n t x.1
  have hb2 := bl_le t hi
  have hl := (lte_ok n t (bl n t x.1)).2.1 hb2
  unfold cls at h
  by_cases w : ws n t (bl n t x.1) 1 = true
  · rw [if_pos w] at h
    have dl : lte n t (bl n t x.1) = bl n t x.1 + 3 := ws_lte w
    by_cases c12 : c = 12
    · rw [if_pos c12] at h
      exact absurd h (by intro z; cases z)
    · rw [if_neg c12] at h
      obtain ⟨z, h1, h2⟩ := sbd_r h
      obtain ⟨⟨s1, s2, s3, D, s4, s5, s6⟩, r2, r3, r4⟩ := smv_sg (by show bl n t x.1 + 3 ≤ n; omega) h1
      have s1 : x.2.2 ≤ z.2.2 := s1
      have s3 : 14 * (x.2.2 : Int) - 3 * (x.2.1.length : Int) + 11 ≤ 14 * (z.2.2 : Int) - 3 * (z.2.1.length : Int) := s3
      have s4 : z.2.1 = x.2.1 ++ D := s4
      have s6 := s6 0 (by show 0 + 0 + (z.2.2 - x.2.2) ≤ 60; omega)
      have r2 : bl n t x.1 + 3 < z.1 := r2
      have hz := bl_ge n t z.1
      have hz2 := bl_le t r3
      have hl2 := (lte_ok n t (bl n t z.1)).2.1 hz2
      by_cases w3 : ws n t (bl n t z.1) 3 = true
      · rw [if_pos w3] at h2
        have dl2 : lte n t (bl n t z.1) = bl n t z.1 + 2 := ws_lte w3
        obtain ⟨q, h3, h4⟩ := sbd_r h2
        obtain ⟨⟨g1, g2, g3, G, g4, g5, g6⟩, k2, k3, k4⟩ := tst_sg (c := 33 - 3 * ((10 : Nat) : Int)) (by decide) (fun x y => fct_sg 10 (Nat.le_refl _) x y) (by show bl n t z.1 + 2 ≤ n; omega) h3
        have g1 : z.2.2 ≤ q.2.2 := g1
        have g3 : 14 * (z.2.2 : Int) - 3 * (z.2.1.length : Int) + (33 - 3 * ((10 : Nat) : Int)) ≤ 14 * (q.2.2 : Int) - 3 * (q.2.1.length : Int) := g3
        have g4 : q.2.1 = z.2.1 ++ G := g4
        have g6 := g6 0 (by show 0 + 0 + (q.2.2 - z.2.2) ≤ 60; omega)
        have k2 : bl n t z.1 + 2 < q.1 := k2
        have hB : bOf (G.map fun e => nI e.1) [] = [true] := by
          obtain ⟨G', b1, b2⟩ := tst_b (fun x y => fct_b 10 x y) h3
          have b1 : q.2.1 = z.2.1 ++ G' := b1
          rw [g4] at b1
          rw [List.append_cancel_left b1]
          exact b2 []
        have h5 := Prod.mk.inj (Sum.inr.inj h4)
        rw [← h5.1, ← h5.2]
        refine ⟨by omega, k3, k4, by omega, ⟨x.2.1, D, G, [], by rw [g4, s4]; simp, ?_, s6, Or.inr ⟨g6, hB⟩⟩, D ++ G, by rw [g4, s4, List.append_assoc], fun e he => ?_⟩
        · rw [g4, s4, List.length_append, List.length_append, List.length_append]
        · rcases List.mem_append.1 he with q | q
          · exact s5 e q
          · exact g5 e q
      · rw [if_neg w3] at h2
        have h5 := Prod.mk.inj (Sum.inr.inj h2)
        rw [← h5.1, ← h5.2]
        refine ⟨by show x.1 < bl n t z.1; omega, hz2, r4, by show 14 * (x.2.2 : Int) - 3 * (x.2.1.length : Int) ≤ 14 * (z.2.2 : Int) - 3 * (z.2.1.length : Int); omega, ⟨x.2.1, D, [], [], by show z.2.1 = _; rw [s4]; simp, ?_, s6, Or.inl rfl⟩, D, s4, s5⟩
        rw [s4, List.length_append]
        rfl
  · rw [if_neg w] at h
    exact absurd h (by intro z; cases z)
theorem rls_ok {n : Nat} {t : Nat → Nat} : ∀ (g : Nat) (x : Ps) (Q : List Tr) (E : Es) (Q' : List Tr), g + Q.length = 12 → x.1 ≤ n → x.2.2 ≤ 60 → 3 * x.2.1.length ≤ 14 * x.2.2 → (∀ e, e ∈ x.2.1 → egd e) → (∀ T, T ∈ Q → okT x.2.1 T) → rls n t g x Q = .inr (E, Q') → E.length ≤ 280 ∧ (∀ e, e ∈ E → egd e) ∧ 1 ≤ Q'.length ∧ Q'.length ≤ 12 ∧ ∀ T, T ∈ Q' → okT E T
  | 0, x, Q, E, Q', hg, hi, hp, hc, hE, hT, h => by
    obtain ⟨y, h1, h2⟩ := sbd_r h
    exact absurd h2 (by intro z; cases z)
  | g + 1, x, Q, E, Q', hg, hi, hp, hc, hE, hT, h => by
    obtain ⟨⟨y, T⟩, h1, h2⟩ := sbd_r h
    obtain ⟨k1, k2, k3, k4, k5, D, k6, k7⟩ := cls_ok hi hp h1
    have e2 : ∀ e, e ∈ y.2.1 → egd e := fun e he => by
      rw [k6] at he
      rcases List.mem_append.1 he with q | q
      · exact hE e q
      · exact k7 e q
    have t2 : ∀ T', T' ∈ Q ++ [T] → okT y.2.1 T' := fun T' hT' => by
      rcases List.mem_append.1 hT' with q | q
      · rw [k6]
        exact okT_ext (hT T' q)
      · rw [List.mem_singleton.1 q]
        exact k5
    by_cases c : n ≤ bl n t y.1
    · rw [if_pos c] at h2
      have h3 := Prod.mk.inj (Sum.inr.inj h2)
      rw [← h3.1, ← h3.2]
      exact ⟨by show y.2.1.length ≤ 280; omega, e2, by rw [List.length_append]; exact Nat.le_add_left _ _, by rw [List.length_append]; show Q.length + 1 ≤ 12; omega, t2⟩
    · rw [if_neg c] at h2
      by_cases d : t (bl n t y.1) = 59
      · rw [if_pos d] at h2
        exact rls_ok g (bl n t y.1 + 1, y.2.1, y.2.2) (Q ++ [T]) E Q' (by rw [List.length_append]; show g + (Q.length + 1) = 12; omega) (by show bl n t y.1 + 1 ≤ n; omega) k3 (by show 3 * y.2.1.length ≤ 14 * y.2.2; omega) e2 t2 h2
      · rw [if_neg d] at h2
        exact absurd h2 (by intro z; cases z)
/-! the class -/
def frG (m m1 : Mm) : Prop := (∀ i, ¬ (i = 1 ∨ (19 ≤ i ∧ i ≤ 24)) → m1.1 i = m.1 i) ∧ m1.1 1 1 = m.1 1 1
theorem frG.tr {a b c : Mm} (h1 : frG a b) (h2 : frG b c) : frG a c := ⟨fun i hi => (h2.1 i hi).trans (h1.1 i hi), h2.2.trans h1.2⟩
theorem frK.l {m m1 : Mm} (h : frK m m1) : frG m m1 := ⟨fun i hi => h.1 i (by omega), h.2.1⟩
theorem frG_w (m : Mm) {i k : Nat} {x : Int32} (h : 19 ≤ i ∧ i ≤ 24) : frG m (wI m i k x) := ⟨fun j hj => wI_ne (by omega), by rw [wI_ne (by omega)]⟩
theorem frG.tx {m m1 : Mm} {n : Nat} {t : Nat → Nat} (f : frG m m1) (h : TxC m n t) : TxC m1 n t := ⟨by rw [f.2]; exact h.1, fun k hk => by rw [f.1 2 (by decide)]; exact h.2 k hk⟩
theorem cOk_w {n : Nat} {t : Nat → Nat} {m : Mm} {x : Ps} {i k : Nat} {v : Int32} (h : cOk n t m x) (hi : (22 ≤ i ∧ i ≤ 24) ∨ (i = 20 ∧ ¬ k = 1)) : cOk n t (wI m i k v) x := by
  obtain ⟨h1, h2, h3, ⟨h4, h5, h6⟩, h7⟩ := h
  refine ⟨(frG_w m (by omega)).tx h1, by unfold atC; rw [wI_ne (by omega)]; exact h2, h3, ⟨?_, fun j hj => by rw [wI_ne (by omega)]; exact h5 j hj, by rw [wI_ne (by omega)]; exact h6⟩, h7⟩
  rcases hi with q | q
  · rw [wI_ne (by omega)]
    exact h4
  · rw [q.1, wI_pl (fun z => q.2 z.symm)]
    exact h4
def tg (Q : List Tr) (q : Nat) : Tr := Q.getD q (0, 0, 0)
theorem tg_lt {Q : List Tr} {T : Tr} {q : Nat} (h : q < Q.length) : tg (Q ++ [T]) q = tg Q q := by
  unfold tg
  rw [List.getD_eq_getElem?_getD, List.getD_eq_getElem?_getD, List.getElem?_append_left h]
theorem tg_at (Q : List Tr) (T : Tr) : tg (Q ++ [T]) Q.length = T := by
  unfold tg
  rw [List.getD_eq_getElem?_getD, List.getElem?_append_right (Nat.le_refl _), Nat.sub_self]
  rfl
theorem tg_mem {Q : List Tr} {q : Nat} (h : q < Q.length) : tg Q q ∈ Q := by
  unfold tg
  rw [List.getD_eq_getElem?_getD, List.getElem?_eq_getElem h]
  exact List.getElem_mem h
def cT (m : Mm) (Q : List Tr) : Prop := ∀ q, q < Q.length → m.1 22 q = nI (tg Q q).1 ∧ m.1 23 q = nI (tg Q q).2.1 ∧ m.1 24 q = nI (tg Q q).2.2
noncomputable def readK : (Mm ⊕ (Mm ⊕ (Mm ⊕ (Mm ⊕ (Mm ⊕ (Mm ⊕ Mm)))))) → Option (Int32 × Mm) := fun q => match q with
  | .inl mm_41 =>
    bi2 (f_X10_wrong mm_41 (mm_41.1 1 2) (0 : Int32)) fun r_44 mm_42 =>
      if ¬ r_44 = 0 ∧ ¬ r_44 = 1 then none else some (r_44, mm_42)
  | .inr (.inl mm_46) =>
    bi2 (f_X10_wrong mm_46 (mm_46.1 1 3) (4 : Int32)) fun r_49 mm_47 =>
      if ¬ r_49 = 0 ∧ ¬ r_49 = 1 then none else some (r_49, mm_47)
  | .inr (.inr (.inl mm_51)) => some ((0 : Int32), mm_51)
  | .inr (.inr (.inr (.inl mm_52))) => some ((0 : Int32), mm_52)
  | .inr (.inr (.inr (.inr (.inl mm_53)))) => some ((1 : Int32), mm_53)
  | .inr (.inr (.inr (.inr (.inr (.inl mm_54))))) =>
    bi2 (f_X10_wrong mm_54 (mm_54.1 1 2) (0 : Int32)) fun r_57 mm_55 =>
      if ¬ r_57 = 0 ∧ ¬ r_57 = 1 then none else some (r_57, mm_55)
  | .inr (.inr (.inr (.inr (.inr (.inr (mm_59)))))) => some ((0 : Int32), mm_59)
theorem read_K (m : Mm) : f_X8_read m = bi1 (f_X10_open m) fun m1 => bi1 (f_X7_clear m1 20) fun m3 => vlet (wI m3 19 2 (0 : Int32)) fun m5 => bi1 (lp f_X8_read_s21 ((0 : Int32), m5)) readK := rfl
def rC (m : Mm) (res : Option (Int32 × Mm)) (p : Nat ⊕ (Es × List Tr)) : Prop := ∃ m1, frG m m1 ∧ ((∃ f, p = .inl f ∧ res = some (0, m1) ∧ m1.1 1 4 = nI f) ∨ ∃ E Q, p = .inr (E, Q) ∧ res = some (1, m1) ∧ m1.1 20 1 = nI E.length ∧ (∀ k, k < E.length → m1.1 21 k = nI (en E k).2 * 16 + kOf (nI (en E k).1)) ∧ cT m1 Q ∧ m1.1 20 5 = nI Q.length)
theorem rC.tr {m m1 : Mm} {res : Option (Int32 × Mm)} {p : Nat ⊕ (Es × List Tr)} (h : frG m m1) (g : rC m1 res p) : rC m res p := by
  obtain ⟨m2, g1, g2⟩ := g
  exact ⟨m2, h.tr g1, g2⟩
theorem wrongB (m : Mm) (b c : Nat) : (bi2 (f_X10_wrong m (nI b) (nI c)) fun r m1 => if ¬ r = 0 ∧ ¬ r = 1 then none else some (r, m1)) = some (0, wI m 1 4 (nI (1 + 8 * b + c))) := by
  rw [wrong_c, bi2_s, if_neg (fun z => z.1 rfl)]
theorem cls_c {n : Nat} {t : Nat → Nat} (ok : TxOk n t) {m : Mm} {x : Ps} {c : Nat} (hz : cOk n t m x) (hc : c ≤ 12) : ∃ m1, frG m m1 ∧ ((∃ f, cls n t c x = .inl f ∧ bi1 (lp f_X8_read_s21 (nI c, m)) readK = some (0, m1) ∧ m1.1 1 4 = nI f) ∨ (c < 12 ∧ ∃ y i j, cls n t c x = .inr (y, (i, j, y.2.1.length)) ∧ f_X8_read_s21 (nI c, m) = f_X8_read_j140 m1 (nI c) ∧ cOk n t m1 y ∧ m1.1 22 c = nI i ∧ m1.1 23 c = nI j ∧ (∀ q, ¬ q = c → m1.1 22 q = m.1 22 q ∧ m1.1 23 q = m.1 23 q) ∧ m1.1 24 = m.1 24)) := by
  have h400 := ok.1
  obtain ⟨h1, h2, h3, h4, h5, h6⟩ := hz
  obtain ⟨b, hb⟩ : ∃ b, bl n t x.1 = b := ⟨_, rfl⟩
  have hbn : b ≤ n := by rw [← hb]; exact bl_le t h3
  have hl := (lte_ok n t b).2.1 hbn
  have hc12 : ¬ (12 : Int32) < nI c := by
    rw [K12, sN_lt (by decide) (by omega)]
    omega
  obtain ⟨m1, f1, ⟨w, e, a, a3⟩ | ⟨w, e, a⟩⟩ := acW_c h1 ok h2 (by omega) (k := 1) (by decide) (by decide) (by decide) hb
  · have dl : lte n t b = b + 3 := ws_lte w
    by_cases c2 : c = 12
    · have hs : f_X8_read_s21 (nI c, m) = some (.inr (.inr (.inl m1))) := by
        unfold f_X8_read_s21
        show (if (12 : Int32) < nI c then _ else _) = _
        rw [if_neg hc12, e, bi2_s, if_neg (show ¬ (1 : Int32) = 0 by decide), if_pos (by rw [c2]; rfl)]
      rw [lp_end hs, bi1_s]
      refine ⟨wI m1 1 4 (nI (1 + 8 * b + 4)), f1.k.l.tr (frT_w _ (by decide)).k.l, Or.inl ⟨5 + 8 * b, by unfold cls; rw [hb, if_pos w, if_pos c2], ?_, ?_⟩⟩
      · show (bi2 (f_X10_wrong m1 (m1.1 1 3) (4 : Int32)) fun r m1 => if ¬ r = 0 ∧ ¬ r = 1 then none else some (r, m1)) = _
        rw [a3]
        exact wrongB m1 b 4
      · rw [wI_at, show 1 + 8 * b + 4 = 5 + 8 * b by omega]
    · have o2 : cOk n t (wI m1 22 c (nI x.2.1.length)) (b + 3, x.2.1, x.2.2) := cOk_w ⟨f1.tx h1, a, by show b + 3 ≤ n; omega, eC_T f1 h4, h5, h6⟩ (by omega)
      have hs1 : f_X8_read_s21 (nI c, m) = bi2 (f_X8_readSum (wI m1 22 c (nI x.2.1.length))) fun r_28 mm_26 =>
                  if r_28 = 0 then
                    some (.inr (.inr (.inr (.inl mm_26))))
                  else
                    vlet (wI mm_26 23 c (mm_26.1 20 1)) fun mm_30 =>
                        bi2 (f_X10_acceptWord mm_30 3) fun r_34 mm_32 =>
                          if r_34 = 0 then
                            f_X8_read_j140 mm_32 (nI c)
                          else
                            bi2 (f_X8_readTest mm_32 (0 : Int32)) fun r_38 mm_36 =>
                              if r_38 = 0 then
                                some (.inr (.inr (.inr (.inr (.inl mm_36)))))
                              else
                                f_X8_read_j140 mm_36 (nI c) := by
        unfold f_X8_read_s21
        show (if (12 : Int32) < nI c then _ else _) = _
        rw [if_neg hc12, e, bi2_s, if_neg (show ¬ (1 : Int32) = 0 by decide), if_neg (show ¬ nI c = 12 by rw [K12, sN_eq (by omega) (by decide)]; exact c2), if_neg (gd_ok (show c < 12 by omega) (by decide)), cl_ok (by omega), (eC_T f1 h4).1, vl_s]
        have gd := gd_ok (show c < 12 by omega) (by decide)
        rw [cl_ok (by omega)] at gd
        simp only [if_neg gd]
      obtain ⟨m2, hm2⟩ : ∃ m2, wI m1 22 c (nI x.2.1.length) = m2 := ⟨_, rfl⟩
      have f2 : frG m m2 := by rw [← hm2]; exact f1.k.l.tr (frG_w _ (by decide))
      have t22 : m2.1 22 c = nI x.2.1.length := by rw [← hm2, wI_at]
      have t22' : ∀ q, ¬ q = c → m2.1 22 q = m.1 22 q := fun q hq => by rw [← hm2, wI_pl hq, f1.1 22 (by decide)]
      have t23' : m2.1 23 = m.1 23 := by rw [← hm2, wI_ne (by decide), f1.1 23 (by decide)]
      have t24' : m2.1 24 = m.1 24 := by rw [← hm2, wI_ne (by decide), f1.1 24 (by decide)]
      rw [hm2] at o2 hs1
      have ec : cls n t c x = sbd (smv n t (b + 3, x.2.1, x.2.2)) fun y => if ws n t (bl n t y.1) 3 = true then sbd (tst n t (fct n t 10) (bl n t y.1 + 2, y.2.1, y.2.2)) fun z => .inr (z, (x.2.1.length, y.2.1.length, z.2.1.length)) else .inr ((bl n t y.1, y.2.1, y.2.2), (x.2.1.length, y.2.1.length, y.2.1.length)) := by
        unfold cls
        rw [hb, if_pos w, if_neg c2]
      rcases kC_ok o2 (smv_c ok o2) (fun y hy => smv_sg o2.2.2.1 hy) (by decide) with ⟨f, m3, v1, v2, v3, v4, v5⟩ | ⟨y, m3, v1, v2, v3, v4, v5⟩
      · rw [v2, bi2_s, if_pos rfl] at hs1
        rw [lp_end hs1, bi1_s]
        exact ⟨m3, f2.tr v3.l, Or.inl ⟨f, by rw [ec, v1]; rfl, rfl, v4⟩⟩
      · rw [v2, bi2_s, if_neg (show ¬ (1 : Int32) = 0 by decide), v4.2.2.2.1.1, vl_s] at hs1
        have o4 : cOk n t (wI m3 23 c (nI y.2.1.length)) y := cOk_w v4 (by omega)
        obtain ⟨m4, hm4⟩ : ∃ m4, wI m3 23 c (nI y.2.1.length) = m4 := ⟨_, rfl⟩
        have f4 : frG m m4 := by rw [← hm4]; exact (f2.tr v3.l).tr (frG_w _ (by decide))
        have u22 : m4.1 22 = m2.1 22 := by rw [← hm4, wI_ne (by decide), v3.1 22 (by decide)]
        have u23 : m4.1 23 c = nI y.2.1.length := by rw [← hm4, wI_at]
        have u23' : ∀ q, ¬ q = c → m4.1 23 q = m.1 23 q := fun q hq => by rw [← hm4, wI_pl hq, v3.1 23 (by decide), t23']
        have u24 : m4.1 24 = m.1 24 := by rw [← hm4, wI_ne (by decide), v3.1 24 (by decide), t24']
        rw [hm4] at o4 hs1
        obtain ⟨k1, k2, k3, k4, k5, k6⟩ := o4
        obtain ⟨b2, hb2⟩ : ∃ b2, bl n t y.1 = b2 := ⟨_, rfl⟩
        have hbn2 : b2 ≤ n := by rw [← hb2]; exact bl_le t k3
        have hl2 := (lte_ok n t b2).2.1 hbn2
        obtain ⟨m5, f5, ⟨w3, e5, a5, _⟩ | ⟨w3, e5, a5⟩⟩ := acW_c k1 ok k2 (by omega) (k := 3) (by decide) (by decide) (by decide) hb2
        · have dl2 : lte n t b2 = b2 + 2 := ws_lte w3
          rw [e5, bi2_s, if_neg (show ¬ (1 : Int32) = 0 by decide)] at hs1
          have o5 : cOk n t m5 (b2 + 2, y.2.1, y.2.2) := ⟨f5.tx k1, a5, by show b2 + 2 ≤ n; omega, eC_T f5 k4, k5, k6⟩
          have hT : kC m5 (f_X8_readTest m5 0) (tst n t (fct n t 10) (b2 + 2, y.2.1, y.2.2)) := tst_c ok (c := 33 - 3 * ((10 : Nat) : Int)) (by decide) (fun x y => fct_sg 10 (Nat.le_refl _) x y) (fun m x hm => fct_c ok 10 (Nat.le_refl _) 29 (by decide) m x hm) o5
          have ec2 : cls n t c x = sbd (tst n t (fct n t 10) (b2 + 2, y.2.1, y.2.2)) fun z => .inr (z, (x.2.1.length, y.2.1.length, z.2.1.length)) := by
            rw [ec, v1]
            show (if ws n t (bl n t y.1) 3 = true then _ else _) = _
            rw [hb2, if_pos w3]
          rcases kC_ok o5 hT (fun y hy => tst_sg (c := 33 - 3 * ((10 : Nat) : Int)) (by decide) (fun x y => fct_sg 10 (Nat.le_refl _) x y) o5.2.2.1 hy) (by decide) with ⟨f, m6, v1, v2, v3, v4, v5⟩ | ⟨z, m6, v1, v2, v3, v4, v5⟩
          · rw [v2, bi2_s, if_pos rfl] at hs1
            rw [lp_end hs1, bi1_s]
            exact ⟨m6, (f4.tr f5.k.l).tr v3.l, Or.inl ⟨f, by rw [ec2, v1]; rfl, rfl, v4⟩⟩
          · rw [v2, bi2_s, if_neg (show ¬ (1 : Int32) = 0 by decide)] at hs1
            refine ⟨m6, (f4.tr f5.k.l).tr v3.l, Or.inr ⟨by omega, z, x.2.1.length, y.2.1.length, by rw [ec2, v1]; rfl, hs1, v4, by rw [v3.1 22 (by decide), f5.1 22 (by decide), u22]; exact t22, by rw [v3.1 23 (by decide), f5.1 23 (by decide)]; exact u23, fun q hq => ⟨by rw [v3.1 22 (by decide), f5.1 22 (by decide), u22]; exact t22' q hq, by rw [v3.1 23 (by decide), f5.1 23 (by decide)]; exact u23' q hq⟩, by rw [v3.1 24 (by decide), f5.1 24 (by decide), u24]⟩⟩
        · rw [e5, bi2_s, if_pos rfl] at hs1
          have o5 : cOk n t m5 (b2, y.2.1, y.2.2) := ⟨f5.tx k1, a5, hbn2, eC_T f5 k4, k5, k6⟩
          have ec2 : cls n t c x = .inr ((b2, y.2.1, y.2.2), (x.2.1.length, y.2.1.length, y.2.1.length)) := by
            rw [ec, v1]
            show (if ws n t (bl n t y.1) 3 = true then _ else _) = _
            rw [hb2, if_neg (by rw [w3]; decide)]
          exact ⟨m5, f4.tr f5.k.l, Or.inr ⟨by omega, _, x.2.1.length, y.2.1.length, ec2, hs1, o5, by rw [f5.1 22 (by decide), u22]; exact t22, by rw [f5.1 23 (by decide)]; exact u23, fun q hq => ⟨by rw [f5.1 22 (by decide), u22]; exact t22' q hq, by rw [f5.1 23 (by decide)]; exact u23' q hq⟩, by rw [f5.1 24 (by decide), u24]⟩⟩
  · have hs : f_X8_read_s21 (nI c, m) = some (.inr (.inl m1)) := by
      unfold f_X8_read_s21
      show (if (12 : Int32) < nI c then _ else _) = _
      rw [if_neg hc12, e, bi2_s, if_pos rfl]
    rw [lp_end hs, bi1_s]
    refine ⟨wI m1 1 4 (nI (1 + 8 * b + 0)), f1.k.l.tr (frT_w _ (by decide)).k.l, Or.inl ⟨1 + 8 * b, by unfold cls; rw [hb, if_neg (by rw [w]; decide)], ?_, wI_at _ _ _ _⟩⟩
    show (bi2 (f_X10_wrong m1 (m1.1 1 2) (0 : Int32)) fun r m1 => if ¬ r = 0 ∧ ¬ r = 1 then none else some (r, m1)) = _
    rw [show m1.1 1 2 = nI b from a]
    exact wrongB m1 b 0
theorem rls_c {n : Nat} {t : Nat → Nat} (ok : TxOk n t) : ∀ (g : Nat) (x : Ps) (Q : List Tr) (m : Mm), g + Q.length = 12 → cOk n t m x → cT m Q → rC m (bi1 (lp f_X8_read_s21 (nI Q.length, m)) readK) (rls n t g x Q) := by
  have h400 := ok.1
  intro g
  induction g with
  | zero =>
    intro x Q m hg hz hT
    obtain ⟨m1, f1, ⟨f, e1, e2, e3⟩ | ⟨e1, _⟩⟩ := cls_c ok hz (c := Q.length) (by omega)
    · exact ⟨m1, f1, Or.inl ⟨f, by unfold rls; rw [e1]; rfl, e2, e3⟩⟩
    · omega
  | succ g ih =>
    intro x Q m hg hz hT
    obtain ⟨m1, f1, ⟨f, e1, e2, e3⟩ | ⟨e1, y, i, j, e2, e3, e4, e5, e6, e7, e8⟩⟩ := cls_c ok hz (c := Q.length) (by omega)
    · exact ⟨m1, f1, Or.inl ⟨f, by unfold rls; rw [e1]; rfl, e2, e3⟩⟩
    · obtain ⟨k1, k2, k3, k4, k5, k6⟩ := e4
      obtain ⟨b, hb⟩ : ∃ b, bl n t y.1 = b := ⟨_, rfl⟩
      have hbn : b ≤ n := by rw [← hb]; exact bl_le t k3
      have hid : bl n t b = b := by rw [← hb, bl_id]
      have er : rls n t (g + 1) x Q = if n ≤ b then .inr (y.2.1, Q ++ [(i, j, y.2.1.length)]) else if t b = 59 then rls n t g (b + 1, y.2.1, y.2.2) (Q ++ [(i, j, y.2.1.length)]) else .inl (1 + 8 * b) := by
        rw [rls, e2, ← hb]
        rfl
      obtain ⟨m2, hm2⟩ : ∃ m2, wI (wI m1 24 Q.length (nI y.2.1.length)) 20 5 (nI (Q.length + 1)) = m2 := ⟨_, rfl⟩
      have o2 : cOk n t m2 y := by
        rw [← hm2]
        exact cOk_w (cOk_w ⟨k1, k2, k3, k4, k5, k6⟩ (by omega)) (by omega)
      have f2 : frG m m2 := by rw [← hm2]; exact (f1.tr (frG_w _ (by decide))).tr (frG_w _ (by decide))
      have l5 : m2.1 20 5 = nI (Q.length + 1) := by rw [← hm2, wI_at]
      have t2 : cT m2 (Q ++ [(i, j, y.2.1.length)]) := fun q hq => by
        rw [List.length_append] at hq
        have hq : q < Q.length + 1 := hq
        rw [← hm2, wI_ne (by decide), wI_ne (by decide), wI_ne (by decide), wI_ne (by decide), wI_ne (by decide)]
        by_cases z : q = Q.length
        · rw [z, tg_at, wI_at]
          exact ⟨e5, e6, rfl⟩
        · rw [tg_lt (by omega), wI_pl z, (e7 q z).1, (e7 q z).2, e8]
          exact hT q (by omega)
      have hs : f_X8_read_s21 (nI Q.length, m) = bi2 (f_X10_next m2) fun r_11 mm_9 =>
          if r_11 = (-1 : Int32) then
            some (.inr (.inr (.inr (.inr (.inr (.inl mm_9))))))
          else
            bi2 (f_X10_accept mm_9 (59 : Int32)) fun r_15 mm_13 =>
              if r_15 = 0 then
                some (.inr (.inr (.inr (.inr (.inr (.inr (.inl mm_13)))))))
              else
                some (.inl (nI (Q.length + 1), mm_13)) := by
        rw [e3]
        unfold f_X8_read_j140
        rw [if_neg (gd_ok e1 (by decide)), cl_ok (by omega), k4.1, vl_s, sN_a1, vl_s, hm2]
      rw [next_c o2.1 ok o2.2.1 (by omega), hb, bi2_s] at hs
      obtain ⟨m3, hm3⟩ : ∃ m3, wI m2 1 2 (nI b) = m3 := ⟨_, rfl⟩
      have f3 : frT m2 m3 := by rw [← hm3]; exact frT_w m2 (by decide)
      have a3 : atC m3 b := by rw [← hm3]; exact wI_at _ _ _ _
      have E3 : ∀ m4, frT m2 m4 → m4.1 20 1 = nI y.2.1.length ∧ (∀ k, k < y.2.1.length → m4.1 21 k = nI (en y.2.1 k).2 * 16 + kOf (nI (en y.2.1 k).1)) ∧ cT m4 (Q ++ [(i, j, y.2.1.length)]) ∧ m4.1 20 5 = nI (Q ++ [(i, j, y.2.1.length)]).length := fun m4 f4 => by
        have q := eC_T f4 o2.2.2.2.1
        refine ⟨q.1, q.2.1, fun z hz => ?_, ?_⟩
        · rw [f4.1 22 (by decide), f4.1 23 (by decide), f4.1 24 (by decide)]
          exact t2 z hz
        · rw [f4.1 20 (by decide), l5, List.length_append]
          rfl
      rw [hm3] at hs
      by_cases c : n ≤ b
      · rw [if_pos (show sgI n t b = -1 by unfold sgI; rw [if_neg (by omega)])] at hs
        rw [er, if_pos c, lp_end hs, bi1_s]
        obtain ⟨g1, g2, g3, g4⟩ := E3 m3 f3
        exact ⟨m3, f2.tr f3.k.l, Or.inr ⟨_, _, rfl, rfl, g1, g2, g3, g4⟩⟩
      · have sne : ¬ sgI n t b = -1 := by
          unfold sgI
          rw [if_pos (by omega)]
          exact nm1 (by have := ok.2 b (by omega); omega)
        rw [if_neg sne] at hs
        rw [er, if_neg c]
        obtain ⟨m4, f4, ⟨c1, c2, e4, a4, _⟩ | ⟨d, e4, a4⟩⟩ := acc_c (f3.tx o2.1) ok a3 (by omega) (c := 59) (by decide) hid
        · rw [show f_X10_accept m3 59 = _ from e4, bi2_s, if_neg (show ¬ (1 : Int32) = 0 by decide)] at hs
          rw [if_pos c2, lp_go hs]
          have f4' := f3.tr f4
          obtain ⟨g1, g2, g3, g4⟩ := E3 m4 f4'
          have := ih (b + 1, y.2.1, y.2.2) (Q ++ [(i, j, y.2.1.length)]) m4 (by rw [List.length_append]; show g + (Q.length + 1) = 12; omega) ⟨f4'.tx o2.1, a4, by show b + 1 ≤ n; omega, eC_T f4' o2.2.2.2.1, k5, k6⟩ g3
          rw [show (Q ++ [(i, j, y.2.1.length)]).length = Q.length + 1 by rw [List.length_append]; rfl] at this
          exact rC.tr (f2.tr f4'.k.l) this
        · rw [show f_X10_accept m3 59 = _ from e4, bi2_s, if_pos rfl] at hs
          rw [if_neg (fun z => d ⟨by omega, z⟩), lp_end hs, bi1_s]
          refine ⟨wI m4 1 4 (nI (1 + 8 * b + 0)), (f2.tr (f3.tr f4).k.l).tr (frT_w _ (by decide)).k.l, Or.inl ⟨_, rfl, ?_, wI_at _ _ _ _⟩⟩
          show (bi2 (f_X10_wrong m4 (m4.1 1 2) (0 : Int32)) fun r m1 => if ¬ r = 0 ∧ ¬ r = 1 then none else some (r, m1)) = _
          rw [show m4.1 1 2 = nI b from a4]
          exact wrongB m4 b 0
