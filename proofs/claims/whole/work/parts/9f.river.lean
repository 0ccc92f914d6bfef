/-! PHASE 2: river, the class's reading of all clauses -/
noncomputable def rvr (n : Nat) (t : Nat → Nat) : Nat → Nat → Nat → Bv → Nat ⊕ Bv
  | 0, _, _, _ => .inl 0
  | d + 1, c, i, X => sbd (clause n t c i X) fun q => if n ≤ bl n t q.1 then .inr q.2 else if t (bl n t q.1) = 59 then rvr n t d (c + 1) (bl n t q.1 + 1) q.2 else .inl (1 + 8 * bl n t q.1)
theorem bl_id (n : Nat) (t : Nat → Nat) (i : Nat) : bl n t (bl n t i) = bl n t i := by
  by_cases c : bl n t i < n
  · have h := bl_st c
    obtain ⟨b, hb⟩ : ∃ b, b = bl n t i := ⟨_, rfl⟩
    rw [← hb] at c h ⊢
    unfold bl
    obtain ⟨d, hd⟩ : ∃ d, n - b = d + 1 := ⟨n - b - 1, by omega⟩
    rw [hd]
    show (if decide (t b = 32) then _ else b) = b
    rw [decide_eq_false h, if_neg (by decide)]
  · exact bl_hi t (by omega)
theorem bi2_s' {α β γ : Type} (c : Prop) [Decidable c] (a1 a2 : α) (b1 b2 : β) (k : α → β → Option γ) : bi2 (some (if c then (a1, b1) else (a2, b2))) k = if c then k a1 b1 else k a2 b2 := by split <;> rfl
def okI (c : Nat) (X : Bv) : Prop := (c = 0 → X.1 1 1 = 0 ∧ X.1 1 2 = 0 ∧ X.1 1 3 = 0) ∧ (0 < c → 2 ≤ X.1 1 0)
theorem rvr_c {n : Nat} {t : Nat → Nat} (ok : TxOk n t) : ∀ (d c i : Nat) (X : Bv) (m : Mm), d + c = 40 → TxC m n t → atC m i → i ≤ n → bC m X → bO X → okI c X → ∃ m1 q, lp f_X6_read_s23 (nI c, m) = some q ∧ frW m m1 ∧ ((∃ f, rvr n t (d + 1) c i X = .inl f ∧ ((q = .inl m1 ∧ m1.1 1 4 = nI f) ∨ ∃ b, q = .inr (.inr (.inl m1)) ∧ m1.1 1 2 = nI b ∧ f = 1 + 8 * b)) ∨ ∃ X', rvr n t (d + 1) c i X = .inr X' ∧ q = .inr (.inl m1) ∧ bC m1 X' ∧ bO X' ∧ 2 ≤ X'.1 1 0) := by
  have h4 := ok.1
  intro d
  induction d with
  | zero =>
    intro c i X m hd h ha hi hX hO hI
    have e : rvr n t (0 + 1) c i X = sbd (clause n t c i X) fun q => if n ≤ bl n t q.1 then .inr q.2 else if t (bl n t q.1) = 59 then rvr n t 0 (c + 1) (bl n t q.1 + 1) q.2 else .inl (1 + 8 * bl n t q.1) := rfl
    obtain ⟨m1, f1, ⟨f, q1, q2, q3⟩ | ⟨e', X', q1, q2, q3, q4, q5⟩⟩ := clause_c h ok ha hi hX hO (c := c) (by omega)
    · refine ⟨m1, .inl m1, lp_end ?_, f1, Or.inl ⟨f, by rw [e, q1]; rfl, Or.inl ⟨rfl, q3⟩⟩⟩
      unfold f_X6_read_s23
      dsimp only
      rw [if_neg (by rw [show (40 : Int32) = nI 40 from rfl, sN_lt (by decide) (by omega)]; omega), q2, bi2_s, if_pos rfl]
    · exact absurd (show c = 40 by omega) (clause_ok hO hI.1 hI.2 q1).2.2.2
  | succ d ih =>
    intro c i X m hd h ha hi hX hO hI
    have e : rvr n t (d + 1 + 1) c i X = sbd (clause n t c i X) fun q => if n ≤ bl n t q.1 then .inr q.2 else if t (bl n t q.1) = 59 then rvr n t (d + 1) (c + 1) (bl n t q.1 + 1) q.2 else .inl (1 + 8 * bl n t q.1) := rfl
    obtain ⟨m1, f1, ⟨f, q1, q2, q3⟩ | ⟨e', X', q1, q2, q3, q4, q5⟩⟩ := clause_c h ok ha hi hX hO (c := c) (by omega)
    · refine ⟨m1, .inl m1, lp_end ?_, f1, Or.inl ⟨f, by rw [e, q1]; rfl, Or.inl ⟨rfl, q3⟩⟩⟩
      unfold f_X6_read_s23
      dsimp only
      rw [if_neg (by rw [show (40 : Int32) = nI 40 from rfl, sN_lt (by decide) (by omega)]; omega), q2, bi2_s, if_pos rfl]
    · obtain ⟨o1, o2, o3, o4⟩ := clause_ok hO hI.1 hI.2 q1
      have t1 := f1.tx h
      have hb := bl_le t o2
      obtain ⟨b, hbd⟩ : ∃ b, b = bl n t e' := ⟨_, rfl⟩
      have hid : bl n t b = b := by rw [hbd, bl_id]
      rw [← hbd] at hb
      have e2 : rvr n t (d + 1 + 1) c i X = if n ≤ b then .inr X' else if t b = 59 then rvr n t (d + 1) (c + 1) (b + 1) X' else .inl (1 + 8 * b) := by
        rw [e, q1, hbd]
        rfl
      have hn := next_c t1 ok q3 (by omega)
      rw [← hbd] at hn
      obtain ⟨m2, hm2⟩ : ∃ m2, m2 = wI m1 1 2 (nI b) := ⟨_, rfl⟩
      have f2 : frT m1 m2 := by rw [hm2]; exact frT_w _ (by decide)
      have a2 : atC m2 b := by rw [hm2]; exact wI_at _ _ _ _
      have x2 : bC m2 X' := bC_eq (fun j j1 j2 => f2.1 j (by omega)) q4
      have hac := accept_c (f2.tx t1) ok a2 (by omega) (c := 59) (by decide)
      rw [hid] at hac
      rw [← hm2] at hn
      have hs : f_X6_read_s23 (nI c, m) = if sgI n t b = (-1 : Int32) then some (.inr (.inr (.inl m2))) else bi2 (f_X10_accept m2 (59 : Int32)) fun r_18 mm_16 => if r_18 = 0 then some (.inr (.inr (.inr (.inl mm_16)))) else some (.inl ((nI c + 1), mm_16)) := by
        unfold f_X6_read_s23
        dsimp only
        rw [if_neg (by rw [show (40 : Int32) = nI 40 from rfl, sN_lt (by decide) (by omega)]; omega), q2, bi2_s, if_neg (show ¬ (1 : Int32) = 0 by decide), hn, bi2_s]
      rw [e2]
      by_cases c1 : b < n
      · rw [show sgI n t b = nI (t b) from if_pos c1, if_neg (nm1 (by have := ok.2 b c1; omega)), show (59 : Int32) = nI 59 from rfl, hac, bi2_s'] at hs
        rw [if_neg (show ¬ n ≤ b by omega)]
        by_cases c2 : t b = 59
        · rw [if_pos ⟨c1, c2⟩] at hs
          have hs : f_X6_read_s23 (nI c, m) = some (.inl (nI (c + 1), wI (wI m2 1 3 (nI b)) 1 2 (nI (b + 1)))) := by
            rw [hs, if_neg (show ¬ (1 : Int32) = 0 by decide), sN_a1]
          have f3 : frT m2 (wI (wI m2 1 3 (nI b)) 1 2 (nI (b + 1))) := (frT_w _ (by decide)).tr (frT_w _ (by decide))
          rw [if_pos c2]
          obtain ⟨m4, q, g1, g2, g3⟩ := ih (c + 1) (b + 1) X' _ (by omega) (f3.tx (f2.tx t1)) (wI_at _ _ _ _) (by omega) (bC_eq (fun j j1 j2 => f3.1 j (by omega)) x2) o1 ⟨fun z => absurd z (by omega), fun _ => o3⟩
          exact ⟨m4, q, by rw [lp_go hs, g1], f1.tr (f2.w.tr (f3.w.tr g2)), g3⟩
        · rw [if_neg (fun z => c2 z.2)] at hs
          have hs : f_X6_read_s23 (nI c, m) = some (.inr (.inr (.inr (.inl (wI m2 1 2 (nI b)))))) := by
            rw [hs, if_pos rfl]
          rw [if_neg c2]
          exact ⟨wI m2 1 2 (nI b), _, lp_end hs, f1.tr (f2.w.tr (frT_w _ (by decide)).w), Or.inl ⟨_, rfl, Or.inr ⟨b, rfl, wI_at _ _ _ _, rfl⟩⟩⟩
      · rw [show sgI n t b = -1 from if_neg c1, if_pos rfl] at hs
        rw [if_pos (show n ≤ b by omega)]
        exact ⟨m2, _, lp_end hs, f1.tr f2.w, Or.inr ⟨X', rfl, rfl, x2, o1, o3⟩⟩
/-- nothing told yet -/
def X0 : Bv := (fun _ _ => 0, (fun _ _ => 0, [], 0))
theorem X0_ok : bO X0 ∧ okI 0 X0 := by
  refine ⟨⟨⟨⟨Nat.zero_le _, Nat.zero_le _, Nat.zero_le _, fun o ho => absurd ho (Nat.not_lt_zero _), fun u hu => absurd hu (Nat.not_lt_zero _), fun k _ => Nat.zero_le _⟩, Nat.zero_le _, fun _ => ⟨rfl, rfl, rfl⟩, fun k hk => absurd hk (Nat.not_lt_zero _), fun k _ _ => rfl⟩, ⟨Nat.zero_le _, Nat.zero_le _, fun o ho => absurd ho (Nat.not_lt_zero _), fun u hu => absurd hu (Nat.not_lt_zero _), fun k hk => absurd hk (Nat.not_lt_zero _)⟩, fun _ => rfl, fun _ => rfl, fun _ => rfl⟩, fun _ => ⟨rfl, rfl, rfl⟩, fun z => absurd z (by omega)⟩
theorem clear_b {m : Mm} : ∃ m1 m2, f_X5_clear m 4 = some m1 ∧ f_X4_clear m1 10 4 = some m2 ∧ (∀ i, ¬ (4 ≤ i ∧ i < 19) → m2.1 i = m.1 i) ∧ bC m2 X0 := by
  obtain ⟨a1, e1, g1, g2⟩ := fill_c (mm := wI (wI (wI (wI m 4 0 0) 4 1 0) 4 2 0) 4 3 0) (a := 4 + 5) (n := 100) (x := 0) (by decide)
  obtain ⟨a2, e2, g3, g4⟩ := fill_c (mm := wI (wI (wI a1 10 1 0) 10 2 0) 10 3 0) (a := 10 + 1) (n := 6) (x := 0) (by decide)
  obtain ⟨a3, e3, g5, g6⟩ := fill_c (mm := a2) (a := 10 + 4) (n := 8) (x := 0) (by decide)
  obtain ⟨a4, e4, g7, g8⟩ := fill_c (mm := a3) (a := 10 + 5) (n := 8) (x := 0) (by decide)
  have G1 : ∀ i, ¬ i = 9 → a1.1 i = (wI (wI (wI (wI m 4 0 0) 4 1 0) 4 2 0) 4 3 0).1 i := fun i hi => funext fun j => g1 i j (fun z => hi z.1)
  have G2 : ∀ i, ¬ i = 11 → a2.1 i = (wI (wI (wI a1 10 1 0) 10 2 0) 10 3 0).1 i := fun i hi => funext fun j => g3 i j (fun z => hi z.1)
  have G3 : ∀ i, ¬ i = 14 → a3.1 i = a2.1 i := fun i hi => funext fun j => g5 i j (fun z => hi z.1)
  have G4 : ∀ i, ¬ i = 15 → a4.1 i = a3.1 i := fun i hi => funext fun j => g7 i j (fun z => hi z.1)
  have c4 : ∀ k, a4.1 4 k = (wI (wI (wI (wI m 4 0 0) 4 1 0) 4 2 0) 4 3 0).1 4 k := fun k => by rw [G4 4 (by decide), G3 4 (by decide), G2 4 (by decide), wI_ne (by decide), wI_ne (by decide), wI_ne (by decide), G1 4 (by decide)]
  have c10 : ∀ k, a4.1 10 k = (wI (wI (wI a1 10 1 0) 10 2 0) 10 3 0).1 10 k := fun k => by rw [G4 10 (by decide), G3 10 (by decide), G2 10 (by decide)]
  refine ⟨a1, a4, ?_, ?_, fun i hi => ?_, ?_⟩
  · unfold f_X5_clear
    rw [vl_s, vl_s, vl_s, vl_s, e1, bi1_s]
  · unfold f_X4_clear
    rw [vl_s, vl_s, vl_s, e2, bi1_s, e3, bi1_s, e4, bi1_s]
  · rw [G4 i (by omega), G3 i (by omega), G2 i (by omega), wI_ne (by omega), wI_ne (by omega), wI_ne (by omega), G1 i (by omega), wI_ne (by omega), wI_ne (by omega), wI_ne (by omega), wI_ne (by omega)]
  · refine ⟨⟨⟨⟨?_, ?_, ?_⟩, fun o ho => absurd ho (Nat.not_lt_zero _), fun u hu => absurd hu (Nat.not_lt_zero _), fun k hk => ?_⟩, ?_⟩, ⟨?_, ?_, ⟨?_, fun k hk => absurd hk (Nat.not_lt_zero _)⟩, fun o ho => absurd ho (Nat.not_lt_zero _), fun u hu => absurd hu (Nat.not_lt_zero _)⟩, fun o ho => ?_, fun u hu => ?_⟩
    · rw [c4]; simp [wI_get]; rfl
    · rw [c4]; simp [wI_get]; rfl
    · rw [c4]; simp [wI_get]; rfl
    · show a4.1 9 k = 0
      rw [G4 9 (by decide), G3 9 (by decide), G2 9 (by decide), wI_ne (by decide), wI_ne (by decide), wI_ne (by decide)]
      exact g2 k hk
    · rw [c4]; simp [wI_get]; rfl
    · rw [c10]; simp [wI_get]; rfl
    · rw [c10]; simp [wI_get]; rfl
    · rw [c10]; simp [wI_get]; rfl
    · rw [G4 11 (by decide), G3 11 (by decide)]
      exact g4 o ho
    · rw [G4 14 (by decide)]
      exact g6 u hu
theorem read_c {mm : Mm} {n : Nat} {t : Nat → Nat} (h : TxC mm n t) (ok : TxOk n t) : ∃ m1, frW mm m1 ∧ ((∃ f, rvr n t 41 0 0 X0 = .inl f ∧ f_X6_read mm = some (0, m1) ∧ m1.1 1 4 = nI f) ∨ ∃ X', rvr n t 41 0 0 X0 = .inr X' ∧ f_X6_read mm = some (1, m1) ∧ bC m1 X' ∧ bO X' ∧ 2 ≤ X'.1 1 0) := by
  have f0 : frT mm (wI (wI (wI mm 1 2 0) 1 3 0) 1 4 0) := (frT_w _ (by decide)).tr ((frT_w _ (by decide)).tr (frT_w _ (by decide)))
  obtain ⟨m1, m2, e1, e2, g, x⟩ := clear_b (m := wI (wI (wI mm 1 2 0) 1 3 0) 1 4 0)
  have f2 : frW mm m2 := f0.w.tr ⟨fun i hi => g i (by omega), by rw [g 1 (by decide)]⟩
  have a2 : atC m2 0 := by unfold atC; rw [g 1 (by decide), wI_pl (by decide), wI_pl (by decide), wI_at]; rfl
  obtain ⟨m3, q, g1, g2, g3⟩ := rvr_c ok 40 0 0 X0 m2 rfl (f2.tx h) a2 (Nat.zero_le _) x X0_ok.1 X0_ok.2
  have e0 : f_X6_read mm = bi1 (some q) fun q => match q with
        | .inl mm_21 =>
          some ((0 : Int32), mm_21)
        | .inr (.inl mm_22) =>
          some ((1 : Int32), mm_22)
        | .inr (.inr (.inl mm_23)) =>
          bi2 (f_X10_wrong mm_23 (mm_23.1 1 2) (0 : Int32)) fun r_26 mm_24 =>
            if ¬ r_26 = 0 ∧ ¬ r_26 = 1 then none else some (r_26, mm_24)
        | .inr (.inr (.inr (mm_28))) =>
          some ((0 : Int32), mm_28) := by
    unfold f_X6_read f_X10_open
    rw [vl_s, vl_s, vl_s, bi1_s, e1, bi1_s, e2, bi1_s, show ((0 : Int32), m2) = (nI 0, m2) from rfl, g1]
    rfl
  rw [e0, bi1_s]
  rcases g3 with ⟨f, r1, ⟨rfl, r2⟩ | ⟨b, rfl, r2, rfl⟩⟩ | ⟨X', r1, rfl, r2, r3, r4⟩
  · exact ⟨m3, f2.tr g2, Or.inl ⟨f, r1, rfl, r2⟩⟩
  · refine ⟨wI m3 1 4 (nI (1 + 8 * b)), f2.tr (g2.tr (frT_w _ (by decide)).w), Or.inl ⟨_, r1, ?_, wI_at _ _ _ _⟩⟩
    dsimp only
    rw [r2, show (0 : Int32) = nI 0 from rfl, wrong_c, bi2_s, if_neg (fun z => z.1 rfl), Nat.add_zero]
    rfl
  · exact ⟨m3, f2.tr g2, Or.inr ⟨X', r1, rfl, r2, r3, r4⟩⟩
