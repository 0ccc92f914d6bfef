/-! PHASE 2: river, the reference's reading of all clauses -/
theorem goesX {m : Mm} {n : Nat} {t : Nat → Nat} (h : TxF m n t) (ok : TxOk n t) {f : Nat} (hf : flt m f) : ∃ m1, f_X12_goesOn m = some (0, m1) ∧ frU m m1 ∧ m1.1 1088 33 = nI f := by
  obtain ⟨j, j1, j2⟩ := hf.2.2.2
  have hz : ¬ (wI m 1088 32 (nI (bl n t j))).1 1088 33 = 0 := by rw [wI_pl (by decide)]; exact flt_ne hf
  refine ⟨wI (wI m 1088 32 (nI (bl n t j))) 1088 32 (nI (bl n t j + 1)), ?_, (frU_w m (Or.inl rfl)).tr (frU_w _ (Or.inl rfl)), by rw [wI_pl (by decide), wI_pl (by decide)]; exact hf.1⟩
  unfold f_X12_goesOn f_X12_goesOn_j40 f_X12_goesOn_j62 f_X12_goesOn_j63
  rw [blanks_f h ok j2 j1, bi1_s, if_neg hz, if_neg hz, wI_at, sN_a1, vl_s, if_neg (fun z => z.1 rfl)]
theorem goesOn_f {m : Mm} {n : Nat} {t : Nat → Nat} (h : TxF m n t) (ok : TxOk n t) {e : Nat} (ha : m.1 1088 32 = nI e) (he : e ≤ n) (h0 : m.1 1088 33 = 0) : ∃ m1, frU m m1 ∧ ((n ≤ bl n t e ∧ f_X12_goesOn m = some (0, m1) ∧ m1.1 1088 33 = 0) ∨ (bl n t e < n ∧ t (bl n t e) = 59 ∧ f_X12_goesOn m = some (1, m1) ∧ m1.1 1088 33 = 0 ∧ m1.1 1088 32 = nI (bl n t e + 1)) ∨ (bl n t e < n ∧ ¬ t (bl n t e) = 59 ∧ f_X12_goesOn m = some (0, m1) ∧ m1.1 1088 33 = nI (1 + 8 * bl n t e))) := by
  have h4 := ok.1
  have hb := bl_le t he
  obtain ⟨b, hbd⟩ : ∃ b, b = bl n t e := ⟨_, rfl⟩
  rw [← hbd] at hb ⊢
  obtain ⟨m0, hm0⟩ : ∃ m0, m0 = wI m 1088 32 (nI b) := ⟨_, rfl⟩
  have f0 : frU m m0 := by rw [hm0]; exact frU_w m (Or.inl rfl)
  have a0 : m0.1 1088 32 = nI b := by rw [hm0, wI_at]
  have z0 : m0.1 1088 33 = 0 := by rw [hm0, wI_pl (by decide)]; exact h0
  have tx0 := f0.tx h
  have j63 : ∀ (m' : Mm) (r : Int32), m'.1 1088 32 = nI b → (r = 0 ∨ r = 1) → f_X12_goesOn_j63 m' r = some (r, wI m' 1088 32 (nI (b + 1))) := fun m' r hm hr => by
    unfold f_X12_goesOn_j63
    rw [hm, sN_a1, vl_s, if_neg (fun z => hr.elim z.1 z.2)]
  unfold f_X12_goesOn
  rw [blanks_f h ok ha (by omega), bi1_s, ← hbd, ← hm0, if_pos z0, tx0.1, a0]
  by_cases c : n ≤ b
  · rw [if_pos (by rw [sN_le (by omega) (by omega)]; exact c)]
    unfold f_X12_goesOn_j40 f_X12_goesOn_j62
    rw [if_pos z0, tx0.1, a0, if_pos (by rw [sN_le (by omega) (by omega)]; exact c), j63 m0 0 a0 (Or.inl rfl)]
    exact ⟨_, f0.tr (frU_w m0 (Or.inl rfl)), Or.inl ⟨c, rfl, by rw [wI_pl (by decide)]; exact z0⟩⟩
  · rw [if_neg (by rw [sN_le (by omega) (by omega)]; exact c), sign_f tx0 ok a0 (by omega), bi1_s]
    by_cases d : t b = 59
    · rw [if_pos (by rw [show (59 : Int32) = nI 59 from rfl, sgI_eq ok (by decide)]; exact ⟨by omega, d⟩)]
      unfold f_X12_goesOn_j40
      rw [if_pos z0, tx0.1, a0, if_neg (by rw [sN_le (by omega) (by omega)]; exact c), j63 m0 1 a0 (Or.inr rfl)]
      exact ⟨_, f0.tr (frU_w m0 (Or.inl rfl)), Or.inr (Or.inl ⟨by omega, d, rfl, by rw [wI_pl (by decide)]; exact z0, wI_at _ _ _ _⟩)⟩
    · rw [if_neg (by rw [show (59 : Int32) = nI 59 from rfl, sgI_eq ok (by decide)]; exact fun z => d z.2), show (0 : Int32) = nI 0 from rfl, fails_0 b 0 z0, bi1_s, Nat.add_zero]
      unfold f_X12_goesOn_j40 f_X12_goesOn_j62
      rw [if_neg (show ¬ (wI m0 1088 33 (nI (1 + 8 * b))).1 1088 33 = 0 by rw [wI_at]; exact nz_ne (by omega) (by omega)), j63 _ 0 (by rw [wI_pl (by decide)]; exact a0) (Or.inl rfl)]
      exact ⟨_, f0.tr ((frU_w m0 (Or.inr rfl)).tr (frU_w _ (Or.inl rfl))), Or.inr (Or.inr ⟨by omega, d, rfl, by rw [wI_pl (by decide), wI_at]⟩)⟩
theorem rvr_f {n : Nat} {t : Nat → Nat} (ok : TxOk n t) : ∀ (d c i : Nat) (X : Bv) (m : Mm), d + c = 40 → TxF m n t → m.1 1088 32 = nI i → i ≤ n → m.1 1088 33 = 0 → bF m X → bO X → okI c X → ∃ m1, lp f_X12_readsAll_s29 (nI c, (1 : Int32), m) = some m1 ∧ frV m m1 ∧ ((∃ f, rvr n t (d + 1) c i X = .inl f ∧ m1.1 1088 33 = nI f ∧ 1 ≤ f ∧ f < 5000) ∨ ∃ X', rvr n t (d + 1) c i X = .inr X' ∧ m1.1 1088 33 = 0 ∧ bF m1 X') := by
  have h4 := ok.1
  have stop : ∀ (x : Int32) (m : Mm), lp f_X12_readsAll_s29 (x, (0 : Int32), m) = some m := fun x m => lp_end (by
    unfold f_X12_readsAll_s29
    dsimp only
    rw [if_pos rfl])
  intro d
  induction d with
  | zero =>
    intro c i X m hd h ha hi h0 hX hO hI
    have e : rvr n t (0 + 1) c i X = sbd (clause n t c i X) fun q => if n ≤ bl n t q.1 then .inr q.2 else if t (bl n t q.1) = 59 then rvr n t 0 (c + 1) (bl n t q.1 + 1) q.2 else .inl (1 + 8 * bl n t q.1) := rfl
    rcases clause_f h ok ha hi h0 hX hO (c := c) (by omega) with ⟨f, q1, m1, q2, q3, q4⟩ | ⟨m1, e', X', q1, q2, q3, q4, q5, q6⟩
    · obtain ⟨m2, g1, g2, g3⟩ := goesX (q3.tx h) ok q4
      have hs : f_X12_readsAll_s29 (nI c, (1 : Int32), m) = some (.inl (nI c + 1, (0 : Int32), m2)) := by
        unfold f_X12_readsAll_s29
        dsimp only
        rw [if_neg (show ¬ (1 : Int32) = 0 by decide), q2, bi1_s, g1, bi2_s]
      exact ⟨m2, by rw [lp_go hs, stop], q3.tr g2.v, Or.inl ⟨f, by rw [e, q1]; rfl, g3, q4.2.1, q4.2.2.1⟩⟩
    · exact absurd (show c = 40 by omega) (clause_ok hO hI.1 hI.2 q1).2.2.2
  | succ d ih =>
    intro c i X m hd h ha hi h0 hX hO hI
    have e : rvr n t (d + 1 + 1) c i X = sbd (clause n t c i X) fun q => if n ≤ bl n t q.1 then .inr q.2 else if t (bl n t q.1) = 59 then rvr n t (d + 1) (c + 1) (bl n t q.1 + 1) q.2 else .inl (1 + 8 * bl n t q.1) := rfl
    rcases clause_f h ok ha hi h0 hX hO (c := c) (by omega) with ⟨f, q1, m1, q2, q3, q4⟩ | ⟨m1, e', X', q1, q2, q3, q4, q5, q6⟩
    · obtain ⟨m2, g1, g2, g3⟩ := goesX (q3.tx h) ok q4
      have hs : f_X12_readsAll_s29 (nI c, (1 : Int32), m) = some (.inl (nI c + 1, (0 : Int32), m2)) := by
        unfold f_X12_readsAll_s29
        dsimp only
        rw [if_neg (show ¬ (1 : Int32) = 0 by decide), q2, bi1_s, g1, bi2_s]
      exact ⟨m2, by rw [lp_go hs, stop], q3.tr g2.v, Or.inl ⟨f, by rw [e, q1]; rfl, g3, q4.2.1, q4.2.2.1⟩⟩
    · obtain ⟨o1, o2, o3, o4⟩ := clause_ok hO hI.1 hI.2 q1
      have tx1 := q3.tx h
      have e2 : rvr n t (d + 1 + 1) c i X = if n ≤ bl n t e' then .inr X' else if t (bl n t e') = 59 then rvr n t (d + 1) (c + 1) (bl n t e' + 1) X' else .inl (1 + 8 * bl n t e') := by
        rw [e, q1]
        rfl
      obtain ⟨m2, f2, g⟩ := goesOn_f tx1 ok q4 o2 q5
      have x2 : bF m2 X' := bF_eq (fun c c1 c2 => f2.1 c (by omega)) q6
      have hs : ∀ r, f_X12_goesOn m1 = some (r, m2) → f_X12_readsAll_s29 (nI c, (1 : Int32), m) = some (.inl (nI (c + 1), r, m2)) := fun r hr => by
        unfold f_X12_readsAll_s29
        dsimp only
        rw [if_neg (show ¬ (1 : Int32) = 0 by decide), q2, bi1_s, hr, bi2_s, sN_a1]
      rw [e2]
      rcases g with ⟨c1, g1, g2⟩ | ⟨c1, c2, g1, g2, g3⟩ | ⟨c1, c2, g1, g2⟩
      · rw [if_pos c1]
        exact ⟨m2, by rw [lp_go (hs 0 g1), stop], q3.tr f2.v, Or.inr ⟨X', rfl, g2, x2⟩⟩
      · rw [if_neg (by omega), if_pos c2]
        obtain ⟨m4, k1, k2, k3⟩ := ih (c + 1) (bl n t e' + 1) X' m2 (by omega) (f2.tx tx1) g3 (by omega) g2 x2 o1 ⟨fun z => absurd z (by omega), fun _ => o3⟩
        exact ⟨m4, by rw [lp_go (hs 1 g1), k1], q3.tr (f2.v.tr k2), k3⟩
      · rw [if_neg (by omega), if_neg c2]
        exact ⟨m2, by rw [lp_go (hs 0 g1), stop], q3.tr f2.v, Or.inl ⟨_, rfl, g2, by omega, by omega⟩⟩
def frY (m m1 : Mm) : Prop := (∀ i, ¬ i = 1088 → ¬ (1107 ≤ i ∧ i < 1119) → m1.1 i = m.1 i) ∧ ∀ k, ¬ (k = 31 ∨ k = 32 ∨ k = 33 ∨ k = 36 ∨ k = 37 ∨ k = 38) → m1.1 1088 k = m.1 1088 k
theorem readsAll_f {mm : Mm} {n : Nat} {t : Nat → Nat} (h : TxF mm n t) (ok : TxOk n t) : ∃ m1, f_X12_readsAll mm = some m1 ∧ frY mm m1 ∧ m1.1 1088 31 = 0 ∧ ((∃ f, rvr n t 41 0 0 X0 = .inl f ∧ m1.1 1088 33 = nI f ∧ 1 ≤ f ∧ f < 5000) ∨ ∃ X', rvr n t 41 0 0 X0 = .inr X' ∧ m1.1 1088 33 = 0 ∧ bF m1 X') := by
  obtain ⟨a, ha⟩ : ∃ a, a = wI (wI (wI (wI (wI mm 1088 32 0) 1088 33 0) 1088 36 0) 1088 37 0) 1088 38 0 := ⟨_, rfl⟩
  have fa : ∀ i, ¬ i = 1088 → a.1 i = mm.1 i := fun i hi => by rw [ha, wI_ne hi, wI_ne hi, wI_ne hi, wI_ne hi, wI_ne hi]
  have fk : ∀ k, ¬ (k = 31 ∨ k = 32 ∨ k = 33 ∨ k = 36 ∨ k = 37 ∨ k = 38) → a.1 1088 k = mm.1 1088 k := fun k hk => by rw [ha, wI_pl (by omega), wI_pl (by omega), wI_pl (by omega), wI_pl (by omega), wI_pl (by omega)]
  have fa31 : a.1 1088 31 = mm.1 1088 31 := by rw [ha, wI_pl (by decide), wI_pl (by decide), wI_pl (by decide), wI_pl (by decide), wI_pl (by decide)]
  obtain ⟨b, e1, g1, g2⟩ := row_loop (st := f_X12_readsAll_s6) (mm := a) (fun i => i = 1107) (fun _ _ => 0) 6 (fun k m hk hm => by
    unfold f_X12_readsAll_s6
    dsimp only
    rw [if_neg (by rw [K6, sN_le (by omega) (by omega)]; omega), if_neg (gd_ok hk (by decide)), cl_ok (by omega), vl_s, sN_a1]
    exact ⟨_, rfl, fun i j hj => by rw [wI_get, if_neg (fun z => hj z)], fun i hi => by rw [hi, wI_at]⟩) (fun m hm => by
    unfold f_X12_readsAll_s6
    dsimp only
    rw [if_pos (by decide)])
  have gb : ∀ i, ¬ i = 1107 → b.1 i = a.1 i := fun i hi => funext fun j => g1 i j (fun z => hi z.1)
  have txb : TxF b n t := ⟨by rw [gb 1088 (by decide), fa31]; exact h.1, fun k hk => by rw [gb 1119 (by decide), fa 1119 (by decide)]; exact h.2 k hk⟩
  have z : ∀ k, k < 6 → b.1 1107 k = 0 := fun k hk => g2 1107 k rfl hk
  have xb : bF b X0 := ⟨⟨z 0 (by decide), z 1 (by decide), z 2 (by decide), z 3 (by decide), z 5 (by decide)⟩, ⟨z 4 (by decide), fun k hk => absurd hk (Nat.not_lt_zero _)⟩, fun o ho => absurd ho (Nat.not_lt_zero _), fun u hu => absurd hu (Nat.not_lt_zero _), fun k hk => absurd hk (Nat.not_lt_zero _)⟩
  obtain ⟨m2, k1, k2, k3⟩ := rvr_f ok 40 0 0 X0 b rfl txb (by rw [gb 1088 (by decide), ha, wI_pl (by decide), wI_pl (by decide), wI_pl (by decide), wI_pl (by decide), wI_at]; rfl) (Nat.zero_le _) (by rw [gb 1088 (by decide), ha, wI_pl (by decide), wI_pl (by decide), wI_pl (by decide), wI_at]) xb X0_ok.1 X0_ok.2
  refine ⟨wI m2 1088 31 0, ?_, ⟨fun i i1 i2 => by rw [wI_ne i1, k2.1 i i1 i2, gb i (by omega), fa i i1], fun k hk => by rw [wI_pl (by omega), k2.2 k (by omega) (by omega), gb 1088 (by decide), fk k hk]⟩, wI_at _ _ _ _, ?_⟩
  · unfold f_X12_readsAll f_X12_starts
    rw [vl_s, vl_s, vl_s, vl_s, vl_s, bi1_s, ← ha, e1, bi1_s, show ((0 : Int32), (1 : Int32), b) = (nI 0, (1 : Int32), b) from rfl, k1, bi1_s, vl_s]
  · rcases k3 with ⟨f, r1, r2, r3⟩ | ⟨X', r1, r2, r3⟩
    · exact Or.inl ⟨f, r1, by rw [wI_pl (by decide)]; exact r2, r3⟩
    · exact Or.inr ⟨X', r1, by rw [wI_pl (by decide)]; exact r2, bF_eq (fun c c1 c2 => wI_ne (by omega)) r3⟩
