/-! PHASE 2: river, the class's reading -/
theorem tie_b {m : Mm} {X : Bv} (hX : bC m X) (hl : X.2.2.1.length < 12) {a b s : Nat} (ha : a < 100) (hb : b < 100) : ∃ m1, f_X4_tie m 10 4 (nI a) (nI b) (nI s) = some m1 ∧ (∀ i, ¬ (4 ≤ i ∧ i < 19) → m1.1 i = m.1 i) ∧ bC m1 (X.1, (X.2.1, X.2.2.1 ++ [((if b < a then b else a), (if a < b then b else a), s)], X.2.2.2)) := by
  obtain ⟨⟨x3, x4⟩, x5, x6, x7⟩ := hX
  have e3 : m.1 10 3 = nI X.2.2.1.length := x5.2.2.1.1
  have m1 : (if nI b < nI a then nI b else nI a) = nI (if b < a then b else a) := by
    by_cases q : b < a
    · rw [if_pos q, if_pos (by rw [sN_lt (by omega) (by omega)]; exact q)]
    · rw [if_neg q, if_neg (by rw [sN_lt (by omega) (by omega)]; exact q)]
  have m2 : (if nI a < nI b then nI b else nI a) = nI (if a < b then b else a) := by
    by_cases q : a < b
    · rw [if_pos q, if_pos (by rw [sN_lt (by omega) (by omega)]; exact q)]
    · rw [if_neg q, if_neg (by rw [sN_lt (by omega) (by omega)]; exact q)]
  unfold f_X4_tie
  rw [e3, if_neg (by rw [K12, sN_le (by omega) (by omega)]; omega), if_neg (gd_ok hl (by decide)), cl_ok (by omega), vl_s, wI_ne (by decide), e3, if_neg (gd_ok hl (by decide)), cl_ok (by omega), vl_s, wI_ne (by decide), wI_ne (by decide), e3, if_neg (gd_ok hl (by decide)), cl_ok (by omega), vl_s, wI_ne (by decide), wI_ne (by decide), wI_ne (by decide), e3, sN_a1, vl_s, m1, m2]
  refine ⟨_, rfl, fun i hi => by rw [wI_ne (by omega), wI_ne (by omega), wI_ne (by omega), wI_ne (by omega)], ?_⟩
  refine ⟨⟨RvC_eq (fun j hj => by rw [wI_ne (by omega), wI_ne (by omega), wI_ne (by omega), wI_ne (by omega)]) x3, by simp [wI_get]; exact x4⟩, ⟨?_, ?_, ⟨?_, fun k hk => ?_⟩, fun o ho => ?_, fun u hu => ?_⟩, fun o ho => ?_, fun u hu => ?_⟩
  · simp [wI_get]; exact x5.1
  · simp [wI_get]; exact x5.2.1
  · simp [wI_get]
  · rw [List.length_append] at hk
    have hk : k < X.2.2.1.length + 1 := hk
    by_cases q : k = X.2.2.1.length
    · have er : rp (X.2.2.1 ++ [((if b < a then b else a), (if a < b then b else a), s)]) k = ((if b < a then b else a), (if a < b then b else a), s) := by
        unfold rp
        rw [q, List.getD_eq_getElem?_getD, List.getElem?_append_right (Nat.le_refl _), Nat.sub_self]
        rfl
      rw [er, q]
      simp [wI_get]
    · have er : rp (X.2.2.1 ++ [((if b < a then b else a), (if a < b then b else a), s)]) k = rp X.2.2.1 k := by
        unfold rp
        rw [List.getD_eq_getElem?_getD, List.getD_eq_getElem?_getD, List.getElem?_append_left (by omega)]
      rw [er]
      have := x5.2.2.1.2 k (by omega)
      simp [wI_get, q]
      exact this
  · have := x5.2.2.2.1 o ho
    simp [wI_get]; exact this
  · have := x5.2.2.2.2 u hu
    simp [wI_get]; exact this
  · have := x6 o ho
    simp [wI_get]; exact this
  · have := x7 u hu
    simp [wI_get]; exact this
theorem rd3_c {m : Mm} {n : Nat} {t : Nat → Nat} (h : TxC m n t) (ok : TxOk n t) {i : Nat} (ha : atC m i) (hi : i ≤ n) {X : Bv} (hX : bC m X) (hO : bO X) (hr : X.2.2.1.length < 12) : rdP m (f_X6_readBound m) (part n t 3 i X) := by
  have h8 := hO.1.1.2.2.1
  have e0 : nI (X.1 1 2) - 1 = zI ((X.1 1 2 : Int) - 1) := by rw [zI_n, show (1 : Int32) = zI 1 from rfl, zI_sb]
  unfold f_X6_readBound part
  rw [if_neg (by decide), if_neg (by decide), if_neg (by decide), if_pos rfl, hX.1.1.1.2.2, e0, zI_0]
  refine rdP_num h ok ha hi (by decide) (by decide) (by omega) (by omega) hX (fun v e m1 e1 t1 a1 _ z1 x1 => ?_)
  rw [x1.1.1.1.2.2, ← zI_0, e0, zI_0]
  refine rdP_num t1 ok a1 (num_ok e1).2.2.1 (by decide) (by decide) (by omega) (by omega) x1 (fun v2 e2 m2 e3 t2 a2 b2 z2 x2 => ?_)
  have n1 := num_ok e1
  have n2 := num_ok e3
  have bad : rdP m2 (f_X6_readBound_j67 m2) (.inl (2 + 8 * bl n t e)) := by
    unfold f_X6_readBound_j67
    rw [b2, K1, wrong_c, bi2_s, if_neg (fun z => z.1 rfl), show 1 + 8 * bl n t e + 1 = 2 + 8 * bl n t e by omega]
    exact ⟨_, (frT_w _ (by decide)).w, Or.inl ⟨_, rfl, rfl, wI_at _ _ _ _⟩⟩
  dsimp only
  rw [← zI_0]
  by_cases c : v2 = v
  · rw [if_pos (by rw [c]), if_pos (Or.inl c)]
    exact bad
  · rw [if_neg (by rw [sN_eq (by omega) (by omega)]; exact c), areBound_c x2.2.1 hO.1.1 hO.2.1 (by omega) (by omega), bi1_s]
    cases hb : pb (Bnd X.2.2.1 v v2)
    · rw [if_neg (show ¬ false = true by decide), if_pos rfl, if_neg (show ¬ (v2 = v ∨ false = true) from fun z => z.elim c (by decide)), show (1 : Int32) = zI 1 from rfl, show (9 : Int32) = zI 9 from rfl]
      refine rdP_num t2 ok a2 n2.2.2.1 (by decide) (by decide) (by decide) (by decide) x2 (fun v3 e4 m3 e5 t3 a3 _ z3 x3 => ?_)
      obtain ⟨m4, e6, f4, x4⟩ := tie_b x3 hr (a := v) (b := v2) (s := v3) (by omega) (by omega)
      rw [e6, bi1_s]
      exact ⟨m4, ⟨fun i hi => f4 i (fun z => hi (Or.inr z)), by rw [f4 1 (by decide)]⟩, Or.inr ⟨e4, _, rfl, rfl, by unfold atC; rw [f4 1 (by decide)]; exact a3, x4, by rw [f4 1 (by decide)]⟩⟩
    · rw [if_pos rfl, if_neg (show ¬ (1 : Int32) = 0 by decide), if_pos (Or.inr rfl)]
      exact bad
theorem rd4_c {m : Mm} {n : Nat} {t : Nat → Nat} (h : TxC m n t) (ok : TxOk n t) {i : Nat} (ha : atC m i) (hi : i ≤ n) {X : Bv} (hX : bC m X) (hO : bO X) (hr : X.1 1 3 < 6) : rdP m (f_X6_readRapid m) (part n t 4 i X) := by
  have h99 := hO.1.1.1
  unfold f_X6_readRapid part
  rw [if_neg (by decide), if_neg (by decide), if_neg (by decide), if_neg (by decide), hX.1.1.1.1, zI_n (X.1 1 0), show (1 : Int32) = zI 1 from rfl]
  refine rdP_num h ok ha hi (by decide) (by decide) (by omega) (by omega) hX (fun v e m1 e1 t1 a1 b1 z1 x1 => ?_)
  have n1 := num_ok e1
  have h6 := hO.1.1.2.2.2.2.2 v (by omega)
  have e9 : m1.1 9 v = nI (X.1 6 v) := x1.1.1.2.2.2 v (by omega)
  dsimp only
  rw [if_neg (gd_ok (show v < 100 by omega) (by decide)), cl_ok (by omega), e9]
  by_cases c : X.1 6 v = 0
  · rw [if_pos c, if_pos (by rw [c]; rfl), show (9 : Int32) = zI 9 from rfl]
    refine rdP_num t1 ok a1 n1.2.2.1 (by decide) (by decide) (by decide) (by decide) x1 (fun v2 e2 m2 e3 t2 a2 _ z2 x2 => ?_)
    obtain ⟨⟨x3, x4⟩, x5, x6, x7⟩ := x2
    rw [if_neg (show ¬ (nI v < 0 ∨ 100 ≤ v) from fun z => z.elim (nI_nn _ (by omega)) (fun y => by omega)), vl_s, wI_ne (by decide), x4, show zI 1 = (1 : Int32) from rfl, sN_a1, vl_s]
    refine ⟨_, (frW_w _ (by decide)).tr (frW_w _ (by decide)), Or.inr ⟨e2, _, rfl, rfl, ?_, ?_, ?_⟩⟩
    · unfold atC
      simp [wI_get]
      exact a2
    · refine ⟨⟨⟨⟨?_, ?_, ?_⟩, fun o ho => ?_, fun u hu => ?_, fun k hk => ?_⟩, ?_⟩, RaC_eq (mm := m2) (fun j hj => by rw [wI_ne (by omega), wI_ne (by omega)]) x5, fun o ho => ?_, fun u hu => ?_⟩
      · simp [wI_get, rapP, s2]; exact x3.1.1
      · simp [wI_get, rapP, s2]; exact x3.1.2.1
      · simp [wI_get, rapP, s2]; exact x3.1.2.2
      · have ho : o < X.1 1 1 := ho
        have := x3.2.1 o ho
        simp [wI_get, rapP, s2]; exact this
      · have hu : u < X.1 1 2 := hu
        have := x3.2.2.1 u hu
        simp [wI_get, rapP, s2]; exact this
      · have := x3.2.2.2 k hk
        by_cases q : k = v
        · rw [q]
          simp [wI_get, rapP, s2]
        · simp [wI_get, rapP, s2, q]
          exact this
      · simp [wI_get, rapP, s2]
      · have := x6 o ho
        simp [wI_get]; exact this
      · have := x7 u hu
        simp [wI_get]; exact this
    · simp [wI_get]
  · rw [if_neg c, if_neg (by rw [sN_eq0 (by omega)]; exact c), b1, show zI 1 = nI 1 from rfl, wrong_c, bi2_s, if_neg (fun z => z.1 rfl), show 1 + 8 * bl n t i + 1 = 2 + 8 * bl n t i by omega]
    exact ⟨_, (frT_w _ (by decide)).w, Or.inl ⟨_, rfl, rfl, wI_at _ _ _ _⟩⟩
/-! a clause -/
def fullX (c w : Nat) (X : Bv) : Prop := c = 40 ∨ ¬ (w = 0 ↔ c = 0) ∨ (w = 1 ∧ 6 ≤ X.1 1 1) ∨ (w = 2 ∧ 8 ≤ X.1 1 2) ∨ (w = 3 ∧ 12 ≤ X.2.2.1.length) ∨ (w = 4 ∧ 6 ≤ X.1 1 3)
noncomputable def clause (n : Nat) (t : Nat → Nat) (c i : Nat) (X : Bv) : Nat ⊕ (Nat × Bv) := match fw n t (bl n t i) (wl 0) 0 with
  | none => .inl (1 + 8 * bl n t i)
  | some w => if pb (fullX c w X) = true then .inl (5 + 8 * bl n t i) else part n t w (lte n t (bl n t i)) X
theorem fw_lt {n : Nat} {t : Nat → Nat} {i : Nat} : ∀ (l : List Sg) (w u : Nat), fw n t i l w = some u → w ≤ u ∧ u < w + l.length
  | [], w, u, h => absurd h (by simp [fw])
  | (a, b, k) :: r, w, u, h => by
    rw [show fw n t i ((a, b, k) :: r) w = if ws n t i k then some w else fw n t i r (w + 1) from rfl] at h
    rw [List.length_cons]
    by_cases c : ws n t i k = true
    · rw [if_pos c] at h
      have := Option.some.inj h
      omega
    · rw [if_neg c] at h
      have := fw_lt r (w + 1) u h
      omega
theorem clause_c {m : Mm} {n : Nat} {t : Nat → Nat} (h : TxC m n t) (ok : TxOk n t) {i : Nat} (ha : atC m i) (hi : i ≤ n) {X : Bv} (hX : bC m X) (hO : bO X) {c : Nat} (hc : c ≤ 40) : rdP m (f_X6_readClause m (nI c)) (clause n t c i X) := by
  have h4 := ok.1
  have hb := bl_le t hi
  obtain ⟨m1, f1, e1, e14, en, es⟩ := wordAmong_c h ok ha (by omega) (k := 0) (by decide)
  have hX1 : bC m1 X := bC_eq (fun j j1 j2 => f1.1 j (by omega)) hX
  have pass : ∀ res p, rdP m1 res p → rdP m res p := fun res p ⟨m2, f2, r2⟩ => ⟨m2, f1.w.tr f2, by
    rcases r2 with ⟨f, q1, q2, q3⟩ | ⟨e', X', q1, q2, q3, q4, q5⟩
    · exact Or.inl ⟨f, q1, q2, q3⟩
    · exact Or.inr ⟨e', X', q1, q2, q3, q4, by rw [q5, e14]⟩⟩
  refine pass _ _ ?_
  unfold f_X6_readClause clause
  rw [e1, bi2_s]
  cases hf : fw n t (bl n t i) (wl 0) 0 with
  | none =>
    rw [show fwI none = -1 from rfl, if_pos rfl, (en hf).1, show (0 : Int32) = nI 0 from rfl, wrong_c, bi2_s, if_neg (fun z => z.1 rfl)]
    exact ⟨_, (frT_w _ (by decide)).w, Or.inl ⟨_, rfl, rfl, by rw [wI_at, Nat.add_zero]⟩⟩
  | some w =>
    have hw5 : w < 5 := by
      have := (fw_lt _ _ _ hf).2
      have e : (wl 0).length = 5 := rfl
      omega
    obtain ⟨a1, b1⟩ := es w hf
    have t1 := f1.tx h
    have hle := (lte_ok n t (bl n t i)).2.1 hb
    rw [show fwI (some w) = nI w from rfl, if_neg (nm1 (by omega))]
    have e76 : rdP m1 (f_X6_readClause_j76 m1) (.inl (5 + 8 * bl n t i)) := by
      unfold f_X6_readClause_j76
      rw [b1, K4, wrong_c, bi2_s, if_neg (fun z => z.1 rfl), show 1 + 8 * bl n t i + 4 = 5 + 8 * bl n t i by omega]
      exact ⟨_, (frT_w _ (by decide)).w, Or.inl ⟨_, rfl, rfl, wI_at _ _ _ _⟩⟩
    have full : fullX c w X → rdP m1 (f_X6_readClause_j76 m1) (if pb (fullX c w X) = true then .inl (5 + 8 * bl n t i) else part n t w (lte n t (bl n t i)) X) := fun z => by
      rw [if_pos (pb_t z)]
      exact e76
    have wrap : ∀ res, rdP m1 res (part n t w (lte n t (bl n t i)) X) → rdP m1 (bi2 res fun r mm => if ¬ r = 0 ∧ ¬ r = 1 then none else some (r, mm)) (part n t w (lte n t (bl n t i)) X) := fun res ⟨m2, f2, r2⟩ => ⟨m2, f2, by
      rcases r2 with ⟨f, q1, q2, q3⟩ | ⟨e', X', q1, q2, q3, q4, q5⟩
      · exact Or.inl ⟨f, q1, by rw [q2, bi2_s, if_neg (fun z => z.1 rfl)], q3⟩
      · exact Or.inr ⟨e', X', q1, by rw [q2, bi2_s, if_neg (fun z => z.2 rfl)], q3, q4, q5⟩⟩
    have notf : ¬ fullX c w X → (if pb (fullX c w X) = true then (.inl (5 + 8 * bl n t i) : Nat ⊕ (Nat × Bv)) else part n t w (lte n t (bl n t i)) X) = part n t w (lte n t (bl n t i)) X := fun z => by
      rw [pb_f z, if_neg (by decide)]
    have h6 := hO.1.1.2.1
    have h8 := hO.1.1.2.2.1
    have h3 := hO.1.2.1
    have hL := hO.2.1.2.1
    have g41 : m1.1 4 1 = nI (X.1 1 1) := hX1.1.1.1.2.1
    have g42 : m1.1 4 2 = nI (X.1 1 2) := hX1.1.1.1.2.2
    have g43 : m1.1 4 3 = nI (X.1 1 3) := hX1.1.2
    have g103 : m1.1 10 3 = nI X.2.2.1.length := hX1.2.1.2.2.1.1
    have e40 : (nI c = (40 : Int32)) = (c = 40) := by rw [show (40 : Int32) = nI 40 from rfl, sN_eq (by omega) (by decide)]
    have j57 : (w = 0 ↔ c = 0) → rdP m1 (f_X6_readClause_j57 m1 (nI c) (nI w) 0) (if pb (fullX c w X) = true then .inl (5 + 8 * bl n t i) else part n t w (lte n t (bl n t i)) X) := fun hwc => by
      unfold f_X6_readClause_j57 f_X6_isFull
      by_cases q40 : c = 40
      · rw [if_pos (by rw [e40]; exact q40)]
        exact full (Or.inl q40)
      · rw [if_neg (by rw [e40]; exact q40), if_pos rfl, g41, g42, g43, g103]
        rcases (show w = 0 ∨ w = 1 ∨ w = 2 ∨ w = 3 ∨ w = 4 by omega) with rfl | rfl | rfl | rfl | rfl
        · rw [notf (by unfold fullX; omega)]
          exact wrap _ (rd0_c t1 ok a1 hle hX1)
        · by_cases q : X.1 1 1 < 6
          · rw [notf (by unfold fullX; omega), if_pos (show nI 1 = 1 from rfl), if_pos (show nI (X.1 1 1) < 6 by rw [K6, sN_lt (by omega) (by decide)]; exact q), if_pos rfl, if_pos (show nI 1 = 1 from rfl)]
            exact wrap _ (rd1_c t1 ok a1 hle hX1 hO q)
          · rw [if_pos (show nI 1 = 1 from rfl), if_neg (show ¬ nI (X.1 1 1) < 6 by rw [K6, sN_lt (by omega) (by decide)]; exact q), if_neg (show ¬ (1 : Int32) = 0 by decide)]
            exact full (by unfold fullX; omega)
        · by_cases q : X.1 1 2 < 8
          · rw [notf (by unfold fullX; omega), if_neg (show ¬ nI 2 = 1 by decide), if_pos (show nI 2 = 2 from rfl), if_pos (show nI (X.1 1 2) < 8 by rw [K8, sN_lt (by omega) (by decide)]; exact q), if_pos rfl, if_neg (show ¬ nI 2 = 1 by decide), if_pos (show nI 2 = 2 from rfl)]
            exact wrap _ (rd2_c t1 ok a1 hle hX1 hO q)
          · rw [if_neg (show ¬ nI 2 = 1 by decide), if_pos (show nI 2 = 2 from rfl), if_neg (show ¬ nI (X.1 1 2) < 8 by rw [K8, sN_lt (by omega) (by decide)]; exact q), if_neg (show ¬ (1 : Int32) = 0 by decide)]
            exact full (by unfold fullX; omega)
        · by_cases q : X.2.2.1.length < 12
          · rw [notf (by unfold fullX; omega), if_neg (show ¬ nI 3 = 1 by decide), if_neg (show ¬ nI 3 = 2 by decide), if_pos (show nI 3 = 3 from rfl), if_pos (show nI X.2.2.1.length < 12 by rw [K12, sN_lt (by omega) (by decide)]; exact q), if_pos rfl, if_neg (show ¬ nI 3 = 1 by decide), if_neg (show ¬ nI 3 = 2 by decide), if_pos (show nI 3 = 3 from rfl)]
            exact wrap _ (rd3_c t1 ok a1 hle hX1 hO q)
          · rw [if_neg (show ¬ nI 3 = 1 by decide), if_neg (show ¬ nI 3 = 2 by decide), if_pos (show nI 3 = 3 from rfl), if_neg (show ¬ nI X.2.2.1.length < 12 by rw [K12, sN_lt (by omega) (by decide)]; exact q), if_neg (show ¬ (1 : Int32) = 0 by decide)]
            exact full (by unfold fullX; omega)
        · by_cases q : X.1 1 3 < 6
          · rw [notf (by unfold fullX; omega), if_neg (show ¬ nI 4 = 1 by decide), if_neg (show ¬ nI 4 = 2 by decide), if_neg (show ¬ nI 4 = 3 by decide), if_pos (show nI 4 = 4 from rfl), if_pos (show nI (X.1 1 3) < 6 by rw [K6, sN_lt (by omega) (by decide)]; exact q), if_pos rfl, if_neg (show ¬ nI 4 = 1 by decide), if_neg (show ¬ nI 4 = 2 by decide), if_neg (show ¬ nI 4 = 3 by decide), if_pos (show nI 4 = 4 from rfl)]
            exact wrap _ (rd4_c t1 ok a1 hle hX1 hO q)
          · rw [if_neg (show ¬ nI 4 = 1 by decide), if_neg (show ¬ nI 4 = 2 by decide), if_neg (show ¬ nI 4 = 3 by decide), if_pos (show nI 4 = 4 from rfl), if_neg (show ¬ nI (X.1 1 3) < 6 by rw [K6, sN_lt (by omega) (by decide)]; exact q), if_neg (show ¬ (1 : Int32) = 0 by decide)]
            exact full (by unfold fullX; omega)
    have j571 : ¬ (w = 0 ↔ c = 0) → rdP m1 (f_X6_readClause_j57 m1 (nI c) (nI w) 1) (if pb (fullX c w X) = true then .inl (5 + 8 * bl n t i) else part n t w (lte n t (bl n t i)) X) := fun hwc => by
      unfold f_X6_readClause_j57
      rw [if_neg (show ¬ (1 : Int32) = 0 by decide)]
      have : (if nI c = (40 : Int32) then f_X6_readClause_j76 m1 else f_X6_readClause_j76 m1) = f_X6_readClause_j76 m1 := by split <;> rfl
      rw [this]
      exact full (Or.inr (Or.inl hwc))
    unfold f_X6_readClause_j40 f_X6_readClause_j49
    dsimp only
    by_cases qw : w = 0
    · rw [if_pos (show nI w = 0 by rw [qw]; rfl)]
      by_cases qc : c = 0
      · rw [if_pos (show nI c = 0 by rw [qc]; rfl), if_pos rfl]
        exact j57 (by omega)
      · rw [if_neg (show ¬ nI c = 0 by rw [sN_eq0 (by omega)]; exact qc), if_neg (show ¬ (1 : Int32) = 0 by decide)]
        exact j571 (by omega)
    · rw [if_neg (show ¬ nI w = 0 by rw [sN_eq0 (by omega)]; exact qw)]
      by_cases qc : c = 0
      · rw [if_pos (show nI c = 0 by rw [qc]; rfl), if_neg (show ¬ (0 : Int32) = 1 by decide)]
        exact j571 (by omega)
      · rw [if_neg (show ¬ nI c = 0 by rw [sN_eq0 (by omega)]; exact qc), if_pos rfl]
        exact j57 (by omega)
