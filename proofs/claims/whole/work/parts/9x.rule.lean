/-! PHASE 2: rule, the reference's tests -/
def frH (u : Nat) (m m1 : Mm) : Prop := (∀ i, ¬ (i = 1088 ∨ i = 1120 ∨ i = 1121 ∨ i = 1126) → m1.1 i = m.1 i) ∧ (∀ k, ¬ (k = 32 ∨ k = 33 ∨ k = 36 ∨ k = 37 ∨ k = 38 ∨ k = 39) → m1.1 1088 k = m.1 1088 k) ∧ ∀ k, k < 300 * u → m1.1 1120 k = m.1 1120 k ∧ m1.1 1121 k = m.1 1121 k
theorem frH.tr {u : Nat} {a b c : Mm} (h1 : frH u a b) (h2 : frH u b c) : frH u a c := ⟨fun i hi => (h2.1 i hi).trans (h1.1 i hi), fun k hk => (h2.2.1 k hk).trans (h1.2.1 k hk), fun k hk => ⟨(h2.2.2 k hk).1.trans (h1.2.2 k hk).1, (h2.2.2 k hk).2.trans (h1.2.2 k hk).2⟩⟩
theorem frH.rf (u : Nat) (m : Mm) : frH u m m := ⟨fun _ _ => rfl, fun _ _ => rfl, fun _ _ => ⟨rfl, rfl⟩⟩
theorem frJ.h {u : Nat} {m m1 : Mm} (h : frJ u m m1) : frH u m m1 := ⟨fun i hi => h.1 i (by omega), fun k hk => h.2.1 k (by omega), h.2.2⟩
/-- only the stack and the depth differ -/
def frS (m m1 : Mm) : Prop := (∀ i, ¬ (i = 1088 ∨ i = 1126) → m1.1 i = m.1 i) ∧ ∀ k, ¬ (k = 37 ∨ k = 39) → m1.1 1088 k = m.1 1088 k
theorem frS.tr {a b c : Mm} (h1 : frS a b) (h2 : frS b c) : frS a c := ⟨fun i hi => (h2.1 i hi).trans (h1.1 i hi), fun k hk => (h2.2 k hk).trans (h1.2 k hk)⟩
theorem frS.h {u : Nat} {m m1 : Mm} (h : frS m m1) : frH u m m1 := ⟨fun i hi => h.1 i (by omega), fun k hk => h.2 k (by omega), fun k _ => by rw [h.1 1120 (by decide), h.1 1121 (by decide)]; exact ⟨rfl, rfl⟩⟩
theorem frS_w (m : Mm) {k : Nat} {x : Int32} (h : k = 37 ∨ k = 39) : frS m (wI m 1088 k x) := ⟨fun i hi => wI_ne (by omega), fun j hj => wI_pl (by omega)⟩
theorem frS_w2 (m : Mm) {k : Nat} {x : Int32} : frS m (wI m 1126 k x) := ⟨fun i hi => wI_ne (by omega), fun j hj => by rw [wI_ne (by decide)]⟩
theorem fOk_S {n : Nat} {t : Nat → Nat} {u : Nat} {m m1 : Mm} {x : Ps} (f : frS m m1) (h : fOk n t u m x) : fOk n t u m1 x := by
  obtain ⟨⟨h1, h1'⟩, h2, h3, h4, h5, ⟨h6, h6', h6'', h6'''⟩, h7, h8⟩ := h
  refine ⟨⟨by rw [f.2 31 (by decide)]; exact h1, fun k hk => by rw [f.1 1119 (by decide)]; exact h1' k hk⟩, by rw [f.2 40 (by decide)]; exact h2, by rw [f.2 32 (by decide)]; exact h3, h4, by rw [f.2 33 (by decide)]; exact h5, ⟨by rw [f.2 36 (by decide)]; exact h6, by rw [f.2 34 (by decide)]; exact h6', fun k hk => by rw [f.1 1120 (by decide), f.1 1121 (by decide)]; exact h6'' k hk, by rw [f.2 38 (by decide)]; exact h6'''⟩, h7, h8⟩
def stk (m : Mm) (S : List Nat) (d : Nat) : Prop := m.1 1088 39 = nI S.length ∧ (∀ k, k < S.length → m.1 1126 k = nI (S.getD (S.length - 1 - k) 0)) ∧ m.1 1088 37 = nI d
theorem stk_J {u : Nat} {m m1 : Mm} {S : List Nat} {d : Nat} (f : frJ u m m1) (h : stk m S d) : stk m1 S d := ⟨by rw [f.2.1 39 (by decide)]; exact h.1, fun k hk => by rw [f.1 1126 (by decide)]; exact h.2.1 k hk, by rw [f.2.1 37 (by decide)]; exact h.2.2⟩
def topI : List Nat → Int32
  | [] => -1
  | a :: _ => nI a
theorem top_f {m : Mm} {S : List Nat} {d : Nat} (h : stk m S d) (hl : S.length ≤ 401) : f_X12_top m = some (topI S) := by
  unfold f_X12_top
  rw [h.1]
  cases S with
  | nil => exact if_pos rfl
  | cons a T =>
    have hl : T.length + 1 ≤ 401 := hl
    show (if nI (T.length + 1) = 0 then _ else _) = _
    rw [if_neg (by rw [show (0 : Int32) = nI 0 from rfl, sN_eq (by omega) (by decide)]; omega)]
    show (if nI (T.length + 1) - 1 < 0 ∨ 402 ≤ (nI (T.length + 1) - 1).toNatClampNeg then none else some (m.1 1126 (nI (T.length + 1) - 1).toNatClampNeg)) = _
    rw [nI_s1, if_neg (gd_ok (show T.length < 402 by omega) (by decide)), cl_ok (by omega), h.2.1 T.length (by show T.length < T.length + 1; omega)]
    show some (nI ((a :: T).getD (T.length + 1 - 1 - T.length) 0)) = _
    rw [show T.length + 1 - 1 - T.length = 0 by omega]
    rfl
theorem stk_cons {m : Mm} {a : Nat} {S : List Nat} {d : Nat} (h : stk m (a :: S) d) : ∀ k, k < S.length → m.1 1126 k = nI (S.getD (S.length - 1 - k) 0) := fun k hk => by
  have := h.2.1 k (by show k < S.length + 1; omega)
  rw [this, show (a :: S).length - 1 - k = (S.length - 1 - k) + 1 by show S.length + 1 - 1 - k = _; omega]
  rfl
theorem push_f {m : Mm} {S : List Nat} {d : Nat} (h : stk m S d) (hl : S.length ≤ 400) (a : Nat) : ∃ m1, f_X12_opens_j40 m (nI a) = some m1 ∧ frS m m1 ∧ stk m1 (a :: S) d := by
  unfold f_X12_opens_j40
  rw [h.1, if_neg (gd_ok (show S.length < 402 by omega) (by decide)), cl_ok (by omega), vl_s, wI_ne (by decide), h.1, sN_a1, vl_s]
  refine ⟨_, rfl, (frS_w2 m).tr (frS_w _ (by omega)), wI_at _ _ _ _, fun k hk => ?_, by rw [wI_pl (by decide), wI_ne (by decide)]; exact h.2.2⟩
  have hk : k < S.length + 1 := hk
  rw [wI_ne (by decide)]
  by_cases q : k = S.length
  · rw [q, wI_at]
    show nI a = nI ((a :: S).getD (S.length + 1 - 1 - S.length) 0)
    rw [show S.length + 1 - 1 - S.length = 0 by omega]
    rfl
  · rw [wI_pl q, h.2.1 k (by omega), show (a :: S).length - 1 - k = (S.length - 1 - k) + 1 by show S.length + 1 - 1 - k = _; omega]
    rfl
theorem opens_1 {m : Mm} {S : List Nat} {d : Nat} (h : stk m S d) (hl : S.length ≤ 400) {a : Nat} (ha : a = 10 ∨ a = 11) : ∃ m1, f_X12_opens m (nI a) = some m1 ∧ frS m m1 ∧ stk m1 (a :: S) d := by
  obtain ⟨m1, e, f, s⟩ := push_f h hl a
  refine ⟨m1, ?_, f, s⟩
  unfold f_X12_opens
  rw [if_neg (by rcases ha with q | q <;> rw [q] <;> decide), if_neg (by rcases ha with q | q <;> rw [q] <;> decide)]
  exact e
theorem opens_2 {m : Mm} {S : List Nat} {d : Nat} (h : stk m S d) (hl : S.length ≤ 400) {a : Nat} (ha : a = 9 ∨ a = 12) (hd : d < 10) : ∃ m1, f_X12_opens m (nI a) = some m1 ∧ frS m m1 ∧ stk m1 (a :: S) (d + 1) := by
  have h' : stk (wI m 1088 37 (nI (d + 1))) S (d + 1) := ⟨by rw [wI_pl (by decide)]; exact h.1, fun k hk => by rw [wI_ne (by decide)]; exact h.2.1 k hk, wI_at _ _ _ _⟩
  obtain ⟨m1, e, f, s⟩ := push_f h' hl a
  refine ⟨m1, ?_, (frS_w m (by omega)).tr f, s⟩
  have J : f_X12_opens_j12 m (nI a) = some m1 := by
    unfold f_X12_opens_j12 f_X12_opens_j30
    rw [h.2.2, if_neg (by rw [show (10 : Int32) = nI 10 from rfl, sN_eq (by omega) (by decide)]; omega), sN_a1, vl_s]
    exact e
  unfold f_X12_opens
  by_cases q : nI a = 9
  · rw [if_pos q]
    exact J
  · rw [if_neg q, if_pos (by rcases ha with z | z; exact absurd (by rw [z]; rfl) q; rw [z]; rfl)]
    exact J
theorem opens_x {m : Mm} {S : List Nat} (h : stk m S 10) (hl : S.length ≤ 400) {a b : Nat} (ha : a = 9 ∨ a = 12) (h0 : m.1 1088 33 = 0) (hb : m.1 1088 32 = nI b) (hbn : b ≤ 400) : ∃ m1, f_X12_opens m (nI a) = some m1 ∧ (∀ u, frH u m m1) ∧ flB 400 m1 (3 + 8 * b) ∧ m1.1 1088 32 = nI b := by
  have h' : stk (wI (wI m 1088 33 (nI (1 + 8 * b + 2))) 1088 37 (nI 11)) S 11 := ⟨by rw [wI_pl (by decide), wI_pl (by decide)]; exact h.1, fun k hk => by rw [wI_ne (by decide), wI_ne (by decide)]; exact h.2.1 k hk, wI_at _ _ _ _⟩
  obtain ⟨m1, e, f, s⟩ := push_f h' hl a
  have fw : ∀ u, frH u m (wI m 1088 33 (nI (1 + 8 * b + 2))) := fun u => (frJ_w m (by omega)).h
  have fs : frS (wI m 1088 33 (nI (1 + 8 * b + 2))) m1 := (frS_w _ (by omega)).tr f
  have p32 : m1.1 1088 32 = nI b := by rw [fs.2 32 (by decide), wI_pl (by decide)]; exact hb
  refine ⟨m1, ?_, fun u => (fw u).tr fs.h, ⟨by rw [fs.2 33 (by decide), wI_at, show 1 + 8 * b + 2 = 3 + 8 * b by omega], by omega, by omega, b, hbn, p32⟩, p32⟩
  have J : f_X12_opens_j12 m (nI a) = some m1 := by
    unfold f_X12_opens_j12 f_X12_opens_j30
    rw [h.2.2, if_pos (by decide), hb, K2, fails_0 b 2 h0, bi1_s, wI_pl (by decide), h.2.2, sN_a1, vl_s]
    exact e
  unfold f_X12_opens
  by_cases q : nI a = 9
  · rw [if_pos q]
    exact J
  · rw [if_neg q, if_pos (by rcases ha with z | z; exact absurd (by rw [z]; rfl) q; rw [z]; rfl)]
    exact J
theorem ans_stop {m : Mm} {S : List Nat} {d : Nat} {y : Int32} (h : stk m S d) (hl : S.length ≤ 401) (hn : ¬ topI S = y) : lp (f_X12_answers_s0 y) m = some m := lp_end (by
  unfold f_X12_answers_s0
  rw [top_f h hl, bi1_s, if_neg hn])
theorem ans_step {n : Nat} {t : Nat → Nat} {u : Nat} (hu : u < 6) {m : Mm} {x : Ps} {S : List Nat} {a d e : Nat} (hx : fOk n t u m x) (h : stk m (a :: S) d) (hl : S.length ≤ 400) (hc : 3 * (x.2.1.length + 1) ≤ 14 * x.2.2) (he : (a = 9 ∧ d = e + 1) ∨ (¬ a = 9 ∧ a < 100 ∧ d = e)) : ∃ m1, f_X12_answers_s0 (nI a) m = some (.inl m1) ∧ frH u m m1 ∧ fOk n t u m1 (apE x [(a, 0)]) ∧ stk m1 S e := by
  obtain ⟨m1, e1, e2, e3⟩ := fOk_e hu hx a hc
  have h1 := stk_J e2 h
  unfold f_X12_answers_s0
  rw [top_f h (by show S.length + 1 ≤ 401; omega), bi1_s, if_pos (show topI (a :: S) = nI a from rfl), if_pos hx.2.2.2.2.1, e1, bi1_s, h1.1, show nI (a :: S).length - 1 = nI S.length from nI_s1 _, vl_s, wI_pl (by decide), h1.2.2]
  unfold f_X12_answers_j47
  rcases he with ⟨q1, q2⟩ | ⟨q1, q2, q3⟩
  · rw [if_pos (by rw [q1]; rfl), q2, nI_s1, vl_s]
    have fs : frS m1 (wI (wI m1 1088 39 (nI S.length)) 1088 37 (nI e)) := (frS_w m1 (by omega)).tr (frS_w _ (by omega))
    exact ⟨_, rfl, e2.h.tr fs.h, fOk_S fs e3, by rw [wI_pl (by decide), wI_at], fun k hk => by rw [wI_ne (by decide), wI_ne (by decide)]; exact stk_cons h1 k hk, wI_at _ _ _ _⟩
  · rw [if_neg (by rw [K9, sN_eq (by omega) (by decide)]; exact q1), q3, show nI e - 0 = nI e from by rw [show (0 : Int32) = nI 0 from rfl, nI_sub' (Nat.zero_le _)]; rfl, vl_s]
    have fs : frS m1 (wI (wI m1 1088 39 (nI S.length)) 1088 37 (nI e)) := (frS_w m1 (by omega)).tr (frS_w _ (by omega))
    exact ⟨_, rfl, e2.h.tr fs.h, fOk_S fs e3, by rw [wI_pl (by decide), wI_at], fun k hk => by rw [wI_ne (by decide), wI_ne (by decide)]; exact stk_cons h1 k hk, wI_at _ _ _ _⟩
theorem ans_9 {n : Nat} {t : Nat → Nat} {u : Nat} (hu : u < 6) {S : List Nat} {d : Nat} (hS : ¬ topI S = nI 9) : ∀ (j : Nat) (m : Mm) (x : Ps), fOk n t u m x → stk m (List.replicate j 9 ++ S) (d + j) → S.length + j ≤ 400 → 3 * (x.2.1.length + j) ≤ 14 * x.2.2 → ∃ m1, lp (f_X12_answers_s0 9) m = some m1 ∧ frH u m m1 ∧ fOk n t u m1 (apE x (List.replicate j (9, 0))) ∧ stk m1 S d
  | 0, m, x, hx, hs, hl, hc => by
    have hs : stk m S d := hs
    exact ⟨m, ans_stop hs (by omega) hS, frH.rf _ _, by unfold apE; rw [List.replicate_zero, List.append_nil]; exact hx, hs⟩
  | j + 1, m, x, hx, hs, hl, hc => by
    rw [List.replicate_succ, List.cons_append] at hs
    obtain ⟨m1, e1, e2, e3, e4⟩ := ans_step hu hx hs (by rw [List.length_append, List.length_replicate]; omega) (by omega) (e := d + j) (Or.inl ⟨rfl, by omega⟩)
    obtain ⟨m2, g1, g2, g3, g4⟩ := ans_9 hu hS j m1 (apE x [(9, 0)]) e3 e4 (by omega) (by show 3 * ((x.2.1 ++ [(9, 0)]).length + j) ≤ 14 * x.2.2; rw [List.length_append]; simp; omega)
    refine ⟨m2, by rw [lp_go (show f_X12_answers_s0 9 m = some (.inl m1) from e1)]; exact g1, e2.tr g2, ?_, g4⟩
    unfold apE at g3 ⊢
    rw [List.replicate_succ, show x.2.1 ++ (9, 0) :: List.replicate j (9, 0) = (x.2.1 ++ [(9, 0)]) ++ List.replicate j (9, 0) by simp]
    exact g3
theorem ans_1 {n : Nat} {t : Nat → Nat} {u : Nat} (hu : u < 6) {S : List Nat} {a d : Nat} (ha : a = 10 ∨ a = 11) (hS : ¬ topI S = nI a) {A : List Nat} (hA : A = [] ∨ A = [a]) {m : Mm} {x : Ps} (hx : fOk n t u m x) (hs : stk m (A ++ S) d) (hl : S.length ≤ 400) (hc : 3 * (x.2.1.length + A.length) ≤ 14 * x.2.2) : ∃ m1, lp (f_X12_answers_s0 (nI a)) m = some m1 ∧ frH u m m1 ∧ fOk n t u m1 (apE x (A.map fun q => (q, 0))) ∧ stk m1 S d := by
  rcases hA with q | q
  · rw [q] at hs ⊢
    have hs : stk m S d := hs
    exact ⟨m, ans_stop hs (by omega) hS, frH.rf _ _, by unfold apE; rw [List.map_nil, List.append_nil]; exact hx, hs⟩
  · rw [q] at hs hc ⊢
    obtain ⟨m1, e1, e2, e3, e4⟩ := ans_step hu hx (show stk m (a :: S) d from hs) hl hc (e := d) (Or.inr ⟨by omega, by omega, rfl⟩)
    exact ⟨m1, by rw [lp_go e1]; exact ans_stop e4 (by omega) hS, e2, e3, e4⟩
/-- the end of a test, or of what stands in brackets -/
noncomputable def endK (mm_34 : Mm) : Option ((Int32 × Int32 × Mm) ⊕ (Mm)) :=
  bi1 (f_X12_top mm_34) fun r_37 =>
    if r_37 = (12 : Int32) then
      bi1 (f_X12_sign mm_34) fun r_40 =>
        if r_40 = (93 : Int32) then
          f_X12_test_j164 mm_34 0 1
        else
          bi1 (f_X12_fails mm_34 (0 : Int32) (mm_34.1 1088 32)) fun mm_42 => f_X12_test_j164 mm_42 0 1
    else
      some (.inl (0, (0 : Int32), mm_34))
theorem s9_x {m : Mm} {B f : Nat} {y : Int32} (hf : flB B m f) : lp f_X12_test_s9 (y, 1, m) = some m := lp_end (by
  unfold f_X12_test_s9
  show (if (1 : Int32) = 0 then _ else if m.1 1088 33 = 0 then _ else _) = _
  rw [if_neg (by decide), if_neg (flB_ne hf)])
/-- what a fact does to the reference's test -/
def fctF (n : Nat) (t : Nat → Nat) (u r : Nat) : Prop := ∀ (m : Mm) (x : Ps) (S : List Nat), fOk n t u m x → stk m S (10 - r) → S.length ≤ x.1 → (∃ f m1, fct n t r x = .inl f ∧ lp f_X12_test_s9 (1, 1, m) = some m1 ∧ frH u m m1 ∧ flB 430 m1 f) ∨ ∃ y m1 j E0, fct n t r x = .inr y ∧ lp f_X12_test_s9 (1, 1, m) = lp f_X12_test_s9 (0, 1, m1) ∧ frH u m m1 ∧ fOk n t u m1 (y.1, E0, y.2.2) ∧ stk m1 (List.replicate j 9 ++ S) (10 - r + j) ∧ y.2.1 = E0 ++ List.replicate j (9, 0) ∧ S.length + j ≤ y.1
theorem tloop_f {n : Nat} {t : Nat → Nat} (ok : TxOk n t) {u : Nat} (hu : u < 6) {r : Nat} (hr : r ≤ 10) (H : fctF n t u r) {S : List Nat} (hS : ¬ topI S = nI 9 ∧ ¬ topI S = nI 10 ∧ ¬ topI S = nI 11) : ∀ (g : Nat) (x : Ps) (m : Mm) (j : Nat) (E0 : Es) (A O : List Nat), (A = [] ∨ A = [10]) → (O = [] ∨ O = [11]) → fOk n t u m (x.1, E0, x.2.2) → x.2.1 = E0 ++ List.replicate j (9, 0) ++ A.map (fun q => (q, 0)) → stk m (List.replicate j 9 ++ (A ++ (O ++ S))) (10 - r + j) → j + (A.length + (O.length + S.length)) ≤ x.1 → n < g + x.1 → 3 * (x.2.1.length + O.length) ≤ 14 * x.2.2 → (∃ f m1, tloop n t (fct n t r) g (O.map fun q => (q, 0)) x = .inl f ∧ lp f_X12_test_s9 (0, 1, m) = some m1 ∧ frH u m m1 ∧ flB 430 m1 f) ∨ ∃ y m0 m1, tloop n t (fct n t r) g (O.map fun q => (q, 0)) x = .inr y ∧ lp f_X12_test_s9 (0, 1, m) = lp f_X12_test_s9 (0, 1, m0) ∧ f_X12_test_s9 (0, 1, m0) = endK m1 ∧ frH u m m1 ∧ fOk n t u m1 y ∧ stk m1 S (10 - r) ∧ bl n t y.1 = y.1 ∧ S.length ≤ y.1
  | 0, x, m, j, E0, A, O, hA, hO, hx, hE, hs, hl, hg, hc => absurd hx.2.2.2.1 (by show ¬ x.1 ≤ n; omega)
  | g + 1, x, m, j, E0, A, O, hA, hO, hx, hE, hs, hl, hg, hc => by
    have h400 := ok.1
    have hxn : x.1 ≤ n := hx.2.2.2.1
    have hEl : x.2.1.length = E0.length + j + A.length := by rw [hE]; simp; omega
    obtain ⟨b, hb⟩ : ∃ b, bl n t x.1 = b := ⟨_, rfl⟩
    have hbn : b ≤ n := by rw [← hb]; exact bl_le t hxn
    have hbg : x.1 ≤ b := by rw [← hb]; exact bl_ge n t x.1
    have hlt := (lte_ok n t b).2.1 hbn
    have hid : bl n t b = b := by rw [← hb, bl_id]
    have tA9 : ¬ topI (A ++ (O ++ S)) = nI 9 := by
      rcases hA with q | q
      · rw [q]
        rcases hO with z | z
        · rw [z]
          exact hS.1
        · rw [z]
          show ¬ nI 11 = nI 9
          decide
      · rw [q]
        show ¬ nI 10 = nI 9
        decide
    have tO10 : ¬ topI (O ++ S) = nI 10 := by
      rcases hO with z | z
      · rw [z]
        exact hS.2.1
      · rw [z]
        show ¬ nI 11 = nI 10
        decide
    obtain ⟨m2, e21, e22, e23, e24⟩ := ans_9 hu tA9 (d := 10 - r) j m (x.1, E0, x.2.2) hx hs (by rw [List.length_append, List.length_append]; omega) (by show 3 * (E0.length + j) ≤ 14 * x.2.2; omega)
    have e31 := fOk_at e23 hbn
    have f3 : frU m2 (wI m2 1088 32 (nI b)) := frU_w m2 (Or.inl rfl)
    have s31 := stk_J (u := u) f3.j e24
    have bl3 : f_X12_blanks m2 = some (wI m2 1088 32 (nI b)) := by rw [← hb]; exact blanks_f e23.1 ok (i := x.1) e23.2.2.1 (by omega)
    obtain ⟨m3, hm3⟩ : ∃ m3, wI m2 1088 32 (nI b) = m3 := ⟨_, rfl⟩
    rw [hm3] at e31 f3 s31 bl3
    obtain ⟨m4, e41, e42, e43, e44⟩ := ans_1 hu (a := 10) (Or.inl rfl) tO10 hA e31 s31 (by rw [List.length_append]; omega) (by show 3 * ((E0 ++ List.replicate j (9, 0)).length + A.length) ≤ 14 * x.2.2; rw [List.length_append, List.length_replicate]; omega)
    have e43 : fOk n t u m4 (b, x.2.1, x.2.2) := by
      rw [hE]
      exact e43
    have st5 := stood_f e31.1 ok (i := b) e31.2.2.1 (by omega) (k := 5) (by decide)
    have st6 := stood_f e31.1 ok (i := b) e31.2.2.1 (by omega) (k := 6) (by decide)
    have fr4 : frH u m m4 := (e22.tr f3.j.h).tr e42
    have hs1 : f_X12_test_s9 (0, 1, m) = (if (if ws n t b 5 then (1 : Int32) else 0) = 0 then (if (if ws n t b 6 then (1 : Int32) else 0) = 0 then bi1 (f_X12_answers m4 11) fun m5 => endK m5 else f_X12_test_j82 m4 1 (if ws n t b 5 then (1 : Int32) else 0) (if ws n t b 6 then (1 : Int32) else 0)) else f_X12_test_j82 m4 1 (if ws n t b 5 then (1 : Int32) else 0) (if ws n t b 6 then (1 : Int32) else 0)) := by
      unfold f_X12_test_s9
      show (if (1 : Int32) = 0 then _ else if m.1 1088 33 = 0 then (if (0 : Int32) = 0 then _ else _) else _) = _
      rw [if_neg (by decide), if_pos hx.2.2.2.2.1, if_pos rfl]
      rw [show f_X12_answers m 9 = some m2 by unfold f_X12_answers; rw [e21]; rfl, bi1_s, bl3, bi1_s, st5, bi1_s, st6, bi1_s, show f_X12_answers m3 10 = some m4 by unfold f_X12_answers; rw [show lp (f_X12_answers_s0 10) m3 = some m4 from e41]; rfl, bi1_s]
      rfl
    unfold tloop
    rw [hb]
    by_cases w5 : ws n t b 5 = true
    · have dl : lte n t b = b + 3 := ws_lte w5
      have w6 : ws n t b 6 = false := by
        by_cases z : ws n t b 6 = true
        · have : lte n t b = b + 2 := ws_lte z
          omega
        · simpa using z
      rw [if_pos w5]
      rw [if_pos w5, if_neg (show ¬ ws n t b 6 = true by rw [w6]; decide), if_neg (show ¬ (1 : Int32) = 0 by decide)] at hs1
      obtain ⟨m5, e51, e52, e53⟩ := opens_1 e44 (by rw [List.length_append]; omega) (a := 10) (Or.inl rfl)
      have o5 := fOk_S e52 e43
      have o6 := fOk_at o5 (i := b + 3) (by omega)
      have f6 : frU m5 (wI m5 1088 32 (nI (b + 3))) := frU_w m5 (Or.inl rfl)
      unfold f_X12_test_j82 f_X12_test_j93 f_X12_test_j105 f_X12_test_j122 at hs1
      rw [if_pos rfl, if_neg (by decide), show f_X12_opens m4 10 = some m5 from e51, bi1_s, if_neg (by decide), o5.2.2.1, show nI b + 3 = nI (b + 3) from sN_ad b 3, vl_s] at hs1
      have s6 := stk_J (u := u) f6.j e53
      obtain ⟨m6, hm6⟩ : ∃ m6, wI m5 1088 32 (nI (b + 3)) = m6 := ⟨_, rfl⟩
      rw [hm6] at hs1 o6 f6 s6
      have fr6 : frH u m m6 := (fr4.tr e52.h).tr f6.j.h
      rw [lp_go hs1]
      rcases H m6 (b + 3, x.2.1, x.2.2) (10 :: (O ++ S)) o6 s6 (by show (O ++ S).length + 1 ≤ b + 3; rw [List.length_append]; omega) with ⟨f, m7, r1, r2, r3, r4⟩ | ⟨y, m7, j7, E7, r1, r2, r3, r4, r5, r6, r7⟩
      · exact Or.inl ⟨f, m7, by rw [r1]; rfl, r2, fr6.tr r3, r4⟩
      · have sg := fct_sg r hr _ y o6.2.2.2.1 r1
        have q1 : 14 * (x.2.2 : Int) - 3 * (x.2.1.length : Int) + (33 - 3 * (r : Int)) ≤ 14 * (y.2.2 : Int) - 3 * (y.2.1.length : Int) := sg.1.2.2.1
        have q2 : b + 3 < y.1 := sg.2.1
        have r7 : (O ++ S).length + 1 + j7 ≤ y.1 := r7
        rw [List.length_append] at r7
        rw [r1, r2]
        show (∃ f m1, tloop n t (fct n t r) g _ (apE y [(10, 0)]) = .inl f ∧ _) ∨ ∃ z m0 m1, tloop n t (fct n t r) g _ (apE y [(10, 0)]) = .inr z ∧ _
        rcases tloop_f ok hu hr H hS g (apE y [(10, 0)]) m7 j7 E7 [10] O (Or.inr rfl) hO r4 (by show y.2.1 ++ [(10, 0)] = _; rw [r6]; rfl) r5 (by show j7 + (1 + (O.length + S.length)) ≤ y.1; omega) (by show n < g + y.1; omega) (by show 3 * ((y.2.1 ++ [(10, 0)]).length + O.length) ≤ 14 * y.2.2; rw [List.length_append]; simp; omega) with ⟨f, m8, k1, k2, k3, k4⟩ | ⟨z, m8, m9, k1, k2, k3, k4, k5⟩
        · exact Or.inl ⟨f, m8, k1, k2, (fr6.tr r3).tr k3, k4⟩
        · exact Or.inr ⟨z, m8, m9, k1, k2, k3, (fr6.tr r3).tr k4, k5⟩
    · rw [if_neg w5]
      rw [if_neg w5, if_pos rfl] at hs1
      obtain ⟨m5, e51, e52, e53, e54⟩ := ans_1 hu (a := 11) (Or.inr rfl) hS.2.2 hO e43 e44 (by omega) hc
      have a11 : f_X12_answers m4 11 = some m5 := by unfold f_X12_answers; rw [show lp (f_X12_answers_s0 11) m4 = some m5 from e51]; rfl
      have fr5 := fr4.tr e52
      by_cases w6 : ws n t b 6 = true
      · have dl : lte n t b = b + 2 := ws_lte w6
        rw [if_pos w6]
        rw [if_pos w6, if_neg (by decide)] at hs1
        obtain ⟨m6, e61, e62, e63⟩ := opens_1 e54 (by omega) (a := 11) (Or.inr rfl)
        have o6 := fOk_S e62 e53
        have o7 := fOk_at o6 (i := b + 2) (by omega)
        have f7 : frU m6 (wI m6 1088 32 (nI (b + 2))) := frU_w m6 (Or.inl rfl)
        unfold f_X12_test_j82 f_X12_test_j93 f_X12_test_j105 f_X12_test_j122 at hs1
        rw [if_neg (by decide), a11, bi1_s, if_pos rfl, show f_X12_opens m5 11 = some m6 from e61, bi1_s, if_pos rfl, o6.2.2.1, show nI (apE (b, x.2.1, x.2.2) (O.map fun q => (q, 0))).1 + 2 = nI (b + 2) from sN_ad b 2, vl_s] at hs1
        have s7 := stk_J (u := u) f7.j e63
        obtain ⟨m7, hm7⟩ : ∃ m7, wI m6 1088 32 (nI (b + 2)) = m7 := ⟨_, rfl⟩
        rw [hm7] at hs1 o7 f7 s7
        have fr7 : frH u m m7 := (fr5.tr e62.h).tr f7.j.h
        rw [lp_go hs1]
        rcases H m7 (b + 2, x.2.1 ++ O.map (fun q => (q, 0)), x.2.2) (11 :: S) o7 s7 (by show S.length + 1 ≤ b + 2; omega) with ⟨f, m8, r1, r2, r3, r4⟩ | ⟨y, m8, j8, E8, r1, r2, r3, r4, r5, r6, r7⟩
        · exact Or.inl ⟨f, m8, by rw [r1]; rfl, r2, fr7.tr r3, r4⟩
        · have sg := fct_sg r hr _ y o7.2.2.2.1 r1
          have q1 : 14 * (x.2.2 : Int) - 3 * ((x.2.1 ++ O.map (fun q => (q, 0))).length : Int) + (33 - 3 * (r : Int)) ≤ 14 * (y.2.2 : Int) - 3 * (y.2.1.length : Int) := sg.1.2.2.1
          rw [List.length_append, List.length_map] at q1
          have q2 : b + 2 < y.1 := sg.2.1
          have r7 : S.length + 1 + j8 ≤ y.1 := r7
          rw [r1, r2]
          show (∃ f m1, tloop n t (fct n t r) g [(11, 0)] y = .inl f ∧ _) ∨ ∃ z m0 m1, tloop n t (fct n t r) g [(11, 0)] y = .inr z ∧ _
          rcases tloop_f ok hu hr H hS g y m8 j8 E8 [] [11] (Or.inl rfl) (Or.inr rfl) r4 (by rw [r6]; simp) r5 (by show j8 + (0 + (1 + S.length)) ≤ y.1; omega) (by omega) (by show 3 * (y.2.1.length + 1) ≤ 14 * y.2.2; omega) with ⟨f, m9, k1, k2, k3, k4⟩ | ⟨z, m9, m10, k1, k2, k3, k4, k5⟩
          · exact Or.inl ⟨f, m9, k1, k2, (fr7.tr r3).tr k3, k4⟩
          · exact Or.inr ⟨z, m9, m10, k1, k2, k3, (fr7.tr r3).tr k4, k5⟩
      · rw [if_neg w6]
        rw [if_neg w6, if_pos rfl, a11, bi1_s] at hs1
        exact Or.inr ⟨_, m, m5, rfl, rfl, hs1, fr5, e53, e54, hid, by show S.length ≤ b; omega⟩
