/-! PHASE 2: delta -/
def absd (a b : Nat) : Nat := if b ≤ a then a - b else b - a
def cst (V : Dat) (a b : Nat) : Nat := 1 + absd (V 4 a) (V 4 b) / 5
def cand (p : Nat → Nat) (a b : Nat) : Bool := decide (¬ p a = 0) && (decide (¬ p b = 0) && decide (¬ p a = p b))
def lessP (V : Dat) (a b : Nat) : Option (Nat × Nat) → Bool
  | none => true
  | some c => decide (cst V a b < cst V c.1 c.2)
def bpI (V : Dat) (p : Nat → Nat) (a : Nat) (o : Option (Nat × Nat)) : Nat → Option (Nat × Nat)
  | 0 => o
  | k + 1 => if cand p a (a + 1 + k) && lessP V a (a + 1 + k) (bpI V p a o k) then some (a, a + 1 + k) else bpI V p a o k
def bpO (V : Dat) (p : Nat → Nat) (N : Nat) : Nat → Option (Nat × Nat)
  | 0 => none
  | a + 1 => bpI V p a (bpO V p N a) (N - (a + 1))
/-- what stands as the best is a pair that may be bound -/
def gdP (p : Nat → Nat) (N : Nat) : Option (Nat × Nat) → Prop
  | none => True
  | some c => c.1 < N ∧ c.2 < N ∧ cand p c.1 c.2 = true
theorem bpI_gd {V : Dat} {p : Nat → Nat} {N a : Nat} {o : Option (Nat × Nat)} (ha : a < N) (ho : gdP p N o) : ∀ k, k ≤ N - (a + 1) → gdP p N (bpI V p a o k)
  | 0, _ => ho
  | k + 1, hk => by
    rw [show bpI V p a o (k + 1) = if cand p a (a + 1 + k) && lessP V a (a + 1 + k) (bpI V p a o k) then some (a, a + 1 + k) else bpI V p a o k from rfl]
    by_cases c : (cand p a (a + 1 + k) && lessP V a (a + 1 + k) (bpI V p a o k)) = true
    · rw [if_pos c]
      rw [Bool.and_eq_true] at c
      exact ⟨ha, by show a + 1 + k < N; omega, c.1⟩
    · rw [if_neg c]
      exact bpI_gd ha ho k (by omega)
theorem bpO_gd {V : Dat} {p : Nat → Nat} {N : Nat} : ∀ a, a ≤ N → gdP p N (bpO V p N a)
  | 0, _ => trivial
  | a + 1, h => bpI_gd (by omega) (bpO_gd a (by omega)) _ (Nat.le_refl _)
theorem bpI_no {V : Dat} {p : Nat → Nat} {a : Nat} {o : Option (Nat × Nat)} {n : Nat} (h : ∀ k, n ≤ k → cand p a (a + 1 + k) = false) : ∀ d, bpI V p a o (n + d) = bpI V p a o n
  | 0 => rfl
  | d + 1 => by
    show (if cand p a (a + 1 + (n + d)) && lessP V a (a + 1 + (n + d)) (bpI V p a o (n + d)) then some (a, a + 1 + (n + d)) else bpI V p a o (n + d)) = _
    rw [h (n + d) (by omega), Bool.false_and, if_neg (by decide), bpI_no h d]
/-- things that are not there make no pair -/
theorem bpO_same {V : Dat} {p : Nat → Nat} {n : Nat} (hn : n ≤ 8) (h : ∀ t, n ≤ t → p t = 0) : bpO V p 8 8 = bpO V p n n := by
  have cf : ∀ a b, n ≤ a ∨ n ≤ b → cand p a b = false := fun a b hab => by
    unfold cand
    rcases hab with hab | hab
    · rw [h a hab, decide_eq_false (fun z => z rfl), Bool.false_and]
    · rw [h b hab, decide_eq_false (p := ¬ (0 : Nat) = 0) (fun z => z rfl), Bool.false_and, Bool.and_false]
  have h1 : ∀ a, a ≤ n → bpO V p 8 a = bpO V p n a := fun a => by
    induction a with
    | zero => intro _; rfl
    | succ a ih =>
      intro ha
      show bpI V p a (bpO V p 8 a) (8 - (a + 1)) = bpI V p a (bpO V p n a) (n - (a + 1))
      rw [ih (by omega)]
      have := bpI_no (V := V) (p := p) (a := a) (o := bpO V p n a) (n := n - (a + 1)) (fun k hk => cf a _ (Or.inr (by omega))) (8 - n)
      rw [show n - (a + 1) + (8 - n) = 8 - (a + 1) by omega] at this
      exact this
  have h2 : ∀ d, n + d ≤ 8 → bpO V p 8 (n + d) = bpO V p 8 n := fun d => by
    induction d with
    | zero => intro _; rfl
    | succ d ih =>
      intro hd
      show bpI V p (n + d) (bpO V p 8 (n + d)) (8 - (n + d + 1)) = _
      have := bpI_no (V := V) (p := p) (a := n + d) (o := bpO V p 8 (n + d)) (n := 0) (fun k hk => cf _ _ (Or.inl (by omega))) (8 - (n + d + 1))
      rw [Nat.zero_add] at this
      rw [this]
      exact ih (by omega)
  have := h2 (8 - n) (by omega)
  rw [show n + (8 - n) = 8 by omega] at this
  rw [this, h1 n (Nat.le_refl _)]
theorem cst_le {V : Dat} (ov : RvOk V) {a b : Nat} (ha : a < V 1 2) (hb : b < V 1 2) : cst V a b ≤ 11 := by
  have h1 := (ov.2.2.2.2.1 a ha).1
  have h2 := (ov.2.2.2.2.1 b hb).1
  unfold cst absd
  split <;> omega
theorem cst_c {V : Dat} (ov : RvOk V) {a b : Nat} (ha : a < V 1 2) (hb : b < V 1 2) : (1 : Int32) + (if 0 ≤ nI (V 4 a) - nI (V 4 b) then nI (V 4 a) - nI (V 4 b) else 0 - (nI (V 4 a) - nI (V 4 b))) / (5 : Int32) = nI (cst V a b) := by
  have h1 := (ov.2.2.2.2.1 a ha).1
  have h2 := (ov.2.2.2.2.1 b hb).1
  have e : (if 0 ≤ nI (V 4 a) - nI (V 4 b) then nI (V 4 a) - nI (V 4 b) else 0 - (nI (V 4 a) - nI (V 4 b))) = nI (absd (V 4 a) (V 4 b)) := by
    unfold absd
    by_cases c : V 4 b ≤ V 4 a
    · rw [if_pos c, nI_sub' c, if_pos (by rw [sN_0le (by omega)]; trivial)]
    · rw [if_neg c, if_neg, zI_n (V 4 a), zI_n (V 4 b), zI_sb, zI_0, zI_sb, zI_n]
      · congr 1
        omega
      · rw [zI_n (V 4 a), zI_n (V 4 b), zI_sb, zI_0, zI_le (by omega) (by omega) (by omega) (by omega)]
        omega
  have hl : absd (V 4 a) (V 4 b) ≤ 50 := by unfold absd; split <;> omega
  rw [e, K5, pk_div (by omega) (by decide) (by decide), K1, sN_ad]
  rfl
def encC (V : Dat) : Option (Nat × Nat) → Int32 × Int32 × Int32
  | none => (-1, 0, 0)
  | some c => (nI (cst V c.1 c.2), nI c.1, nI c.2)
def encR : Option (Nat × Nat) → Int32 × Int32
  | none => (-1, -1)
  | some c => (nI c.1, nI c.2)
theorem scan_c {mm : Mm} {V A : Dat} {p : Nat → Nat} (hv : RvC mm 27 V) (ov : RvOk V) (pp : PP V A p) (hp : ∀ t, t < 8 → mm.1 230 t = nI (p t)) : lp (f_X3_bindCheapest_s9 mm) ((-1 : Int32), (0 : Int32), (0 : Int32), (0 : Int32)) = some (encC V (bpO V p 8 8)) := by
  have h8 := ov.2.2.1
  have hlt : ∀ t, ¬ p t = 0 → t < V 1 2 := fun t h => ((PP_ne pp t).mp h).1
  refine lpf (fun a => ((encC V (bpO V p 8 a)).1, (encC V (bpO V p 8 a)).2.1, (encC V (bpO V p 8 a)).2.2, nI a)) 8 rfl (fun a ha => ?_) ?_
  · have g0 := bpO_gd (V := V) (p := p) (N := 8) a (by omega)
    have pa := hp a ha
    have pla := pp.1 a
    have ei : lp (f_X3_bindCheapest_s22 mm (nI a)) ((encC V (bpO V p 8 a)).1, (encC V (bpO V p 8 a)).2.1, (encC V (bpO V p 8 a)).2.2, nI (a + 1)) = some (encC V (bpO V p 8 (a + 1))) := by
      refine lpf (fun k => ((encC V (bpI V p a (bpO V p 8 a) k)).1, (encC V (bpI V p a (bpO V p 8 a) k)).2.1, (encC V (bpI V p a (bpO V p 8 a) k)).2.2, nI (a + 1 + k))) (8 - (a + 1)) rfl (fun k hk => ?_) ?_
      · have gk := bpI_gd (V := V) ha g0 k (by omega)
        have pb' := hp (a + 1 + k) (by omega)
        have plb := pp.1 (a + 1 + k)
        unfold f_X3_bindCheapest_s22 f_X3_bindCheapest_j128
        rw [show bpI V p a (bpO V p 8 a) (k + 1) = if cand p a (a + 1 + k) && lessP V a (a + 1 + k) (bpI V p a (bpO V p 8 a) k) then some (a, a + 1 + k) else bpI V p a (bpO V p 8 a) k from rfl]
        dsimp only
        rw [K8, if_neg (by rw [sN_le (by decide) (by omega)]; omega), if_neg (gd_ok ha (by decide)), cl_ok (by omega), pa, if_neg (gd_ok (show a + 1 + k < 8 by omega) (by decide)), cl_ok (show a + 1 + k < 100000 by omega), pb', sN_a1]
        unfold cand
        by_cases c1 : p a = 0
        · rw [if_pos (by rw [c1]; rfl), decide_eq_false (fun z => z c1), Bool.false_and, Bool.false_and, if_neg (by decide)]
          rfl
        · rw [if_neg (by rw [sN_eq0 (by omega)]; exact c1), decide_eq_true c1, Bool.true_and]
          by_cases c2 : p (a + 1 + k) = 0
          · rw [if_pos (by rw [c2]; rfl), decide_eq_false (fun z => z c2), Bool.false_and, Bool.false_and, if_neg (by decide)]
            rfl
          · rw [if_neg (by rw [sN_eq0 (by omega)]; exact c2), decide_eq_true c2, Bool.true_and, if_neg (show ¬ (nI a < 0 ∨ 8 ≤ a) from fun z => z.elim (nI_nn a (by omega)) (fun y => by omega)), if_neg (show ¬ (nI (a + 1 + k) < 0 ∨ 8 ≤ a + 1 + k) from fun z => z.elim (nI_nn _ (by omega)) (fun y => by omega))]
            by_cases c3 : p a = p (a + 1 + k)
            · rw [if_pos (by rw [c3]), decide_eq_false (fun z => z c3), Bool.false_and, if_neg (by decide)]
              rfl
            · have wa : mm.1 30 a = nI (V 4 a) := (hv.2.2.1 a (hlt a c1)).1
              have wb : mm.1 30 (a + 1 + k) = nI (V 4 (a + 1 + k)) := (hv.2.2.1 _ (hlt _ c2)).1
              have cl1 := cst_le ov (hlt a c1) (hlt _ c2)
              rw [if_neg (by rw [sN_eq (by omega) (by omega)]; exact c3), decide_eq_true c3, Bool.true_and, if_neg (show ¬ (nI a < 0 ∨ 8 ≤ a) from fun z => z.elim (nI_nn a (by omega)) (fun y => by omega)), if_neg (show ¬ (nI (a + 1 + k) < 0 ∨ 8 ≤ a + 1 + k) from fun z => z.elim (nI_nn _ (by omega)) (fun y => by omega)), wa, wb, cst_c ov (hlt a c1) (hlt _ c2), vl_s]
              cases hb : bpI V p a (bpO V p 8 a) k with
              | none =>
                rw [show (encC V none).1 = -1 from rfl, if_pos rfl, show lessP V a (a + 1 + k) none = true from rfl, if_pos rfl]
                rfl
              | some c =>
                rw [hb] at gk
                have gk1 := gk.2.2
                unfold cand at gk1
                rw [Bool.and_eq_true, Bool.and_eq_true, decide_eq_true_iff, decide_eq_true_iff] at gk1
                have cl2 := cst_le ov (hlt c.1 gk1.1) (hlt c.2 gk1.2.1)
                rw [show (encC V (some c)).1 = nI (cst V c.1 c.2) from rfl, if_neg (nm1 (by omega))]
                by_cases d : cst V a (a + 1 + k) < cst V c.1 c.2
                · rw [if_neg (by rw [sN_le (by omega) (by omega)]; omega), show lessP V a (a + 1 + k) (some c) = true from decide_eq_true d, if_pos rfl]
                  rfl
                · rw [if_pos (by rw [sN_le (by omega) (by omega)]; omega), show lessP V a (a + 1 + k) (some c) = false from decide_eq_false d, if_neg (by decide)]
                  rfl
      · unfold f_X3_bindCheapest_s22
        dsimp only
        rw [show a + 1 + (8 - (a + 1)) = 8 by omega, if_pos (by decide)]
        rfl
    unfold f_X3_bindCheapest_s9
    dsimp only
    rw [K8, if_neg (by rw [sN_le (by decide) (by omega)]; omega), sN_a1, ei, bi1_s]
  · unfold f_X3_bindCheapest_s9
    dsimp only
    rw [if_pos (by decide)]
theorem ropeBetween_f {mm : Mm} {V : Dat} (hv : RvF mm V) (ov : RvOk V) {a b : Nat} (ha : a < V 1 2) (hb : b < V 1 2) : f_X12_ropeBetween mm (nI a) (nI b) = some (nI (cst V a b)) := by
  have h8 := ov.2.2.1
  have h1 := (ov.2.2.2.2.1 a ha).1
  have h2 := (ov.2.2.2.2.1 b hb).1
  have wa := (hv.2.2.1 a ha).1
  have wb := (hv.2.2.1 b hb).1
  unfold f_X12_ropeBetween f_X12_ropeBetween_j44 cst absd
  simp (disch := omega) only [↓reduceIte, decide_true, decide_false, Bool.false_eq_true, eq_self, s10, s01, cont_ok, has_ok, b2i0, b2i1, reduceCtorEq, Nat.or_zero, Nat.add_zero, sN_le, sN_lt, sN_eq, sN_lt0, sN_le0, sN_0le, sN_0lt, sN_eq0, sN_cl, sN_ad, sN_a1, K2, K3, K4, K5, K6, K7, K8, K9, K12, K16, K20, false_or, or_false, if_neg, if_pos, vl_s, bi1_s, bi2_s, nx_or, nx_and, nx_sh, wa, wb]
  by_cases c : V 4 b ≤ V 4 a
  · rw [if_pos c, if_pos c, nI_sub' c, pk_div (by omega) (by decide) (by decide), K1, sN_ad]
  · rw [if_neg c, if_neg c, nI_sub' (by omega), pk_div (by omega) (by decide) (by decide), K1, sN_ad]
/-- the reference's groups are the pieces -/
def Gr (m : Mm) (V : Dat) (p : Nat → Nat) : Prop := (∀ t, t < V 1 2 → p t = 0 → m.1 1137 t = -1) ∧ (∀ t, t < V 1 2 → ¬ p t = 0 → ∃ l, l < 8 ∧ m.1 1137 t = nI l) ∧ ∀ t u, t < V 1 2 → u < V 1 2 → ¬ p t = 0 → ¬ p u = 0 → (m.1 1137 t = m.1 1137 u ↔ p t = p u)
theorem scan_f {mm : Mm} {V A : Dat} {p : Nat → Nat} (hv : RvF mm V) (ov : RvOk V) (pp : PP V A p) (hg : Gr mm V p) {y z w : Int32} : lp (f_X12_delta_s85 mm y z w) ((-1 : Int32), (-1 : Int32), (0 : Int32)) = some (encR (bpO V p (V 1 2) (V 1 2))) := by
  have h8 := ov.2.2.1
  refine lpf (fun a => ((encR (bpO V p (V 1 2) a)).1, (encR (bpO V p (V 1 2) a)).2, nI a)) (V 1 2) rfl (fun a ha => ?_) ?_
  · have g0 := bpO_gd (V := V) (p := p) (N := V 1 2) a (by omega)
    have ei : lp (f_X12_delta_s102 mm y z w (nI a)) ((encR (bpO V p (V 1 2) a)).1, (encR (bpO V p (V 1 2) a)).2, nI (a + 1)) = some (encR (bpO V p (V 1 2) (a + 1))) := by
      refine lpf (fun k => ((encR (bpI V p a (bpO V p (V 1 2) a) k)).1, (encR (bpI V p a (bpO V p (V 1 2) a) k)).2, nI (a + 1 + k))) (V 1 2 - (a + 1)) rfl (fun k hk => ?_) ?_
      · have gk := bpI_gd (V := V) ha g0 k (by omega)
        have hb' : a + 1 + k < V 1 2 := by omega
        unfold f_X12_delta_s102 f_X12_delta_j156 f_X12_delta_j157 f_X12_delta_j189
        rw [show bpI V p a (bpO V p (V 1 2) a) (k + 1) = if cand p a (a + 1 + k) && lessP V a (a + 1 + k) (bpI V p a (bpO V p (V 1 2) a) k) then some (a, a + 1 + k) else bpI V p a (bpO V p (V 1 2) a) k from rfl]
        dsimp only
        rw [hv.1.2.2, if_neg (by rw [sN_le (by omega) (by omega)]; omega), if_neg (gd_ok (show a < 8 by omega) (by decide)), cl_ok (show a < 100000 by omega), if_neg (gd_ok (show a + 1 + k < 8 by omega) (by decide)), cl_ok (show a + 1 + k < 100000 by omega), sN_a1, if_pos (rfl : (0 : Int32) = 0), if_neg (show ¬ (1 : Int32) = 0 by decide)]
        unfold cand
        by_cases c1 : p a = 0
        · rw [if_pos (hg.1 a ha c1), decide_eq_false (fun z => z c1), Bool.false_and, Bool.false_and, if_neg (by decide)]
          rfl
        · obtain ⟨l1, l1l, l1e⟩ := hg.2.1 a ha c1
          rw [if_neg (by rw [l1e]; exact nm1 (by omega)), decide_eq_true c1, Bool.true_and]
          by_cases c2 : p (a + 1 + k) = 0
          · rw [if_pos (hg.1 _ hb' c2), decide_eq_false (fun z => z c2), Bool.false_and, Bool.false_and, if_neg (by decide)]
            rfl
          · obtain ⟨l2, l2l, l2e⟩ := hg.2.1 _ hb' c2
            rw [if_neg (by rw [l2e]; exact nm1 (by omega)), decide_eq_true c2, Bool.true_and, if_neg (show ¬ (nI a < 0 ∨ 8 ≤ a) from fun z => z.elim (nI_nn a (by omega)) (fun y => by omega)), if_neg (show ¬ (nI (a + 1 + k) < 0 ∨ 8 ≤ a + 1 + k) from fun z => z.elim (nI_nn _ (by omega)) (fun y => by omega))]
            by_cases c3 : p a = p (a + 1 + k)
            · rw [if_pos ((hg.2.2 a _ ha hb' c1 c2).mpr c3), decide_eq_false (fun z => z c3), Bool.false_and, if_neg (by decide)]
              rfl
            · have cl1 := cst_le ov ha hb'
              rw [if_neg (fun z => c3 ((hg.2.2 a _ ha hb' c1 c2).mp z)), decide_eq_true c3, Bool.true_and]
              cases hb : bpI V p a (bpO V p (V 1 2) a) k with
              | none =>
                rw [show (encR none).1 = -1 from rfl, if_pos rfl, show lessP V a (a + 1 + k) none = true from rfl, if_pos rfl]
                rfl
              | some c =>
                rw [hb] at gk
                have cl2 := cst_le ov gk.1 gk.2.1
                have gc1 := gk.1
                rw [show (encR (some c)).1 = nI c.1 from rfl, show (encR (some c)).2 = nI c.2 from rfl, if_neg (nm1 (by omega)), ropeBetween_f hv ov ha hb', bi1_s, ropeBetween_f hv ov gk.1 gk.2.1, bi1_s]
                by_cases d : cst V a (a + 1 + k) < cst V c.1 c.2
                · rw [if_neg (by rw [sN_le (by omega) (by omega)]; omega), show lessP V a (a + 1 + k) (some c) = true from decide_eq_true d, if_pos rfl]
                  rfl
                · rw [if_pos (by rw [sN_le (by omega) (by omega)]; omega), show lessP V a (a + 1 + k) (some c) = false from decide_eq_false d, if_neg (by decide)]
                  rfl
      · unfold f_X12_delta_s102
        dsimp only
        rw [hv.1.2.2, show a + 1 + (V 1 2 - (a + 1)) = V 1 2 by omega, if_pos (by rw [sN_le (by omega) (by omega)]; omega)]
        rfl
    unfold f_X12_delta_s85
    dsimp only
    rw [hv.1.2.2, if_neg (by rw [sN_le (by omega) (by omega)]; omega), sN_a1, ei, bi1_s]
  · unfold f_X12_delta_s85
    dsimp only
    rw [hv.1.2.2, if_pos (by rw [sN_le (by omega) (by omega)]; omega)]
