/-! PHASE 2: the text, words -/
def cN (k y : Nat) : Nat := (sCh k (nI y)).toNatClampNeg
theorem cN_ok : ∀ k, k < 24 → ∀ y, y < sL.getD k 0 → sCh k (nI y) = nI (cN k y) ∧ cN k y < 128 := by unfold cN sCh; decide +kernel
theorem sL_le : ∀ k, k < 24 → 1 ≤ sL.getD k 0 ∧ sL.getD k 0 ≤ 68 := by decide +kernel
def wsA (t : Nat → Nat) (i k : Nat) : Nat → Bool
  | 0 => true
  | j + 1 => wsA t i k j && decide (cN k j = t (i + j))
def ws (n : Nat) (t : Nat → Nat) (i k : Nat) : Bool := decide (lte n t i - i = sL.getD k 0) && wsA t i k (sL.getD k 0)
theorem wsA_iff {t : Nat → Nat} {i k : Nat} : ∀ {m : Nat}, wsA t i k m = true ↔ ∀ j, j < m → cN k j = t (i + j)
  | 0 => ⟨fun _ j h => absurd h (by omega), fun _ => rfl⟩
  | m + 1 => by
    show (wsA t i k m && decide (cN k m = t (i + m))) = true ↔ _
    rw [Bool.and_eq_true, wsA_iff, decide_eq_true_iff]
    constructor
    · intro h j hj
      by_cases q : j = m
      · rw [q]; exact h.2
      · exact h.1 j (by omega)
    · intro h
      exact ⟨fun j hj => h j (by omega), h m (by omega)⟩
theorem lte_ok (n : Nat) (t : Nat → Nat) (i : Nat) : i ≤ lte n t i ∧ (i ≤ n → lte n t i ≤ n) ∧ (n ≤ i → lte n t i = i) := by
  obtain ⟨h1, h2, _, _⟩ := rn_ok (fun j => isL (t j)) (n - i) i
  unfold lte
  exact ⟨h1, fun h => by omega, fun h => by omega⟩
theorem stood_f {mm : Mm} {n : Nat} {t : Nat → Nat} (h : TxF mm n t) (ok : TxOk n t) {i : Nat} (ha : mm.1 1088 32 = nI i) (hi : i ≤ 500) {k : Nat} (hk : k < 24) : f_X12_stood mm k = some (if ws n t i k then 1 else 0) := by
  have h4 := ok.1
  obtain ⟨b1, b2⟩ := sL_le k hk
  obtain ⟨l1, l2, l3⟩ := lte_ok n t i
  have hl5 : lte n t i ≤ 500 := by
    by_cases q : i ≤ n
    · have := l2 q; omega
    · rw [l3 (by omega)]; exact hi
  have e1 : lp (f_X12_stood_s5 k mm) (nI i) = some (nI (lte n t i)) := by
    refine lp_rn (st := f_X12_stood_s5 k mm) (fun j => isL (t j)) (fun j => nI j) (fun j => nI j) n i (fun j j1 j2 j3 => ?_) (fun j j1 j2 j3 => ?_) (fun j j1 j2 j3 => ?_) (n - i) i rfl (Nat.le_refl _) (Or.inr rfl)
    · have hd := of_decide_eq_true j3
      unfold f_X12_stood_s5
      rw [h.1, if_neg (by rw [sN_le (by omega) (by omega)]; omega), if_neg (gd_ok (show j < 400 by omega) (by decide)), cl_ok (by omega), h.2 j j2, if_neg (by rw [sb_97 _ (ok.2 j j2)]; omega), if_neg (show ¬ (nI j < 0 ∨ 400 ≤ j) from fun z => z.elim (nI_nn _ (by omega)) (fun y => by omega)), if_neg (by rw [sb_122 _ (ok.2 j j2)]; omega), sN_a1]
    · have hd := of_decide_eq_false j3
      unfold f_X12_stood_s5
      rw [h.1, if_neg (by rw [sN_le (by omega) (by omega)]; omega), if_neg (gd_ok (show j < 400 by omega) (by decide)), cl_ok (by omega), h.2 j j2, if_neg (show ¬ (nI j < 0 ∨ 400 ≤ j) from fun z => z.elim (nI_nn _ (by omega)) (fun y => by omega))]
      by_cases q : sb (t j) < 97
      · rw [if_pos q]
      · rw [if_neg q, if_pos (by
          rw [sb_97 _ (ok.2 j j2)] at q
          rw [sb_122 _ (ok.2 j j2)]
          omega)]
    · unfold f_X12_stood_s5
      rw [h.1, if_pos (by rw [sN_le (by omega) (by omega)]; omega)]
  have fin : ∀ r : Int32, ¬ (¬ r = 0 ∧ ¬ r = 1) → (if ¬ r = 0 ∧ ¬ r = 1 then none else some r) = some r := fun r hr => if_neg hr
  unfold f_X12_stood ws
  rw [ha, e1, bi1_s, nI_sub' l1]
  have esl : sLn k = nI (sL.getD k 0) := rfl
  by_cases c : lte n t i - i = sL.getD k 0
  · have hin : i ≤ n := by
      by_cases q : i ≤ n
      · exact q
      · rw [l3 (by omega)] at c; omega
    have l2 := l2 hin
    rw [if_pos (by rw [esl, c]), decide_eq_true c, Bool.true_and]
    unfold f_X12_stood_j59
    obtain ⟨r, e2, hr⟩ := lp_stop (st := f_X12_stood_s63 k mm) (fun j x => (x = ((1 : Int32), nI j) ∧ wsA t i k j = true) ∨ (x = ((0 : Int32), nI j) ∧ wsA t i k (sL.getD k 0) = false)) (fun r => r = if wsA t i k (sL.getD k 0) then 1 else 0) (sL.getD k 0) (fun j x hj hP => by
      rcases hP with ⟨rfl, hw⟩ | ⟨rfl, hw⟩
      · by_cases q : j = sL.getD k 0
        · right
          refine ⟨1, ?_, by rw [← q, hw]; rfl⟩
          unfold f_X12_stood_s63
          dsimp only
          rw [esl, if_pos (by rw [sN_le (by omega) (by omega)]; omega)]
        · left
          have hjl : j < sL.getD k 0 := by omega
          obtain ⟨q1, q2⟩ := cN_ok k hk j hjl
          refine ⟨by omega, ?_⟩
          have hp : i + j < n := by omega
          by_cases q3 : cN k j = t (i + j)
          · refine ⟨((1 : Int32), nI (j + 1)), ?_, Or.inl ⟨rfl, by show (wsA t i k j && decide (cN k j = t (i + j))) = true; rw [hw, decide_eq_true q3]; rfl⟩⟩
            unfold f_X12_stood_s63 f_X12_stood_j102
            dsimp only
            rw [esl, if_neg (by rw [sN_le (by omega) (by omega)]; omega), if_neg (show ¬ (1 : Int32) = 0 by decide), ha, sN_ad, if_neg (gd_ok (show i + j < 400 by omega) (by decide)), if_neg (gd_ok hjl (by omega)), cl_ok (by omega), h.2 _ hp, q1, if_pos (by
              have := (sb_inj (c := cN k j) (d := t (i + j)) q2 (ok.2 _ hp)) ▸ q3
              exact this.symm), sN_a1]
          · refine ⟨((0 : Int32), nI (j + 1)), ?_, Or.inr ⟨rfl, Bool.eq_false_iff.mpr (fun z => q3 (wsA_iff.mp z j hjl))⟩⟩
            unfold f_X12_stood_s63 f_X12_stood_j102
            dsimp only
            rw [esl, if_neg (by rw [sN_le (by omega) (by omega)]; omega), if_neg (show ¬ (1 : Int32) = 0 by decide), ha, sN_ad, if_neg (gd_ok (show i + j < 400 by omega) (by decide)), if_neg (gd_ok hjl (by omega)), cl_ok (by omega), h.2 _ hp, q1, if_neg (fun z => q3 ((sb_inj (c := cN k j) (d := t (i + j)) q2 (ok.2 _ hp)) ▸ z.symm)), sN_a1]
      · right
        refine ⟨0, ?_, by rw [hw]; rfl⟩
        unfold f_X12_stood_s63
        dsimp only
        by_cases q : sLn k ≤ nI j
        · rw [if_pos q]
        · rw [if_neg q, if_pos rfl]) 0 ((1 : Int32), (0 : Int32)) (Nat.zero_le _) (Or.inl ⟨rfl, rfl⟩)
    rw [e2, bi1_s, hr]
    refine fin _ ?_
    split
    · exact fun z => z.2 rfl
    · exact fun z => z.1 rfl
  · rw [if_neg (by rw [esl, sN_eq (by omega) (by omega)]; exact c), decide_eq_false c, Bool.false_and]
    unfold f_X12_stood_j59
    have e2 : lp (f_X12_stood_s63 k mm) ((0 : Int32), (0 : Int32)) = some 0 := by
      refine lp_end ?_
      unfold f_X12_stood_s63
      dsimp only
      by_cases q : sLn k ≤ 0
      · rw [if_pos q]
      · rw [if_neg q, if_pos rfl]
    rw [e2, bi1_s]
    rfl
/-! the class's words: a list of them in one text -/
/-- (from, to, the word) -/
abbrev Sg : Type := Nat × Nat × Nat
def sgOk (k : Nat) : Nat → List Sg → Bool
  | a, [] => decide (a = sL.getD k 0 + 1)
  | a, (x, y, w) :: r => ((decide (x = a) && decide (a ≤ y)) && (decide (w < 24) && decide (y - x = sL.getD w 0))) && (((List.range (y - x)).all (fun j => decide (cN k (x + j) = cN w j) && decide (¬ cN k (x + j) = 32))) && ((decide (y ≤ sL.getD k 0) && (decide (y = sL.getD k 0) || decide (cN k y = 32))) && sgOk k (y + 1) r))
def wl : Nat → List Sg := fun k => if k = 0 then [(0, 5, 7), (6, 11, 8), (12, 17, 9), (18, 23, 10), (24, 29, 11)] else if k = 2 then [(0, 3, 12), (4, 9, 13), (10, 15, 14), (16, 22, 15), (23, 27, 16), (28, 32, 17), (33, 38, 18), (39, 44, 19), (45, 50, 20), (51, 55, 21), (56, 63, 22), (64, 68, 23)] else [(0, sL.getD k 0, k)]
theorem wl_ok : ∀ k, k < 7 → sgOk k 0 (wl k) = true := by decide +kernel
