/-! PHASE 2: the class's words -/
def fw (n : Nat) (t : Nat → Nat) (i : Nat) : List Sg → Nat → Option Nat
  | [], _ => none
  | (_, _, k) :: r, w => if ws n t i k then some w else fw n t i r (w + 1)
theorem matches_c {mm : Mm} {n : Nat} {t : Nat → Nat} (h : TxC mm n t) (ok : TxOk n t) {i : Nat} (ha : atC mm i) {k a b : Nat} (hk : k < 24) (hab : a ≤ b) (hb : b ≤ sL.getD k 0) (hn : i + (b - a) ≤ n) : f_X10_matches mm k (nI a) (nI b) = some (if (List.range (b - a)).all (fun j => decide (cN k (a + j) = t (i + j))) then 1 else 0) := by
  have h4 := ok.1
  obtain ⟨b1, b2⟩ := sL_le k hk
  have hall : (List.range (b - a)).all (fun j => decide (cN k (a + j) = t (i + j))) = true ↔ ∀ j, j < b - a → cN k (a + j) = t (i + j) := by
    rw [List.all_eq_true]
    exact ⟨fun z j hj => of_decide_eq_true (z j (List.mem_range.mpr hj)), fun z j hj => decide_eq_true (z j (List.mem_range.mp hj))⟩
  obtain ⟨r, e, hr⟩ := lp_stop (st := f_X10_matches_s3 k mm (nI a) (nI b)) (fun j x => x = nI j ∧ a ≤ j ∧ ∀ u, u < j - a → cN k (a + u) = t (i + u)) (fun r => r = if (List.range (b - a)).all (fun j => decide (cN k (a + j) = t (i + j))) then .inr () else .inl ()) b (fun j x hj hP => by
    obtain ⟨rfl, ja, hw⟩ := hP
    by_cases q : j = b
    · right
      refine ⟨.inr (), ?_, by rw [if_pos (hall.mpr (by rw [← q]; exact hw))]⟩
      unfold f_X10_matches_s3
      rw [if_pos (by rw [sN_le (by omega) (by omega)]; omega)]
    · have hjk : j < sL.getD k 0 := by omega
      obtain ⟨q1, q2⟩ := cN_ok k hk j hjk
      have hp : i + (j - a) < n := by omega
      have epos : nI i + nI j - nI a = nI (i + (j - a)) := by rw [sN_ad, nI_sub' (by omega), show i + j - a = i + (j - a) by omega]
      have est : f_X10_matches_s3 k mm (nI a) (nI b) (nI j) = if nI (cN k j) = sb (t (i + (j - a))) then some (.inl (nI (j + 1))) else some (.inr (.inl ())) := by
        unfold f_X10_matches_s3
        rw [if_neg (by rw [sN_le (by omega) (by omega)]; omega), show mm.1 1 2 = nI i from ha, epos, h.1, if_neg (by rw [sN_le (by omega) (by omega)]; omega), if_neg (gd_ok hjk (by omega)), if_neg (gd_ok (show i + (j - a) < 400 by omega) (by decide)), cl_ok (by omega), h.2 _ hp, q1, sN_a1]
      have ei := sb_inj (c := cN k j) (d := t (i + (j - a))) q2 (ok.2 _ hp)
      by_cases q3 : cN k j = t (i + (j - a))
      · left
        refine ⟨by omega, nI (j + 1), by rw [est, if_pos (ei.symm ▸ q3)], rfl, by omega, fun u hu => ?_⟩
        by_cases q4 : u = j - a
        · rw [q4, show a + (j - a) = j by omega]; exact q3
        · exact hw u (by omega)
      · right
        refine ⟨.inl (), by rw [est, if_neg (fun z => q3 (ei ▸ z))], ?_⟩
        rw [if_neg (fun z => q3 (by
          have := hall.mp z (j - a) (by omega)
          rw [show a + (j - a) = j by omega] at this
          exact this))]) a (nI a) hab ⟨rfl, Nat.le_refl _, fun u hu => absurd hu (by omega)⟩
  unfold f_X10_matches
  rw [e, bi1_s, hr]
  cases (List.range (b - a)).all (fun j => decide (cN k (a + j) = t (i + j))) <;> rfl
theorem words_c {mm : Mm} {n : Nat} {t : Nat → Nat} (h : TxC mm n t) (ok : TxOk n t) {i : Nat} (ha : atC mm i) (hi : i ≤ 500) {k : Nat} (hk : k < 24) : ∀ (l : List Sg) (a w : Nat), sgOk k a l = true → lp (f_X10_wordAmong_s44 k mm (nI (lte n t i))) (nI w, nI a, nI a) = some (match fw n t i l w with | some w' => .inl (nI w') | none => .inr ())
  | [], a, w, ho => by
    obtain ⟨b1, b2⟩ := sL_le k hk
    have ho := of_decide_eq_true (show decide (a = sL.getD k 0 + 1) = true from ho)
    refine lp_end ?_
    unfold f_X10_wordAmong_s44
    dsimp only
    rw [show sLn k = nI (sL.getD k 0) from rfl, if_pos (by rw [sN_lt (by omega) (by omega)]; omega)]
    rfl
  | (x, y, kk) :: r, a, w, ho => by
    have h4 := ok.1
    obtain ⟨b1, b2⟩ := sL_le k hk
    have ho : (((decide (x = a) && decide (a ≤ y)) && (decide (kk < 24) && decide (y - x = sL.getD kk 0))) && (((List.range (y - x)).all (fun j => decide (cN k (x + j) = cN kk j) && decide (¬ cN k (x + j) = 32))) && ((decide (y ≤ sL.getD k 0) && (decide (y = sL.getD k 0) || decide (cN k y = 32))) && sgOk k (y + 1) r))) = true := ho
    simp only [Bool.and_eq_true, Bool.or_eq_true, decide_eq_true_iff, List.all_eq_true, List.mem_range] at ho
    obtain ⟨⟨⟨rfl, o2⟩, o3, o4⟩, o5, ⟨o6, o7⟩, o8⟩ := ho
    obtain ⟨l1, l2, l3⟩ := lte_ok n t i
    have hl5 : lte n t i ≤ 500 := by
      by_cases q : i ≤ n
      · have := l2 q; omega
      · rw [l3 (by omega)]; exact hi
    obtain ⟨b3, b4⟩ := sL_le kk o3
    have walk : ∀ d y', y' + d = y → x ≤ y' → lp (f_X10_wordAmong_s44 k mm (nI (lte n t i))) (nI w, nI x, nI y') = lp (f_X10_wordAmong_s44 k mm (nI (lte n t i))) (nI w, nI x, nI y) := fun d => by
      induction d with
      | zero => intro y' e _; rw [show y' = y by omega]
      | succ d ih =>
        intro y' e hx
        rw [← ih (y' + 1) (by omega) (by omega)]
        refine lp_go ?_
        have hyk : y' < sL.getD k 0 := by omega
        obtain ⟨q1, q2⟩ := cN_ok k hk y' hyk
        have q3 := (o5 (y' - x) (by omega)).2
        rw [show x + (y' - x) = y' by omega] at q3
        unfold f_X10_wordAmong_s44
        dsimp only
        rw [show sLn k = nI (sL.getD k 0) from rfl, if_neg (by rw [sN_lt (by omega) (by omega)]; omega), if_neg (by rw [sN_le (by omega) (by omega)]; omega), if_neg (gd_ok hyk (by omega)), q1, if_neg (by rw [show (32 : Int32) = nI 32 from rfl, sN_eq (by omega) (by decide)]; exact q3), sN_a1]
    rw [walk (y - x) x (by omega) (Nat.le_refl _)]
    have hend : f_X10_wordAmong_s44 k mm (nI (lte n t i)) (nI w, nI x, nI y) = f_X10_wordAmong_j76 k mm (nI (lte n t i)) (nI w) (nI x) (nI y) := by
      unfold f_X10_wordAmong_s44
      dsimp only
      rw [show sLn k = nI (sL.getD k 0) from rfl, if_neg (by rw [sN_lt (by omega) (by omega)]; omega)]
      by_cases q : y = sL.getD k 0
      · rw [if_pos (by rw [sN_le (by omega) (by omega)]; omega)]
      · have hyk : y < sL.getD k 0 := by omega
        obtain ⟨q1, q2⟩ := cN_ok k hk y hyk
        rw [if_neg (by rw [sN_le (by omega) (by omega)]; omega), if_neg (gd_ok hyk (by omega)), q1, if_pos (by rw [o7.resolve_left q]; rfl)]
    have e117 : f_X10_wordAmong_j117 k mm (nI (lte n t i)) (nI w) (nI y) = some (.inl (nI (w + 1), nI (y + 1), nI (y + 1))) := by
      unfold f_X10_wordAmong_j117
      rw [sN_a1, sN_a1]
    have ih := words_c h ok ha hi hk r (y + 1) (w + 1) o8
    have efw : fw n t i ((x, y, kk) :: r) w = if ws n t i kk then some w else fw n t i r (w + 1) := rfl
    unfold f_X10_wordAmong_j76 at hend
    rw [nI_sub' (by omega), show mm.1 1 2 = nI i from ha, nI_sub' l1, e117] at hend
    by_cases c : y - x = lte n t i - i
    · have hin : i ≤ n := by
        by_cases q : i ≤ n
        · exact q
        · rw [l3 (by omega)] at c; omega
      have l2 := l2 hin
      have ews : ws n t i kk = (List.range (y - x)).all (fun j => decide (cN k (x + j) = t (i + j))) := by
        unfold ws
        rw [decide_eq_true (by omega), Bool.true_and]
        refine Bool.eq_iff_iff.mpr ?_
        rw [wsA_iff, List.all_eq_true]
        constructor
        · intro z j hj
          have hj := List.mem_range.mp hj
          rw [decide_eq_true_iff, (o5 j hj).1]
          exact z j (by omega)
        · intro z j hj
          have := of_decide_eq_true (z j (List.mem_range.mpr (by omega)))
          rw [(o5 j (by omega)).1] at this
          exact this
      rw [if_pos (by rw [c]), matches_c h ok ha hk o2 o6 (by omega), bi1_s, ← ews] at hend
      cases hw : ws n t i kk
      · rw [hw, if_neg (show ¬ false = true by decide), if_pos rfl] at hend
        rw [lp_go hend, ih, efw, hw]
        rfl
      · rw [hw, if_pos rfl, if_neg (show ¬ (1 : Int32) = 0 by decide)] at hend
        rw [lp_end hend, efw, hw]
        rfl
    · rw [if_neg (by rw [sN_eq (by omega) (by omega)]; exact c)] at hend
      have hw : ws n t i kk = false := by
        unfold ws
        rw [decide_eq_false (by omega), Bool.false_and]
      rw [lp_go hend, ih, efw, hw]
      rfl
def fwI : Option Nat → Int32
  | some w => nI w
  | none => -1
theorem wordAmong_c {mm : Mm} {n : Nat} {t : Nat → Nat} (h : TxC mm n t) (ok : TxOk n t) {i : Nat} (ha : atC mm i) (hi : i ≤ 500) {k : Nat} (hk : k < 7) : ∃ m1, frT mm m1 ∧ f_X10_wordAmong mm k = some (fwI (fw n t (bl n t i) (wl k) 0), m1) ∧ m1.1 1 4 = mm.1 1 4 ∧ (fw n t (bl n t i) (wl k) 0 = none → m1.1 1 2 = nI (bl n t i) ∧ m1.1 1 3 = mm.1 1 3) ∧ ∀ w, fw n t (bl n t i) (wl k) 0 = some w → m1.1 1 2 = nI (lte n t (bl n t i)) ∧ m1.1 1 3 = nI (bl n t i) := by
  have h4 := ok.1
  have hb5 := bl_5 ok hi
  obtain ⟨b, hb⟩ : ∃ b, b = bl n t i := ⟨_, rfl⟩
  rw [← hb] at hb5 ⊢
  obtain ⟨m0, hm0⟩ : ∃ m0, m0 = wI mm 1 2 (nI b) := ⟨_, rfl⟩
  have f0 : frT mm m0 := by rw [hm0]; exact frT_w mm (by decide)
  have a0 : atC m0 b := by rw [hm0]; exact wI_at _ _ _ _
  have tx := f0.tx h
  have e1 : lp (f_X10_wordAmong_s10 k m0) (nI b) = some (nI (lte n t b)) := by
    refine lp_rn (st := f_X10_wordAmong_s10 k m0) (fun j => isL (t j)) (fun j => nI j) (fun j => nI j) n b (fun j j1 j2 j3 => ?_) (fun j j1 j2 j3 => ?_) (fun j j1 j2 j3 => ?_) (n - b) b rfl (Nat.le_refl _) (Or.inr rfl)
    · unfold f_X10_wordAmong_s10
      rw [tx.1, if_neg (by rw [sN_le (by omega) (by omega)]; omega), if_neg (gd_ok (show j < 400 by omega) (by decide)), cl_ok (by omega), tx.2 j j2, sb_let _ (ok.2 j j2), if_pos (of_decide_eq_true j3), if_neg (show ¬ (1 : Int32) = 0 by decide), sN_a1]
    · unfold f_X10_wordAmong_s10
      rw [tx.1, if_neg (by rw [sN_le (by omega) (by omega)]; omega), if_neg (gd_ok (show j < 400 by omega) (by decide)), cl_ok (by omega), tx.2 j j2, sb_let _ (ok.2 j j2), if_neg (of_decide_eq_false j3), if_pos rfl]
    · unfold f_X10_wordAmong_s10
      rw [tx.1, if_pos (by rw [sN_le (by omega) (by omega)]; omega)]
  have e2 := words_c tx ok a0 hb5 (show k < 24 by omega) (wl k) 0 0 (wl_ok k hk)
  unfold f_X10_wordAmong
  rw [next_c h ok ha hi, bi2_s, ← hb, ← hm0, show m0.1 1 2 = nI b from a0, e1, bi1_s, show ((0 : Int32), (0 : Int32), (0 : Int32)) = (nI 0, nI 0, nI 0) from rfl, e2, bi1_s]
  cases hf : fw n t b (wl k) 0 with
  | none => exact ⟨m0, f0, rfl, by rw [hm0, wI_pl (by decide)], fun _ => ⟨a0, by rw [hm0, wI_pl (by decide)]⟩, fun w z => absurd z (by simp)⟩
  | some w =>
    refine ⟨wI (wI m0 1 3 (nI b)) 1 2 (nI (lte n t b)), f0.tr ((frT_w _ (by decide)).tr (frT_w _ (by decide))), rfl, ?_, fun z => absurd z (by simp), fun _ _ => ⟨wI_at _ _ _ _, by rw [wI_pl (by decide), wI_at]⟩⟩
    rw [wI_pl (by decide), wI_pl (by decide), hm0, wI_pl (by decide)]
