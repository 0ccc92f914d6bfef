/-! PHASE 2: ropes that go -/
def kp (g : Nat → Bool) (L : Rop) (i : Nat) : Nat → Rop
  | 0 => []
  | n + 1 => kp g L i n ++ (if g (i + n) then [] else [rp L (i + n)])
theorem kp_su (g : Nat → Bool) (L : Rop) (i n : Nat) : kp g L i (n + 1) = kp g L i n ++ (if g (i + n) then [] else [rp L (i + n)]) := rfl
theorem kp_len (g : Nat → Bool) (L : Rop) (i : Nat) : ∀ n, (kp g L i n).length ≤ n
  | 0 => Nat.le_refl _
  | n + 1 => by
    have h := kp_len g L i n
    rw [kp_su, List.length_append]
    by_cases c : g (i + n) = true
    · rw [if_pos c]; simp only [List.length_nil]; omega
    · rw [if_neg c]; simp only [List.length_cons, List.length_nil]; omega
theorem kp_front (g : Nat → Bool) (L : Rop) (i : Nat) : ∀ n, kp g L i (n + 1) = (if g i then [] else [rp L i]) ++ kp g L (i + 1) n
  | 0 => by
    rw [kp_su]
    show [] ++ _ = _ ++ []
    rw [List.nil_append, List.append_nil]
    rfl
  | n + 1 => by
    rw [kp_su, kp_front g L i n, kp_su, List.append_assoc, show i + 1 + n = i + (n + 1) by omega]
theorem kp_ext {g q : Nat → Bool} {L : Rop} {i : Nat} : ∀ {n : Nat}, (∀ k, i ≤ k → k < i + n → g k = q k) → kp g L i n = kp q L i n
  | 0, _ => rfl
  | n + 1, h => by
    rw [kp_su, kp_su, kp_ext (fun k h1 h2 => h k h1 (by omega)), h (i + n) (by omega) (by omega)]
theorem rp_ap1 {X Y : Rop} {k : Nat} (h : k < X.length) : rp (X ++ Y) k = rp X k := by
  unfold rp
  rw [List.getD_eq_getElem?_getD, List.getD_eq_getElem?_getD, List.getElem?_append_left h]
theorem rp_ap2 {X Y : Rop} {k : Nat} (h : X.length ≤ k) : rp (X ++ Y) k = rp Y (k - X.length) := by
  unfold rp
  rw [List.getD_eq_getElem?_getD, List.getD_eq_getElem?_getD, List.getElem?_append_right h]
theorem rp_ext {X Y : Rop} (hl : X.length = Y.length) (h : ∀ k, k < X.length → rp X k = rp Y k) : X = Y := by
  apply List.ext_getElem hl
  intro k h1 h2
  have := h k h1
  unfold rp at this
  rw [List.getD_eq_getElem?_getD, List.getD_eq_getElem?_getD, List.getElem?_eq_getElem h1, List.getElem?_eq_getElem h2] at this
  exact this
def ffb : Nat → Bool := fun _ => false
theorem kp_ff_len (L : Rop) (i : Nat) : ∀ n, (kp ffb L i n).length = n
  | 0 => rfl
  | n + 1 => by
    rw [kp_su, List.length_append, kp_ff_len L i n]
    rfl
theorem kp_ff_rp (L : Rop) (i : Nat) : ∀ n k, k < n → rp (kp ffb L i n) k = rp L (i + k)
  | 0, k, h => absurd h (by omega)
  | n + 1, k, h => by
    rw [kp_su]
    by_cases c : k < n
    · rw [rp_ap1 (by rw [kp_ff_len]; exact c), kp_ff_rp L i n k c]
    · rw [rp_ap2 (by rw [kp_ff_len]; omega), kp_ff_len, show k - n = 0 by omega, show k = n by omega]
      rfl
theorem kp_ff (L : Rop) : kp ffb L 0 L.length = L := rp_ext (kp_ff_len L 0 _) (fun k hk => by
  rw [kp_ff_len] at hk
  rw [kp_ff_rp L 0 _ k hk, Nat.zero_add])
/-- each rope that is kept was there -/
theorem kp_mem {g : Nat → Bool} {L : Rop} : ∀ {n k : Nat}, k < (kp g L 0 n).length → ∃ j, j < n ∧ g j = false ∧ rp (kp g L 0 n) k = rp L j
  | 0, k, h => absurd h (Nat.not_lt_zero _)
  | n + 1, k, h => by
    rw [kp_su, Nat.zero_add] at h ⊢
    by_cases c : k < (kp g L 0 n).length
    · obtain ⟨j, j1, j2, j3⟩ := kp_mem c
      exact ⟨j, by omega, j2, by rw [rp_ap1 c, j3]⟩
    · rw [List.length_append] at h
      by_cases d : g n = true
      · rw [if_pos d, List.length_nil] at h; omega
      · rw [if_neg d] at h ⊢
        rw [rp_ap2 (by omega)]
        rw [List.length_cons, List.length_nil] at h
        rw [show k - (kp g L 0 n).length = 0 by omega]
        exact ⟨n, by omega, Bool.eq_false_iff.mpr d, rfl⟩
def stp (g : Nat → Bool) (L : Rop) : Nat → Int32
  | 0 => 0
  | k + 1 => stp g L k + (if g k then nI (rp L k).2.2 else 0)
theorem stp_ext {g q : Nat → Bool} {L : Rop} : ∀ {n : Nat}, (∀ k, k < n → g k = q k) → stp g L n = stp q L n
  | 0, _ => rfl
  | n + 1, h => by
    show stp g L n + _ = stp q L n + _
    rw [stp_ext (fun k h1 => h k (by omega)), h n (by omega)]
theorem cnt_ext {g q : Nat → Bool} : ∀ {n : Nat}, (∀ k, k < n → g k = q k) → cnt g n = cnt q n
  | 0, _ => rfl
  | n + 1, h => by
    show (if g n then cnt g n + 1 else cnt g n) = if q n then cnt q n + 1 else cnt q n
    rw [cnt_ext (fun k h1 => h k (by omega)), h n (by omega)]
theorem pop_bset (g : Nat → Bool) : ∀ (n m : Nat), m ≤ n → pop (bset g n) m = cnt g m
  | _, 0, _ => rfl
  | n, m + 1, h => by
    show pop (bset g n) m + (if (bset g n).testBit m then 1 else 0) = if g m then cnt g m + 1 else cnt g m
    rw [pop_bset g n m (by omega), bset_tb, decide_eq_true (show m < n by omega), Bool.true_and]
    by_cases c : g m = true
    · rw [if_pos c, if_pos c]
    · rw [if_neg c, if_neg c, Nat.add_zero]
theorem pop_bset12 (g : Nat → Bool) {n m : Nat} (h : n ≤ m) : pop (bset g n) m = cnt g n := by
  have := pop_more (bset_lt g n) (m - n)
  rw [show n + (m - n) = m by omega] at this
  rw [this, pop_bset g n n (Nat.le_refl _)]
/-- the three rows of the ropes while they are laid together: K is laid, what is from k on is still as it was -/
def RpP (x y z : Nat → Int32) (K L : Rop) (k : Nat) : Prop := (∀ j, j < K.length → x j = nI (rp K j).1 ∧ y j = nI (rp K j).2.1 ∧ z j = nI (rp K j).2.2) ∧ ∀ j, k ≤ j → j < L.length → x j = nI (rp L j).1 ∧ y j = nI (rp L j).2.1 ∧ z j = nI (rp L j).2.2
theorem wI_sm {m : Mm} {i k j : Nat} {x : Int32} : (wI m i k x).1 i j = if j = k then x else m.1 i j := by
  rw [wI_get]
  by_cases h : j = k
  · rw [if_pos ⟨rfl, h⟩, if_pos h]
  · rw [if_neg (fun z => h z.2), if_neg h]
theorem lose_c {mm : Mm} {r v : Nat} {V A : Dat} {L : Rop} {S : Int32} (hr : RaC mm r V A L S) (hl : L.length ≤ 12) {g : Nat} (hg : g < 2 ^ 31) : ∃ m1, f_X4_lose mm r v (nI g) = some m1 ∧ RaC m1 r V A (kp g.testBit L 0 L.length) S ∧ (∀ i, ¬ i = r → ¬ i = r + 6 → ¬ i = r + 7 → ¬ i = r + 8 → m1.1 i = mm.1 i) ∧ ∀ k, ¬ k = 3 → m1.1 r k = mm.1 r k := by
  have hn := hr.2.2.1.1
  have hk := hr.2.2.1.2
  have hx : ∃ w, lp (f_X4_lose_s4 r v (nI g)) ((0 : Int32), (0 : Int32), mm) = some w ∧ ∃ m, w = (nI (kp g.testBit L 0 L.length).length, m) ∧ (∀ i, ¬ i = r + 6 → ¬ i = r + 7 → ¬ i = r + 8 → m.1 i = mm.1 i) ∧ RpP (m.1 (r + 6)) (m.1 (r + 7)) (m.1 (r + 8)) (kp g.testBit L 0 L.length) L L.length := by
    refine lp_inv (fun k x => ∃ m, x = (nI (kp g.testBit L 0 k).length, nI k, m) ∧ (∀ i, ¬ i = r + 6 → ¬ i = r + 7 → ¬ i = r + 8 → m.1 i = mm.1 i) ∧ RpP (m.1 (r + 6)) (m.1 (r + 7)) (m.1 (r + 8)) (kp g.testBit L 0 k) L k) _ L.length (fun k x hkl hx => ?_) (fun x hx => ?_) 0 _ (Nat.zero_le _) ⟨mm, rfl, fun i _ _ _ => rfl, fun j hj => absurd hj (Nat.not_lt_zero _), fun j _ hj => hk j hj⟩
    · obtain ⟨m, rfl, m1, m2, m3⟩ := hx
      have hle := kp_len g.testBit L 0 k
      have e3 : m.1 r 3 = nI L.length := by rw [m1 r (by omega) (by omega) (by omega)]; exact hn
      have q := m3 k (Nat.le_refl _) hkl
      unfold f_X4_lose_s4
      simp (disch := omega) only [↓reduceIte, decide_true, decide_false, Bool.false_eq_true, eq_self, s10, s01, cont_ok, has_ok, b2i0, b2i1, reduceCtorEq, Nat.or_zero, Nat.add_zero, sN_le, sN_lt, sN_eq, sN_lt0, sN_le0, sN_0le, sN_0lt, sN_eq0, sN_cl, sN_ad, sN_a1, K2, K3, K4, K5, K6, K7, K8, K9, K12, K16, K20, false_or, or_false, if_neg, if_pos, vl_s, bi1_s, bi2_s, nx_or, nx_and, nx_sh, e3]
      rw [kp_su, Nat.zero_add]
      cases hc : g.testBit k
      · rw [if_pos rfl, if_neg (by decide)]
        have hl1 : (kp g.testBit L 0 k ++ [rp L k]).length = (kp g.testBit L 0 k).length + 1 := by rw [List.length_append]; rfl
        rw [hl1]
        refine ⟨_, rfl, _, rfl, fun i h1 h2 h3 => ?_, ?_, ?_⟩
        · rw [wI_ne h3, wI_ne h2, wI_ne h1, m1 i h1 h2 h3]
        · intro j hj
          rw [hl1] at hj
          simp (disch := omega) only [wI_ne, wI_sm]
          by_cases hj2 : j < (kp g.testBit L 0 k).length
          · rw [if_neg (by omega), if_neg (by omega), if_neg (by omega), rp_ap1 hj2]
            exact m2 j hj2
          · have ej : j = (kp g.testBit L 0 k).length := by omega
            rw [if_pos ej, if_pos ej, if_pos ej, rp_ap2 (by omega), ej, Nat.sub_self]
            exact q
        · intro j h1 h2
          simp (disch := omega) only [wI_ne, wI_sm]
          rw [if_neg (by omega), if_neg (by omega), if_neg (by omega)]
          exact m3 j (by omega) h2
      · rw [if_neg (by decide), if_pos rfl, List.append_nil]
        exact ⟨_, rfl, m, rfl, m1, m2, fun j h1 h2 => m3 j (by omega) h2⟩
    · obtain ⟨m, rfl, m1, m2, m3⟩ := hx
      have e3 : m.1 r 3 = nI L.length := by rw [m1 r (by omega) (by omega) (by omega)]; exact hn
      refine ⟨(nI (kp g.testBit L 0 L.length).length, m), ?_, m, rfl, m1, m2, m3⟩
      unfold f_X4_lose_s4
      simp (disch := omega) only [↓reduceIte, decide_true, decide_false, Bool.false_eq_true, eq_self, s10, s01, cont_ok, has_ok, b2i0, b2i1, reduceCtorEq, Nat.or_zero, Nat.add_zero, sN_le, sN_lt, sN_eq, sN_lt0, sN_le0, sN_0le, sN_0lt, sN_eq0, sN_cl, sN_ad, sN_a1, K2, K3, K4, K5, K6, K7, K8, K9, K12, K16, K20, false_or, or_false, if_neg, if_pos, vl_s, bi1_s, bi2_s, nx_or, nx_and, nx_sh, e3]
  obtain ⟨w, e, m, rfl, m1, m2, m3⟩ := hx
  refine ⟨wI m r 3 (nI (kp g.testBit L 0 L.length).length), ?_, ⟨?_, ?_, ⟨?_, fun j hj => ?_⟩, fun o ho => ?_, fun t ht => ?_⟩, fun i h0 h1 h2 h3 => ?_, fun k hk => ?_⟩
  · unfold f_X4_lose
    rw [e]
    rfl
  · rw [wI_pl (by decide), m1 r (by omega) (by omega) (by omega)]
    exact hr.1
  · rw [wI_pl (by decide), m1 r (by omega) (by omega) (by omega)]
    exact hr.2.1
  · rw [wI_at]
  · rw [wI_ne (by omega), wI_ne (by omega), wI_ne (by omega)]
    exact m2 j hj
  · rw [wI_ne (by omega), m1 _ (by omega) (by omega) (by omega)]
    exact hr.2.2.2.1 o ho
  · rw [wI_ne (by omega), wI_ne (by omega), wI_ne (by omega), m1 _ (by omega) (by omega) (by omega), m1 _ (by omega) (by omega) (by omega), m1 _ (by omega) (by omega) (by omega)]
    exact hr.2.2.2.2 t ht
  · rw [wI_ne h0, m1 i h1 h2 h3]
  · rw [wI_pl hk, m1 r (by omega) (by omega) (by omega)]
theorem untie_c {mm : Mm} {r v : Nat} {V A : Dat} {L : Rop} {S : Int32} (hr : RaC mm r V A L S) (hl : L.length ≤ 12) {g : Nat} (hg : g < 2 ^ 31) : ∃ m1, f_X4_untie mm r v (nI g) = some m1 ∧ RaC m1 r V A (kp g.testBit L 0 L.length) (S + stp g.testBit L L.length) ∧ (∀ i, ¬ i = r → ¬ i = r + 6 → ¬ i = r + 7 → ¬ i = r + 8 → m1.1 i = mm.1 i) ∧ ∀ k, ¬ k = 3 → ¬ k = 2 → m1.1 r k = mm.1 r k := by
  have hn := hr.2.2.1.1
  have hk := hr.2.2.1.2
  have e : lp (f_X4_untie_s2 r v (nI g)) ((0 : Int32), mm) = some (wI mm r 2 (S + stp g.testBit L L.length)) := by
    refine lpf (fun k => (nI k, wI mm r 2 (S + stp g.testBit L k))) L.length ?_ (fun k hkl => ?_) ?_
    · rw [show S + stp g.testBit L 0 = mm.1 r 2 from by rw [hr.2.1]; exact Int32.add_zero S]
      have : wI mm r 2 (mm.1 r 2) = mm := by
        refine Prod.ext ?_ rfl
        funext i j
        rw [wI_get]
        by_cases c : i = r ∧ j = 2
        · rw [if_pos c, c.1, c.2]
        · rw [if_neg c]
      rw [this]
      rfl
    · have q := (hk k hkl).2.2
      unfold f_X4_untie_s2
      simp (disch := omega) only [↓reduceIte, decide_true, decide_false, Bool.false_eq_true, eq_self, s10, s01, cont_ok, has_ok, b2i0, b2i1, reduceCtorEq, Nat.or_zero, Nat.add_zero, sN_le, sN_lt, sN_eq, sN_lt0, sN_le0, sN_0le, sN_0lt, sN_eq0, sN_cl, sN_ad, sN_a1, K2, K3, K4, K5, K6, K7, K8, K9, K12, K16, K20, false_or, or_false, if_neg, if_pos, vl_s, bi1_s, bi2_s, nx_or, nx_and, nx_sh, wI_pl (show 3 ≠ 2 by decide), wI_ne (show r + 8 ≠ r by omega), wI_at, hn, q]
      rw [show stp g.testBit L (k + 1) = stp g.testBit L k + (if g.testBit k then nI (rp L k).2.2 else 0) from rfl]
      have ww : ∀ a b : Int32, wI (wI mm r 2 a) r 2 b = wI mm r 2 b := fun a b => by
        refine Prod.ext ?_ rfl
        funext i j
        rw [wI_get, wI_get, wI_get]
        by_cases c : i = r ∧ j = 2
        · rw [if_pos c, if_pos c]
        · rw [if_neg c, if_neg c, if_neg c]
      cases hc : g.testBit k
      · rw [if_pos rfl, if_neg (by decide), Int32.add_zero]
      · rw [if_neg (by decide), if_pos rfl, ww, Int32.add_assoc]
    · unfold f_X4_untie_s2
      simp (disch := omega) only [↓reduceIte, decide_true, decide_false, Bool.false_eq_true, eq_self, s10, s01, cont_ok, has_ok, b2i0, b2i1, reduceCtorEq, Nat.or_zero, Nat.add_zero, sN_le, sN_lt, sN_eq, sN_lt0, sN_le0, sN_0le, sN_0lt, sN_eq0, sN_cl, sN_ad, sN_a1, K2, K3, K4, K5, K6, K7, K8, K9, K12, K16, K20, false_or, or_false, if_neg, if_pos, vl_s, bi1_s, bi2_s, nx_or, nx_and, nx_sh, wI_pl (show 3 ≠ 2 by decide), hn]
  have hr2 : RaC (wI mm r 2 (S + stp g.testBit L L.length)) r V A L (S + stp g.testBit L L.length) := by
    refine ⟨?_, wI_at _ _ _ _, ?_, fun o ho => ?_, fun t ht => ?_⟩
    · rw [wI_pl (by decide)]; exact hr.1
    · rw [wI_pl (by decide), wI_ne (by omega), wI_ne (by omega), wI_ne (by omega)]; exact hr.2.2.1
    · rw [wI_ne (by omega)]; exact hr.2.2.2.1 o ho
    · rw [wI_ne (by omega), wI_ne (by omega), wI_ne (by omega)]; exact hr.2.2.2.2 t ht
  obtain ⟨m1, e1, h1, h2, h3⟩ := lose_c (v := v) hr2 hl hg
  refine ⟨m1, ?_, h1, fun i g0 g1 g2 g3 => ?_, fun k k1 k2 => ?_⟩
  · unfold f_X4_untie
    rw [e, bi1_s, e1, bi1_s]
  · rw [h2 i g0 g1 g2 g3, wI_ne g0]
  · rw [h3 k k1, wI_pl k2]
/-! the reference's -/
theorem nI_s1 (i : Nat) : nI (i + 1) - 1 = nI i := nI_sub' (a := i + 1) (b := 1) (by omega)
theorem nI_m1 (i : Nat) : nI i + (-1) = nI i - 1 := by
  rw [Int32.sub_eq_add_neg]
def frR (m m1 : Mm) : Prop := (∀ i, ¬ i = 1089 → ¬ i = 1099 → ¬ i = 1100 → ¬ i = 1101 → m1.1 i = m.1 i) ∧ ∀ k, ¬ k = 4 → m1.1 1089 k = m.1 1089 k
theorem ropeGoes_f {mm : Mm} {X Y : Rop} {e : Nat × Nat × Nat} (hr : RpOk (mm.1 1089 4) (mm.1 1099) (mm.1 1100) (mm.1 1101) (X ++ e :: Y)) (hl : (X ++ e :: Y).length ≤ 12) : ∃ m1, f_X12_ropeGoes mm (nI X.length) = some m1 ∧ RpOk (m1.1 1089 4) (m1.1 1099) (m1.1 1100) (m1.1 1101) (X ++ Y) ∧ frR mm m1 := by
  have hlen : (X ++ e :: Y).length = X.length + Y.length + 1 := by rw [List.length_append, List.length_cons]; omega
  have hn := hr.1
  rw [hlen] at hn hl
  have hx : ∃ w, lp f_X12_ropeGoes_s2 (nI X.length, mm) = some w ∧ (∀ i, ¬ i = 1099 → ¬ i = 1100 → ¬ i = 1101 → w.1 i = mm.1 i) ∧ RpP (w.1 1099) (w.1 1100) (w.1 1101) (X ++ Y) (X ++ e :: Y) (X.length + Y.length) := by
    have hin := lp_inv (st := f_X12_ropeGoes_s2) (fun k x => ∃ m, x = (nI (X.length + k), m) ∧ (∀ i, ¬ i = 1099 → ¬ i = 1100 → ¬ i = 1101 → m.1 i = mm.1 i) ∧ (∀ j, j < X.length + k → m.1 1099 j = nI (rp (X ++ Y) j).1 ∧ m.1 1100 j = nI (rp (X ++ Y) j).2.1 ∧ m.1 1101 j = nI (rp (X ++ Y) j).2.2) ∧ (∀ j, X.length + k ≤ j → j < X.length + Y.length + 1 → m.1 1099 j = nI (rp (X ++ e :: Y) j).1 ∧ m.1 1100 j = nI (rp (X ++ e :: Y) j).2.1 ∧ m.1 1101 j = nI (rp (X ++ e :: Y) j).2.2)) (fun w => (∀ i, ¬ i = 1099 → ¬ i = 1100 → ¬ i = 1101 → w.1 i = mm.1 i) ∧ RpP (w.1 1099) (w.1 1100) (w.1 1101) (X ++ Y) (X ++ e :: Y) (X.length + Y.length)) Y.length (fun k x hk hx => ?_) (fun x hx => ?_) 0 (nI X.length, mm) (Nat.zero_le _) ?_
    · exact hin
    · obtain ⟨m, rfl, m1, m2, m3⟩ := hx
      have e4 : m.1 1089 4 = nI (X.length + Y.length + 1) := by rw [m1 1089 (by decide) (by decide) (by decide)]; exact hn
      have q := m3 (X.length + k + 1) (by omega) (by omega)
      have eq : rp (X ++ e :: Y) (X.length + k + 1) = rp (X ++ Y) (X.length + k) := by
        rw [rp_ap2 (by omega), rp_ap2 (by omega), show X.length + k + 1 - X.length = k + 1 by omega, show X.length + k - X.length = k by omega]
        rfl
      unfold f_X12_ropeGoes_s2
      rw [eq] at q
      simp (disch := omega) only [↓reduceIte, decide_true, decide_false, Bool.false_eq_true, eq_self, s10, s01, cont_ok, has_ok, b2i0, b2i1, reduceCtorEq, Nat.or_zero, Nat.add_zero, sN_le, sN_lt, sN_eq, sN_lt0, sN_le0, sN_0le, sN_0lt, sN_eq0, sN_cl, sN_ad, sN_a1, K2, K3, K4, K5, K6, K7, K8, K9, K12, K16, K20, false_or, or_false, if_neg, if_pos, vl_s, bi1_s, bi2_s, nx_or, nx_and, nx_sh, e4, wI_ne (show 1100 ≠ 1099 by decide), wI_ne (show 1101 ≠ 1099 by decide), wI_ne (show 1101 ≠ 1100 by decide), q.1, q.2.1, q.2.2]
      refine ⟨_, rfl, _, rfl, fun i h1 h2 h3 => ?_, fun j hj => ?_, fun j h1 h2 => ?_⟩
      · rw [wI_ne h3, wI_ne h2, wI_ne h1, m1 i h1 h2 h3]
      · simp (disch := omega) only [wI_ne, wI_sm]
        by_cases c : j = X.length + k
        · rw [if_pos c, if_pos c, if_pos c, c]
          exact ⟨rfl, rfl, rfl⟩
        · rw [if_neg c, if_neg c, if_neg c]
          exact m2 j (by omega)
      · simp (disch := omega) only [wI_ne, wI_sm]
        rw [if_neg (by omega), if_neg (by omega), if_neg (by omega)]
        exact m3 j (by omega) h2
    · obtain ⟨m, rfl, m1, m2, m3⟩ := hx
      have e4 : m.1 1089 4 = nI (X.length + Y.length + 1) := by rw [m1 1089 (by decide) (by decide) (by decide)]; exact hn
      refine ⟨m, ?_, m1, fun j hj => m2 j (by rw [List.length_append] at hj; exact hj), fun j h1 h2 => m3 j h1 (by rw [hlen] at h2; exact h2)⟩
      unfold f_X12_ropeGoes_s2
      simp (disch := omega) only [↓reduceIte, decide_true, decide_false, Bool.false_eq_true, eq_self, s10, s01, cont_ok, has_ok, b2i0, b2i1, reduceCtorEq, Nat.or_zero, Nat.add_zero, sN_le, sN_lt, sN_eq, sN_lt0, sN_le0, sN_0le, sN_0lt, sN_eq0, sN_cl, sN_ad, sN_a1, K2, K3, K4, K5, K6, K7, K8, K9, K12, K16, K20, false_or, or_false, if_neg, if_pos, vl_s, bi1_s, bi2_s, nx_or, nx_and, nx_sh, e4]
    · refine ⟨mm, rfl, fun i _ _ _ => rfl, fun j hj => ?_, fun j h1 h2 => hr.2 j (by rw [hlen]; exact h2)⟩
      have := hr.2 j (by rw [hlen]; omega)
      rw [rp_ap1 (by omega)] at this
      rw [rp_ap1 (by omega)]
      exact this
  obtain ⟨w, e1, w1, w2⟩ := hx
  refine ⟨wI w 1089 4 (nI (X.length + Y.length)), ?_, ⟨?_, fun j hj => ?_⟩, fun i h0 h1 h2 h3 => ?_, fun k hk => ?_⟩
  · unfold f_X12_ropeGoes
    rw [e1, bi1_s, w1 1089 (by decide) (by decide) (by decide), hn, nI_s1]
    rfl
  · rw [wI_at, List.length_append]
  · rw [wI_ne (by decide), wI_ne (by decide), wI_ne (by decide)]
    exact w2.1 j hj
  · rw [wI_ne h0, w1 i h1 h2 h3]
  · rw [wI_pl hk, w1 1089 (by decide) (by decide) (by decide)]
/-- the list behind the step at rope i -/
theorem kp_step {g : Nat → Bool} {L : Rop} {i : Nat} (hi : i < L.length) : kp ffb L 0 (i + 1) ++ kp g L (i + 1) (L.length - (i + 1)) = kp ffb L 0 i ++ rp L i :: kp g L (i + 1) (L.length - (i + 1)) ∧ (if g i then kp ffb L 0 i ++ kp g L (i + 1) (L.length - (i + 1)) else kp ffb L 0 i ++ rp L i :: kp g L (i + 1) (L.length - (i + 1))) = kp ffb L 0 i ++ kp g L i (L.length - i) := by
  constructor
  · rw [kp_su, Nat.zero_add]
    show (kp ffb L 0 i ++ [rp L i]) ++ _ = _
    rw [List.append_assoc]
    rfl
  · rw [show L.length - i = L.length - (i + 1) + 1 by omega, kp_front]
    by_cases c : g i = true
    · rw [if_pos c, if_pos c, List.nil_append]
    · rw [if_neg c, if_neg c]
      rfl
theorem kp_mid_len {g : Nat → Bool} {L : Rop} {i : Nat} (hi : i ≤ L.length) : (kp ffb L 0 i ++ kp g L i (L.length - i)).length ≤ L.length := by
  rw [List.length_append, kp_ff_len]
  have := kp_len g L i (L.length - i)
  omega
theorem kp_at {g : Nat → Bool} {L : Rop} {i : Nat} : rp (kp ffb L 0 i ++ rp L i :: kp g L (i + 1) (L.length - (i + 1))) i = rp L i := by
  rw [rp_ap2 (by rw [kp_ff_len]; omega), kp_ff_len, Nat.sub_self]
  rfl
