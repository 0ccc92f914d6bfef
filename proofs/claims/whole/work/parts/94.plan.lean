/-! PHASE 2: plan, the class's rows -/
theorem all_getD {f : Nat → Bool} : ∀ (G : List Nat), (G.all f = true ↔ ∀ k, k < G.length → f (G.getD k 0) = true)
  | [] => ⟨fun _ k hk => absurd hk (Nat.not_lt_zero _), fun _ => rfl⟩
  | a :: G => by
    rw [show (a :: G).all f = (f a && G.all f) from rfl, Bool.and_eq_true, all_getD G]
    constructor
    · intro h k hk
      cases k with
      | zero => exact h.1
      | succ k => exact h.2 k (by rw [List.length_cons] at hk; omega)
    · intro h
      exact ⟨h 0 (by rw [List.length_cons]; omega), fun k hk => h (k + 1) (by rw [List.length_cons]; omega)⟩
theorem bt_nf {b : Bool} (h : ¬ b = false) : b = true := by
  cases b
  · exact absurd rfl h
  · rfl
def gdef (G : List Nat) : Prop := G.length ≤ 6 ∧ ∀ k, k < G.length → G.getD k 0 < 256
theorem gps_def {V A : Dat} {L : Rop} (ov : RvOk V) (oa : RaOk V A L) (k : Nat) : gdef (gps V A k) := by
  refine ⟨gps_len ov oa k, fun j hj => ?_⟩
  have : (gps V A k).all (fun g => decide (g < 256)) = true := List.all_eq_true.mpr (fun g hg => decide_eq_true (Nat.lt_of_le_of_lt (Nat.le_of_testBit (gps_sub V A k g hg)) (thA_lt ov.2.2.1)))
  exact of_decide_eq_true ((all_getD _).mp this j hj)
def gOk (s t g : Nat) : Bool := (decide (s &&& g = 0) || decide (s &&& g = g)) || g.testBit t
def grC (m : Mm) (G : List Nat) : Prop := m.1 234 2 = nI G.length ∧ hold (m.1 235) G
theorem and_lt {a b : Nat} (h : b < 256) : a &&& b < 256 := Nat.lt_of_le_of_lt Nat.and_le_right h
theorem canFollow_c {mm : Mm} {G : List Nat} {all s t : Nat} (hg : grC mm G) (hd : gdef G) (ha : all < 256) (hs : s < 256) (ht : t < 8) : f_X1_canFollow mm (nI s) (nI t) (nI all) = some (if canF G all s t then 1 else 0) := by
  have h6 := hd.1
  unfold f_X1_canFollow
  rw [cont_ok (by omega) (by omega), cont_ok (by omega) (by omega)]
  unfold canF
  cases c1 : s.testBit t
  · rw [if_neg (show ¬ false = true by decide), if_pos rfl]
    cases c2 : all.testBit t
    · rw [if_neg (show ¬ false = true by decide), if_pos rfl]
      rfl
    · rw [if_pos rfl, if_neg (show ¬ (1 : Int32) = 0 by decide)]
      have step : ∀ k, k < G.length → f_X1_canFollow_s21 mm (nI s) (nI t) (nI k) = if gOk s t (G.getD k 0) then some (.inl (nI (k + 1))) else some (.inr (.inl ())) := fun k hk => by
        have hk6 : k < 6 := by omega
        have hb := hd.2 k hk
        have hb2 := and_lt (a := s) hb
        unfold f_X1_canFollow_s21 f_X1_canFollow_j62 f_X1_canFollow_j63 gOk
        rw [hg.1, if_neg (by rw [sN_le (by omega) (by omega)]; omega), if_neg (gd_ok hk6 (by decide)), cl_ok (by omega), hg.2 k hk, nx_and, vl_s, sN_a1, cont_ok (by omega) (by omega)]
        by_cases d1 : s &&& G.getD k 0 = 0
        · rw [if_pos (by rw [sN_eq0 (by omega)]; exact d1), decide_eq_true d1, if_pos rfl]
          rfl
        · rw [if_neg (by rw [sN_eq0 (by omega)]; exact d1), decide_eq_false d1]
          by_cases d2 : s &&& G.getD k 0 = G.getD k 0
          · rw [if_neg (show ¬ (nI k < 0 ∨ 6 ≤ k) from fun z => z.elim (nI_nn k (by omega)) (fun y => by omega)), if_pos (by rw [sN_eq (by omega) (by omega)]; exact d2), if_pos rfl, decide_eq_true d2]
            rfl
          · rw [if_neg (show ¬ (nI k < 0 ∨ 6 ≤ k) from fun z => z.elim (nI_nn k (by omega)) (fun y => by omega)), if_neg (by rw [sN_eq (by omega) (by omega)]; exact d2), if_neg (show ¬ (1 : Int32) = 0 by decide), if_neg (show ¬ (nI k < 0 ∨ 6 ≤ k) from fun z => z.elim (nI_nn k (by omega)) (fun y => by omega)), decide_eq_false d2]
            cases d3 : (G.getD k 0).testBit t
            · rw [if_neg (show ¬ false = true by decide), if_pos rfl]
              rfl
            · rw [if_pos rfl, if_neg (show ¬ (1 : Int32) = 0 by decide)]
              rfl
      rcases lp_ex (st := f_X1_canFollow_s21 mm (nI s) (nI t)) (fun k => gOk s t (G.getD k 0) = false) G.length (fun k hk hp => by rw [step k hk, if_pos (bt_nf hp)]) (fun k hk hp => by rw [step k hk, hp]; rfl) (by
        unfold f_X1_canFollow_s21
        rw [hg.1, if_pos (by rw [sN_le (by omega) (by omega)]; omega)]) with ⟨⟨k, hk, hp⟩, e⟩ | ⟨hno, e⟩
      · rw [e]
        have : G.all (fun g => (decide (s &&& g = 0) || decide (s &&& g = g)) || g.testBit t) = false := Bool.eq_false_iff.mpr (fun z => by
          have := (all_getD G).mp z k hk
          have hp : ((decide (s &&& G.getD k 0 = 0) || decide (s &&& G.getD k 0 = G.getD k 0)) || (G.getD k 0).testBit t) = false := hp
          rw [hp] at this
          exact absurd this (by decide))
        rw [this]
        rfl
      · rw [e]
        have : G.all (fun g => (decide (s &&& g = 0) || decide (s &&& g = g)) || g.testBit t) = true := (all_getD G).mpr (fun k hk => bt_nf (fun z => hno ⟨k, hk, z⟩))
        rw [this]
        rfl
  · rw [if_pos rfl, if_neg (show ¬ (1 : Int32) = 0 by decide)]
    rfl
theorem or_lt {s t : Nat} (hs : s < 256) (ht : t < 8) : s ||| 2 ^ t < 256 := Nat.or_lt_two_pow (n := 8) hs (Nat.pow_lt_pow_right (by decide) ht)
theorem wy_sm {G : List Nat} {all r s : Nat} : wy G all (r + 1) s = sm (fun t => if canF G all s t then wy G all r (s ||| 2 ^ t) else 0) 8 := rfl
theorem waysBehind_c {mm : Mm} {G : List Nat} {all s r : Nat} (hg : grC mm G) (hd : gdef G) (ha : all < 256) (hs : s < 256) (hw : ∀ t, t < 8 → canF G all s t = true → mm.1 236 (s ||| 2 ^ t) = nI (wy G all r (s ||| 2 ^ t))) : f_X1_waysBehind mm (nI s) (nI all) = some (nI (wy G all (r + 1) s)) := by
  unfold f_X1_waysBehind
  rw [lpa (0 : Int32) (fun k => nI (sm (fun t => if canF G all s t then wy G all r (s ||| 2 ^ t) else 0) k)) 8 rfl (fun k hk => ?_) (r := nI (wy G all (r + 1) s)) ?_]
  · rfl
  · unfold f_X1_waysBehind_s5
    dsimp only
    rw [if_pos (by decide)]
    rfl
  · have e1 : sm (fun t => if canF G all s t then wy G all r (s ||| 2 ^ t) else 0) (k + 1) = sm (fun t => if canF G all s t then wy G all r (s ||| 2 ^ t) else 0) k + (if canF G all s k then wy G all r (s ||| 2 ^ k) else 0) := rfl
    rw [e1]
    unfold f_X1_waysBehind_s5
    dsimp only
    rw [if_neg (by rw [K8, sN_le (by omega) (by omega)]; omega), canFollow_c hg hd ha hs hk, bi1_s, sN_a1]
    cases c : canF G all s k
    · rfl
    · have hl := or_lt hs hk
      rw [if_pos rfl, if_neg (show ¬ (1 : Int32) = 0 by decide), nx_sh k (by omega), nx_or, if_neg (gd_ok hl (by decide)), cl_ok (by omega), hw k hk c, sN_ad, vl_s]
      rfl
def wsOk (m : Mm) (G : List Nat) (all j : Nat) : Prop := ∀ u, j ≤ u → u < 256 → ndf u all = 0 → m.1 236 u = nI (wy G all (pop all 8 - pop u 8) u)
theorem sub_or {all s t : Nat} (h : ndf s all = 0) (ht : all.testBit t = true) : ndf (s ||| 2 ^ t) all = 0 := ndf_of (fun u hu => by
  rw [Nat.testBit_or, Bool.or_eq_true, one_tb, decide_eq_true_iff] at hu
  rcases hu with hu | hu
  · exact ndf_sub h hu
  · rw [← hu]; exact ht)
theorem or_gt {s t : Nat} (h : s.testBit t = false) : s < s ||| 2 ^ t := by
  have h1 : s ≤ s ||| 2 ^ t := Nat.left_le_or
  have h2 : ¬ s = s ||| 2 ^ t := fun z => by
    rw [z, Nat.testBit_or, one_tb, decide_eq_true rfl, Bool.or_true] at h
    exact absurd h (by decide)
  omega
theorem canF_p {G : List Nat} {all s t : Nat} (h : canF G all s t = true) : s.testBit t = false ∧ all.testBit t = true := by
  unfold canF at h
  rw [Bool.and_eq_true, Bool.and_eq_true, Bool.not_eq_true'] at h
  exact h.1
theorem pop_lt {all s : Nat} (ha : all < 256) (h : ndf s all = 0) (hne : ¬ s = all) : pop s 8 < pop all 8 := by
  have h1 := pop_sub (s := s) (a := all) 8 (fun t _ ht => ndf_sub h ht)
  have hs : s < 256 := Nat.lt_of_le_of_lt (ndf_lea h) ha
  by_cases c : pop s 8 = pop all 8
  · refine absurd (tb_ext (fun t => ?_)) hne
    by_cases ct : t < 8
    · exact h1.2 c t ct
    · cases e1 : s.testBit t
      · cases e2 : all.testBit t
        · rfl
        · exact absurd (tb8 ha e2) ct
      · exact absurd (tb8 hs e1) ct
  · omega
theorem ways_c {mm : Mm} {G : List Nat} {all : Nat} (hg : grC mm G) (hd : gdef G) (ha : all < 256) : ∃ m1, lp (f_X1_find_s42 (nI all)) (nI all, mm) = some m1 ∧ (∀ i, ¬ i = 236 → m1.1 i = mm.1 i) ∧ wsOk m1 G all 0 := by
  have hx := lp_inv (st := f_X1_find_s42 (nI all)) (fun k x => ∃ m, x = (nI (all + 1 - k) - 1, m) ∧ (∀ i, ¬ i = 236 → m.1 i = mm.1 i) ∧ wsOk m G all (all + 1 - k)) (fun m1 => (∀ i, ¬ i = 236 → m1.1 i = mm.1 i) ∧ wsOk m1 G all 0) (all + 1) (fun k x hk hP => ?_) (fun x hP => ?_) 0 (nI all, mm) (Nat.zero_le _) ⟨mm, by rw [Nat.sub_zero, nI_s1], fun _ _ => rfl, fun u h1 _ h3 => absurd (ndf_lea h3) (by omega)⟩
  · exact hx
  · obtain ⟨m, rfl, f, w⟩ := hP
    obtain ⟨j, hj⟩ : ∃ j, all + 1 - k = j + 1 := ⟨all - k, by omega⟩
    have hj2 : all + 1 - (k + 1) = j := by omega
    have hja : j ≤ all := by omega
    rw [hj] at w ⊢
    rw [hj2]
    have hg1 : grC m G := ⟨by rw [f 234 (by decide)]; exact hg.1, by rw [f 235 (by decide)]; exact hg.2⟩
    rw [nI_s1]
    have fin : ∀ c, ndf j all = 0 → c = wy G all (pop all 8 - pop j 8) j → ∃ y, f_X1_find_j74 m (nI all) (nI j) (nI c) (nI j) = some (.inl y) ∧ ∃ m, y = (nI j - 1, m) ∧ (∀ i, ¬ i = 236 → m.1 i = mm.1 i) ∧ wsOk m G all j := fun c hc hc2 => by
      unfold f_X1_find_j74
      rw [if_neg (gd_ok (show j < 256 by omega) (by decide)), cl_ok (by omega), vl_s, nI_m1]
      refine ⟨_, rfl, _, rfl, fun i hi => by rw [wI_ne hi, f i hi], fun u h1 h2 h3 => ?_⟩
      rw [wI_sm]
      by_cases d : u = j
      · rw [if_pos d, d, hc2]
      · rw [if_neg d]
        exact w u (by omega) h2 h3
    unfold f_X1_find_s42
    dsimp only
    rw [if_neg (nI_nn j (by omega)), nx_ndf]
    by_cases c : ndf j all = 0
    · rw [if_pos (by rw [c]; rfl)]
      by_cases d : j = all
      · rw [if_pos (by rw [d])]
        exact fin 1 c (by rw [d, Nat.sub_self]; rfl)
      · have hlt := pop_lt ha c d
        obtain ⟨r, hr⟩ : ∃ r, pop all 8 - pop j 8 = r + 1 := ⟨pop all 8 - pop j 8 - 1, by omega⟩
        rw [if_neg (by rw [sN_eq (by omega) (by omega)]; exact d), waysBehind_c (r := r) hg1 hd ha (by omega) (fun t ht hct => by
          obtain ⟨c1, c2⟩ := canF_p hct
          have := or_gt c1
          rw [w (j ||| 2 ^ t) (by omega) (or_lt (by omega) ht) (sub_or c c2), pop_add c1, if_pos ht, show pop all 8 - (pop j 8 + 1) = r by omega]), bi1_s]
        exact fin _ c (by rw [hr])
    · have hjl : ndf j all < 2 ^ 8 := ndf_lt (n := 8) all (by omega)
      rw [if_neg (by rw [sN_eq0 (by omega)]; exact c), nI_m1]
      refine ⟨_, rfl, m, rfl, f, fun u h1 h2 h3 => ?_⟩
      by_cases d : u = j
      · rw [d] at h3; exact absurd h3 c
      · exact w u (by omega) h2 h3
  · obtain ⟨m, rfl, f, w⟩ := hP
    refine ⟨m, ?_, f, ?_⟩
    · unfold f_X1_find_s42
      dsimp only
      rw [show nI (all + 1 - (all + 1)) - 1 = -1 by rw [Nat.sub_self]; decide, if_pos (by decide)]
    · rw [Nat.sub_self] at w
      exact w
theorem sm_pos {f : Nat → Nat} : ∀ n, 0 < sm f n → ∃ t, t < n ∧ 0 < f t
  | 0, h => absurd h (by show ¬ 0 < 0; omega)
  | n + 1, h => by
    by_cases c : 0 < f n
    · exact ⟨n, by omega, c⟩
    · have h : 0 < sm f n + f n := h
      obtain ⟨t, h1, h2⟩ := sm_pos (f := f) n (by omega)
      exact ⟨t, by omega, h2⟩
def nxt (G : List Nat) (all r s t : Nat) : Bool := canF G all s t && decide (0 < wy G all r (s ||| 2 ^ t))
theorem nz_le {w : Nat} (h : w < 2 ^ 31) : nI w ≤ 0 ↔ w = 0 := (nI_leI (b := 0) h (by decide)).trans ⟨fun z => by omega, fun z => by omega⟩
theorem pw8 {r : Nat} (h : r ≤ 7) : 8 ^ r ≤ 2097152 := (Nat.pow_le_pow_right (n := 8) (by decide) h : 8 ^ r ≤ 8 ^ 7)
theorem firstAt_c {mm : Mm} {G : List Nat} {all s r : Nat} (hg : grC mm G) (hd : gdef G) (ha : all < 256) (hs : s < 256) (hr : r ≤ 7) (hw : ∀ t, t < 8 → canF G all s t = true → mm.1 236 (s ||| 2 ^ t) = nI (wy G all r (s ||| 2 ^ t))) {y : Int32} : lp (f_X1_findFirst_s18 mm (nI all) (nI s) y) (0 : Int32) = some (if frst (nxt G all r s) 8 < 8 then .inl (nI (frst (nxt G all r s) 8)) else .inr ()) := by
  obtain ⟨k1, k2, k3⟩ := frst_ok 8 (nxt G all r s)
  have step : ∀ k, k < 8 → f_X1_findFirst_s18 mm (nI all) (nI s) y (nI k) = if nxt G all r s k then some (.inr (.inl (nI k))) else some (.inl (nI (k + 1))) := fun k hk => by
    unfold f_X1_findFirst_s18 nxt
    rw [if_neg (by rw [K8, sN_le (by omega) (by omega)]; omega), canFollow_c hg hd ha hs hk, bi1_s, sN_a1]
    cases c : canF G all s k
    · rfl
    · have hl := or_lt hs hk
      have hb := wy_le G all r (s ||| 2 ^ k)
      have h8 := pw8 hr
      rw [if_pos rfl, if_neg (show ¬ (1 : Int32) = 0 by decide), nx_sh k (by omega), nx_or, if_neg (gd_ok hl (by decide)), cl_ok (by omega), hw k hk c, Bool.true_and]
      by_cases d : 0 < wy G all r (s ||| 2 ^ k)
      · rw [if_neg (fun z => by rw [nz_le (by omega)] at z; omega), decide_eq_true d]
        rfl
      · rw [if_pos ((nz_le (by omega)).mpr (by omega)), decide_eq_false d]
        rfl
  by_cases c : frst (nxt G all r s) 8 < 8
  · rw [if_pos c]
    refine lpf (fun i => nI i) (frst (nxt G all r s) 8) rfl (fun i hi => ?_) ?_
    · rw [step i (by omega), k2 i hi]
      rfl
    · rw [step _ c, k3 c]
      rfl
  · rw [if_neg c]
    refine lpf (fun i => nI i) 8 rfl (fun i hi => ?_) ?_
    · rw [step i (by omega), k2 i (by omega)]
      rfl
    · unfold f_X1_findFirst_s18
      rw [if_pos (by decide)]
/-- how the first row grows, on the class's side -/
theorem fR_grow {G : List Nat} {all : Nat} (ha : all < 256) (hG : gsub G all) {r : Nat} {p : List Nat} (hg : gdp G all p) (ho : okS all p) (hl : p.length + (r + 1) = pop all 8) (hp : 0 < wy G all (r + 1) (setOf p)) : ∃ t, t = frst (nxt G all r (setOf p)) 8 ∧ t < 8 ∧ canF G all (setOf p) t = true ∧ 0 < wy G all r (setOf (t :: p)) ∧ fR G all (r + 1) p = fR G all r (t :: p) := by
  obtain ⟨k1, k2, k3⟩ := frst_ok 8 (nxt G all r (setOf p))
  have hlt : frst (nxt G all r (setOf p)) 8 < 8 := by
    by_cases c : frst (nxt G all r (setOf p)) 8 < 8
    · exact c
    · rw [wy_sm] at hp
      obtain ⟨t, h1, h2⟩ := sm_pos 8 hp
      have := k2 t (by omega)
      unfold nxt at this
      by_cases d : canF G all (setOf p) t = true
      · rw [if_pos d] at h2
        rw [d, decide_eq_true h2] at this
        exact absurd this (by decide)
      · rw [if_neg d] at h2
        omega
  have h4 := k3 hlt
  rw [show nxt G all r (setOf p) (frst (nxt G all r (setOf p)) 8) = (canF G all (setOf p) (frst (nxt G all r (setOf p)) 8) && decide (0 < wy G all r (setOf p ||| 2 ^ (frst (nxt G all r (setOf p)) 8)))) from rfl, Bool.and_eq_true, decide_eq_true_iff] at h4
  refine ⟨_, rfl, hlt, h4.1, h4.2, ?_⟩
  show fR G all r (frst (fun t => vld all p t && decide (0 < cW G all r (t :: p))) 8 :: p) = _
  rw [fR_next ha hG hg ho hl]
  rfl
theorem sub_set {all : Nat} {p : List Nat} (ho : okS all p) : ndf (setOf p) all = 0 := ndf_of (setOf_sub ho)
theorem findFirst_c {mm : Mm} {G : List Nat} {all : Nat} (hg : grC mm G) (hd : gdef G) (ha : all < 256) (hn : pop all 8 ≤ 7) (hG : gsub G all) (hw : wsOk mm G all 0) (h0 : mm.1 234 5 = 0) : ∃ m1, f_X1_findFirst mm (nI all) = some m1 ∧ (∀ i, ¬ i = 234 → ¬ i = 237 → m1.1 i = mm.1 i) ∧ (∀ k, ¬ k = 5 → m1.1 234 k = mm.1 234 k) ∧ (0 < wy G all (pop all 8) 0 → m1.1 234 5 = nI (pop all 8) ∧ ∀ i, i < pop all 8 → m1.1 237 i = nI (gt' (fR G all (pop all 8) []) i)) := by
  have wys : ∀ m : Mm, m.1 236 = mm.1 236 → ∀ (p : List Nat) (r : Nat), okS all p → p.length + (r + 1) = pop all 8 → ∀ t, t < 8 → canF G all (setOf p) t = true → m.1 236 (setOf p ||| 2 ^ t) = nI (wy G all r (setOf p ||| 2 ^ t)) := fun m hm p r ho hl t ht hc => by
    obtain ⟨c1, c2⟩ := canF_p hc
    rw [hm, hw _ (Nat.zero_le _) (or_lt (setOf_lt ha ho) ht) (sub_or (sub_set ho) c2), pop_add c1, if_pos ht, okS_pop ha ho, show pop all 8 - (p.length + 1) = r by omega]
  unfold f_X1_findFirst
  by_cases hc : 0 < wy G all (pop all 8) 0
  · have hx := lp_inv (st := f_X1_findFirst_s4 (nI all)) (fun k x => ∃ m p, x = (nI (setOf p), nI k, m) ∧ (∀ i, ¬ i = 234 → ¬ i = 237 → m.1 i = mm.1 i) ∧ (∀ k, ¬ k = 5 → m.1 234 k = mm.1 234 k) ∧ p.length = k ∧ okS all p ∧ gdp G all p ∧ m.1 234 5 = nI k ∧ (∀ i, i < k → m.1 237 i = nI (gt' p i)) ∧ fR G all (pop all 8 - k) p = fR G all (pop all 8) [] ∧ 0 < wy G all (pop all 8 - k) (setOf p)) (fun m1 => (∀ i, ¬ i = 234 → ¬ i = 237 → m1.1 i = mm.1 i) ∧ (∀ k, ¬ k = 5 → m1.1 234 k = mm.1 234 k) ∧ m1.1 234 5 = nI (pop all 8) ∧ ∀ i, i < pop all 8 → m1.1 237 i = nI (gt' (fR G all (pop all 8) []) i)) (pop all 8) (fun k x hk hP => ?_) (fun x hP => ?_) 0 ((0 : Int32), (0 : Int32), mm) (Nat.zero_le _) ⟨mm, [], rfl, fun _ _ _ => rfl, fun _ _ => rfl, rfl, trivial, trivial, h0, fun i hi => absurd hi (by omega), rfl, hc⟩
    · obtain ⟨m1, e, f1, f2, q⟩ := hx
      rw [e, bi1_s]
      exact ⟨m1, rfl, f1, f2, fun _ => q⟩
    · obtain ⟨m, p, rfl, f1, f2, hl, ho, hgd, q5, q7, qf, qw⟩ := hP
      obtain ⟨r, hr⟩ : ∃ r, pop all 8 - k = r + 1 := ⟨pop all 8 - k - 1, by omega⟩
      rw [hr] at qf qw
      have hg1 : grC m G := ⟨by rw [f2 2 (by decide)]; exact hg.1, by rw [f1 235 (by decide) (by decide)]; exact hg.2⟩
      have hlr : p.length + (r + 1) = pop all 8 := by omega
      obtain ⟨t, et, t8, tc, tw, tf⟩ := fR_grow ha hG hgd ho hlr qw
      have hs := setOf_lt ha ho
      have hne : ¬ setOf p = all := fun z => by
        have := okS_pop ha ho
        rw [z] at this
        omega
      unfold f_X1_findFirst_s4
      dsimp only
      rw [if_neg (by rw [K8, sN_le (by omega) (by omega)]; omega), if_neg (by rw [sN_eq (by omega) (by omega)]; exact hne), firstAt_c (r := r) hg1 hd ha hs (by omega) (wys m (f1 236 (by decide) (by decide)) p r ho hlr), bi1_s, ← et, if_pos t8]
      dsimp only
      rw [if_neg (gd_ok (show k < 8 by omega) (by decide)), cl_ok (by omega), vl_s, sN_a1, vl_s, nx_sh t (by omega), nx_or, vl_s]
      refine ⟨_, rfl, _, t :: p, rfl, fun i i1 i2 => ?_, fun j hj => ?_, by rw [List.length_cons, hl], ⟨canF_vld tc, ho⟩, ⟨tc, hgd⟩, wI_at _ _ _ _, fun i hi => ?_, ?_, ?_⟩
      · rw [wI_ne i1, wI_ne i2, f1 i i1 i2]
      · rw [wI_pl hj, wI_ne (by decide), f2 j hj]
      · rw [wI_ne (by decide), wI_sm]
        by_cases c : i = k
        · rw [if_pos c, c, ← hl, gt_at]
        · rw [if_neg c, gt_lt (by omega)]
          exact q7 i (by omega)
      · rw [show pop all 8 - (k + 1) = r by omega, ← tf]
        exact qf
      · rw [show pop all 8 - (k + 1) = r by omega]
        exact tw
    · obtain ⟨m, p, rfl, f1, f2, hl, ho, hgd, q5, q7, qf, qw⟩ := hP
      rw [Nat.sub_self] at qf
      have qf : p = fR G all (pop all 8) [] := qf
      refine ⟨m, ?_, f1, f2, q5, by rw [← qf]; exact q7⟩
      unfold f_X1_findFirst_s4
      dsimp only
      rw [okS_full ha ho hl, if_neg (by rw [K8, sN_le (by omega) (by omega)]; omega), if_pos rfl]
  · have hnz : ¬ pop all 8 = 0 := fun z => hc (by rw [z]; exact Nat.one_pos)
    obtain ⟨r, hr⟩ : ∃ r, pop all 8 = r + 1 := ⟨pop all 8 - 1, by omega⟩
    have hall : ¬ all = 0 := fun z => by rw [z] at hnz; exact hnz rfl
    have hno : ¬ frst (nxt G all r 0) 8 < 8 := fun z => by
      have h3 := (frst_ok 8 (nxt G all r 0)).2.2 z
      have h4 : (canF G all 0 (frst (nxt G all r 0) 8) && decide (0 < wy G all r (0 ||| 2 ^ (frst (nxt G all r 0) 8)))) = true := h3
      rw [Bool.and_eq_true, decide_eq_true_iff] at h4
      rw [hr, wy_sm] at hc
      have hall0 : ∀ (f : Nat → Nat) (n : Nat), ¬ 0 < sm f n → ∀ t, t < n → f t = 0 := fun f n => by
        induction n with
        | zero => intro _ t ht; exact absurd ht (by omega)
        | succ n ih =>
          intro h t ht
          have h : ¬ 0 < sm f n + f n := h
          by_cases c : t = n
          · rw [c]; omega
          · exact ih (by omega) t (by omega)
      have := hall0 _ 8 hc _ z
      rw [if_pos h4.1] at this
      omega
    have e : lp (f_X1_findFirst_s4 (nI all)) ((0 : Int32), (0 : Int32), mm) = some mm := by
      refine lpf (fun k => ((0 : Int32), nI k, mm)) 8 rfl (fun k hk => ?_) ?_
      · unfold f_X1_findFirst_s4
        dsimp only
        have h1 := firstAt_c (s := 0) (r := r) hg hd ha (by decide) (by omega) (wys mm rfl [] r trivial (by rw [hr]; exact Nat.zero_add _)) (y := nI k)
        rw [if_neg hno] at h1
        rw [if_neg (by rw [K8, sN_le (by omega) (by omega)]; omega), if_neg (show ¬ (0 : Int32) = nI all from fun z => hall ((nI_eq_iff (by omega) (by omega)).mp (show nI 0 = nI all from z)).symm), show lp (f_X1_findFirst_s18 mm (nI all) 0 (nI k)) 0 = some (.inr ()) from h1, bi1_s]
        dsimp only
        rw [sN_a1]
      · unfold f_X1_findFirst_s4
        dsimp only
        rw [if_pos (by decide)]
    rw [e, bi1_s]
    exact ⟨mm, rfl, fun _ _ _ => rfl, fun _ _ => rfl, fun z => absurd z hc⟩
def cntA (V A : Dat) : Nat := cW (gps V A (V 1 0 - A 0 1)) (thA V A 0) (pop (thA V A 0) 8) []
def rowA (V A : Dat) : List Nat := fR (gps V A (V 1 0 - A 0 1)) (thA V A 0) (pop (thA V A 0) 8) []
theorem cntA_wy {V A : Dat} (h8 : V 1 2 ≤ 8) : cntA V A = wy (gps V A (V 1 0 - A 0 1)) (thA V A 0) (pop (thA V A 0) 8) 0 := cW_good (thA_lt h8) (gps_sub V A _) _ [] trivial trivial (Nat.zero_add _)
theorem find_plan_c {mm : Mm} {V A : Dat} {L : Rop} {S : Int32} (hv : RvC mm 27 V) (ov : RvOk V) (hr : RaC mm 33 V A L S) (oa : RaOk V A L) (hn : pop (thA V A 0) 8 ≤ 7) : ∃ m1, f_X1_find mm = some m1 ∧ frO mm m1 ∧ m1.1 234 6 = nI (if gAll V A (V 1 0 - A 0 1) then cntA V A else 0) ∧ (gAll V A (V 1 0 - A 0 1) = true → 0 < cntA V A → m1.1 234 5 = nI (pop (thA V A 0) 8) ∧ ∀ i, i < pop (thA V A 0) 8 → m1.1 237 i = nI (gt' (rowA V A) i)) := by
  have h8 := ov.2.2.1
  have ha : thA V A 0 < 256 := thA_lt h8
  have hb := lif_bd ov oa (thA V A 0) 0
  obtain ⟨m0, hm0⟩ : ∃ m0, m0 = wI (wI mm 234 5 0) 234 6 0 := ⟨_, rfl⟩
  have f0 : frO mm m0 := fun i hi => by rw [hm0, wI_ne (by omega), wI_ne (by omega)]
  have hv0 := f0.rv hv
  have hr0 := f0.ra hr
  unfold f_X1_find
  rw [show f_X4_thingsAt mm 33 27 0 = some (nI (thA V A 0)) from thingsAt_c hv ov hr oa (w := 0) (by decide), bi1_s, vl_s, vl_s, ← hm0, show f_X4_lift m0 33 27 (nI (thA V A 0)) 0 = some (zI (lif V A (thA V A 0) 0)) from lift_c hv0 ov hr0 oa (mi := 0) (by omega) (by omega), bi1_s]
  by_cases c : 0 ≤ lif V A (thA V A 0) 0
  · rw [if_neg (by rw [zI_0, zI_lt (by omega) (by omega) (by omega) (by omega)]; omega)]
    obtain ⟨m1, e1, f1, g1, q1⟩ := findGroups_c hv0 ov hr0 oa
    rw [e1, bi2_s]
    have eA : gAll V A (V 1 0 - A 0 1) = gpG V A (V 1 0 - A 0 1) := by unfold gAll; rw [decide_eq_true c, Bool.true_and]
    rw [eA]
    cases hg : gpG V A (V 1 0 - A 0 1)
    · rw [if_neg (show ¬ false = true by decide), if_pos rfl]
      refine ⟨m1, rfl, fun i hi => by rw [f1 i hi, f0 i hi], ?_, fun z => absurd z (by decide)⟩
      rw [g1 6 (by decide), hm0, wI_at]
      rfl
    · obtain ⟨q2, q3⟩ := q1 hg
      rw [if_pos rfl, if_neg (show ¬ (1 : Int32) = 0 by decide), if_pos rfl]
      have hgr : grC m1 (gps V A (V 1 0 - A 0 1)) := ⟨q2, q3⟩
      have hdf := gps_def ov oa (V 1 0 - A 0 1)
      obtain ⟨m2, e2, f2, w2⟩ := ways_c hgr hdf ha
      rw [e2, bi1_s, vl_s]
      obtain ⟨m3, hm3⟩ : ∃ m3, m3 = wI m2 234 6 (m2.1 236 0) := ⟨_, rfl⟩
      rw [← hm3]
      have hgr3 : grC m3 (gps V A (V 1 0 - A 0 1)) := ⟨by rw [hm3, wI_pl (by decide), f2 234 (by decide)]; exact q2, by rw [hm3, wI_ne (by decide), f2 235 (by decide)]; exact q3⟩
      have w3 : wsOk m3 (gps V A (V 1 0 - A 0 1)) (thA V A 0) 0 := fun u h1 h2 h3 => by rw [hm3, wI_ne (by decide)]; exact w2 u h1 h2 h3
      have h05 : m3.1 234 5 = 0 := by rw [hm3, wI_pl (by decide), f2 234 (by decide), g1 5 (by decide), hm0, wI_pl (by decide), wI_at]
      obtain ⟨m4, e4, f4, g4, q4⟩ := findFirst_c hgr3 hdf ha hn (gps_sub V A _) w3 h05
      rw [e4, bi1_s]
      have e236 : m2.1 236 0 = nI (cntA V A) := by
        rw [w2 0 (Nat.le_refl _) (by decide) (ndf_of (fun t ht => by rw [Nat.zero_testBit] at ht; exact absurd ht (by decide))), cntA_wy h8, show pop 0 8 = 0 from rfl, Nat.sub_zero]
      refine ⟨m4, rfl, fun i hi => ?_, ?_, fun _ hp => q4 (by rw [← cntA_wy h8]; exact hp)⟩
      · rw [f4 i (by omega) (by omega), hm3, wI_ne (by omega), f2 i (by omega), f1 i hi, f0 i hi]
      · rw [g4 6 (by decide), hm3, wI_at, e236]
  · rw [if_pos (by rw [zI_0, zI_lt (by omega) (by omega) (by omega) (by omega)]; omega)]
    have eA : gAll V A (V 1 0 - A 0 1) = false := by unfold gAll; rw [decide_eq_false c, Bool.false_and]
    rw [eA]
    refine ⟨m0, rfl, f0, ?_, fun z => absurd z (by decide)⟩
    rw [hm0, wI_at]
    rfl
