/-! PHASE 2: plan, the groups -/
def latp (V A : Dat) (m t : Nat) : Bool := decide (A 4 t = 0) && decide (m < V 2 (A 2 t))
def lat (V A : Dat) (m : Nat) : Nat := bset (latp V A m) (V 1 2)
def lnp (V A : Dat) (m t : Nat) : Bool := decide (A 4 t = 0) && decide (V 2 (A 2 t) = m)
def lnA (V A : Dat) (m : Nat) : Nat → Bool
  | 0 => false
  | k + 1 => lnA V A m k || lnp V A m k
def gps (V A : Dat) : Nat → List Nat
  | 0 => []
  | k + 1 => gps V A k ++ (if lnA V A (A 0 1 + 1 + k) (V 1 2) then [lat V A (A 0 1 + 1 + k)] else [])
def gpG (V A : Dat) : Nat → Bool
  | 0 => true
  | k + 1 => gpG V A k && (!lnA V A (A 0 1 + 1 + k) (V 1 2) || decide (0 ≤ lif V A (lat V A (A 0 1 + 1 + k)) (k + 1)))
theorem lat_lt {V A : Dat} (h : V 1 2 ≤ 8) (m : Nat) : lat V A m < 256 := Nat.lt_of_lt_of_le (bset_lt _ _) (Nat.pow_le_pow_right (by decide) h)
theorem thA_af {V A : Dat} {t : Nat} (h : t < V 1 2) : (thA V A 0).testBit t = decide (A 4 t = 0) := by
  unfold thA
  rw [bset_tb, decide_eq_true h, Bool.true_and]
theorem lat_sub (V A : Dat) (m t : Nat) (h : (lat V A m).testBit t = true) : (thA V A 0).testBit t = true := by
  unfold lat latp at h
  rw [bset_tb, Bool.and_eq_true, Bool.and_eq_true, decide_eq_true_iff] at h
  rw [thA_af h.1]
  exact h.2.1
/-! how many groups there are -/
def exO (V : Dat) (m : Nat) : Nat → Bool
  | 0 => false
  | o + 1 => exO V m o || decide (V 2 o = m)
theorem cnt_or {p q : Nat → Bool} : ∀ n, cnt (fun k => p k || q k) n ≤ cnt p n + cnt q n
  | 0 => Nat.le_refl _
  | n + 1 => by
    have := cnt_or (p := p) (q := q) n
    show (if p n || q n then cnt (fun k => p k || q k) n + 1 else cnt (fun k => p k || q k) n) ≤ (if p n then cnt p n + 1 else cnt p n) + (if q n then cnt q n + 1 else cnt q n)
    cases p n <;> cases q n <;> simp only [Bool.or_false, Bool.or_true, if_true, Bool.false_eq_true, if_false] <;> omega
theorem cnt_1 {c a : Nat} : ∀ n, cnt (fun k => decide (c = a + k)) n ≤ (if c < a + n then 1 else 0)
  | 0 => Nat.zero_le _
  | n + 1 => by
    have := cnt_1 (c := c) (a := a) n
    show (if decide (c = a + n) then cnt (fun k => decide (c = a + k)) n + 1 else cnt (fun k => decide (c = a + k)) n) ≤ _
    by_cases h : c = a + n
    · rw [if_neg (show ¬ c < a + n by omega)] at this
      rw [decide_eq_true h, if_pos rfl, if_pos (show c < a + (n + 1) by omega)]
      omega
    · rw [decide_eq_false h, if_neg (by decide)]
      by_cases d : c < a + n
      · rw [if_pos d] at this
        rw [if_pos (show c < a + (n + 1) by omega)]
        exact this
      · rw [if_neg d] at this
        omega
theorem cnt_ex (V : Dat) (a n : Nat) : ∀ o, cnt (fun k => exO V (a + k) o) n ≤ o
  | 0 => by
    have : ∀ n, cnt (fun _ => false) n = 0 := fun n => by
      induction n with
      | zero => rfl
      | succ n ih => exact ih
    exact Nat.le_of_eq (this n)
  | o + 1 => by
    have h1 := cnt_ex V a n o
    have h2 := cnt_1 (c := V 2 o) (a := a) n
    have h3 := cnt_or (p := fun k => exO V (a + k) o) (q := fun k => decide (V 2 o = a + k)) n
    have h4 : (if V 2 o < a + n then 1 else 0) ≤ 1 := by split <;> omega
    show cnt (fun k => exO V (a + k) o || decide (V 2 o = a + k)) n ≤ o + 1
    omega
theorem cnt_mono {p q : Nat → Bool} : ∀ n, (∀ k, k < n → p k = true → q k = true) → cnt p n ≤ cnt q n
  | 0, _ => Nat.le_refl _
  | n + 1, h => by
    have := cnt_mono n (fun k hk => h k (by omega))
    have hn := h n (by omega)
    show (if p n then cnt p n + 1 else cnt p n) ≤ (if q n then cnt q n + 1 else cnt q n)
    cases hp : p n
    · rw [if_neg (by decide)]
      split <;> omega
    · rw [if_pos rfl, if_pos (hn hp)]
      omega
theorem exO_of {V : Dat} {m o : Nat} (h : V 2 o = m) : ∀ n, o < n → exO V m n = true
  | 0, h => absurd h (by omega)
  | n + 1, hn => by
    show (exO V m n || decide (V 2 n = m)) = true
    by_cases c : o = n
    · rw [← c, decide_eq_true h, Bool.or_true]
    · rw [exO_of h n (by omega), Bool.true_or]
theorem lnA_ex {V A : Dat} {m : Nat} : ∀ n, lnA V A m n = true → ∃ t, t < n ∧ A 4 t = 0 ∧ V 2 (A 2 t) = m
  | 0, h => absurd (show false = true from h) (by decide)
  | n + 1, h => by
    rcases Bool.or_eq_true _ _ ▸ (show (lnA V A m n || lnp V A m n) = true from h) with h | h
    · obtain ⟨t, h1, h2⟩ := lnA_ex n h
      exact ⟨t, by omega, h2⟩
    · unfold lnp at h
      rw [Bool.and_eq_true, decide_eq_true_iff, decide_eq_true_iff] at h
      exact ⟨n, by omega, h⟩
theorem gps_cnt (V A : Dat) : ∀ k, (gps V A k).length = cnt (fun j => lnA V A (A 0 1 + 1 + j) (V 1 2)) k
  | 0 => rfl
  | k + 1 => by
    show (gps V A k ++ (if lnA V A (A 0 1 + 1 + k) (V 1 2) then [lat V A (A 0 1 + 1 + k)] else [])).length = if lnA V A (A 0 1 + 1 + k) (V 1 2) then cnt (fun j => lnA V A (A 0 1 + 1 + j) (V 1 2)) k + 1 else cnt (fun j => lnA V A (A 0 1 + 1 + j) (V 1 2)) k
    rw [List.length_append, gps_cnt V A k]
    split <;> rfl
theorem gps_len {V A : Dat} {L : Rop} (ov : RvOk V) (oa : RaOk V A L) (k : Nat) : (gps V A k).length ≤ 6 := by
  have h1 := cnt_mono (p := fun j => lnA V A (A 0 1 + 1 + j) (V 1 2)) (q := fun j => exO V (A 0 1 + 1 + j) (V 1 1)) k (fun j _ hj => by
    obtain ⟨t, h1, _, h3⟩ := lnA_ex _ hj
    exact exO_of h3 _ (oa.2.2.2.1 t h1).1)
  have h2 := cnt_ex V (A 0 1 + 1) k (V 1 1)
  have h3 := ov.2.1
  rw [gps_cnt]
  omega
theorem gps_sub (V A : Dat) : ∀ k, gsub (gps V A k) (thA V A 0)
  | 0 => fun g hg => absurd hg List.not_mem_nil
  | k + 1 => fun g hg => by
    have hg : g ∈ gps V A k ++ (if lnA V A (A 0 1 + 1 + k) (V 1 2) then [lat V A (A 0 1 + 1 + k)] else []) := hg
    rcases List.mem_append.mp hg with h | h
    · exact gps_sub V A k g h
    · by_cases c : lnA V A (A 0 1 + 1 + k) (V 1 2) = true
      · rw [if_pos c] at h
        rw [List.mem_singleton.mp h]
        exact lat_sub V A _
      · rw [if_neg c] at h
        exact absurd h List.not_mem_nil
/-! a row that holds a list -/
def hold (f : Nat → Int32) (G : List Nat) : Prop := ∀ j, j < G.length → f j = nI (G.getD j 0)
theorem hold_ap {f g : Nat → Int32} {G : List Nat} {a : Nat} (h : hold f G) (h1 : g G.length = nI a) (h2 : ∀ j, j < G.length → g j = f j) : hold g (G ++ [a]) := fun j hj => by
  rw [List.length_append] at hj
  have hj : j < G.length + 1 := hj
  by_cases c : j < G.length
  · rw [h2 j c, h j c, List.getD_eq_getElem?_getD, List.getD_eq_getElem?_getD, List.getElem?_append_left c]
  · have : j = G.length := by omega
    rw [this, h1, List.getD_eq_getElem?_getD, List.getElem?_append_right (Nat.le_refl _), Nat.sub_self]
    rfl
/-! the class's -/
theorem landingOf_c {mm : Mm} {r v : Nat} {V A : Dat} {L : Rop} {S : Int32} (hv : RvC mm v V) (ov : RvOk V) (hr : RaC mm r V A L S) (oa : RaOk V A L) {t : Nat} (ht : t < V 1 2) : f_X4_landingOf mm r v (nI t) = some (nI (V 2 (A 2 t))) := by
  have h1 := hr.2.2.2.2 t ht
  have h2 := oa.2.2.2.1 t ht
  have h3 := hv.2.1 _ h2.1
  have h8 := ov.2.2.1
  have h6 := ov.2.1
  unfold f_X4_landingOf
  simp (disch := omega) only [h1.1, h3.1, ↓reduceIte, decide_true, decide_false, Bool.false_eq_true, eq_self, s10, s01, cont_ok, has_ok, b2i0, b2i1, reduceCtorEq, Nat.or_zero, Nat.add_zero, sN_le, sN_lt, sN_eq, sN_lt0, sN_le0, sN_0le, sN_0lt, sN_eq0, sN_cl, sN_ad, sN_a1, K2, K3, K4, K5, K6, K7, K8, K9, K12, K16, K20, false_or, or_false, if_neg, if_pos, vl_s, bi1_s, bi2_s, nx_or, nx_and, nx_sh]
theorem grp_c {mm : Mm} {V A : Dat} {L : Rop} {S : Int32} (hv : RvC mm 27 V) (ov : RvOk V) (hr : RaC mm 33 V A L S) (oa : RaOk V A L) {m : Nat} (hm : m ≤ 99) : lp (f_X1_findGroups_s37 mm (nI (thA V A 0)) (nI m)) ((0 : Int32), (0 : Int32), (0 : Int32)) = some (nI (lat V A m), if lnA V A m (V 1 2) then 1 else 0) := by
  have h8 := ov.2.2.1
  have ha : thA V A 0 < 256 := thA_lt h8
  refine lpf (fun k => (nI (bset (latp V A m) k), (if lnA V A m k then (1 : Int32) else 0), nI k)) (V 1 2) rfl (fun k hk => ?_) ?_
  · have el := landingOf_c hv ov hr oa hk
    have hl : V 2 (A 2 k) ≤ 99 := by
      have := ov.2.2.2.1 _ (oa.2.2.2.1 k hk).1
      have := ov.1
      omega
    have etb := thA_af (V := V) (A := A) hk
    have e1 : bset (latp V A m) (k + 1) = bset (latp V A m) k ||| (if latp V A m k then 2 ^ k else 0) := rfl
    have e2 : lnA V A m (k + 1) = (lnA V A m k || lnp V A m k) := rfl
    unfold f_X1_findGroups_s37 f_X1_findGroups_j80
    rw [e1, e2]
    unfold latp lnp
    by_cases c0 : A 4 k = 0
    · by_cases c1 : V 2 (A 2 k) = m
      · simp (disch := omega) only [hv.1.2.2, el, ↓reduceIte, decide_true, decide_false, Bool.false_eq_true, eq_self, s10, s01, cont_ok, has_ok, b2i0, b2i1, reduceCtorEq, Nat.or_zero, Nat.add_zero, sN_le, sN_lt, sN_eq, sN_lt0, sN_le0, sN_0le, sN_0lt, sN_eq0, sN_cl, sN_ad, sN_a1, K2, K3, K4, K5, K6, K7, K8, K9, K12, K16, K20, false_or, or_false, if_neg, if_pos, vl_s, bi1_s, bi2_s, nx_or, nx_and, nx_sh, etb, c0, c1, Bool.true_and, Bool.or_true, Nat.lt_irrefl]
      · by_cases c2 : m < V 2 (A 2 k)
        · simp (disch := omega) only [hv.1.2.2, el, ↓reduceIte, decide_true, decide_false, Bool.false_eq_true, eq_self, s10, s01, cont_ok, has_ok, b2i0, b2i1, reduceCtorEq, Nat.or_zero, Nat.add_zero, sN_le, sN_lt, sN_eq, sN_lt0, sN_le0, sN_0le, sN_0lt, sN_eq0, sN_cl, sN_ad, sN_a1, K2, K3, K4, K5, K6, K7, K8, K9, K12, K16, K20, false_or, or_false, if_neg, if_pos, vl_s, bi1_s, bi2_s, nx_or, nx_and, nx_sh, etb, c0, c1, c2, Bool.true_and, Bool.or_false]
        · simp (disch := omega) only [hv.1.2.2, el, ↓reduceIte, decide_true, decide_false, Bool.false_eq_true, eq_self, s10, s01, cont_ok, has_ok, b2i0, b2i1, reduceCtorEq, Nat.or_zero, Nat.add_zero, sN_le, sN_lt, sN_eq, sN_lt0, sN_le0, sN_0le, sN_0lt, sN_eq0, sN_cl, sN_ad, sN_a1, K2, K3, K4, K5, K6, K7, K8, K9, K12, K16, K20, false_or, or_false, if_neg, if_pos, vl_s, bi1_s, bi2_s, nx_or, nx_and, nx_sh, etb, c0, c1, c2, Bool.true_and, Bool.or_false]
    · simp (disch := omega) only [hv.1.2.2, el, ↓reduceIte, decide_true, decide_false, Bool.false_eq_true, eq_self, s10, s01, cont_ok, has_ok, b2i0, b2i1, reduceCtorEq, Nat.or_zero, Nat.add_zero, sN_le, sN_lt, sN_eq, sN_lt0, sN_le0, sN_0le, sN_0lt, sN_eq0, sN_cl, sN_ad, sN_a1, K2, K3, K4, K5, K6, K7, K8, K9, K12, K16, K20, false_or, or_false, if_neg, if_pos, vl_s, bi1_s, bi2_s, nx_or, nx_and, nx_sh, etb, c0, Bool.false_and, Bool.or_false]
  · unfold f_X1_findGroups_s37
    simp (disch := omega) only [hv.1.2.2, ↓reduceIte, decide_true, decide_false, Bool.false_eq_true, eq_self, s10, s01, cont_ok, has_ok, b2i0, b2i1, reduceCtorEq, Nat.or_zero, Nat.add_zero, sN_le, sN_lt, sN_eq, sN_lt0, sN_le0, sN_0le, sN_0lt, sN_eq0, sN_cl, sN_ad, sN_a1, K2, K3, K4, K5, K6, K7, K8, K9, K12, K16, K20, false_or, or_false, if_neg, if_pos, vl_s, bi1_s, bi2_s, nx_or, nx_and, nx_sh]
    rfl
def frO (m m1 : Mm) : Prop := ∀ i, ¬ (i = 234 ∨ i = 235 ∨ i = 236 ∨ i = 237) → m1.1 i = m.1 i
theorem frO.rv {m m1 : Mm} {V : Dat} (f : frO m m1) (h : RvC m 27 V) : RvC m1 27 V := RvC_eq (fun j hj => f _ (by omega)) h
theorem frO.ra {m m1 : Mm} {V A : Dat} {L : Rop} {S : Int32} (f : frO m m1) (h : RaC m 33 V A L S) : RaC m1 33 V A L S := RaC_eq (fun j hj => f _ (by omega)) h
theorem findGroups_c {mm : Mm} {V A : Dat} {L : Rop} {S : Int32} (hv : RvC mm 27 V) (ov : RvOk V) (hr : RaC mm 33 V A L S) (oa : RaOk V A L) : ∃ m1, f_X1_findGroups mm (nI (thA V A 0)) = some (if gpG V A (V 1 0 - A 0 1) then 1 else 0, m1) ∧ frO mm m1 ∧ (∀ j, ¬ j = 2 → m1.1 234 j = mm.1 234 j) ∧ (gpG V A (V 1 0 - A 0 1) = true → m1.1 234 2 = nI (gps V A (V 1 0 - A 0 1)).length ∧ hold (m1.1 235) (gps V A (V 1 0 - A 0 1))) := by
  have h8 := ov.2.2.1
  have h99 := ov.1
  have hmi := oa.1
  obtain ⟨N, hN⟩ : ∃ N, N = V 1 0 - A 0 1 := ⟨_, rfl⟩
  rw [← hN]
  have hx := lp_stop (st := f_X1_findGroups_s15 (nI (thA V A 0))) (fun k x => ∃ m, x = (nI (A 0 1 + 1 + k), m) ∧ frO mm m ∧ (∀ j, ¬ j = 2 → m.1 234 j = mm.1 234 j) ∧ m.1 234 2 = nI (gps V A k).length ∧ hold (m.1 235) (gps V A k) ∧ gpG V A k = true) (fun r => (∃ m, r = .inl m ∧ gpG V A N = false ∧ frO mm m ∧ ∀ j, ¬ j = 2 → m.1 234 j = mm.1 234 j) ∨ ∃ m, r = .inr m ∧ gpG V A N = true ∧ frO mm m ∧ (∀ j, ¬ j = 2 → m.1 234 j = mm.1 234 j) ∧ m.1 234 2 = nI (gps V A N).length ∧ hold (m.1 235) (gps V A N)) N (fun k x hk hP => ?_) 0 (nI (A 0 1 + 1), wI mm 234 2 0) (Nat.zero_le _) ⟨_, rfl, fun i hi => wI_ne (by omega), fun j hj => wI_pl hj, wI_at _ _ _ _, fun j hj => absurd hj (by show ¬ j < 0; omega), rfl⟩
  · obtain ⟨r, e, hr2⟩ := hx
    unfold f_X1_findGroups
    rw [vl_s, wI_ne (by decide), hr.1, sN_a1, vl_s, e, bi1_s]
    rcases hr2 with ⟨m, rfl, g, f, f2⟩ | ⟨m, rfl, g, f, f2, g2, g3⟩
    · exact ⟨m, by rw [g]; rfl, f, f2, fun z => by rw [g] at z; exact absurd z (by decide)⟩
    · exact ⟨m, by rw [g]; rfl, f, f2, fun _ => ⟨g2, g3⟩⟩
  · obtain ⟨m, rfl, f, f2, q1, q2, q3⟩ := hP
    have hv1 := f.rv hv
    have hr1 := f.ra hr
    have hlen := gps_len ov oa k
    by_cases hkN : k = N
    · right
      refine ⟨.inr m, ?_, Or.inr ⟨m, rfl, by rw [← hkN]; exact q3, f, f2, by rw [← hkN]; exact q1, by rw [← hkN]; exact q2⟩⟩
      unfold f_X1_findGroups_s15
      dsimp only
      rw [hv1.1.1, if_pos (by rw [sN_lt (by omega) (by omega)]; omega)]
    · have hgoo : ∀ b : Bool, gpG V A (k + 1) = b → gpG V A (k + 1) = b := fun _ h => h
      have eg : gps V A (k + 1) = gps V A k ++ (if lnA V A (A 0 1 + 1 + k) (V 1 2) then [lat V A (A 0 1 + 1 + k)] else []) := rfl
      have ep : gpG V A (k + 1) = (gpG V A k && (!lnA V A (A 0 1 + 1 + k) (V 1 2) || decide (0 ≤ lif V A (lat V A (A 0 1 + 1 + k)) (k + 1)))) := rfl
      have hst : f_X1_findGroups_s15 (nI (thA V A 0)) (nI (A 0 1 + 1 + k), m) = if lnA V A (A 0 1 + 1 + k) (V 1 2) then (if 0 ≤ lif V A (lat V A (A 0 1 + 1 + k)) (k + 1) then (if 6 ≤ (gps V A k).length then some (.inl (nI (A 0 1 + 1 + (k + 1)), m)) else some (.inl (nI (A 0 1 + 1 + (k + 1)), wI (wI m 235 (gps V A k).length (nI (lat V A (A 0 1 + 1 + k)))) 234 2 (nI ((gps V A k).length + 1))))) else some (.inr (.inl m))) else some (.inl (nI (A 0 1 + 1 + (k + 1)), m)) := by
        unfold f_X1_findGroups_s15
        dsimp only
        rw [hv1.1.1, if_neg (by rw [sN_lt (by omega) (by omega)]; omega), grp_c hv1 ov hr1 oa (by omega), bi1_s, sN_a1, show A 0 1 + 1 + k + 1 = A 0 1 + 1 + (k + 1) by omega]
        dsimp only
        cases hl : lnA V A (A 0 1 + 1 + k) (V 1 2)
        · rfl
        · have hb := lif_bd ov oa (lat V A (A 0 1 + 1 + k)) (k + 1)
          have hlt := lat_lt (A := A) h8 (A 0 1 + 1 + k)
          rw [if_pos rfl, if_pos rfl, if_neg (show ¬ (1 : Int32) = 0 by decide), hr1.1, nI_sub' (by omega), show A 0 1 + 1 + k - A 0 1 = k + 1 by omega, lift_c hv1 ov hr1 oa (by omega) (by omega), bi1_s, q1]
          by_cases c : 0 ≤ lif V A (lat V A (A 0 1 + 1 + k)) (k + 1)
          · rw [if_pos c, if_pos (by rw [zI_0, zI_le (by omega) (by omega) (by omega) (by omega)]; exact c)]
            by_cases d : 6 ≤ (gps V A k).length
            · rw [if_pos d, if_pos (by rw [K6, sN_le (by omega) (by omega)]; exact d)]
            · rw [if_neg d, if_neg (by rw [K6, sN_le (by omega) (by omega)]; exact d), if_neg (gd_ok (show (gps V A k).length < 6 by omega) (by decide)), cl_ok (by omega), vl_s, wI_ne (by decide), q1, sN_a1, vl_s]
          · rw [if_neg c, if_neg (by rw [zI_0, zI_le (by omega) (by omega) (by omega) (by omega)]; exact c)]
      rw [hst]
      cases hl : lnA V A (A 0 1 + 1 + k) (V 1 2)
      · left
        rw [hl, if_neg (by decide), List.append_nil] at eg
        rw [hl, q3] at ep
        exact ⟨by omega, _, by rw [if_neg (by decide)], m, rfl, f, f2, by rw [eg]; exact q1, by rw [eg]; exact q2, ep⟩
      · have hlen1 := gps_len ov oa (k + 1)
        rw [hl, if_pos rfl] at eg
        rw [eg, List.length_append] at hlen1
        have hlen1 : (gps V A k).length + 1 ≤ 6 := hlen1
        rw [if_pos rfl]
        by_cases c : 0 ≤ lif V A (lat V A (A 0 1 + 1 + k)) (k + 1)
        · left
          rw [hl, q3, decide_eq_true c] at ep
          refine ⟨by omega, _, by rw [if_pos c, if_neg (by omega)], _, rfl, fun i hi => ?_, fun j hj => ?_, ?_, ?_, ep⟩
          · rw [wI_ne (by omega), wI_ne (by omega), f i hi]
          · rw [wI_pl hj, wI_ne (by decide), f2 j hj]
          · rw [wI_at, eg, List.length_append]; rfl
          · rw [wI_ne (by decide), eg]
            exact hold_ap q2 (wI_at _ _ _ _) (fun j hj => wI_pl (by omega))
        · right
          rw [hl, q3, decide_eq_false c] at ep
          have bad : ∀ d, gpG V A (k + 1 + d) = false := fun d => by
            induction d with
            | zero => exact ep
            | succ d ih =>
              show (gpG V A (k + 1 + d) && _) = false
              rw [ih, Bool.false_and]
          have := bad (N - (k + 1))
          rw [show k + 1 + (N - (k + 1)) = N by omega] at this
          exact ⟨_, by rw [if_neg c], Or.inl ⟨m, rfl, this, f, f2⟩⟩
