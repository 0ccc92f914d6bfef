/-! PHASE 2: run, a rule's values -/
theorem wL_one (m : Mm) (i k : Nat) (x : Int64) : (wL m i k x).1 = m.1 := rfl
theorem wL_get (m : Mm) (i k : Nat) (x : Int64) (j l : Nat) : (wL m i k x).2 j l = if j = i ∧ l = k then x else m.2 j l := by
  unfold wL va_up
  show (if j = i then vp_updL (m.2 i) k x else m.2 j) l = _
  by_cases h : j = i
  · subst h
    rw [if_pos rfl]
    unfold vp_updL
    by_cases h2 : l = k
    · rw [if_pos h2, if_pos ⟨rfl, h2⟩]
    · rw [if_neg h2, if_neg (fun z => h2 z.2)]
  · rw [if_neg h, if_neg (fun z => h z.1)]
theorem wL_at (m : Mm) (i k : Nat) (x : Int64) : (wL m i k x).2 i k = x := by rw [wL_get, if_pos ⟨rfl, rfl⟩]
theorem wL_pl {m : Mm} {i k l : Nat} {x : Int64} (h : ¬ l = k) : (wL m i k x).2 i l = m.2 i l := by rw [wL_get, if_neg (fun z => h z.2)]
theorem wL_ne {m : Mm} {i k j : Nat} {x : Int64} (h : ¬ j = i) : (wL m i k x).2 j = m.2 j := by
  funext l
  rw [wL_get, if_neg (fun z => h z.1)]
/-- a stack in a row, its top first in the list -/
def stkL (f : Nat → Int64) (st : List Int64) : Prop := ∀ k, k < st.length → f k = st.getD (st.length - 1 - k) 0
theorem stkL_tl {f : Nat → Int64} {a : Int64} {r : List Int64} (h : stkL f (a :: r)) : stkL f r := fun k hk => by
  have := h k (by show k < r.length + 1; omega)
  rw [this, show (a :: r).length - 1 - k = (r.length - 1 - k) + 1 by show r.length + 1 - 1 - k = _; omega]
  rfl
theorem stkL_top {f : Nat → Int64} {a : Int64} {r : List Int64} (h : stkL f (a :: r)) : f r.length = a := by
  rw [h r.length (by show r.length < r.length + 1; omega), show (a :: r).length - 1 - r.length = 0 by show r.length + 1 - 1 - r.length = 0; omega]
  rfl
theorem stkL_pu {f g : Nat → Int64} {a : Int64} {r : List Int64} (h : stkL f r) (h1 : g r.length = a) (h2 : ∀ k, k < r.length → g k = f k) : stkL g (a :: r) := fun k hk => by
  have hk : k < r.length + 1 := hk
  by_cases q : k = r.length
  · rw [q, h1, show (a :: r).length - 1 - r.length = 0 by show r.length + 1 - 1 - r.length = 0; omega]
    rfl
  · rw [h2 k (by omega), h k (by omega), show (a :: r).length - 1 - k = (r.length - 1 - k) + 1 by show r.length + 1 - 1 - k = _; omega]
    rfl
def opS (s : Nat) : Prop := 2 ≤ s ∧ s ≤ 15 ∧ ¬ s = 9 ∧ ¬ s = 12
noncomputable def jn (s : Nat) (a b : Int64) : Int64 := (f_X7_join (kOf (nI s)) a b).getD 0
theorem lg0 (x : Int64) : lg_cmp x 0 = 0 ↔ x = 0 := by
  unfold lg_cmp
  by_cases h : x > 0
  · rw [if_pos h]
    refine ⟨fun z => absurd z (by decide), fun z => ?_⟩
    rw [z] at h
    exact absurd h (by decide)
  · rw [if_neg h]
    by_cases h2 : x = 0
    · rw [if_pos h2]
      exact ⟨fun _ => h2, fun _ => rfl⟩
    · rw [if_neg h2]
      exact ⟨fun z => absurd z (by decide), fun z => absurd z h2⟩
theorem jn_ok {s : Nat} (h : opS s) (a b : Int64) : f_X7_join (kOf (nI s)) a b = some (jn s a b) ∧ ∀ mm, f_X12_both mm (nI s) a b = some (jn s a b) := by
  have G : ∀ (X : Option Int64), (∃ c, X = some c) → f_X7_join (kOf (nI s)) a b = X → (∀ mm, f_X12_both mm (nI s) a b = X) → f_X7_join (kOf (nI s)) a b = some (jn s a b) ∧ ∀ mm, f_X12_both mm (nI s) a b = some (jn s a b) := fun X hX h1 h2 => by
    obtain ⟨c, hc⟩ := hX
    have e : jn s a b = c := by
      unfold jn
      rw [h1, hc]
      rfl
    rw [e]
    exact ⟨h1.trans hc, fun mm => (h2 mm).trans hc⟩
  have I : ∀ (p : Prop) [Decidable p], ∃ c : Int64, (if p then some (0 : Int64) else some 1) = some c := fun p _ => by split <;> exact ⟨_, rfl⟩
  have I' : ∀ (p : Prop) [Decidable p], ∃ c : Int64, (if p then some (1 : Int64) else some 0) = some c := fun p _ => by split <;> exact ⟨_, rfl⟩
  have D : ∀ d : Int64, ∃ c : Int64, (if lg_cmp b 0 = 0 then some (0 : Int64) else if b = 0 then none else some d) = some c := fun d => by
    by_cases q : lg_cmp b 0 = 0
    · rw [if_pos q]
      exact ⟨_, rfl⟩
    · rw [if_neg q, if_neg (fun z => q ((lg0 b).mpr z))]
      exact ⟨_, rfl⟩
  obtain ⟨h1, h2, h3, h4⟩ := h
  rcases (show s = 2 ∨ s = 3 ∨ s = 4 ∨ s = 5 ∨ s = 6 ∨ s = 7 ∨ s = 8 ∨ s = 10 ∨ s = 11 ∨ s = 13 ∨ s = 14 ∨ s = 15 by omega) with q | q | q | q | q | q | q | q | q | q | q | q <;> subst q
  · exact G (some (a + b)) ⟨_, rfl⟩ rfl (fun _ => rfl)
  · exact G (some (a - b)) ⟨_, rfl⟩ rfl (fun _ => rfl)
  · exact G (if 0 ≤ lg_cmp a b then some 0 else some 1) (I _) rfl (fun _ => rfl)
  · exact G (if 0 < lg_cmp a b then some 0 else some 1) (I _) rfl (fun _ => rfl)
  · exact G (if lg_cmp a b = 0 then some 1 else some 0) (I' _) rfl (fun _ => rfl)
  · exact G (if lg_cmp a b < 0 then some 0 else some 1) (I _) rfl (fun _ => rfl)
  · exact G (if lg_cmp a b ≤ 0 then some 0 else some 1) (I _) rfl (fun _ => rfl)
  · exact G (some (a &&& b)) ⟨_, rfl⟩ rfl (fun _ => rfl)
  · exact G (some (a ||| b)) ⟨_, rfl⟩ rfl (fun _ => rfl)
  · exact G (some (a * b)) ⟨_, rfl⟩ rfl (fun _ => rfl)
  · exact G (if lg_cmp b 0 = 0 then some 0 else if b = 0 then none else some (a / b)) (D _) rfl (fun _ => rfl)
  · exact G (if lg_cmp b 0 = 0 then some 0 else if b = 0 then none else some (a - a / b * b)) (D _) rfl (fun _ => rfl)
/-- one entry on a stack -/
noncomputable def eS (W : Nat → Int64) (s v : Nat) (st : List Int64) : List Int64 := if s = 0 then (nI v).toInt64 :: st else if s = 1 then W v :: st else if s = 9 then (match st with
  | a :: r => (1 - a) :: r
  | [] => []) else match st with
  | b :: a :: r => jn s a b :: r
  | _ => []
noncomputable def ev (W : Nat → Int64) (sF vF : Nat → Nat) : Nat → Nat → List Int64 → List Int64
  | 0, _, st => st
  | c + 1, i, st => ev W sF vF c (i + 1) (eS W (sF i) (vF i) st)
theorem rngS (f : Nat → Int32) (c i : Nat) : (List.range (c + 1)).map (fun k => f (i + k)) = f i :: (List.range c).map (fun k => f (i + 1 + k)) := by
  rw [List.range_succ_eq_map, List.map_cons, List.map_map]
  congr 1
  apply List.map_congr_left
  intro k _
  show f (i + (k + 1)) = f (i + 1 + k)
  rw [show i + (k + 1) = i + 1 + k by omega]
/-- an entry is good -/
def gdE (s v : Nat) : Prop := s ≤ 15 ∧ ¬ s = 12 ∧ v < 100000 ∧ (s = 1 → v < 12)
theorem kOf_N : ∀ s, s ≤ 15 → ∃ k, k < 16 ∧ kOf (nI s) = nI k := fun s hs => ⟨(kOf (nI s)).toNatClampNeg, (show ∀ s, s < 16 → (kOf (nI s)).toNatClampNeg < 16 ∧ kOf (nI s) = nI (kOf (nI s)).toNatClampNeg by decide +kernel) s (by omega)⟩
theorem code_ok {s v : Nat} (hs : s ≤ 15) (hv : v < 100000) : (nI v * 16 + kOf (nI s)) &&& 15 = kOf (nI s) ∧ (nI v * 16 + kOf (nI s)) >>> ((4 : Int32) &&& 31) = nI v := by
  obtain ⟨k, k1, k2⟩ := kOf_N s hs
  rw [k2, K16, show nI v * nI 16 = nI (v * 16) from (Int32.ofNat_mul _ _).symm, sN_ad]
  constructor
  · rw [show (15 : Int32) = nI 15 from rfl, nx_and, show (15 : Nat) = 2 ^ 4 - 1 from rfl, Nat.and_two_pow_sub_one_eq_mod, show (v * 16 + k) % 2 ^ 4 = k by omega]
  · rw [show (4 : Int32) &&& 31 = nI 4 &&& 31 from rfl, nx_sr (by omega) (by decide), Nat.shiftRight_eq_div_pow, show (v * 16 + k) / 2 ^ 4 = v by omega]
theorem kOf_op {s : Nat} (h : opS s) : 1 < kOf (nI s) ∧ ¬ kOf (nI s) = 2 ∧ ¬ kOf (nI s) = 0 ∧ ¬ kOf (nI s) = 1 := by
  obtain ⟨h1, h2, h3, h4⟩ := h
  rcases (show s = 2 ∨ s = 3 ∨ s = 4 ∨ s = 5 ∨ s = 6 ∨ s = 7 ∨ s = 8 ∨ s = 10 ∨ s = 11 ∨ s = 13 ∨ s = 14 ∨ s = 15 by omega) with q | q | q | q | q | q | q | q | q | q | q | q <;> rw [q] <;> decide
/-- how an entry changes a stack: its height is told by hOf -/
theorem hOf_cons {s v : Nat} (hg : gdE s v) {l : List Int32} {h h' : Nat} (ho : hOf (nI s :: l) h = some h') : (s ≤ 1 ∧ h < 60 ∧ hOf l (h + 1) = some h') ∨ (s = 9 ∧ 1 ≤ h ∧ hOf l h = some h') ∨ (opS s ∧ 2 ≤ h ∧ hOf l (h - 1) = some h') := by
  have ho : (if nI s = 0 ∨ nI s = 1 then (if h < 60 then hOf l (h + 1) else none) else if nI s = 9 then (if 1 ≤ h then hOf l h else none) else if 2 ≤ h then hOf l (h - 1) else none) = some h' := ho
  have e : (nI s = 0 ∨ nI s = 1) ↔ s ≤ 1 := by
    rw [show (0 : Int32) = nI 0 from rfl, K1, sN_eq (by have := hg.1; omega) (by decide), sN_eq (by have := hg.1; omega) (by decide)]
    omega
  have e9 : nI s = 9 ↔ s = 9 := by rw [K9, sN_eq (by have := hg.1; omega) (by decide)]
  by_cases c1 : s ≤ 1
  · rw [if_pos (e.mpr c1)] at ho
    by_cases c2 : h < 60
    · rw [if_pos c2] at ho
      exact Or.inl ⟨c1, c2, ho⟩
    · rw [if_neg c2] at ho
      exact absurd ho (by simp)
  · rw [if_neg (fun z => c1 (e.mp z))] at ho
    by_cases c3 : s = 9
    · rw [if_pos (e9.mpr c3)] at ho
      by_cases c2 : 1 ≤ h
      · rw [if_pos c2] at ho
        exact Or.inr (Or.inl ⟨c3, c2, ho⟩)
      · rw [if_neg c2] at ho
        exact absurd ho (by simp)
    · rw [if_neg (fun z => c3 (e9.mp z))] at ho
      by_cases c2 : 2 ≤ h
      · rw [if_pos c2] at ho
        exact Or.inr (Or.inr ⟨⟨by omega, hg.1, c3, hg.2.1⟩, c2, ho⟩)
      · rw [if_neg c2] at ho
        exact absurd ho (by simp)
/-! the class -/
theorem vOf_c {u : Nat} {W : Nat → Int64} {sF vF : Nat → Nat} {len : Nat} (hlen : len ≤ 300) {m0 : Mm} {a b : Int32} (hW : ∀ m' : Mm, m'.1 = m0.1 → ∀ w, w < 12 → f_X7_wordOf m' (nI w) a b = some (W w)) (hc : ∀ k, k < len → m0.1 (u + 1) k = nI (vF k) * 16 + kOf (nI (sF k))) (hg : ∀ k, k < len → gdE (sF k) (vF k)) : ∀ (c i : Nat) (st : List Int64) (m : Mm) (h' : Nat), i + c ≤ len → m.1 = m0.1 → stkL (m.2 (u + 5)) st → st.length ≤ 60 → hOf ((List.range c).map (fun k => nI (sF (i + k)))) st.length = some h' → ∃ m1, lp (f_X7_valueOf_s6 u (nI (i + c)) a b) (nI st.length, nI i, m) = some (.inr m1) ∧ m1.1 = m0.1 ∧ stkL (m1.2 (u + 5)) (ev W sF vF c i st) ∧ (ev W sF vF c i st).length = h'
  | 0, i, st, m, h', hi, hm, hs, hl, hh => by
    refine ⟨m, lp_end ?_, hm, hs, Option.some.inj hh⟩
    unfold f_X7_valueOf_s6
    exact if_pos (by rw [sN_le (by omega) (by omega)]; omega)
  | c + 1, i, st, m, h', hi, hm, hs, hl, hh => by
    have g := hg i (by omega)
    rw [show (List.range (c + 1)).map (fun k => nI (sF (i + k))) = _ from rngS (fun z => nI (sF z)) c i] at hh
    have hy : ¬ nI (i + (c + 1)) ≤ nI i := by
      rw [sN_le (by omega) (by omega)]
      omega
    obtain ⟨d1, d2⟩ := code_ok g.1 g.2.2.1
    have pre : ∀ (z : Int32) , (if (1 : Int32) < kOf (nI (sF i)) then (if kOf (nI (sF i)) = 2 then 1 else 2) else 0) = z → f_X7_valueOf_s6 u (nI (i + (c + 1))) a b (nI st.length, nI i, m) = f_X7_valueOf_j56 u m (nI (i + (c + 1))) a b (nI st.length) (nI i) (kOf (nI (sF i))) (nI (vF i)) z := fun z hz => by
      unfold f_X7_valueOf_s6
      show (if nI (i + (c + 1)) ≤ nI i then _ else _) = _
      rw [if_neg hy, if_neg (gd_ok (show i < 400 by omega) (by decide)), cl_ok (by omega), hm, hc i (by omega), d1, vl_s, if_neg (by have := gd_ok (show i < 400 by omega) (by decide); rw [cl_ok (by omega)] at this; exact this), d2, vl_s]
      by_cases q : (1 : Int32) < kOf (nI (sF i))
      · rw [if_pos q] at hz ⊢
        by_cases q2 : kOf (nI (sF i)) = 2
        · rw [if_pos q2] at hz ⊢
          rw [hz]
        · rw [if_neg q2] at hz ⊢
          rw [hz]
      · rw [if_neg q] at hz ⊢
        rw [hz]
    have nx : ∀ (st' : List Int64) (m' : Mm) (h : Nat), ev W sF vF (c + 1) i st = ev W sF vF c (i + 1) st' → st'.length = h → f_X7_valueOf_s6 u (nI (i + (c + 1))) a b (nI st.length, nI i, m) = some (.inl (nI h, nI i + 1, m')) → m'.1 = m.1 → stkL (m'.2 (u + 5)) st' → h ≤ 60 → hOf ((List.range c).map (fun k => nI (sF (i + 1 + k)))) h = some h' → ∃ m1, lp (f_X7_valueOf_s6 u (nI (i + (c + 1))) a b) (nI st.length, nI i, m) = some (.inr m1) ∧ m1.1 = m0.1 ∧ stkL (m1.2 (u + 5)) (ev W sF vF (c + 1) i st) ∧ (ev W sF vF (c + 1) i st).length = h' := fun st' m' h e1 e2 e3 e4 e5 e6 e7 => by
      rw [lp_go e3, e1, ← e2, sN_a1]
      have := vOf_c hlen hW hc hg c (i + 1) st' m' h' (by omega) (e4.trans hm) e5 (by omega) (by rw [e2]; exact e7)
      rw [show i + 1 + c = i + (c + 1) by omega] at this
      exact this
    rcases hOf_cons g hh with ⟨q1, q2, q3⟩ | ⟨q1, q2, q3⟩ | ⟨q1, q2, q3⟩
    · have z0 : (nI st.length - 0 : Int32) = nI st.length := by rw [show (0 : Int32) = nI 0 from rfl, nI_sub' (Nat.zero_le _)]; rfl
      have hw : ∀ x : Int64, f_X7_valueOf_s6 u (nI (i + (c + 1))) a b (nI st.length, nI i, m) = some (.inl (nI (st.length + 1), nI i + 1, wL m (u + 5) st.length x)) → ev W sF vF (c + 1) i st = ev W sF vF c (i + 1) (x :: st) → ∃ m1, lp (f_X7_valueOf_s6 u (nI (i + (c + 1))) a b) (nI st.length, nI i, m) = some (.inr m1) ∧ m1.1 = m0.1 ∧ stkL (m1.2 (u + 5)) (ev W sF vF (c + 1) i st) ∧ (ev W sF vF (c + 1) i st).length = h' := fun x e1 e2 => nx (x :: st) _ (st.length + 1) e2 rfl e1 rfl (stkL_pu hs (wL_at _ _ _ _) (fun k hk => wL_pl (by omega))) (by omega) q3
      rcases (show sF i = 0 ∨ sF i = 1 by omega) with s0 | s1
      · refine hw (nI (vF i)).toInt64 ?_ (by show ev W sF vF c (i + 1) (eS W (sF i) (vF i) st) = _; unfold eS; rw [if_pos s0])
        rw [pre 0 (by rw [s0]; decide)]
        unfold f_X7_valueOf_j56
        rw [if_neg (nI_nn _ (by omega)), z0, if_pos (by rw [show (64 : Int32) = nI 64 from rfl, sN_lt (by omega) (by decide)]; omega), if_pos (show kOf (nI (sF i)) = 0 by rw [s0]; rfl), if_neg (gd_ok (show st.length < 64 by omega) (by decide)), cl_ok (by omega), vl_s, sN_a1]
      · refine hw (W (vF i)) ?_ (by show ev W sF vF c (i + 1) (eS W (sF i) (vF i) st) = _; unfold eS; rw [if_neg (by omega), if_pos s1])
        rw [pre 0 (by rw [s1]; decide)]
        unfold f_X7_valueOf_j56
        rw [if_neg (nI_nn _ (by omega)), z0, if_pos (by rw [show (64 : Int32) = nI 64 from rfl, sN_lt (by omega) (by decide)]; omega), if_neg (show ¬ kOf (nI (sF i)) = 0 by rw [s1]; decide), if_pos (show kOf (nI (sF i)) = 1 by rw [s1]; rfl), hW m hm _ (g.2.2.2 s1), bi1_s, if_neg (gd_ok (show st.length < 64 by omega) (by decide)), cl_ok (by omega), vl_s, sN_a1]
    · obtain ⟨x, r, hst⟩ : ∃ x r, st = x :: r := by
        cases st with
        | nil => exact absurd q2 (by decide)
        | cons x r => exact ⟨x, r, rfl⟩
      subst hst
      have ll : (x :: r).length = r.length + 1 := rfl
      rw [ll] at hl q3
      refine nx ((1 - x) :: r) (wL m (u + 5) r.length (1 - x)) (r.length + 1) (by show ev W sF vF c (i + 1) (eS W (sF i) (vF i) (x :: r)) = _; unfold eS; rw [if_neg (by omega), if_neg (by omega), if_pos q1]) rfl ?_ rfl (stkL_pu (stkL_tl hs) (wL_at _ _ _ _) (fun k hk => wL_pl (by omega))) (by omega) q3
      rw [pre 1 (by rw [q1]; decide), ll]
      unfold f_X7_valueOf_j56
      have gd := gd_ok (show r.length < 64 by omega) (by decide)
      rw [if_neg (by rw [K1, sN_lt (by omega) (by decide)]; omega), nI_s1, if_pos (by rw [show (64 : Int32) = nI 64 from rfl, sN_lt (by omega) (by decide)]; omega), if_neg (show ¬ kOf (nI (sF i)) = 0 by rw [q1]; decide), if_neg (show ¬ kOf (nI (sF i)) = 1 by rw [q1]; decide), if_pos (show kOf (nI (sF i)) = 2 by rw [q1]; decide), if_neg gd, if_neg gd, cl_ok (by omega), vl_s, stkL_top hs, sN_a1]
    · obtain ⟨y, x, r, hst⟩ : ∃ y x r, st = y :: x :: r := by
        cases st with
        | nil => exact absurd q2 (by decide)
        | cons y st =>
          cases st with
          | nil => exact absurd q2 (by show ¬ 2 ≤ 1; decide)
          | cons x r => exact ⟨y, x, r, rfl⟩
      subst hst
      have ll : (y :: x :: r).length = r.length + 2 := rfl
      rw [ll] at hl q3
      obtain ⟨k1, k2, k3, k4⟩ := kOf_op q1
      obtain ⟨j1, j2⟩ := jn_ok q1 x y
      refine nx (jn (sF i) x y :: r) (wL m (u + 5) r.length (jn (sF i) x y)) (r.length + 1) (by show ev W sF vF c (i + 1) (eS W (sF i) (vF i) (y :: x :: r)) = _; unfold eS; rw [if_neg (by have := q1.1; omega), if_neg (by have := q1.1; omega), if_neg q1.2.2.1]) rfl ?_ rfl (stkL_pu (stkL_tl (stkL_tl hs)) (wL_at _ _ _ _) (fun k hk => wL_pl (by omega))) (by omega) q3
      rw [pre 2 (by rw [if_pos k1, if_neg k2]), ll]
      unfold f_X7_valueOf_j56
      have gd := gd_ok (show r.length < 64 by omega) (by decide)
      have gd1 := gd_ok (show r.length + 1 < 64 by omega) (by decide)
      rw [if_neg (by rw [K2, sN_lt (by omega) (by decide)]; omega), show nI (r.length + 2) - 2 = nI r.length from nI_sub' (a := r.length + 2) (b := 2) (by omega), if_pos (by rw [show (64 : Int32) = nI 64 from rfl, sN_lt (by omega) (by decide)]; omega), if_neg k3, if_neg k4, if_neg k2, if_neg gd, sN_a1, if_neg gd1, cl_ok (by omega), cl_ok (by omega), stkL_top (stkL_tl hs), show m.2 (u + 5) (r.length + 1) = y from stkL_top hs, j1, bi1_s, if_neg (by rw [cl_ok (by omega)] at gd; exact gd), vl_s]
