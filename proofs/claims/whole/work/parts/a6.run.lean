/-! PHASE 2: run, the best pair -/
abbrev Bst : Type := Int64 × Option (Nat × Nat)
def bsS (g : Nat → Nat → Int64) (q : Nat → Nat → Bool) (a b : Nat) (B : Bst) : Bst := if q a b = true ∧ ¬ lg_cmp (g a b) B.1 ≤ 0 then (g a b, some (a, b)) else B
def bIn (g : Nat → Nat → Int64) (q : Nat → Nat → Bool) (a : Nat) (B : Bst) : Nat → Bst
  | 0 => B
  | k + 1 => bsS g q a (a + 1 + k) (bIn g q a B k)
def bOu (g : Nat → Nat → Int64) (q : Nat → Nat → Bool) (nt : Nat) : Nat → Bst
  | 0 => (0, none)
  | a + 1 => bIn g q a (bOu g q nt a) (nt - (a + 1))
theorem lgP (x y : Int64) : ¬ lg_cmp x y ≤ 0 ↔ y < x := by
  unfold lg_cmp
  by_cases h : x > y
  · rw [if_pos h]
    exact ⟨fun _ => h, fun _ => by decide⟩
  · rw [if_neg h]
    by_cases h2 : x = y
    · rw [if_pos h2]
      exact ⟨fun z => absurd (by decide) z, fun z => absurd z h⟩
    · rw [if_neg h2]
      exact ⟨fun z => absurd (by decide) z, fun z => absurd z h⟩
def bVl (q : Nat → Nat → Bool) (nt : Nat) (B : Bst) : Prop := (B.2 = none ∧ B.1 = 0) ∨ ∃ a b, B.2 = some (a, b) ∧ a < b ∧ b < nt ∧ q a b = true ∧ (0 : Int64) < B.1
theorem bsS_v {g : Nat → Nat → Int64} {q : Nat → Nat → Bool} {nt a b : Nat} {B : Bst} (h : bVl q nt B) (hab : a < b) (hb : b < nt) : bVl q nt (bsS g q a b B) := by
  unfold bsS
  by_cases c : q a b = true ∧ ¬ lg_cmp (g a b) B.1 ≤ 0
  · rw [if_pos c]
    have c2 := (lgP _ _).mp c.2
    refine Or.inr ⟨a, b, rfl, hab, hb, c.1, ?_⟩
    show (0 : Int64) < g a b
    rcases h with ⟨_, h⟩ | ⟨_, _, _, _, _, _, h⟩
    · rw [h] at c2
      exact c2
    · rw [Int64.lt_iff_toInt_lt] at *
      omega
  · rw [if_neg c]
    exact h
theorem bIn_v {g : Nat → Nat → Int64} {q : Nat → Nat → Bool} {nt a : Nat} {B : Bst} (h : bVl q nt B) : ∀ k, a + 1 + k ≤ nt → bVl q nt (bIn g q a B k)
  | 0, _ => h
  | k + 1, hk => bsS_v (bIn_v h k (by omega)) (by omega) (by omega)
theorem bOu_v {g : Nat → Nat → Int64} {q : Nat → Nat → Bool} {nt : Nat} : ∀ a, a ≤ nt → bVl q nt (bOu g q nt a)
  | 0, _ => Or.inl ⟨rfl, rfl⟩
  | a + 1, h => bIn_v (bOu_v a (by omega)) (nt - (a + 1)) (by omega)
theorem bIn_0 {g : Nat → Nat → Int64} {q : Nat → Nat → Bool} (h : ∀ a b, q a b = false) {a : Nat} {B : Bst} : ∀ k, bIn g q a B k = B
  | 0 => rfl
  | k + 1 => by
    show bsS g q a (a + 1 + k) (bIn g q a B k) = B
    rw [bIn_0 h k]
    unfold bsS
    rw [if_neg (fun z => by rw [h] at z; exact absurd z.1 (by decide))]
theorem bOu_0 {g : Nat → Nat → Int64} {q : Nat → Nat → Bool} (h : ∀ a b, q a b = false) {nt : Nat} : ∀ a, bOu g q nt a = (0, none)
  | 0 => rfl
  | a + 1 => by
    show bIn g q a (bOu g q nt a) (nt - (a + 1)) = _
    rw [bIn_0 h, bOu_0 h a]
def eC1 : Option (Nat × Nat) → Int32
  | none => 0
  | some p => nI p.1
def eC2 : Option (Nat × Nat) → Int32
  | none => 0
  | some p => nI p.2
def eF1 : Option (Nat × Nat) → Int32
  | none => -1
  | some p => nI p.1
def eF2 : Option (Nat × Nat) → Int32
  | none => -1
  | some p => nI p.2
noncomputable def okp (R : Rf) (s a b : Nat) : Bool := pb (R.1 4 a = 0 ∧ R.1 4 b = 0 ∧ canB R a b s)
noncomputable def gvl (V : Dat) (R : Rf) (sF vF tI tJ tK : Nat → Nat) (nc a b : Nat) : Int64 := wvl (Wrd V R a b) sF vF tI tJ tK nc
noncomputable def tieS (V : Dat) (sF vF tI tJ tK : Nat → Nat) (nc s : Nat) (R : Rf) : Rf := match (bOu (gvl V R sF vF tI tJ tK nc) (okp R s) (V 1 2) (V 1 2)).2 with
  | none => R
  | some p => tieR R p.1 p.2 s
theorem tieS_ok {V : Dat} {sF vF tI tJ tK : Nat → Nat} {nc s : Nat} (hs : 1 ≤ s ∧ s ≤ 9) {R : Rf} (oa : RaOk V R.1 R.2.1) : RaOk V (tieS V sF vF tI tJ tK nc s R).1 (tieS V sF vF tI tJ tK nc s R).2.1 ∧ (tieS V sF vF tI tJ tK nc s R).1 0 1 = R.1 0 1 := by
  unfold tieS
  rcases bOu_v (g := gvl V R sF vF tI tJ tK nc) (q := okp R s) (V 1 2) (Nat.le_refl _) with ⟨h, _⟩ | ⟨a, b, h, h1, h2, h3, _⟩
  · rw [h]
    exact ⟨oa, rfl⟩
  · rw [h]
    have h3 : pb (R.1 4 a = 0 ∧ R.1 4 b = 0 ∧ canB R a b s) = true := h3
    have hh : R.1 4 a = 0 ∧ R.1 4 b = 0 ∧ canB R a b s := by
      by_cases c : R.1 4 a = 0 ∧ R.1 4 b = 0 ∧ canB R a b s
      · exact c
      · rw [pb_f c] at h3
        exact absurd h3 (by decide)
    exact ⟨tieR_ok oa hh.2.2.2.1 ⟨by omega, hh.1⟩ ⟨h2, hh.2.1⟩ (by omega) hs, rfl⟩
theorem Afl_iff {V A : Dat} (h8 : V 1 2 ≤ 8) {t : Nat} (ht : t < V 1 2) : Afl V A (nI t) ↔ A 4 t = 0 := ⟨fun ⟨u, h1, h2⟩ => by rw [nI_eq_iff (by omega) (by omega)] at h2; rw [h2]; exact h1.2, fun h => ⟨t, ⟨ht, h⟩, rfl⟩⟩
theorem tieBest_c {m : Mm} {U : Nat} (hU : 252 ≤ U) {V : Dat} {R : Rf} (hv : RvC m 27 V) (ov : RvOk V) (hr : raC (rwC m 33) V R) (oa : RaOk V R.1 R.2.1) {sF vF tI tJ tK : Nat → Nat} {len nc s : Nat} (hD : RuD sF vF tI tJ tK len nc) (hC : RuC m U sF vF tI tJ tK len nc) (hs : 1 ≤ s ∧ s ≤ 9) (hl : R.2.1.length < 12) (hS : ¬ R.2.2 < nI s) : ∃ m1, f_X11_tieBest m U (nI s) = some m1 ∧ raC (rwC m1 33) V (tieS V sF vF tI tJ tK nc s R) ∧ ∀ i, ¬ (33 ≤ i ∧ i < 42) → ¬ i = 230 → m1.1 i = m.1 i := by
  have h8 := ov.2.2.1
  have hrr : RaC m 33 V R.1 R.2.1 R.2.2 := hr.1
  have hj := join_c hv ov hrr oa (by decide) (by decide) (g := 0) (by decide)
  obtain ⟨m0, hm0⟩ : ∃ m0, wA m 230 (rowN 8 (pOf V R.1 R.2.1 0) (m.1 230)) = m0 := ⟨_, rfl⟩
  have f0 : ∀ i, ¬ i = 230 → m0.1 i = m.1 i := fun i hi => by rw [← hm0, wA_ne hi]
  have p0 : ∀ t, t < 8 → m0.1 230 t = nI (pOf V R.1 R.2.1 0 t) := fun t ht => by rw [← hm0, wA_at, rowN_at _ _ ht]
  have hv0 : RvC m0 27 V := RvC_eq (fun j hj => f0 _ (by omega)) hv
  have hr0 : raC (rwC m0 33) V R := raC_eq (fun j hj => f0 _ (by omega)) hr
  have hC0 : RuC m0 U sF vF tI tJ tK len nc := by
    unfold RuC
    rw [f0 U (by omega), f0 (U + 1) (by omega), f0 (U + 2) (by omega), f0 (U + 3) (by omega), f0 (U + 4) (by omega)]
    exact hC
  obtain ⟨nt, hnt⟩ : ∃ nt, V 1 2 = nt := ⟨_, rfl⟩
  have n0 : ∀ m' : Mm, m'.1 = m0.1 → m'.1 27 2 = nI nt := fun m' h => by rw [h, ← hnt]; exact hv0.1.2.2
  have rv' : ∀ m' : Mm, m'.1 = m0.1 → RvC m' 27 V := fun m' h => RvC_eq (fun j hj => by rw [h]) hv0
  have ra' : ∀ m' : Mm, m'.1 = m0.1 → RaC m' 33 V R.1 R.2.1 R.2.2 := fun m' h => RaC_eq (fun j hj => by rw [h]) hr0.1
  obtain ⟨G, hG⟩ : ∃ G, gvl V R sF vF tI tJ tK nc = G := ⟨_, rfl⟩
  have okq : ∀ a b, R.1 4 a = 0 → R.1 4 b = 0 → ¬ Bnd R.2.1 a b → okp R s a b = true := fun a b h1 h2 h3 => pb_t ⟨h1, h2, hS, hl, h3⟩
  have okn : ∀ a b, ¬ (R.1 4 a = 0 ∧ R.1 4 b = 0 ∧ ¬ Bnd R.2.1 a b) → okp R s a b = false := fun a b h => pb_f (fun z => h ⟨z.1, z.2.1, z.2.2.2.2⟩)
  have inner : ∀ a, a < nt → ∀ (B : Bst) (m1 : Mm), m1.1 = m0.1 → ∃ r, lp (f_X11_tieBest_s50 U (nI s) (nI a)) (B.1, eC1 B.2, eC2 B.2, nI (a + 1), m1) = some r ∧ ∃ m2, r = ((bIn G (okp R s) a B (nt - (a + 1))).1, eC1 (bIn G (okp R s) a B (nt - (a + 1))).2, eC2 (bIn G (okp R s) a B (nt - (a + 1))).2, m2) ∧ m2.1 = m0.1 := fun a ha B m1 hm1 => by
    refine lp_inv (fun k x => ∃ m2, x = ((bIn G (okp R s) a B k).1, eC1 (bIn G (okp R s) a B k).2, eC2 (bIn G (okp R s) a B k).2, nI (a + 1 + k), m2) ∧ m2.1 = m0.1) _ (nt - (a + 1)) (fun k x hk hx => ?_) (fun x hx => ?_) 0 _ (Nat.zero_le _) ⟨m1, rfl, hm1⟩
    · obtain ⟨m2, rfl, e2⟩ := hx
      obtain ⟨b, hb⟩ : ∃ b, a + 1 + k = b := ⟨_, rfl⟩
      rw [hb]
      have hbn : b < nt := by omega
      have hs0 : f_X11_tieBest_s50 U (nI s) (nI a) ((bIn G (okp R s) a B k).1, eC1 (bIn G (okp R s) a B k).2, eC2 (bIn G (okp R s) a B k).2, nI b, m2) = bi1 (f_X11_isAfloat m2 (nI a)) fun r_6 => if r_6 = 0 then some (.inl ((bIn G (okp R s) a B k).1, eC1 (bIn G (okp R s) a B k).2, eC2 (bIn G (okp R s) a B k).2, (nI b + 1), m2)) else bi1 (f_X11_isAfloat m2 (nI b)) fun r_9 => if r_9 = 0 then some (.inl ((bIn G (okp R s) a B k).1, eC1 (bIn G (okp R s) a B k).2, eC2 (bIn G (okp R s) a B k).2, (nI b + 1), m2)) else bi1 (f_X4_areBound m2 33 27 (nI a) (nI b)) fun r_12 => if r_12 = 0 then bi2 (f_X7_worth m2 U (nI a) (nI b)) fun r_16 mm_14 => if (lg_cmp r_16 (bIn G (okp R s) a B k).1) ≤ 0 then some (.inl ((bIn G (okp R s) a B k).1, eC1 (bIn G (okp R s) a B k).2, eC2 (bIn G (okp R s) a B k).2, (nI b + 1), mm_14)) else some (.inl (r_16, nI a, nI b, (nI b + 1), mm_14)) else some (.inl ((bIn G (okp R s) a B k).1, eC1 (bIn G (okp R s) a B k).2, eC2 (bIn G (okp R s) a B k).2, (nI b + 1), m2)) := by
        unfold f_X11_tieBest_s50
        show (if m2.1 27 2 ≤ nI b then _ else _) = _
        rw [n0 m2 e2, if_neg (by rw [sN_le (by omega) (by omega)]; omega)]
      have nx : bIn G (okp R s) a B (k + 1) = bsS G (okp R s) a b (bIn G (okp R s) a B k) := by rw [← hb]; rfl
      have keep : okp R s a b = false → f_X11_tieBest_s50 U (nI s) (nI a) ((bIn G (okp R s) a B k).1, eC1 (bIn G (okp R s) a B k).2, eC2 (bIn G (okp R s) a B k).2, nI b, m2) = some (.inl ((bIn G (okp R s) a B k).1, eC1 (bIn G (okp R s) a B k).2, eC2 (bIn G (okp R s) a B k).2, (nI b + 1), m2)) → ∃ y, f_X11_tieBest_s50 U (nI s) (nI a) ((bIn G (okp R s) a B k).1, eC1 (bIn G (okp R s) a B k).2, eC2 (bIn G (okp R s) a B k).2, nI b, m2) = some (.inl y) ∧ ∃ m2, y = ((bIn G (okp R s) a B (k + 1)).1, eC1 (bIn G (okp R s) a B (k + 1)).2, eC2 (bIn G (okp R s) a B (k + 1)).2, nI (a + 1 + (k + 1)), m2) ∧ m2.1 = m0.1 := fun h1 h2 => by
        refine ⟨_, h2, m2, ?_, e2⟩
        rw [nx]
        unfold bsS
        rw [if_neg (fun z => by rw [h1] at z; exact absurd z.1 (by decide)), sN_a1, show a + 1 + (k + 1) = b + 1 by omega]
      rw [isAfloat_c (rv' m2 e2) ov (ra' m2 e2) oa, bi1_s] at hs0
      by_cases c1 : R.1 4 a = 0
      · rw [pb_t ((Afl_iff h8 (show a < V 1 2 by omega)).mpr c1), if_pos rfl, if_neg (by decide), isAfloat_c (rv' m2 e2) ov (ra' m2 e2) oa, bi1_s] at hs0
        by_cases c2 : R.1 4 b = 0
        · rw [pb_t ((Afl_iff h8 (show b < V 1 2 by omega)).mpr c2), if_pos rfl, if_neg (by decide), areBound_c (ra' m2 e2) ov oa (by omega) (by omega), bi1_s] at hs0
          by_cases c3 : Bnd R.2.1 a b
          · rw [pb_t c3, if_pos rfl, if_neg (by decide)] at hs0
            exact keep (okn a b (fun z => z.2.2 c3)) hs0
          · rw [pb_f c3, if_pos (by decide)] at hs0
            obtain ⟨m3, w1, w2⟩ := worth_c (W := Wrd V R a b) hD hC0 (a := nI a) (b := nI b) (fun m' h w hw => wordOf_c (rv' m' h) ov (ra' m' h) oa (fun t ht => by rw [h]; exact p0 t ht) (by omega) (by omega) w hw) e2
            rw [w1, bi2_s, show wvl (Wrd V R a b) sF vF tI tJ tK nc = G a b by rw [← hG]; rfl] at hs0
            have hq := okq a b c1 c2 c3
            by_cases c4 : lg_cmp (G a b) (bIn G (okp R s) a B k).1 ≤ 0
            · rw [if_pos c4] at hs0
              refine ⟨_, hs0, m3, ?_, w2⟩
              rw [nx]
              unfold bsS
              rw [if_neg (fun z => z.2 c4), sN_a1, show a + 1 + (k + 1) = b + 1 by omega]
            · rw [if_neg c4] at hs0
              refine ⟨_, hs0, m3, ?_, w2⟩
              rw [nx]
              unfold bsS
              rw [if_pos ⟨hq, c4⟩, sN_a1, show a + 1 + (k + 1) = b + 1 by omega]
              rfl
        · rw [pb_f (fun z => c2 ((Afl_iff h8 (show b < V 1 2 by omega)).mp z)), if_pos (by decide)] at hs0
          exact keep (okn a b (fun z => c2 z.2.1)) hs0
      · rw [pb_f (fun z => c1 ((Afl_iff h8 (show a < V 1 2 by omega)).mp z)), if_pos (by decide)] at hs0
        exact keep (okn a b (fun z => c1 z.1)) hs0
    · obtain ⟨m2, rfl, e2⟩ := hx
      refine ⟨_, ?_, m2, rfl, e2⟩
      unfold f_X11_tieBest_s50
      show (if m2.1 27 2 ≤ nI (a + 1 + (nt - (a + 1))) then _ else _) = _
      rw [n0 m2 e2, if_pos (by rw [sN_le (by omega) (by omega)]; omega)]
  have outer : ∃ r, lp (f_X11_tieBest_s29 U (nI s)) ((0 : Int64), (0 : Int32), (0 : Int32), (0 : Int32), m0) = some r ∧ ∃ m2, r = ((bOu G (okp R s) nt nt).1, eC1 (bOu G (okp R s) nt nt).2, eC2 (bOu G (okp R s) nt nt).2, m2) ∧ m2.1 = m0.1 := by
    refine lp_inv (fun a x => ∃ m2, x = ((bOu G (okp R s) nt a).1, eC1 (bOu G (okp R s) nt a).2, eC2 (bOu G (okp R s) nt a).2, nI a, m2) ∧ m2.1 = m0.1) _ nt (fun a x ha hx => ?_) (fun x hx => ?_) 0 _ (Nat.zero_le _) ⟨m0, rfl, rfl⟩
    · obtain ⟨m2, rfl, e2⟩ := hx
      obtain ⟨r, r1, m3, rfl, r3⟩ := inner a ha (bOu G (okp R s) nt a) m2 e2
      refine ⟨_, ?_, m3, rfl, r3⟩
      unfold f_X11_tieBest_s29
      show (if m2.1 27 2 ≤ nI a then _ else _) = _
      rw [n0 m2 e2, if_neg (by rw [sN_le (by omega) (by omega)]; omega), sN_a1, r1, bi1_s]
      rfl
    · obtain ⟨m2, rfl, e2⟩ := hx
      refine ⟨_, ?_, m2, rfl, e2⟩
      unfold f_X11_tieBest_s29
      show (if m2.1 27 2 ≤ nI nt then _ else _) = _
      rw [n0 m2 e2, if_pos (by rw [sN_le (by omega) (by omega)]; omega)]
  obtain ⟨r, r1, m2, rfl, r3⟩ := outer
  unfold f_X11_tieBest
  rw [show f_X2_join m 33 27 0 = some m0 by rw [← hm0]; exact hj, bi1_s, r1, bi1_s]
  show ∃ m1, (if lg_cmp (bOu G (okp R s) nt nt).1 0 ≤ 0 then some m2 else bi1 (f_X4_spend m2 33 27 (eC1 (bOu G (okp R s) nt nt).2) (eC2 (bOu G (okp R s) nt nt).2) (nI s)) fun mm_31 => some mm_31) = some m1 ∧ _
  have hr2 : raC (rwC m2 33) V R := raC_eq (fun j hj => by rw [r3]) hr0
  unfold tieS
  rw [hnt, hG]
  rcases bOu_v (g := G) (q := okp R s) (nt := nt) nt (Nat.le_refl _) with ⟨h, h'⟩ | ⟨a, b, h, h1, h2, h3, h4⟩
  · rw [h, if_pos (by rw [h']; decide)]
    exact ⟨m2, rfl, hr2, fun i _ i2 => by rw [r3, f0 i i2]⟩
  · rw [h, if_neg ((lgP _ _).mpr h4)]
    obtain ⟨m3, e1, e2, e3⟩ := spend_c (v := 27) hr2 hl (a := a) (b := b) (s := s) (by omega) (by omega)
    rw [show f_X4_spend m2 33 27 (eC1 (some (a, b))) (eC2 (some (a, b))) (nI s) = some m3 from e1, bi1_s]
    exact ⟨m3, rfl, e2, fun i i1 i2 => by rw [e3 i i1, r3, f0 i i2]⟩
theorem tiesBy_f {m : Mm} {u : Nat} (hu : u < 6) {V : Dat} {R : Rf} (hv : RvF m V) (ov : RvOk V) (hr : raM m V R) (oa : RaOk V R.1 R.2.1) {sF vF tI tJ tK : Nat → Nat} {len nc s : Nat} (hD : RuD sF vF tI tJ tK len nc) (hF : RuF m u sF vF tI tJ tK len nc) (hs : 1 ≤ s ∧ s ≤ 9) : ∃ m1, f_X12_tiesBy m (nI u) (nI s) = some m1 ∧ raM m1 V (tieS V sF vF tI tJ tK nc s R) ∧ frM m m1 := by
  have h8 := ov.2.2.1
  obtain ⟨nt, hnt⟩ : ∃ nt, V 1 2 = nt := ⟨_, rfl⟩
  have n0 : ∀ m' : Mm, m'.1 = m.1 → m'.1 1089 3 = nI nt := fun m' h => by rw [h, ← hnt]; exact hv.1.2.2
  have rv' : ∀ m' : Mm, m'.1 = m.1 → RvF m' V := fun m' h => RvF_eq (fun i _ _ => by rw [h]) hv
  have ra' : ∀ m' : Mm, m'.1 = m.1 → RaF m' V R.1 R.2.1 R.2.2 := fun m' h => RaF_eq (fun i _ _ => by rw [h]) hr.1
  obtain ⟨G, hG⟩ : ∃ G, gvl V R sF vF tI tJ tK nc = G := ⟨_, rfl⟩
  have inner : ∀ a, a < nt → ∀ (B : Bst) (m1 : Mm), m1.1 = m.1 → ∃ r, lp (f_X12_tiesBy_s28 (nI u) (nI s) (nI a)) (eF1 B.2, eF2 B.2, B.1, nI (a + 1), m1) = some r ∧ ∃ m2, r = (eF1 (bIn G (okp R s) a B (nt - (a + 1))).2, eF2 (bIn G (okp R s) a B (nt - (a + 1))).2, (bIn G (okp R s) a B (nt - (a + 1))).1, m2) ∧ m2.1 = m.1 := fun a ha B m1 hm1 => by
    refine lp_inv (fun k x => ∃ m2, x = (eF1 (bIn G (okp R s) a B k).2, eF2 (bIn G (okp R s) a B k).2, (bIn G (okp R s) a B k).1, nI (a + 1 + k), m2) ∧ m2.1 = m.1) _ (nt - (a + 1)) (fun k x hk hx => ?_) (fun x hx => ?_) 0 _ (Nat.zero_le _) ⟨m1, rfl, hm1⟩
    · obtain ⟨m2, rfl, e2⟩ := hx
      obtain ⟨b, hb⟩ : ∃ b, a + 1 + k = b := ⟨_, rfl⟩
      rw [hb]
      have hbn : b < nt := by omega
      have hs0 : f_X12_tiesBy_s28 (nI u) (nI s) (nI a) (eF1 (bIn G (okp R s) a B k).2, eF2 (bIn G (okp R s) a B k).2, (bIn G (okp R s) a B k).1, nI b, m2) = bi1 (f_X12_canBind m2 (nI a) (nI b) (nI s)) fun r_4 => if r_4 = 0 then some (.inl (eF1 (bIn G (okp R s) a B k).2, eF2 (bIn G (okp R s) a B k).2, (bIn G (okp R s) a B k).1, (nI b + 1), m2)) else bi1 (f_X12_asks m2 (nI a) (nI b)) fun mm_6 => bi2 (f_X12_wanted mm_6 (nI u)) fun r_10 mm_8 => if (lg_cmp r_10 (bIn G (okp R s) a B k).1) ≤ 0 then some (.inl (eF1 (bIn G (okp R s) a B k).2, eF2 (bIn G (okp R s) a B k).2, (bIn G (okp R s) a B k).1, (nI b + 1), mm_8)) else some (.inl (nI a, nI b, r_10, (nI b + 1), mm_8)) := by
        unfold f_X12_tiesBy_s28
        show (if m2.1 1089 3 ≤ nI b then _ else _) = _
        rw [n0 m2 e2, if_neg (by rw [sN_le (by omega) (by omega)]; omega)]
      have nx : bIn G (okp R s) a B (k + 1) = bsS G (okp R s) a b (bIn G (okp R s) a B k) := by rw [← hb]; rfl
      rw [canBind_f (rv' m2 e2) ov (ra' m2 e2) oa (show a < V 1 2 by omega) (show b < V 1 2 by omega) (by omega) hs, bi1_s] at hs0
      by_cases c : R.1 4 a = 0 ∧ R.1 4 b = 0 ∧ canB R a b s
      · have hq : okp R s a b = true := pb_t c
        rw [pb_t c, if_pos rfl, if_neg (by decide)] at hs0
        obtain ⟨m3, w1, w2, w3⟩ := asks_f (rv' m2 e2) ov (ra' m2 e2) oa (a := a) (b := b) ⟨by omega, c.1⟩ (by omega)
        rw [w1, bi1_s] at hs0
        obtain ⟨m4, v1, v2⟩ := wanted_f hu hD hF (m := m3) (w2.trans e2) w3
        rw [v1, bi2_s, show wvl (Wrd V R a b) sF vF tI tJ tK nc = G a b by rw [← hG]; rfl] at hs0
        by_cases c4 : lg_cmp (G a b) (bIn G (okp R s) a B k).1 ≤ 0
        · rw [if_pos c4] at hs0
          refine ⟨_, hs0, m4, ?_, v2⟩
          rw [nx]
          unfold bsS
          rw [if_neg (fun z => z.2 c4), sN_a1, show a + 1 + (k + 1) = b + 1 by omega]
        · rw [if_neg c4] at hs0
          refine ⟨_, hs0, m4, ?_, v2⟩
          rw [nx]
          unfold bsS
          rw [if_pos ⟨hq, c4⟩, sN_a1, show a + 1 + (k + 1) = b + 1 by omega]
          rfl
      · have hq : okp R s a b = false := pb_f c
        rw [pb_f c, if_pos (by decide)] at hs0
        refine ⟨_, hs0, m2, ?_, e2⟩
        rw [nx]
        unfold bsS
        rw [if_neg (fun z => by rw [hq] at z; exact absurd z.1 (by decide)), sN_a1, show a + 1 + (k + 1) = b + 1 by omega]
    · obtain ⟨m2, rfl, e2⟩ := hx
      refine ⟨_, ?_, m2, rfl, e2⟩
      unfold f_X12_tiesBy_s28
      show (if m2.1 1089 3 ≤ nI (a + 1 + (nt - (a + 1))) then _ else _) = _
      rw [n0 m2 e2, if_pos (by rw [sN_le (by omega) (by omega)]; omega)]
  have outer : ∃ r, lp (f_X12_tiesBy_s11 (nI u) (nI s)) ((-1 : Int32), (-1 : Int32), (0 : Int64), (0 : Int32), m) = some r ∧ ∃ m2, r = (eF1 (bOu G (okp R s) nt nt).2, eF2 (bOu G (okp R s) nt nt).2, m2) ∧ m2.1 = m.1 := by
    refine lp_inv (fun a x => ∃ m2, x = (eF1 (bOu G (okp R s) nt a).2, eF2 (bOu G (okp R s) nt a).2, (bOu G (okp R s) nt a).1, nI a, m2) ∧ m2.1 = m.1) _ nt (fun a x ha hx => ?_) (fun x hx => ?_) 0 _ (Nat.zero_le _) ⟨m, rfl, rfl⟩
    · obtain ⟨m2, rfl, e2⟩ := hx
      obtain ⟨r, r1, m3, rfl, r3⟩ := inner a ha (bOu G (okp R s) nt a) m2 e2
      refine ⟨_, ?_, m3, rfl, r3⟩
      unfold f_X12_tiesBy_s11
      show (if m2.1 1089 3 ≤ nI a then _ else _) = _
      rw [n0 m2 e2, if_neg (by rw [sN_le (by omega) (by omega)]; omega), sN_a1, r1, bi1_s]
      rfl
    · obtain ⟨m2, rfl, e2⟩ := hx
      refine ⟨_, ?_, m2, rfl, e2⟩
      unfold f_X12_tiesBy_s11
      show (if m2.1 1089 3 ≤ nI nt then _ else _) = _
      rw [n0 m2 e2, if_pos (by rw [sN_le (by omega) (by omega)]; omega)]
  obtain ⟨r, r1, m2, rfl, r3⟩ := outer
  unfold f_X12_tiesBy
  rw [r1, bi1_s]
  show ∃ m1, (if eF1 (bOu G (okp R s) nt nt).2 = (-1 : Int32) then some m2 else bi2 (f_X12_binds m2 (eF1 (bOu G (okp R s) nt nt).2) (eF2 (bOu G (okp R s) nt nt).2) (nI s)) fun r_26 mm_24 => some mm_24) = some m1 ∧ _
  have hr2 : raM m2 V R := ⟨ra' m2 r3, fun t ht => by rw [r3]; exact hr.2 t ht⟩
  have fr2 : frM m m2 := ⟨fun i _ _ _ _ _ _ _ _ _ => by rw [r3], fun k _ _ => by rw [r3], fun k _ _ _ => by rw [r3]⟩
  unfold tieS
  rw [hnt, hG]
  rcases bOu_v (g := G) (q := okp R s) (nt := nt) nt (Nat.le_refl _) with ⟨h, h'⟩ | ⟨a, b, h, h1, h2, h3, h4⟩
  · rw [h, if_pos (show eF1 none = -1 from rfl)]
    exact ⟨m2, rfl, hr2, fr2⟩
  · have h3 : pb (R.1 4 a = 0 ∧ R.1 4 b = 0 ∧ canB R a b s) = true := h3
    have hl : R.2.1.length < 12 := by
      by_cases c : R.1 4 a = 0 ∧ R.1 4 b = 0 ∧ canB R a b s
      · exact c.2.2.2.1
      · rw [pb_f c] at h3
        exact absurd h3 (by decide)
    rw [h, if_neg (show ¬ eF1 (some (a, b)) = -1 from nm1 (show a < 100000 by omega))]
    obtain ⟨m3, e1, e2, e3⟩ := binds_f hr2 hl (a := a) (b := b) (s := s) (by omega) (by omega) (by omega)
    rw [show f_X12_binds m2 (eF1 (some (a, b))) (eF2 (some (a, b))) (nI s) = _ from e1, bi2_s]
    exact ⟨m3, rfl, e2, fr2.tr e3⟩
