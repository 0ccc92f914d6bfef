/-! PHASE 2: rule, which values are 0 or 1 -/
def bsg (x y : Ps) (a : List Bool) (b : Bool) : Prop := ∃ D : Es, y.2.1 = x.2.1 ++ D ∧ ∀ r, bOf (D.map fun e => nI e.1) (a ++ r) = b :: r
theorem bOf_ap (l1 l2 : List Int32) (st : List Bool) : bOf (l1 ++ l2) st = bOf l2 (bOf l1 st) := by
  unfold bOf
  rw [List.foldl_append]
theorem bsg.tr {x y z : Ps} {a c e : List Bool} {b d : Bool} (h : bsg x y a b) (g : bsg y z (b :: c) d) (he : e = a ++ c) : bsg x z e d := by
  obtain ⟨D, h1, h2⟩ := h
  obtain ⟨G, g1, g2⟩ := g
  refine ⟨D ++ G, by rw [g1, h1, List.append_assoc], fun r => ?_⟩
  rw [he, List.map_append, bOf_ap, List.append_assoc, h2 (c ++ r)]
  exact g2 r
theorem bsg_0 {x : Ps} {i p : Nat} {b : Bool} : bsg x (i, x.2.1, p) [b] b := ⟨[], by simp, fun r => rfl⟩
theorem bsg_v {x : Ps} {i s v p : Nat} (hs : s ≤ 1) : bsg x (i, x.2.1 ++ [(s, v)], p) [] false := ⟨[(s, v)], rfl, fun r => by
  show bS (nI s) r = false :: r
  unfold bS
  rw [if_pos (by rcases (show s = 0 ∨ s = 1 by omega) with q | q <;> rw [q]; exact Or.inl rfl; exact Or.inr rfl)]⟩
theorem bsg_a {x : Ps} {i s p : Nat} (hs : s = 2 ∨ s = 3 ∨ s = 13 ∨ s = 14 ∨ s = 15) : bsg x (i, x.2.1 ++ [(s, 0)], p) [false, false] false := ⟨[(s, 0)], rfl, fun r => by
  show bS (nI s) (false :: false :: r) = false :: r
  unfold bS
  rcases hs with q | q | q | q | q <;> rw [q, if_neg (by decide), if_neg (by decide)] <;> rfl⟩
theorem bsg_c {x : Ps} {i s p : Nat} (h1 : 4 ≤ s) (h2 : s ≤ 8) : bsg x (i, x.2.1 ++ [(s, 0)], p) [false, false] true := ⟨[(s, 0)], rfl, fun r => by
  show bS (nI s) (false :: false :: r) = true :: r
  unfold bS
  rcases (show s = 4 ∨ s = 5 ∨ s = 6 ∨ s = 7 ∨ s = 8 by omega) with q | q | q | q | q <;> rw [q, if_neg (by decide), if_neg (by decide)] <;> rfl⟩
theorem bsg_9 {x : Ps} {i p : Nat} : bsg x (i, x.2.1 ++ [(9, 0)], p) [true] true := ⟨[(9, 0)], rfl, fun r => rfl⟩
theorem bsg_l {x : Ps} {i s p : Nat} (hs : s = 10 ∨ s = 11) : bsg x (i, x.2.1 ++ [(s, 0)], p) [true, true] true := ⟨[(s, 0)], rfl, fun r => by
  show bS (nI s) (true :: true :: r) = true :: r
  unfold bS
  rcases hs with q | q <;> rw [q, if_neg (by decide), if_neg (by decide)] <;> rfl⟩
theorem val_b {n : Nat} {t : Nat → Nat} {x y : Ps} (h : val n t x = .inr y) : bsg x y [] false := by
  unfold val at h
  by_cases c : bl n t x.1 < n ∧ isD (t (bl n t x.1)) = true
  · rw [if_pos c] at h
    obtain ⟨⟨v, e⟩, h1, h2⟩ := sbd_r h
    rw [(onePart_r h2).2]
    exact bsg_v (by decide)
  · rw [if_neg c] at h
    cases hf : fw n t (bl n t x.1) (wl 2) 0 with
    | none =>
      rw [hf] at h
      exact absurd h (by intro z; cases z)
    | some w =>
      rw [hf] at h
      have h : onePart (bl n t x.1) (lte n t (bl n t x.1), x.2.1 ++ [(1, w)], x.2.2) = .inr y := h
      rw [(onePart_r h).2]
      exact bsg_v (by decide)
theorem bsg_P {x : Ps} {i p : Nat} {P : Es} {f : Bool} (hP : P = [] ∨ ∃ s, P = [(s, 0)] ∧ bsg x (i, x.2.1 ++ [(s, 0)], p) [f, f] f) : bsg x (i, x.2.1 ++ P, p) (List.replicate (1 + P.length) f) f := by
  rcases hP with q | ⟨s, q, h⟩
  · rw [q, List.append_nil]
    exact bsg_0
  · rw [q]
    exact h
theorem flat_b {n : Nat} {t : Nat → Nat} : ∀ (g : Nat) (P : Es) (x y : Ps), (P = [] ∨ ∃ s, P = [(s, 0)] ∧ (s = 2 ∨ s = 3)) → flat n t g P x = .inr y → bsg x y (List.replicate (1 + P.length) false) false
  | 0, P, x, y, hP, h => by
    have h : (Sum.inr (apE x P) : Nat ⊕ Ps) = .inr y := h
    rw [← Sum.inr.inj h]
    exact bsg_P (hP.imp id (fun ⟨s, q, z⟩ => ⟨s, q, bsg_a (by omega)⟩))
  | g + 1, P, x, y, hP, h => by
    have hPb : ∀ i, bsg x (i, x.2.1 ++ P, x.2.2) (List.replicate (1 + P.length) false) false := fun i => bsg_P (hP.imp id (fun ⟨s, q, z⟩ => ⟨s, q, bsg_a (by omega)⟩))
    unfold flat at h
    by_cases c : opAt n t (bl n t x.1) = 0
    · rw [if_pos c] at h
      rw [← Sum.inr.inj h]
      exact hPb _
    · rw [if_neg c] at h
      obtain ⟨o1, o2, o3, o4, o5, o6, o7⟩ := opAt_ok c
      by_cases d : opAt n t (bl n t x.1) < 4
      · rw [if_pos d] at h
        obtain ⟨z, h1, h2⟩ := sbd_r h
        have f1 := flat_b g _ z y (Or.inr ⟨_, rfl, o6 d⟩) h2
        have v := (val_b h1).tr (show bsg z y (false :: [false]) false from f1) rfl
        exact (hPb (bl n t x.1 + 1)).tr v (by simp)
      · rw [if_neg d] at h
        obtain ⟨z, h1, h2⟩ := sbd_r h
        have f1 := flat_b g _ (apE z [(opAt n t (bl n t x.1), 0)]) y hP h2
        have v := (val_b h1).tr (show bsg z (apE z [(opAt n t (bl n t x.1), 0)]) (false :: [false]) false from bsg_a (by have := o7 d; omega)) rfl
        rw [show 1 + P.length = P.length + 1 by omega, List.replicate_succ] at f1 ⊢
        exact bsg.tr (x := x) v f1 rfl
theorem smv_b {n : Nat} {t : Nat → Nat} {x y : Ps} (h : smv n t x = .inr y) : bsg x y [] false := by
  obtain ⟨z, h1, h2⟩ := sbd_r h
  exact (val_b h1).tr (show bsg z y (false :: []) false from flat_b 400 [] z y (Or.inl rfl) h2) rfl
theorem cmpd_b {n : Nat} {t : Nat → Nat} {x y : Ps} (h : cmpd n t x = .inr y) : bsg x y [] true := by
  obtain ⟨z, h1, h2⟩ := sbd_r h
  by_cases c : (cpAt n t (bl n t z.1)).1 = 0
  · rw [if_pos c] at h2
    exact absurd h2 (by intro z; cases z)
  · rw [if_neg c] at h2
    obtain ⟨c1, c2, c3, c4, c5, c6⟩ := cpAt_ok c
    obtain ⟨w, h3, h4⟩ := sbd_r h2
    have h6 : w = (bl n t z.1 + (cpAt n t (bl n t z.1)).2, z.2.1, z.2.2 + 1) := (onePart_r h3).2
    obtain ⟨w2, h7, h8⟩ := sbd_r h4
    have s2 := smv_b h7
    rw [h6] at s2
    have h8 : (Sum.inr (apE w2 [((cpAt n t (bl n t z.1)).1, 0)]) : Nat ⊕ Ps) = .inr y := h8
    rw [← Sum.inr.inj h8]
    have v := s2.tr (show bsg w2 (apE w2 [((cpAt n t (bl n t z.1)).1, 0)]) (false :: [false]) true from bsg_c c2 c3) rfl
    exact (smv_b h1).tr (show bsg z _ (false :: []) true from v) rfl
theorem tloop_b {n : Nat} {t : Nat → Nat} {F : Ps → Nat ⊕ Ps} (hF : ∀ x y, F x = .inr y → bsg x y [] true) : ∀ (g : Nat) (P : Es) (x y : Ps), (P = [] ∨ P = [(11, 0)]) → tloop n t F g P x = .inr y → bsg x y (List.replicate (1 + P.length) true) true
  | 0, P, x, y, hP, h => by
    have h : (Sum.inr (apE x P) : Nat ⊕ Ps) = .inr y := h
    rw [← Sum.inr.inj h]
    exact bsg_P (hP.imp id (fun q => ⟨11, q, bsg_l (by omega)⟩))
  | g + 1, P, x, y, hP, h => by
    have hPb : ∀ i, bsg x (i, x.2.1 ++ P, x.2.2) (List.replicate (1 + P.length) true) true := fun i => bsg_P (hP.imp id (fun q => ⟨11, q, bsg_l (by omega)⟩))
    unfold tloop at h
    by_cases d : ws n t (bl n t x.1) 5 = true
    · rw [if_pos d] at h
      obtain ⟨z, h1, h2⟩ := sbd_r h
      have f1 := tloop_b hF g P (apE z [(10, 0)]) y hP h2
      have v := (hF _ _ h1).tr (show bsg z (apE z [(10, 0)]) (true :: [true]) true from bsg_l (by omega)) rfl
      rw [show 1 + P.length = P.length + 1 by omega, List.replicate_succ] at f1 ⊢
      exact bsg.tr (x := x) v f1 rfl
    · rw [if_neg d] at h
      by_cases d2 : ws n t (bl n t x.1) 6 = true
      · rw [if_pos d2] at h
        obtain ⟨z, h1, h2⟩ := sbd_r h
        have f1 := tloop_b hF g [(11, 0)] z y (Or.inr rfl) h2
        have v := (hF _ _ h1).tr (show bsg z y (true :: [true]) true from f1) rfl
        exact (hPb (bl n t x.1 + 2)).tr v (by simp)
      · rw [if_neg d2] at h
        rw [← Sum.inr.inj h]
        exact hPb _
theorem tst_b {n : Nat} {t : Nat → Nat} {F : Ps → Nat ⊕ Ps} (hF : ∀ x y, F x = .inr y → bsg x y [] true) {x y : Ps} (h : tst n t F x = .inr y) : bsg x y [] true := by
  obtain ⟨z, h1, h2⟩ := sbd_r h
  exact (hF x z h1).tr (show bsg z y (true :: []) true from tloop_b hF 400 [] z y (Or.inl rfl) h2) rfl
theorem fct_b {n : Nat} {t : Nat → Nat} : ∀ (r : Nat) (x y : Ps), fct n t r x = .inr y → bsg x y [] true
  | 0, x, y, h => by
    unfold fct at h
    split at h
    · exact absurd h (by intro z; cases z)
    · have v := cmpd_b h
      exact v
  | r + 1, x, y, h => by
    unfold fct at h
    by_cases d : ws n t (bl n t x.1) 4 = true
    · rw [if_pos d] at h
      obtain ⟨z, h1, h2⟩ := sbd_r h
      have h2 : (Sum.inr (apE z [(9, 0)]) : Nat ⊕ Ps) = .inr y := h2
      rw [← Sum.inr.inj h2]
      have v := fct_b r _ _ h1
      exact bsg.tr (x := x) v (show bsg z _ (true :: []) true from bsg_9) rfl
    · rw [if_neg d] at h
      by_cases d2 : bl n t x.1 < n ∧ t (bl n t x.1) = 91
      · rw [if_pos d2] at h
        obtain ⟨z, h1, h2⟩ := sbd_r h
        have v := tst_b (fun x y => fct_b r x y) h1
        have v : bsg x z [] true := v
        by_cases d3 : bl n t z.1 < n ∧ t (bl n t z.1) = 93
        · rw [if_pos d3] at h2
          rw [← Sum.inr.inj h2]
          exact v.tr (show bsg z _ (true :: []) true from bsg_0) rfl
        · rw [if_neg d3] at h2
          exact absurd h2 (by intro z; cases z)
      · rw [if_neg d2] at h
        have v := cmpd_b h
        exact v
