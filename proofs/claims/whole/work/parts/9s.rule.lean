/-! PHASE 2: rule, what a text tells -/
def opAt (n : Nat) (t : Nat → Nat) (b : Nat) : Nat := if b < n then (if t b = 43 then 2 else if t b = 45 then 3 else if t b = 42 then 13 else if t b = 47 then 14 else if t b = 37 then 15 else 0) else 0
def apE (x : Ps) (P : Es) : Ps := (x.1, x.2.1 ++ P, x.2.2)
/-- behind a value: signs and values, a + or - kept back until its right side is whole -/
def flat (n : Nat) (t : Nat → Nat) : Nat → Es → Ps → Nat ⊕ Ps
  | 0, P, x => .inr (apE x P)
  | g + 1, P, x =>
    if opAt n t (bl n t x.1) = 0 then .inr (bl n t x.1, x.2.1 ++ P, x.2.2)
    else if opAt n t (bl n t x.1) < 4 then sbd (val n t (bl n t x.1 + 1, x.2.1 ++ P, x.2.2)) (flat n t g [(opAt n t (bl n t x.1), 0)])
    else sbd (val n t (bl n t x.1 + 1, x.2.1, x.2.2)) fun y => flat n t g P (apE y [(opAt n t (bl n t x.1), 0)])
def smv (n : Nat) (t : Nat → Nat) (x : Ps) : Nat ⊕ Ps := sbd (val n t x) (flat n t 400 [])
/-- a comparing sign at b: its sort, how long it is -/
def cpAt (n : Nat) (t : Nat → Nat) (b : Nat) : Nat × Nat := if b < n then (if t b = 61 then (6, 1) else if t b = 60 then (if b + 1 < n ∧ t (b + 1) = 61 then (5, 2) else (4, 1)) else if t b = 62 then (if b + 1 < n ∧ t (b + 1) = 61 then (7, 2) else (8, 1)) else (0, 0)) else (0, 0)
def cmpd (n : Nat) (t : Nat → Nat) (x : Ps) : Nat ⊕ Ps := sbd (smv n t x) fun y =>
  if (cpAt n t (bl n t y.1)).1 = 0 then .inl (1 + 8 * bl n t y.1)
  else sbd (onePart (bl n t y.1) (bl n t y.1 + (cpAt n t (bl n t y.1)).2, y.2.1, y.2.2)) fun z => sbd (smv n t z) fun w => .inr (apE w [((cpAt n t (bl n t y.1)).1, 0)])
def tloop (n : Nat) (t : Nat → Nat) (F : Ps → Nat ⊕ Ps) : Nat → Es → Ps → Nat ⊕ Ps
  | 0, P, x => .inr (apE x P)
  | g + 1, P, x =>
    if ws n t (bl n t x.1) 5 = true then sbd (F (bl n t x.1 + 3, x.2.1, x.2.2)) fun y => tloop n t F g P (apE y [(10, 0)])
    else if ws n t (bl n t x.1) 6 = true then sbd (F (bl n t x.1 + 2, x.2.1 ++ P, x.2.2)) fun y => tloop n t F g [(11, 0)] y
    else .inr (bl n t x.1, x.2.1 ++ P, x.2.2)
def tst (n : Nat) (t : Nat → Nat) (F : Ps → Nat ⊕ Ps) (x : Ps) : Nat ⊕ Ps := sbd (F x) (tloop n t F 400 [])
def fct (n : Nat) (t : Nat → Nat) : Nat → Ps → Nat ⊕ Ps
  | 0, x => if ws n t (bl n t x.1) 4 = true ∨ (bl n t x.1 < n ∧ t (bl n t x.1) = 91) then .inl (3 + 8 * bl n t x.1) else cmpd n t (bl n t x.1, x.2.1, x.2.2)
  | r + 1, x =>
    if ws n t (bl n t x.1) 4 = true then sbd (fct n t r (bl n t x.1 + 3, x.2.1, x.2.2)) fun y => .inr (apE y [(9, 0)])
    else if bl n t x.1 < n ∧ t (bl n t x.1) = 91 then sbd (tst n t (fct n t r) (bl n t x.1 + 1, x.2.1, x.2.2)) fun y => if bl n t y.1 < n ∧ t (bl n t y.1) = 93 then .inr (bl n t y.1 + 1, y.2.1, y.2.2) else .inl (1 + 8 * bl n t y.1)
    else cmpd n t (bl n t x.1, x.2.1, x.2.2)
/-! how entries grow -/
theorem hOf_ap : ∀ (l1 l2 : List Int32) (h : Nat), hOf (l1 ++ l2) h = (hOf l1 h).bind (hOf l2)
  | [], l2, h => rfl
  | s :: l, l2, h => by
    show (if s = 0 ∨ s = 1 then (if h < 60 then hOf (l ++ l2) (h + 1) else none) else if s = 9 then (if 1 ≤ h then hOf (l ++ l2) h else none) else if 2 ≤ h then hOf (l ++ l2) (h - 1) else none) = (if s = 0 ∨ s = 1 then (if h < 60 then hOf l (h + 1) else none) else if s = 9 then (if 1 ≤ h then hOf l h else none) else if 2 ≤ h then hOf l (h - 1) else none).bind (hOf l2)
    rw [hOf_ap l l2 (h + 1), hOf_ap l l2 h, hOf_ap l l2 (h - 1)]
    by_cases c1 : s = 0 ∨ s = 1
    · rw [if_pos c1, if_pos c1]
      by_cases c2 : h < 60
      · rw [if_pos c2, if_pos c2]
      · rw [if_neg c2, if_neg c2]
        rfl
    · rw [if_neg c1, if_neg c1]
      by_cases c3 : s = 9
      · rw [if_pos c3, if_pos c3]
        by_cases c2 : 1 ≤ h
        · rw [if_pos c2, if_pos c2]
        · rw [if_neg c2, if_neg c2]
          rfl
      · rw [if_neg c3, if_neg c3]
        by_cases c2 : 2 ≤ h
        · rw [if_pos c2, if_pos c2]
        · rw [if_neg c2, if_neg c2]
          rfl
def egd (e : Nat × Nat) : Prop := e.1 ≤ 15 ∧ ¬ e.1 = 12 ∧ e.2 < 100000 ∧ (e.1 = 1 → e.2 < 12)
def sgm (x y : Ps) (a b : Nat) (c : Int) : Prop := x.2.2 ≤ y.2.2 ∧ b ≤ a + (y.2.2 - x.2.2) ∧ (14 * (x.2.2 : Int) - 3 * (x.2.1.length : Int) + c ≤ 14 * (y.2.2 : Int) - 3 * (y.2.1.length : Int)) ∧ ∃ D : Es, y.2.1 = x.2.1 ++ D ∧ (∀ e, e ∈ D → egd e) ∧ ∀ h, h + a + (y.2.2 - x.2.2) ≤ 60 → hOf (D.map fun e => nI e.1) (h + a) = some (h + b)
theorem sgm.tr {x y z : Ps} {a b d : Nat} {c c' e : Int} (h : sgm x y a b c) (g : sgm y z b d c') (he : e ≤ c + c') : sgm x z a d e := by
  obtain ⟨h1, h2, h3, D, h4, h5, h6⟩ := h
  obtain ⟨g1, g2, g3, G, g4, g5, g6⟩ := g
  refine ⟨by omega, by omega, by omega, D ++ G, by rw [g4, h4, List.append_assoc], fun q hq => ?_, fun k hk => ?_⟩
  · rcases List.mem_append.1 hq with hq | hq
    · exact h5 q hq
    · exact g5 q hq
  · rw [List.map_append, hOf_ap, h6 k (by omega)]
    exact g6 k (by omega)
theorem sgm.up {x y : Ps} {a b : Nat} {c : Int} (k : Nat) (h : sgm x y a b c) : sgm x y (k + a) (k + b) c := by
  obtain ⟨h1, h2, h3, D, h4, h5, h6⟩ := h
  refine ⟨h1, by omega, h3, D, h4, h5, fun j hj => ?_⟩
  rw [← Nat.add_assoc, ← Nat.add_assoc]
  exact h6 (j + k) (by omega)
theorem sgm_0 {x : Ps} {i a : Nat} : sgm x (i, x.2.1, x.2.2) a a 0 := ⟨Nat.le_refl _, by omega, by show _ ≤ 14 * (x.2.2 : Int) - 3 * (x.2.1.length : Int); omega, [], by simp, by simp, fun h _ => rfl⟩
theorem sgm_p {x : Ps} {i a : Nat} : sgm x (i, x.2.1, x.2.2 + 1) a a 14 := ⟨by show _ ≤ x.2.2 + 1; omega, by show a ≤ _; omega, by show _ ≤ 14 * ((x.2.2 + 1 : Nat) : Int) - 3 * (x.2.1.length : Int); omega, [], by simp, by simp, fun h _ => rfl⟩
theorem sgm_e {x : Ps} {i s : Nat} (h1 : 2 ≤ s) (h2 : s ≤ 15) (h3 : ¬ s = 9) (h4 : ¬ s = 12) : sgm x (i, x.2.1 ++ [(s, 0)], x.2.2) 2 1 (-3) := by
  refine ⟨Nat.le_refl _, by omega, ?_, [(s, 0)], rfl, fun e he => ?_, fun h _ => ?_⟩
  · show _ ≤ 14 * (x.2.2 : Int) - 3 * ((x.2.1 ++ [(s, 0)]).length : Int)
    rw [List.length_append]
    simp
    omega
  · rw [List.mem_singleton.1 he]
    exact ⟨h2, h4, by show 0 < 100000; decide, fun z => absurd z (by show ¬ s = 1; omega)⟩
  · show (if nI s = 0 ∨ nI s = 1 then _ else if nI s = 9 then _ else if 2 ≤ h + 2 then hOf [] (h + 2 - 1) else none) = some (h + 1)
    rw [if_neg (by rw [show (0 : Int32) = nI 0 from rfl, show (1 : Int32) = nI 1 from rfl, sN_eq (by omega) (by decide), sN_eq (by omega) (by decide)]; omega), if_neg (by rw [K9, sN_eq (by omega) (by decide)]; omega), if_pos (by omega)]
    rfl
theorem sgm_9 {x : Ps} {i : Nat} : sgm x (i, x.2.1 ++ [(9, 0)], x.2.2) 1 1 (-3) := by
  refine ⟨Nat.le_refl _, by omega, ?_, [(9, 0)], rfl, fun e he => ?_, fun h _ => ?_⟩
  · show _ ≤ 14 * (x.2.2 : Int) - 3 * ((x.2.1 ++ [(9, 0)]).length : Int)
    rw [List.length_append]
    simp
    omega
  · rw [List.mem_singleton.1 he]
    exact ⟨by decide, by decide, by decide, fun z => absurd z (by decide)⟩
  · show (if 1 ≤ h + 1 then hOf [] (h + 1) else none) = some (h + 1)
    rw [if_pos (by omega)]
    rfl
theorem sgm_v {x : Ps} {i s v : Nat} (h1 : s ≤ 1) (h2 : v < 100000) (h3 : s = 1 → v < 12) : sgm x (i, x.2.1 ++ [(s, v)], x.2.2 + 1) 0 1 11 := by
  refine ⟨by show _ ≤ x.2.2 + 1; omega, by show _ ≤ 0 + (x.2.2 + 1 - x.2.2); omega, ?_, [(s, v)], rfl, fun e he => ?_, fun h hh => ?_⟩
  · show _ ≤ 14 * ((x.2.2 + 1 : Nat) : Int) - 3 * ((x.2.1 ++ [(s, v)]).length : Int)
    rw [List.length_append]
    simp
    omega
  · rw [List.mem_singleton.1 he]
    exact ⟨by show s ≤ 15; omega, by show ¬ s = 12; omega, h2, h3⟩
  · have hh : h + 0 + (x.2.2 + 1 - x.2.2) ≤ 60 := hh
    show (if nI s = 0 ∨ nI s = 1 then (if h < 60 then hOf [] (h + 1) else none) else _) = some (h + 1)
    rw [if_pos (by rcases (show s = 0 ∨ s = 1 by omega) with q | q <;> rw [q]; exact Or.inl rfl; exact Or.inr rfl), if_pos (by omega)]
    rfl
/-- a reading of one value, of credit c -/
def rdg (n : Nat) (c : Int) (x y : Ps) : Prop := sgm x y 0 1 c ∧ x.1 < y.1 ∧ y.1 ≤ n ∧ y.2.2 ≤ 60
theorem sbd_r {α β : Type} {x : Nat ⊕ α} {f : α → Nat ⊕ β} {y : β} (h : sbd x f = .inr y) : ∃ a, x = .inr a ∧ f a = .inr y := by
  cases x with
  | inl e => exact absurd h (by intro z; cases z)
  | inr a => exact ⟨a, rfl, h⟩
theorem val_sg {n : Nat} {t : Nat → Nat} {x y : Ps} (hi : x.1 ≤ n) (h : val n t x = .inr y) : rdg n 11 x y := by
  have hb := bl_ge n t x.1
  have hb2 := bl_le t hi
  unfold val at h
  by_cases c : bl n t x.1 < n ∧ isD (t (bl n t x.1)) = true
  · rw [if_pos c] at h
    obtain ⟨⟨v, e⟩, h1, h2⟩ := sbd_r h
    obtain ⟨h3, h4⟩ := onePart_r h2
    obtain ⟨_, _, k3, k4⟩ := num_ok h1
    have he : bl n t x.1 < e := by
      unfold num at h1
      rw [if_pos c] at h1
      split at h1
      · exact absurd h1 (by simp)
      · have := (Prod.mk.inj (Sum.inr.inj h1)).2
        obtain ⟨r1, r2, r3, r4⟩ := rn_ok (fun j => isD (t j)) (n - bl n t x.1) (bl n t x.1)
        rw [← this]
        unfold dge
        rcases Nat.lt_or_ge (bl n t x.1) (rn (fun j => isD (t j)) (n - bl n t x.1) (bl n t x.1)) with q | q
        · exact q
        · have q2 : rn (fun j => isD (t j)) (n - bl n t x.1) (bl n t x.1) = bl n t x.1 := by omega
          rw [q2] at r4
          have := r4 (by omega)
          rw [c.2] at this
          exact absurd this (by decide)
    have h3 : x.2.2 < 60 := h3
    rw [h4]
    exact ⟨sgm_v (by decide) (by omega) (fun z => absurd z (by decide)), by show x.1 < e; omega, k3, by show x.2.2 + 1 ≤ 60; omega⟩
  · rw [if_neg c] at h
    cases hf : fw n t (bl n t x.1) (wl 2) 0 with
    | none =>
      rw [hf] at h
      exact absurd h (by intro z; cases z)
    | some w =>
      rw [hf] at h
      have h : onePart (bl n t x.1) (lte n t (bl n t x.1), x.2.1 ++ [(1, w)], x.2.2) = .inr y := h
      obtain ⟨h3, h4⟩ := onePart_r h
      have h3 : x.2.2 < 60 := h3
      have hf2 := fw_gen (n := n) (t := t) (b := bl n t x.1) (wl 2) 0
      rw [hf, show (wl 2).length = 12 from rfl] at hf2
      obtain ⟨k1, k2, k3⟩ := frst_ok 12 (fun j => ws n t (bl n t x.1) ((wl 2).getD j (0, 0, 0)).2.2)
      split at hf2
      case isTrue q =>
        have hw := Option.some.inj hf2
        rw [Nat.zero_add] at hw
        rw [← hw] at k3 q
        have k4 := ws_lte (k3 q)
        have k5 := (wo_len w q).2
        have k6 := (lte_ok n t (bl n t x.1)).2.1 hb2
        rw [h4]
        exact ⟨sgm_v (by decide) (by omega) (fun _ => q), by show x.1 < lte n t (bl n t x.1); omega, k6, by show x.2.2 + 1 ≤ 60; omega⟩
      case isFalse q => exact absurd hf2 (by simp)
