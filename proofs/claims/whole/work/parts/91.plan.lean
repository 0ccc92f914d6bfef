/-! PHASE 2: plan, the rows -/
def setOf : List Nat → Nat
  | [] => 0
  | t :: p => setOf p ||| 2 ^ t
def hdIn (g : Nat) : List Nat → Bool
  | [] => false
  | t :: _ => g.testBit t
def runs (g : Nat) : List Nat → Nat
  | [] => 0
  | t :: p => runs g p + (if g.testBit t && !hdIn g p then 1 else 0)
def tog (G : List Nat) (p : List Nat) : Bool := G.all (fun g => decide (runs g p ≤ 1))
def canF (G : List Nat) (all s t : Nat) : Bool := (!s.testBit t && all.testBit t) && G.all (fun g => (decide (s &&& g = 0) || decide (s &&& g = g)) || g.testBit t)
def sm (f : Nat → Nat) : Nat → Nat
  | 0 => 0
  | k + 1 => sm f k + f k
def wy (G : List Nat) (all : Nat) : Nat → Nat → Nat
  | 0, _ => 1
  | r + 1, s => sm (fun t => if canF G all s t then wy G all r (s ||| 2 ^ t) else 0) 8
def vld (all : Nat) (p : List Nat) (t : Nat) : Bool := all.testBit t && !(setOf p).testBit t
def cW (G : List Nat) (all : Nat) : Nat → List Nat → Nat
  | 0, p => if tog G p then 1 else 0
  | r + 1, p => sm (fun t => if vld all p t then cW G all r (t :: p) else 0) 8
def fR (G : List Nat) (all : Nat) : Nat → List Nat → List Nat
  | 0, p => p
  | r + 1, p => fR G all r (frst (fun t => vld all p t && decide (0 < cW G all r (t :: p))) 8 :: p)
def gdp (G : List Nat) (all : Nat) : List Nat → Prop
  | [] => True
  | t :: p => canF G all (setOf p) t = true ∧ gdp G all p
def okS (all : Nat) : List Nat → Prop
  | [] => True
  | t :: p => vld all p t = true ∧ okS all p
theorem sm_ext {f g : Nat → Nat} : ∀ {n : Nat}, (∀ t, t < n → f t = g t) → sm f n = sm g n
  | 0, _ => rfl
  | k + 1, h => by
    show sm f k + f k = sm g k + g k
    rw [sm_ext (fun t ht => h t (by omega)), h k (by omega)]
theorem sm_0 {f : Nat → Nat} : ∀ {n : Nat}, (∀ t, t < n → f t = 0) → sm f n = 0
  | 0, _ => rfl
  | k + 1, h => by
    show sm f k + f k = 0
    rw [sm_0 (fun t ht => h t (by omega)), h k (by omega)]
theorem sm_le {f : Nat → Nat} {b : Nat} : ∀ {n : Nat}, (∀ t, t < n → f t ≤ b) → sm f n ≤ n * b
  | 0, _ => Nat.zero_le _
  | k + 1, h => by
    have h1 := sm_le (fun t (ht : t < k) => h t (by omega))
    have h2 := h k (by omega)
    have e : (k + 1) * b = k * b + b := Nat.succ_mul k b
    show sm f k + f k ≤ (k + 1) * b
    omega
theorem wy_le (G : List Nat) (all : Nat) : ∀ r s, wy G all r s ≤ 8 ^ r
  | 0, _ => Nat.le_refl _
  | r + 1, s => by
    have := sm_le (f := fun t => if canF G all s t then wy G all r (s ||| 2 ^ t) else 0) (b := 8 ^ r) (n := 8) (fun t _ => by
      show (if canF G all s t then wy G all r (s ||| 2 ^ t) else 0) ≤ 8 ^ r
      split
      · exact wy_le G all r _
      · exact Nat.zero_le _)
    show sm _ 8 ≤ 8 ^ (r + 1)
    rw [Nat.pow_succ]
    omega
theorem cW_le (G : List Nat) (all : Nat) : ∀ r p, cW G all r p ≤ 8 ^ r
  | 0, p => by
    show (if tog G p then 1 else 0) ≤ 1
    split <;> omega
  | r + 1, p => by
    have := sm_le (f := fun t => if vld all p t then cW G all r (t :: p) else 0) (b := 8 ^ r) (n := 8) (fun t _ => by
      show (if vld all p t then cW G all r (t :: p) else 0) ≤ 8 ^ r
      split
      · exact cW_le G all r _
      · exact Nat.zero_le _)
    show sm _ 8 ≤ 8 ^ (r + 1)
    rw [Nat.pow_succ]
    omega
theorem vld_iff {all : Nat} {p : List Nat} {t : Nat} : vld all p t = true ↔ all.testBit t = true ∧ ¬ (setOf p).testBit t = true := by
  unfold vld
  rw [Bool.and_eq_true, Bool.not_eq_true', Bool.eq_false_iff]
theorem setOf_sub {all : Nat} : ∀ {p : List Nat}, okS all p → ∀ t, (setOf p).testBit t = true → all.testBit t = true
  | [], _, t, h => by
    rw [show setOf [] = 0 from rfl, Nat.zero_testBit] at h
    exact absurd h (by decide)
  | a :: p, hp, t, h => by
    rw [show setOf (a :: p) = setOf p ||| 2 ^ a from rfl, Nat.testBit_or, Bool.or_eq_true, one_tb, decide_eq_true_iff] at h
    rcases h with h | h
    · exact setOf_sub hp.2 t h
    · rw [← h]; exact (vld_iff.mp hp.1).1
theorem setOf_lt {all : Nat} (ha : all < 256) {p : List Nat} (hp : okS all p) : setOf p < 256 := Nat.lt_of_le_of_lt (Nat.le_of_testBit (setOf_sub hp)) ha
theorem pop_sub {s a : Nat} : ∀ n, (∀ t, t < n → s.testBit t = true → a.testBit t = true) → pop s n ≤ pop a n ∧ (pop s n = pop a n → ∀ t, t < n → s.testBit t = a.testBit t)
  | 0, _ => ⟨Nat.le_refl _, fun _ t h => absurd h (by omega)⟩
  | n + 1, h => by
    obtain ⟨h1, h2⟩ := pop_sub n (fun t ht => h t (by omega))
    show pop s n + (if s.testBit n then 1 else 0) ≤ pop a n + (if a.testBit n then 1 else 0) ∧ _
    have hn := h n (by omega)
    have e1 : pop s (n + 1) = pop s n + (if s.testBit n then 1 else 0) := rfl
    have e2 : pop a (n + 1) = pop a n + (if a.testBit n then 1 else 0) := rfl
    cases hs : s.testBit n
    · cases ha : a.testBit n
      · rw [hs] at e1; rw [ha] at e2
        refine ⟨h1, fun he t ht => ?_⟩
        by_cases c : t = n
        · rw [c, hs, ha]
        · exact h2 (by have e1 : pop s (n + 1) = pop s n := e1; have e2 : pop a (n + 1) = pop a n := e2; omega) t (by omega)
      · rw [hs] at e1; rw [ha] at e2
        refine ⟨by show pop s n + 0 ≤ pop a n + 1; omega, fun he => ?_⟩
        have e1 : pop s (n + 1) = pop s n := e1
        have e2 : pop a (n + 1) = pop a n + 1 := e2
        omega
    · rw [hn hs]
      rw [hs] at e1; rw [hn hs] at e2
      refine ⟨by show pop s n + 1 ≤ pop a n + 1; omega, fun he t ht => ?_⟩
      by_cases c : t = n
      · rw [c, hs, hn hs]
      · exact h2 (by have e1 : pop s (n + 1) = pop s n + 1 := e1; have e2 : pop a (n + 1) = pop a n + 1 := e2; omega) t (by omega)
theorem pop_add {s t : Nat} (h : s.testBit t = false) : ∀ n, pop (s ||| 2 ^ t) n = pop s n + (if t < n then 1 else 0)
  | 0 => by rw [if_neg (by omega)]; rfl
  | n + 1 => by
    show pop (s ||| 2 ^ t) n + (if (s ||| 2 ^ t).testBit n then 1 else 0) = pop s n + (if s.testBit n then 1 else 0) + (if t < n + 1 then 1 else 0)
    rw [pop_add h n, Nat.testBit_or, one_tb]
    by_cases c : t = n
    · have e1 : (if t < n then 1 else 0) = 0 := if_neg (by omega)
      have e2 : (if t < n + 1 then 1 else 0) = 1 := if_pos (by omega)
      rw [e1, e2, ← c, h, decide_eq_true rfl]
      rfl
    · have e1 : (if t < n + 1 then 1 else 0) = (if t < n then 1 else 0) := by
        by_cases d : t < n
        · rw [if_pos d, if_pos (show t < n + 1 by omega)]
        · rw [if_neg d, if_neg (show ¬ t < n + 1 by omega)]
      rw [e1, decide_eq_false c, Bool.or_false]
      omega
theorem tb8 {a t : Nat} (ha : a < 256) (h : a.testBit t = true) : t < 8 := Nat.lt_of_not_le (fun z => by
  rw [Nat.testBit_lt_two_pow (Nat.lt_of_lt_of_le ha (Nat.pow_le_pow_right (n := 2) (i := 8) (by decide) z))] at h
  exact absurd h (by decide))
theorem okS_pop {all : Nat} (ha : all < 256) : ∀ {p : List Nat}, okS all p → pop (setOf p) 8 = p.length
  | [], _ => rfl
  | a :: p, hp => by
    have h := vld_iff.mp hp.1
    rw [show setOf (a :: p) = setOf p ||| 2 ^ a from rfl, pop_add (Bool.eq_false_iff.mpr h.2), okS_pop ha hp.2, if_pos (tb8 ha h.1)]
    rfl
/-- a row that is full holds all -/
theorem okS_full {all : Nat} (ha : all < 256) {p : List Nat} (hp : okS all p) (hl : p.length = pop all 8) : setOf p = all := tb_ext (fun t => by
  have h1 := pop_sub (s := setOf p) (a := all) 8 (fun t _ => setOf_sub hp t)
  have h2 := h1.2 (by rw [okS_pop ha hp, hl])
  by_cases c : t < 8
  · exact h2 t c
  · cases hs : (setOf p).testBit t
    · cases hb : all.testBit t
      · rfl
      · exact absurd (tb8 ha hb) c
    · exact absurd (tb8 (setOf_lt ha hp) hs) c)
theorem and_0 {s g : Nat} : s &&& g = 0 ↔ ∀ t, s.testBit t = true → ¬ g.testBit t = true := by
  rw [zero_iff]
  constructor
  · intro h t h1 h2
    refine h t ?_
    rw [Nat.testBit_and, h1, h2]
    rfl
  · intro h t h1
    rw [Nat.testBit_and, Bool.and_eq_true] at h1
    exact h t h1.1 h1.2
theorem and_g {s g : Nat} : s &&& g = g ↔ ∀ t, g.testBit t = true → s.testBit t = true := by
  constructor
  · intro h t h1
    rw [← h, Nat.testBit_and, Bool.and_eq_true] at h1
    exact h1.1
  · intro h
    refine tb_iff (fun t => ?_)
    rw [Nat.testBit_and, Bool.and_eq_true]
    exact ⟨fun z => z.2, fun z => ⟨h t z, z⟩⟩
theorem setOf_tb (a t : Nat) (p : List Nat) : (setOf (a :: p)).testBit t = true ↔ (setOf p).testBit t = true ∨ a = t := by
  rw [show setOf (a :: p) = setOf p ||| 2 ^ a from rfl, Nat.testBit_or, Bool.or_eq_true, one_tb, decide_eq_true_iff]
/-- a group while its row grows as it should -/
theorem good_g {G : List Nat} {all g : Nat} (hg : g ∈ G) : ∀ {p : List Nat}, gdp G all p → runs g p ≤ 1 ∧ (runs g p = 0 ↔ setOf p &&& g = 0) ∧ (¬ setOf p &&& g = 0 → ¬ setOf p &&& g = g → hdIn g p = true)
  | [], _ => by
    have e : setOf [] &&& g = 0 := by rw [show setOf [] = 0 from rfl, Nat.zero_and]
    exact ⟨Nat.zero_le _, ⟨fun _ => e, fun _ => rfl⟩, fun h => absurd e h⟩
  | t :: p, hp => by
    obtain ⟨h1, h2, h3⟩ := good_g hg hp.2
    have hc := hp.1
    unfold canF at hc
    rw [Bool.and_eq_true, Bool.and_eq_true, Bool.not_eq_true', List.all_eq_true] at hc
    have hcg := hc.2 g hg
    rw [Bool.or_eq_true, Bool.or_eq_true, decide_eq_true_iff, decide_eq_true_iff] at hcg
    have hns : ¬ (setOf p).testBit t = true := Bool.eq_false_iff.mp hc.1.1
    have er : runs g (t :: p) = runs g p + (if g.testBit t && !hdIn g p then 1 else 0) := rfl
    have eh : hdIn g (t :: p) = g.testBit t := rfl
    rw [er, eh]
    cases ht : g.testBit t
    · rw [Bool.false_and, if_neg (by decide), Nat.add_zero]
      have es : setOf (t :: p) &&& g = setOf p &&& g := tb_iff (fun u => by
        rw [Nat.testBit_and, Nat.testBit_and, Bool.and_eq_true, Bool.and_eq_true, setOf_tb]
        refine ⟨fun z => ⟨z.1.elim (fun y => y) (fun y => by rw [← y, ht] at z; exact absurd z.2 (by decide)), z.2⟩, fun z => ⟨Or.inl z.1, z.2⟩⟩)
      rw [es]
      refine ⟨h1, h2, fun a b => ?_⟩
      rcases hcg with (hcg | hcg) | hcg
      · exact absurd hcg a
      · exact absurd hcg b
      · rw [ht] at hcg; exact absurd hcg (by decide)
    · have ne : ¬ setOf (t :: p) &&& g = 0 := fun z => (and_0.mp z) t ((setOf_tb t t p).mpr (Or.inr rfl)) ht
      have ng : ¬ setOf p &&& g = g := fun z => hns (and_g.mp z t ht)
      cases hh : hdIn g p
      · have s0 : setOf p &&& g = 0 := by
          by_cases c : setOf p &&& g = 0
          · exact c
          · have := h3 c ng; rw [hh] at this; exact absurd this (by decide)
        have r0 := h2.mpr s0
        rw [r0]
        exact ⟨Nat.le_refl _, ⟨fun z => absurd z (by decide), fun z => absurd z ne⟩, fun _ _ => rfl⟩
      · rw [show (true && !true) = false from rfl, if_neg (by decide), Nat.add_zero]
        have n0 : ¬ setOf p &&& g = 0 := fun z => by
          cases p with
          | nil => exact absurd (show false = true from hh) (by decide)
          | cons a q =>
            exact (and_0.mp z) a ((setOf_tb a a q).mpr (Or.inr rfl)) hh
        refine ⟨h1, ⟨fun z => absurd (h2.mp z) n0, fun z => absurd z ne⟩, fun _ _ => rfl⟩
def badP (G : List Nat) (p : List Nat) : Prop := ∃ g, g ∈ G ∧ (2 ≤ runs g p ∨ (1 ≤ runs g p ∧ ¬ setOf p &&& g = g ∧ hdIn g p = false))
theorem bad_step {G : List Nat} {p : List Nat} (h : badP G p) (t : Nat) : badP G (t :: p) := by
  obtain ⟨g, hg, h1⟩ := h
  refine ⟨g, hg, ?_⟩
  have er : runs g (t :: p) = runs g p + (if g.testBit t && !hdIn g p then 1 else 0) := rfl
  rcases h1 with h1 | ⟨h1, h2, h3⟩
  · exact Or.inl (by rw [er]; omega)
  · cases ht : g.testBit t
    · refine Or.inr ⟨by rw [er]; omega, fun z => h2 ?_, ht⟩
      refine and_g.mpr (fun u hu => ?_)
      have := (setOf_tb t u p).mp (and_g.mp z u hu)
      rcases this with h | h
      · exact h
      · rw [← h, ht] at hu; exact absurd hu (by decide)
    · refine Or.inl ?_
      rw [er, ht, h3]
      show 2 ≤ runs g p + 1
      omega
theorem bad_new {G : List Nat} {all : Nat} {p : List Nat} (hp : gdp G all p) {t : Nat} (hv : vld all p t = true) (hc : canF G all (setOf p) t = false) : badP G (t :: p) := by
  have h := vld_iff.mp hv
  have : ¬ ∀ g, g ∈ G → ((decide (setOf p &&& g = 0) || decide (setOf p &&& g = g)) || g.testBit t) = true := fun z => by
    unfold canF at hc
    rw [Bool.eq_false_iff.mpr h.2, h.1, show G.all (fun g => (decide (setOf p &&& g = 0) || decide (setOf p &&& g = g)) || g.testBit t) = true from List.all_eq_true.mpr z] at hc
    exact absurd hc (by decide)
  obtain ⟨g, hg⟩ := Classical.not_forall.mp this
  obtain ⟨hgm, hgn⟩ := Classical.not_imp.mp hg
  rw [Bool.or_eq_true, Bool.or_eq_true, decide_eq_true_iff, decide_eq_true_iff] at hgn
  have n0 : ¬ setOf p &&& g = 0 := fun z => hgn (Or.inl (Or.inl z))
  have ng : ¬ setOf p &&& g = g := fun z => hgn (Or.inl (Or.inr z))
  have nt : g.testBit t = false := Bool.eq_false_iff.mpr (fun z => hgn (Or.inr z))
  have gg := good_g hgm hp
  refine ⟨g, hgm, Or.inr ⟨?_, fun z => ng ?_, nt⟩⟩
  · have er : runs g (t :: p) = runs g p + (if g.testBit t && !hdIn g p then 1 else 0) := rfl
    rw [er]
    have : ¬ runs g p = 0 := fun z => n0 (gg.2.1.mp z)
    omega
  · refine and_g.mpr (fun u hu => ?_)
    rcases (setOf_tb t u p).mp (and_g.mp z u hu) with h | h
    · exact h
    · rw [← h, nt] at hu; exact absurd hu (by decide)
/-- the groups are of all -/
def gsub (G : List Nat) (all : Nat) : Prop := ∀ g, g ∈ G → ∀ t, g.testBit t = true → all.testBit t = true
theorem bad_end {G : List Nat} {all : Nat} (hG : gsub G all) {p : List Nat} (h : badP G p) (hs : setOf p = all) : tog G p = false := by
  obtain ⟨g, hg, h1⟩ := h
  refine Bool.eq_false_iff.mpr (fun z => ?_)
  have := of_decide_eq_true (List.all_eq_true.mp z g hg)
  rcases h1 with h1 | ⟨_, h2, _⟩
  · omega
  · exact h2 (by rw [hs]; exact and_g.mpr (hG g hg))
theorem good_end {G : List Nat} {all : Nat} {p : List Nat} (h : gdp G all p) : tog G p = true := List.all_eq_true.mpr (fun g hg => decide_eq_true (good_g hg h).1)
theorem cW_bad {G : List Nat} {all : Nat} (ha : all < 256) (hG : gsub G all) : ∀ r p, badP G p → okS all p → p.length + r = pop all 8 → cW G all r p = 0
  | 0, p, hb, ho, hl => by
    show (if tog G p then 1 else 0) = 0
    rw [bad_end hG hb (okS_full ha ho (by omega)), if_neg (by decide)]
  | r + 1, p, hb, ho, hl => sm_0 (fun t _ => by
    show (if vld all p t then cW G all r (t :: p) else 0) = 0
    by_cases c : vld all p t = true
    · rw [if_pos c, cW_bad ha hG r (t :: p) (bad_step hb t) ⟨c, ho⟩ (by rw [List.length_cons]; omega)]
    · rw [if_neg c])
theorem canF_vld {G : List Nat} {all : Nat} {p : List Nat} {t : Nat} (h : canF G all (setOf p) t = true) : vld all p t = true := by
  unfold canF at h
  rw [Bool.and_eq_true, Bool.and_eq_true, Bool.not_eq_true'] at h
  exact vld_iff.mpr ⟨h.1.2, Bool.eq_false_iff.mp h.1.1⟩
theorem cW_good {G : List Nat} {all : Nat} (ha : all < 256) (hG : gsub G all) : ∀ r p, gdp G all p → okS all p → p.length + r = pop all 8 → cW G all r p = wy G all r (setOf p)
  | 0, p, hg, ho, hl => by
    show (if tog G p then 1 else 0) = 1
    rw [good_end hg, if_pos rfl]
  | r + 1, p, hg, ho, hl => sm_ext (fun t _ => by
    show (if vld all p t then cW G all r (t :: p) else 0) = if canF G all (setOf p) t then wy G all r (setOf p ||| 2 ^ t) else 0
    by_cases c : canF G all (setOf p) t = true
    · have v := canF_vld c
      rw [if_pos v, if_pos c, cW_good ha hG r (t :: p) ⟨c, hg⟩ ⟨v, ho⟩ (by rw [List.length_cons]; omega)]
      rfl
    · rw [if_neg c]
      by_cases v : vld all p t = true
      · rw [if_pos v, cW_bad ha hG r (t :: p) (bad_new hg v (Bool.eq_false_iff.mpr c)) ⟨v, ho⟩ (by rw [List.length_cons]; omega)]
      · rw [if_neg v])
/-- the row's next thing, as the class takes it -/
theorem fR_next {G : List Nat} {all : Nat} (ha : all < 256) (hG : gsub G all) {r : Nat} {p : List Nat} (hg : gdp G all p) (ho : okS all p) (hl : p.length + (r + 1) = pop all 8) : frst (fun t => vld all p t && decide (0 < cW G all r (t :: p))) 8 = frst (fun t => canF G all (setOf p) t && decide (0 < wy G all r (setOf p ||| 2 ^ t))) 8 := frst_cg 8 (fun t _ => by
  by_cases c : canF G all (setOf p) t = true
  · have v := canF_vld c
    rw [c, v, cW_good ha hG r (t :: p) ⟨c, hg⟩ ⟨v, ho⟩ (by rw [List.length_cons]; omega)]
    rfl
  · rw [Bool.eq_false_iff.mpr c, Bool.false_and]
    by_cases v : vld all p t = true
    · rw [v, cW_bad ha hG r (t :: p) (bad_new hg v (Bool.eq_false_iff.mpr c)) ⟨v, ho⟩ (by rw [List.length_cons]; omega)]
      rfl
    · rw [Bool.eq_false_iff.mpr v, Bool.false_and])
