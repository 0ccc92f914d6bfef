/-! PHASE 2: WHAT HOLDS OF THE MEMORY BETWEEN CALLS. Class and reference side by side. -/
/-- a State of the class, its cells told from its own place; a raft in it -/
def cS (mm : Mm) (S : Nat) : Nat → Nat → Int32 := fun j k => mm.1 (S + j) k
def cR (c : Nat → Nat → Int32) (q : Nat) : Nat → Nat → Int32 := fun j k => c (q + j) k
/-- the reference's rows: 0 pastMany, 1 scalar, 2 landing, 3 heavy, 4 fate, 5 of, 6 weight, 7 floats, 8 soak, 9 where, 10 sankAt, 11 ropeOne, 12 ropeOther, 13 strength, 14 rapidMile, 15 force, 16 17 18 offers, 19 past; now, and in an image -/
def fS (mm : Mm) : Nat → Nat → Int32 := fun j k => if j = 0 then mm.1 1088 55 else if j = 19 then mm.1 1129 k else mm.1 (1088 + j) k
def rowOff : Nat → Nat := fun j => [0, 1, 10, 16, 22, 28, 36, 44, 52, 60, 68, 76, 88, 100, 112, 118, 124, 130, 136, 142].getD j 0
def fI (mm : Mm) (s : Nat) : Nat → Nat → Int32 := fun j k => mm.1 1139 (1900 * s + rowOff j + k)
/-- the reference's raft, in the class's order of rows; and one of its past -/
def gR (f : Nat → Nat → Int32) : Nat → Nat → Int32 := fun j k => if j = 0 then (if k = 1 then f 1 6 else if k = 2 then f 1 1 else f 1 4) else f ([0, 4, 5, 7, 9, 10, 11, 12, 13].getD j 0) k
def pOff : Nat → Nat := fun j => [0, 3, 9, 17, 25, 33, 41, 53, 65].getD j 0
def gP (f : Nat → Nat → Int32) (a : Nat) : Nat → Nat → Int32 := fun j k => if j = 0 then f 19 (77 * a + (k - 1)) else f 19 (77 * a + pOff j + k)
/-- two rafts that are one: counts of miles, owners, things -/
def SimR (nm no nt : Nat) (a b : Nat → Nat → Int32) : Prop := ∃ mi nr : Nat, mi ≤ nm ∧ nr ≤ 12 ∧ a 0 1 = nI mi ∧ b 0 1 = nI mi ∧ a 0 2 = b 0 2 ∧ a 0 3 = nI nr ∧ b 0 3 = nI nr ∧
  (∀ o, o < no → ∃ x : Nat, x ≤ 2 ∧ a 1 o = nI x ∧ b 1 o = nI x) ∧
  (∀ t, t < nt → ∃ w fl pl : Nat, w < no ∧ fl ≤ 99 ∧ pl ≤ 2 ∧ a 2 t = nI w ∧ b 2 t = nI w ∧ a 3 t = nI fl ∧ b 3 t = nI fl ∧ a 4 t = nI pl ∧ b 4 t = nI pl ∧ (pl = 2 → a 5 t = b 5 t) ∧ (¬ pl = 2 → b 5 t = -2)) ∧
  (∀ k, k < nr → ∃ lo hi s : Nat, lo < hi ∧ hi < nt ∧ 1 ≤ s ∧ s ≤ 9 ∧ a 6 k = nI lo ∧ b 6 k = nI lo ∧ a 7 k = nI hi ∧ b 7 k = nI hi ∧ a 8 k = nI s ∧ b 8 k = nI s ∧ a 4 lo = 0 ∧ a 4 hi = 0)
/-- two states that are one -/
def SimS (c f : Nat → Nat → Int32) : Prop := ∃ nm no nt ra na ol nf : Nat, (nm ≤ 99 ∧ no ≤ 6 ∧ nt ≤ 8 ∧ ra ≤ 6 ∧ na ≤ 20 ∧ ol < 20 ∧ nf ≤ 6 ∧ (nm = 0 → no = 0 ∧ nt = 0 ∧ ra = 0 ∧ na = 0)) ∧
  (c 1 0 = nI nm ∧ f 1 0 = nI nm ∧ c 1 1 = nI no ∧ f 1 2 = nI no ∧ c 1 2 = nI nt ∧ f 1 3 = nI nt ∧ c 1 3 = nI ra ∧ f 1 5 = nI ra ∧ c 0 4 = nI na ∧ f 0 0 = nI na ∧ c 0 3 = nI ol ∧ c 0 5 = nI nf ∧ f 1 7 = nI nf ∧ c 0 9 = f 1 8 ∧ 0 ≤ c 0 9) ∧
  (∀ o, o < no → ∃ la w : Nat, 1 ≤ la ∧ la ≤ nm ∧ w ≤ 20 ∧ c 2 o = nI la ∧ f 2 o = nI la ∧ c 3 o = nI w ∧ f 3 o = nI w) ∧
  (∀ t, t < nt → ∃ w s : Nat, w ≤ 50 ∧ s ≤ 9 ∧ c 4 t = nI w ∧ f 6 t = nI w ∧ c 5 t = nI s ∧ f 8 t = nI s) ∧
  (∀ k, k < ra → ∃ m fo : Nat, 1 ≤ m ∧ m ≤ nm ∧ 1 ≤ fo ∧ fo ≤ 9 ∧ f 14 k = nI m ∧ f 15 k = nI fo ∧ c 6 m = nI fo ∧ ∀ j, j < k → ¬ f 14 j = nI m) ∧
  (∀ m, m < 100 → (∀ k, k < ra → ¬ f 14 k = nI m) → c 6 m = 0) ∧
  (∀ k, k < nf → ∃ w fl s : Nat, w ≤ 50 ∧ fl ≤ 99 ∧ s ≤ 9 ∧ c 17 k = nI w ∧ f 16 k = nI w ∧ c 18 k = nI fl ∧ f 17 k = nI fl ∧ c 19 k = nI s ∧ f 18 k = nI s) ∧
  SimR nm no nt (cR c 7) (gR f) ∧ ∀ a, a < na → SimR nm no nt (cR c (20 + 9 * ((ol + a) % 20))) (gP f a)
/-- the tape -/
def SimT (mm : Mm) : Prop := ∃ tl : Nat, tl ≤ 400 ∧ mm.1 1 1 = nI tl ∧ mm.1 1088 31 = nI tl ∧ ∀ k, k < tl → mm.1 2 k = mm.1 1119 k ∧ ∃ x : Int32, mm.1 2 k = x.toInt8.toInt32
/-- a rule's entry: the class's number out of the reference's sort and number -/
def kOf (s : Int32) : Int32 := if s = 0 then 0 else if s = 1 then 1 else if s = 2 then 3 else if s = 3 then 4 else if s = 4 then 8 else if s = 5 then 9 else if s = 6 then 10 else if s = 7 then 11 else if s = 8 then 12 else if s = 9 then 2 else if s = 10 then 13 else if s = 11 then 14 else if s = 13 then 5 else if s = 14 then 6 else 7
/-- how high a stack of values stands behind entries: some height, never below 1 behind, never above 60 -/
def hOf : List Int32 → Nat → Option Nat
  | [], h => some h
  | s :: l, h => if s = 0 ∨ s = 1 then (if h < 60 then hOf l (h + 1) else none) else if s = 9 then (if 1 ≤ h then hOf l h else none) else if 2 ≤ h then hOf l (h - 1) else none
/-- a stretch of a rule's entries that makes one value -/
def oneV (g : Nat → Int32) (i j : Nat) : Prop := hOf ((List.range (j - i)).map (fun k => g (i + k))) 0 = some 1
/-- which values of the stack are 0 or 1 for sure -/
def bS (s : Int32) (st : List Bool) : List Bool := if s = 0 ∨ s = 1 then false :: st else if s = 9 then st else match st with
  | b :: a :: r => (if s = 10 ∨ s = 11 then (a && b) else decide (s = 4 ∨ s = 5 ∨ s = 6 ∨ s = 7 ∨ s = 8)) :: r
  | _ => []
def bOf (l : List Int32) (st : List Bool) : List Bool := l.foldl (fun st s => bS s st) st
def oneB (g : Nat → Int32) (i j : Nat) : Prop := bOf ((List.range (j - i)).map (fun k => g (i + k))) [] = [true]
def SimU (mm : Mm) (u : Nat) : Prop := ∃ len nc : Nat, len ≤ 300 ∧ 1 ≤ nc ∧ nc ≤ 12 ∧ mm.1 (1052 + 6 * u) 5 = nI nc ∧ mm.1 1122 u = nI nc ∧
  (∀ i, i < len → ∃ s v : Nat, s ≤ 15 ∧ ¬ s = 12 ∧ v < 100000 ∧ (s = 1 → v < 12) ∧ mm.1 1120 (300 * u + i) = nI s ∧ mm.1 1121 (300 * u + i) = nI v ∧ mm.1 (1052 + 6 * u + 1) i = nI v * 16 + kOf (nI s)) ∧
  ∀ q, q < nc → ∃ i j k : Nat, i ≤ j ∧ j ≤ k ∧ k ≤ len ∧ mm.1 (1052 + 6 * u + 2) q = nI i ∧ mm.1 1123 (12 * u + q) = nI i ∧ mm.1 (1052 + 6 * u + 3) q = nI j ∧ mm.1 1124 (12 * u + q) = nI j ∧ mm.1 (1052 + 6 * u + 4) q = nI k ∧ mm.1 1125 (12 * u + q) = nI k ∧ oneV (fun z => mm.1 1120 (300 * u + z)) i j ∧ (j = k ∨ (oneV (fun z => mm.1 1120 (300 * u + z)) j k ∧ oneB (fun z => mm.1 1120 (300 * u + z)) j k))
def SimL (mm : Mm) : Prop := ∃ nr : Nat, nr ≤ 6 ∧ mm.1 0 7 = nI nr ∧ mm.1 1088 35 = nI nr ∧ mm.1 1088 40 = 12 ∧ ∀ u, u < nr → SimU mm u
def SimI (mm : Mm) : Prop := ∀ k, k < 4 → (mm.1 227 k = 0 ∧ mm.1 1140 k = 0) ∨ (mm.1 227 k = 1 ∧ mm.1 1140 k = 1 ∧ SimS (cS mm (252 + 200 * k)) (fI mm k))
def Inv (mm : Mm) : Prop := SimT mm ∧ SimL mm ∧ SimS (cS mm 26) (fS mm) ∧ SimI mm
/-! the memory's rows -/
theorem wA_get (m : Mm) (i : Nat) (f : Nat → Int32) (j : Nat) : (wA m i f).1 j = if j = i then f else m.1 j := by
  unfold wA va_up
  rfl
theorem wI_get (m : Mm) (i k : Nat) (x : Int32) (j l : Nat) : (wI m i k x).1 j l = if j = i ∧ l = k then x else m.1 j l := by
  unfold wI
  rw [wA_get]
  by_cases h : j = i
  · subst h
    rw [if_pos rfl]
    unfold upd
    by_cases h2 : l = k
    · rw [if_pos h2, if_pos ⟨rfl, h2⟩]
    · rw [if_neg h2, if_neg (fun z => h2 z.2)]
  · rw [if_neg h, if_neg (fun z => h z.1)]
theorem wI_two (m : Mm) (i k : Nat) (x : Int32) : (wI m i k x).2 = m.2 := rfl
/-! what each part of Inv reads -/
theorem SimS_congr {c f c' f' : Nat → Nat → Int32} (hc : c' = c) (hf : f' = f) (h : SimS c f) : SimS c' f' := by rw [hc, hf]; exact h
theorem cS_eq {mm m' : Mm} {S : Nat} (h : ∀ j, j < 200 → m'.1 (S + j) = mm.1 (S + j)) : ∀ j, j < 200 → cS m' S j = cS mm S j := fun j hj => by
  unfold cS
  funext k
  rw [h j hj]
theorem cR_eq {c c' : Nat → Nat → Int32} {q : Nat} (h : ∀ j, j < 200 → c' j = c j) (hq : q + 9 ≤ 200) : ∀ j, j < 9 → cR c' q j = cR c q j := fun j hj => by
  unfold cR
  rw [h (q + j) (by omega)]
theorem SimR_eq {nm no nt : Nat} {a a' b b' : Nat → Nat → Int32} (ha : ∀ j, j < 9 → a' j = a j) (hb : ∀ j, j < 9 → b' j = b j) (h : SimR nm no nt a b) : SimR nm no nt a' b' := by
  unfold SimR
  rw [ha 0 (by decide), ha 1 (by decide), ha 2 (by decide), ha 3 (by decide), ha 4 (by decide), ha 5 (by decide), ha 6 (by decide), ha 7 (by decide), ha 8 (by decide), hb 0 (by decide), hb 1 (by decide), hb 2 (by decide), hb 3 (by decide), hb 4 (by decide), hb 5 (by decide), hb 6 (by decide), hb 7 (by decide), hb 8 (by decide)]
  exact h
theorem gR_eq {f f' : Nat → Nat → Int32} (h : ∀ j, j < 20 → f' j = f j) : ∀ j, j < 9 → gR f' j = gR f j := fun j hj => by
  funext k
  unfold gR
  by_cases h0 : j = 0
  · rw [if_pos h0, if_pos h0, h 1 (by decide)]
  · rw [if_neg h0, if_neg h0]
    have : [0, 4, 5, 7, 9, 10, 11, 12, 13].getD j 0 < 20 := (show ∀ j, j < 9 → [0, 4, 5, 7, 9, 10, 11, 12, 13].getD j 0 < 20 by decide) j hj
    rw [h _ this]
theorem gP_eq {f f' : Nat → Nat → Int32} (h : f' 19 = f 19) (a : Nat) : gP f' a = gP f a := by
  funext j k
  unfold gP
  rw [h]
theorem SimS_eq {c f c' f' : Nat → Nat → Int32} (hc : ∀ j, j < 200 → c' j = c j) (hf : ∀ j, j < 20 → f' j = f j) (h : SimS c f) : SimS c' f' := by
  obtain ⟨nm, no, nt, ra, na, ol, nf, h1, h2, h3, h4, h5, h6, h7, h8, h9⟩ := h
  refine ⟨nm, no, nt, ra, na, ol, nf, h1, ?_, ?_, ?_, ?_, ?_, ?_, SimR_eq (cR_eq hc (by decide)) (gR_eq hf) h8, fun a ha => SimR_eq (cR_eq hc ?_) (fun j _ => by rw [gP_eq (hf 19 (by decide))]) (h9 a ha)⟩
  · rw [hc 0 (by decide), hc 1 (by decide), hf 0 (by decide), hf 1 (by decide)]; exact h2
  · rw [hc 2 (by decide), hc 3 (by decide), hf 2 (by decide), hf 3 (by decide)]; exact h3
  · rw [hc 4 (by decide), hc 5 (by decide), hf 6 (by decide), hf 8 (by decide)]; exact h4
  · rw [hc 6 (by decide), hf 14 (by decide), hf 15 (by decide)]; exact h5
  · rw [hc 6 (by decide), hf 14 (by decide)]; exact h6
  · rw [hc 17 (by decide), hc 18 (by decide), hc 19 (by decide), hf 16 (by decide), hf 17 (by decide), hf 18 (by decide)]; exact h7
  · have : (ol + a) % 20 < 20 := Nat.mod_lt _ (by decide)
    omega
/-- the cells of the class, and of the reference, that Inv reads -/
def rdC (i : Nat) : Prop := i = 0 ∨ i = 1 ∨ i = 2 ∨ (26 ≤ i ∧ i < 226) ∨ i = 227 ∨ (252 ≤ i ∧ i < 1088)
def rdF (i : Nat) : Prop := i = 1088 ∨ (1089 ≤ i ∧ i < 1107) ∨ (1119 ≤ i ∧ i < 1126) ∨ i = 1129 ∨ i = 1139 ∨ i = 1140
/-- Inv stays where only places that it does not read have changed -/
theorem SimT_eq {mm m' : Mm} (h1 : m'.1 1 1 = mm.1 1 1) (h2 : m'.1 2 = mm.1 2) (h3 : m'.1 1088 31 = mm.1 1088 31) (h4 : m'.1 1119 = mm.1 1119) (h : SimT mm) : SimT m' := by
  unfold SimT
  rw [h1, h2, h3, h4]
  exact h
theorem SimU_eq {mm m' : Mm} {u : Nat} (h1 : ∀ j, j < 6 → m'.1 (1052 + 6 * u + j) = mm.1 (1052 + 6 * u + j)) (h2 : ∀ i, 1120 ≤ i → i < 1126 → m'.1 i = mm.1 i) (h : SimU mm u) : SimU m' u := by
  unfold SimU
  have e0 : m'.1 (1052 + 6 * u) = mm.1 (1052 + 6 * u) := h1 0 (by decide)
  rw [e0, h1 1 (by decide), h1 2 (by decide), h1 3 (by decide), h1 4 (by decide), h2 1120 (by decide) (by decide), h2 1121 (by decide) (by decide), h2 1122 (by decide) (by decide), h2 1123 (by decide) (by decide), h2 1124 (by decide) (by decide), h2 1125 (by decide) (by decide)]
  exact h
theorem SimL_eq {mm m' : Mm} (h1 : m'.1 0 7 = mm.1 0 7) (h2 : m'.1 1088 35 = mm.1 1088 35) (h3 : m'.1 1088 40 = mm.1 1088 40) (h4 : ∀ i, 1052 ≤ i → i < 1088 → m'.1 i = mm.1 i) (h5 : ∀ i, 1120 ≤ i → i < 1126 → m'.1 i = mm.1 i) (h : SimL mm) : SimL m' := by
  obtain ⟨nr, g1, g2, g3, g4, g5⟩ := h
  exact ⟨nr, g1, by rw [h1]; exact g2, by rw [h2]; exact g3, by rw [h3]; exact g4, fun u hu => SimU_eq (fun j hj => h4 _ (by omega) (by omega)) h5 (g5 u hu)⟩
theorem SimI_eq {mm m' : Mm} (h1 : m'.1 227 = mm.1 227) (h2 : m'.1 1140 = mm.1 1140) (h3 : ∀ i, 252 ≤ i → i < 1052 → m'.1 i = mm.1 i) (h4 : m'.1 1139 = mm.1 1139) (h : SimI mm) : SimI m' := by
  intro k hk
  rw [h1, h2]
  rcases h k hk with g | ⟨g1, g2, g3⟩
  · exact Or.inl g
  · exact Or.inr ⟨g1, g2, SimS_eq (cS_eq (fun j hj => h3 _ (by omega) (by omega))) (fun j _ => by unfold fI; rw [h4]) g3⟩
theorem SimN_eq {mm m' : Mm} (h1 : ∀ i, 26 ≤ i → i < 226 → m'.1 i = mm.1 i) (h2 : ∀ i, 1089 ≤ i → i < 1107 → m'.1 i = mm.1 i) (h3 : m'.1 1088 55 = mm.1 1088 55) (h4 : m'.1 1129 = mm.1 1129) (h : SimS (cS mm 26) (fS mm)) : SimS (cS m' 26) (fS m') := by
  refine SimS_eq (cS_eq (fun j hj => h1 _ (by omega) (by omega))) (fun j hj => ?_) h
  funext k
  unfold fS
  by_cases g0 : j = 0
  · rw [if_pos g0, if_pos g0, h3]
  · rw [if_neg g0, if_neg g0]
    by_cases g1 : j = 19
    · rw [if_pos g1, if_pos g1, h4]
    · rw [if_neg g1, if_neg g1, h2 _ (by omega) (by omega)]
/-- the start -/
theorem Inv_m0 : Inv m0 := by
  have z : ∀ i k, ¬ (i = 1088 ∧ k = 40) → m0.1 i k = 0 := fun i k h => by
    unfold m0
    rw [wI_get, if_neg h]
    rfl
  have zc : ∀ j k, cS m0 26 j k = 0 ∨ 1062 ≤ j := fun j k => by
    by_cases h : j = 1062
    · exact Or.inr (by omega)
    · exact Or.inl (z _ _ (by omega))
  refine ⟨⟨0, by decide, z _ _ (by decide), z _ _ (by decide), fun k hk => absurd hk (by omega)⟩, ⟨0, by decide, z _ _ (by decide), z _ _ (by decide), ?_, fun u hu => absurd hu (by omega)⟩, ⟨0, 0, 0, 0, 0, 0, 0, by decide, ?_, fun o h => absurd h (by omega), fun o h => absurd h (by omega), fun o h => absurd h (by omega), fun m _ _ => z _ _ (by omega), fun o h => absurd h (by omega), ⟨0, 0, by decide, by decide, z _ _ (by decide), z _ _ (by decide), ?_, z _ _ (by decide), z _ _ (by decide), fun o h => absurd h (by omega), fun o h => absurd h (by omega), fun o h => absurd h (by omega)⟩, fun o h => absurd h (by omega)⟩, fun k hk => Or.inl ⟨z _ _ (by omega), z _ _ (by omega)⟩⟩
  · unfold m0
    rw [wI_get, if_pos ⟨rfl, rfl⟩]
  · refine ⟨z _ _ (by decide), z _ _ (by decide), z _ _ (by decide), z _ _ (by decide), z _ _ (by decide), z _ _ (by decide), z _ _ (by decide), z _ _ (by decide), z _ _ (by decide), z _ _ (by decide), z _ _ (by decide), z _ _ (by decide), z _ _ (by decide), (z _ _ (by decide)).trans (z 1089 8 (by decide)).symm, ?_⟩
    rw [show cS m0 26 0 9 = 0 from z _ _ (by decide)]
    decide
  · exact (z _ _ (by decide)).trans (z 1089 1 (by decide)).symm
