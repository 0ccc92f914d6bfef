/-! PHASE 2: the data of a river and a raft; what the class's Raft and Pieces answer of them -/
def zI (x : Int) : Int32 := Int32.ofInt x
theorem zI_ad (a b : Int) : zI a + zI b = zI (a + b) := (Int32.ofInt_add a b).symm
theorem zI_sb (a b : Int) : zI a - zI b = zI (a - b) := (Int32.ofInt_sub a b).symm
theorem zI_ml (a b : Int) : zI a * zI b = zI (a * b) := (Int32.ofInt_mul a b).symm
theorem zI_n (n : Nat) : nI n = zI (n : Int) := rfl
theorem zI_to {x : Int} (h1 : -100000 < x) (h2 : x < 100000) : (zI x).toInt = x := Int32.toInt_ofInt_of_le (by omega) (by omega)
theorem zI_le {x y : Int} (h1 : -100000 < x) (h2 : x < 100000) (h3 : -100000 < y) (h4 : y < 100000) : (zI x ≤ zI y) = (x ≤ y) := by
  rw [Int32.le_iff_toInt_le, zI_to h1 h2, zI_to h3 h4]
theorem zI_lt {x y : Int} (h1 : -100000 < x) (h2 : x < 100000) (h3 : -100000 < y) (h4 : y < 100000) : (zI x < zI y) = (x < y) := by
  rw [Int32.lt_iff_toInt_lt, zI_to h1 h2, zI_to h3 h4]
theorem zI_0 : (0 : Int32) = zI 0 := rfl
def sumZ (f : Nat → Int) : Nat → Int
  | 0 => 0
  | k + 1 => sumZ f k + f k
theorem sumZ_ext {f g : Nat → Int} : ∀ {n : Nat}, (∀ t, t < n → f t = g t) → sumZ f n = sumZ g n
  | 0, _ => rfl
  | k + 1, h => by
    show sumZ f k + f k = sumZ g k + g k
    rw [sumZ_ext (fun t ht => h t (by omega)), h k (by omega)]
theorem sumZ_bd {f : Nat → Int} {b : Int} (hb : 0 ≤ b) : ∀ {n : Nat}, (∀ t, t < n → -b ≤ f t ∧ f t ≤ b) → -(n * b) ≤ sumZ f n ∧ sumZ f n ≤ n * b
  | 0, _ => by constructor <;> (show _ ≤ _; simp [sumZ])
  | k + 1, h => by
    have h1 := sumZ_bd hb (n := k) (fun t ht => h t (by omega))
    have h2 := h k (by omega)
    have e : ((k + 1 : Nat) : Int) * b = k * b + b := by rw [Int.natCast_add, Int.add_mul]; simp
    show -(((k + 1 : Nat) : Int) * b) ≤ sumZ f k + f k ∧ sumZ f k + f k ≤ ((k + 1 : Nat) : Int) * b
    rw [e]
    omega
theorem sumZ_sub (f g : Nat → Int) : ∀ n, sumZ f n - sumZ g n = sumZ (fun t => f t - g t) n
  | 0 => rfl
  | k + 1 => by
    have := sumZ_sub f g k
    show sumZ f k + f k - (sumZ g k + g k) = sumZ (fun t => f t - g t) k + (f k - g k)
    omega
theorem sumZ_add (f g : Nat → Int) : ∀ n, sumZ f n + sumZ g n = sumZ (fun t => f t + g t) n
  | 0 => rfl
  | k + 1 => by
    have := sumZ_add f g k
    show sumZ f k + f k + (sumZ g k + g k) = sumZ (fun t => f t + g t) k + (f k + g k)
    omega
/-! the data -/
abbrev Dat : Type := Nat → Nat → Nat
def RpOk (n : Int32) (x y z : Nat → Int32) (L : Rop) : Prop := n = nI L.length ∧ ∀ k, k < L.length → x k = nI (rp L k).1 ∧ y k = nI (rp L k).2.1 ∧ z k = nI (rp L k).2.2
def RvC (mm : Mm) (v : Nat) (V : Dat) : Prop := (mm.1 v 0 = nI (V 1 0) ∧ mm.1 v 1 = nI (V 1 1) ∧ mm.1 v 2 = nI (V 1 2)) ∧ (∀ o, o < V 1 1 → mm.1 (v + 1) o = nI (V 2 o) ∧ mm.1 (v + 2) o = nI (V 3 o)) ∧ (∀ t, t < V 1 2 → mm.1 (v + 3) t = nI (V 4 t) ∧ mm.1 (v + 4) t = nI (V 5 t)) ∧ ∀ m, m < 100 → mm.1 (v + 5) m = nI (V 6 m)
def RvOk (V : Dat) : Prop := V 1 0 ≤ 99 ∧ V 1 1 ≤ 6 ∧ V 1 2 ≤ 8 ∧ (∀ o, o < V 1 1 → 1 ≤ V 2 o ∧ V 2 o ≤ V 1 0 ∧ V 3 o ≤ 20) ∧ (∀ t, t < V 1 2 → V 4 t ≤ 50 ∧ V 5 t ≤ 9) ∧ ∀ m, m < 100 → V 6 m ≤ 9
def RaC (mm : Mm) (r : Nat) (V A : Dat) (L : Rop) (S : Int32) : Prop := mm.1 r 1 = nI (A 0 1) ∧ mm.1 r 2 = S ∧ RpOk (mm.1 r 3) (mm.1 (r + 6)) (mm.1 (r + 7)) (mm.1 (r + 8)) L ∧ (∀ o, o < V 1 1 → mm.1 (r + 1) o = nI (A 1 o)) ∧ ∀ t, t < V 1 2 → mm.1 (r + 2) t = nI (A 2 t) ∧ mm.1 (r + 3) t = nI (A 3 t) ∧ mm.1 (r + 4) t = nI (A 4 t)
def RaOk (V A : Dat) (L : Rop) : Prop := A 0 1 ≤ V 1 0 ∧ L.length ≤ 12 ∧ (∀ o, o < V 1 1 → A 1 o ≤ 2) ∧ (∀ t, t < V 1 2 → A 2 t < V 1 1 ∧ A 3 t ≤ 99 ∧ A 4 t ≤ 2) ∧ ∀ k, k < L.length → (rp L k).1 < (rp L k).2.1 ∧ (rp L k).2.1 < V 1 2 ∧ 1 ≤ (rp L k).2.2 ∧ (rp L k).2.2 ≤ 9 ∧ A 4 (rp L k).1 = 0 ∧ A 4 (rp L k).2.1 = 0
theorem RvC_eq {mm m' : Mm} {v : Nat} {V : Dat} (h : ∀ j, j < 6 → m'.1 (v + j) = mm.1 (v + j)) (g : RvC mm v V) : RvC m' v V := by
  unfold RvC
  have e0 : m'.1 v = mm.1 v := h 0 (by decide)
  rw [e0, h 1 (by decide), h 2 (by decide), h 3 (by decide), h 4 (by decide), h 5 (by decide)]
  exact g
theorem RaC_eq {mm m' : Mm} {r : Nat} {V A : Dat} {L : Rop} {S : Int32} (h : ∀ j, j < 9 → m'.1 (r + j) = mm.1 (r + j)) (g : RaC mm r V A L S) : RaC m' r V A L S := by
  unfold RaC
  have e0 : m'.1 r = mm.1 r := h 0 (by decide)
  rw [e0, h 1 (by decide), h 2 (by decide), h 3 (by decide), h 4 (by decide), h 6 (by decide), h 7 (by decide), h 8 (by decide)]
  exact g
/-! plain sets and sums of the class -/
theorem lpf {σ ρ : Type} {st : σ → Option (σ ⊕ ρ)} {r : ρ} {x0 : σ} (mk : Nat → σ) (n : Nat) (h0 : x0 = mk 0) (hgo : ∀ k, k < n → st (mk k) = some (.inl (mk (k + 1)))) (hend : st (mk n) = some (.inr r)) : lp st x0 = some r := h0 ▸ lp_first mk n hgo hend
theorem lpa {α ρ : Type} {st : (α × Int32) → Option ((α × Int32) ⊕ ρ)} {r : ρ} (a0 : α) (acc : Nat → α) (n : Nat) (h0 : acc 0 = a0) (hgo : ∀ k, k < n → st (acc k, nI k) = some (.inl (acc (k + 1), nI (k + 1)))) (hend : st (acc n, nI n) = some (.inr r)) : lp st (a0, (0 : Int32)) = some r := h0 ▸ lp_acc acc n hgo hend
def thA (V A : Dat) (w : Nat) : Nat := bset (fun t => decide (A 4 t = w)) (V 1 2)
def owA (V A : Dat) (w : Nat) : Nat := bset (fun o => decide (A 1 o = w)) (V 1 1)
def thO (V A : Dat) (o : Nat) : Nat := bset (fun t => decide (A 2 t = o) && decide (A 4 t = 0)) (V 1 2)
def rpO (L : Rop) (s : Nat) : Nat := bset (fun k => s.testBit (rp L k).1 || s.testBit (rp L k).2.1) L.length
theorem thA_lt {V A : Dat} {w : Nat} (h : V 1 2 ≤ 8) : thA V A w < 256 := Nat.lt_of_lt_of_le (bset_lt _ _) (Nat.pow_le_pow_right (by decide) h)
theorem thO_lt {V A : Dat} {w : Nat} (h : V 1 2 ≤ 8) : thO V A w < 256 := Nat.lt_of_lt_of_le (bset_lt _ _) (Nat.pow_le_pow_right (by decide) h)
theorem owA_lt {V A : Dat} {w : Nat} (h : V 1 1 ≤ 6) : owA V A w < 64 := Nat.lt_of_lt_of_le (bset_lt _ _) (Nat.pow_le_pow_right (by decide) h)
theorem rpO_lt {L : Rop} {s : Nat} (h : L.length ≤ 12) : rpO L s < 4096 := Nat.lt_of_lt_of_le (bset_lt _ _) (Nat.pow_le_pow_right (by decide) h)
theorem thingsAt_c {mm : Mm} {r v : Nat} {V A : Dat} {L : Rop} {S : Int32} (hv : RvC mm v V) (ov : RvOk V) (hr : RaC mm r V A L S) (oa : RaOk V A L) {w : Nat} (hw : w ≤ 2) : f_X4_thingsAt mm r v (nI w) = some (nI (thA V A w)) := by
  have h8 := ov.2.2.1
  have hn := hv.1.2.2
  unfold f_X4_thingsAt
  rw [lpa (0 : Int32) (fun k => nI (bset (fun t => decide (A 4 t = w)) k)) (V 1 2) rfl (fun k hk => ?_) (r := nI (thA V A w)) ?_]
  · rfl
  · unfold f_X4_thingsAt_s4
    simp (disch := omega) only [hn, ↓reduceIte, decide_true, decide_false, Bool.false_eq_true, eq_self, s10, s01, cont_ok, has_ok, b2i0, b2i1, reduceCtorEq, Nat.or_zero, Nat.add_zero, sN_le, sN_lt, sN_eq, sN_lt0, sN_le0, sN_0le, sN_0lt, sN_eq0, sN_cl, sN_ad, sN_a1, K2, K3, K4, K5, K6, K7, K8, K9, K12, K16, K20, false_or, or_false, if_neg, if_pos, vl_s, bi1_s, bi2_s, nx_or, nx_and, nx_sh]
    rfl
  · have h1 := (hr.2.2.2.2 k hk).2.2
    have h2 := (oa.2.2.2.1 k hk).2.2
    unfold f_X4_thingsAt_s4
    simp (disch := omega) only [hn, h1, ↓reduceIte, decide_true, decide_false, Bool.false_eq_true, eq_self, s10, s01, cont_ok, has_ok, b2i0, b2i1, reduceCtorEq, Nat.or_zero, Nat.add_zero, sN_le, sN_lt, sN_eq, sN_lt0, sN_le0, sN_0le, sN_0lt, sN_eq0, sN_cl, sN_ad, sN_a1, K2, K3, K4, K5, K6, K7, K8, K9, K12, K16, K20, false_or, or_false, if_neg, if_pos, vl_s, bi1_s, bi2_s, nx_or, nx_and, nx_sh]
    by_cases hc : A 4 k = w
    · simp (disch := omega) only [hc, ↓reduceIte, decide_true, decide_false, Bool.false_eq_true, eq_self, s10, s01, cont_ok, has_ok, b2i0, b2i1, reduceCtorEq, Nat.or_zero, Nat.add_zero, sN_le, sN_lt, sN_eq, sN_lt0, sN_le0, sN_0le, sN_0lt, sN_eq0, sN_cl, sN_ad, sN_a1, K2, K3, K4, K5, K6, K7, K8, K9, K12, K16, K20, false_or, or_false, if_neg, if_pos, vl_s, bi1_s, bi2_s, nx_or, nx_and, nx_sh, bset]
    · simp (disch := omega) only [hc, ↓reduceIte, decide_true, decide_false, Bool.false_eq_true, eq_self, s10, s01, cont_ok, has_ok, b2i0, b2i1, reduceCtorEq, Nat.or_zero, Nat.add_zero, sN_le, sN_lt, sN_eq, sN_lt0, sN_le0, sN_0le, sN_0lt, sN_eq0, sN_cl, sN_ad, sN_a1, K2, K3, K4, K5, K6, K7, K8, K9, K12, K16, K20, false_or, or_false, if_neg, if_pos, vl_s, bi1_s, bi2_s, nx_or, nx_and, nx_sh, bset]
theorem ownersOf_c {mm : Mm} {r v : Nat} {V A : Dat} {L : Rop} {S : Int32} (hv : RvC mm v V) (ov : RvOk V) (hr : RaC mm r V A L S) (oa : RaOk V A L) {w : Nat} (hw : w ≤ 2) : f_X4_ownersOf mm r v (nI w) = some (nI (owA V A w)) := by
  have h8 := ov.2.1
  have hn := hv.1.2.1
  unfold f_X4_ownersOf
  rw [lpa (0 : Int32) (fun k => nI (bset (fun t => decide (A 1 t = w)) k)) (V 1 1) rfl (fun k hk => ?_) (r := nI (owA V A w)) ?_]
  · rfl
  · unfold f_X4_ownersOf_s4
    simp (disch := omega) only [hn, ↓reduceIte, decide_true, decide_false, Bool.false_eq_true, eq_self, s10, s01, cont_ok, has_ok, b2i0, b2i1, reduceCtorEq, Nat.or_zero, Nat.add_zero, sN_le, sN_lt, sN_eq, sN_lt0, sN_le0, sN_0le, sN_0lt, sN_eq0, sN_cl, sN_ad, sN_a1, K2, K3, K4, K5, K6, K7, K8, K9, K12, K16, K20, false_or, or_false, if_neg, if_pos, vl_s, bi1_s, bi2_s, nx_or, nx_and, nx_sh]
    rfl
  · have h1 := hr.2.2.2.1 k hk
    have h2 := oa.2.2.1 k hk
    unfold f_X4_ownersOf_s4
    simp (disch := omega) only [hn, h1, ↓reduceIte, decide_true, decide_false, Bool.false_eq_true, eq_self, s10, s01, cont_ok, has_ok, b2i0, b2i1, reduceCtorEq, Nat.or_zero, Nat.add_zero, sN_le, sN_lt, sN_eq, sN_lt0, sN_le0, sN_0le, sN_0lt, sN_eq0, sN_cl, sN_ad, sN_a1, K2, K3, K4, K5, K6, K7, K8, K9, K12, K16, K20, false_or, or_false, if_neg, if_pos, vl_s, bi1_s, bi2_s, nx_or, nx_and, nx_sh]
    by_cases hc : A 1 k = w
    · simp (disch := omega) only [hc, ↓reduceIte, decide_true, decide_false, Bool.false_eq_true, eq_self, s10, s01, cont_ok, has_ok, b2i0, b2i1, reduceCtorEq, Nat.or_zero, Nat.add_zero, sN_le, sN_lt, sN_eq, sN_lt0, sN_le0, sN_0le, sN_0lt, sN_eq0, sN_cl, sN_ad, sN_a1, K2, K3, K4, K5, K6, K7, K8, K9, K12, K16, K20, false_or, or_false, if_neg, if_pos, vl_s, bi1_s, bi2_s, nx_or, nx_and, nx_sh, bset]
    · simp (disch := omega) only [hc, ↓reduceIte, decide_true, decide_false, Bool.false_eq_true, eq_self, s10, s01, cont_ok, has_ok, b2i0, b2i1, reduceCtorEq, Nat.or_zero, Nat.add_zero, sN_le, sN_lt, sN_eq, sN_lt0, sN_le0, sN_0le, sN_0lt, sN_eq0, sN_cl, sN_ad, sN_a1, K2, K3, K4, K5, K6, K7, K8, K9, K12, K16, K20, false_or, or_false, if_neg, if_pos, vl_s, bi1_s, bi2_s, nx_or, nx_and, nx_sh, bset]
theorem thingsOf_c {mm : Mm} {r v : Nat} {V A : Dat} {L : Rop} {S : Int32} (hv : RvC mm v V) (ov : RvOk V) (hr : RaC mm r V A L S) (oa : RaOk V A L) {o : Nat} (ho : o < 100) : f_X4_thingsOf mm r v (nI o) = some (nI (thO V A o)) := by
  have h8 := ov.2.2.1
  have hn := hv.1.2.2
  have h6 := ov.2.1
  unfold f_X4_thingsOf
  rw [lpa (0 : Int32) (fun k => nI (bset (fun t => decide (A 2 t = o) && decide (A 4 t = 0)) k)) (V 1 2) rfl (fun k hk => ?_) (r := nI (thO V A o)) ?_]
  · rfl
  · unfold f_X4_thingsOf_s4
    simp (disch := omega) only [hn, ↓reduceIte, decide_true, decide_false, Bool.false_eq_true, eq_self, s10, s01, cont_ok, has_ok, b2i0, b2i1, reduceCtorEq, Nat.or_zero, Nat.add_zero, sN_le, sN_lt, sN_eq, sN_lt0, sN_le0, sN_0le, sN_0lt, sN_eq0, sN_cl, sN_ad, sN_a1, K2, K3, K4, K5, K6, K7, K8, K9, K12, K16, K20, false_or, or_false, if_neg, if_pos, vl_s, bi1_s, bi2_s, nx_or, nx_and, nx_sh]
    rfl
  · have h1 := hr.2.2.2.2 k hk
    have h2 := oa.2.2.2.1 k hk
    unfold f_X4_thingsOf_s4
    simp (disch := omega) only [hn, h1.1, h1.2.2, ↓reduceIte, decide_true, decide_false, Bool.false_eq_true, eq_self, s10, s01, cont_ok, has_ok, b2i0, b2i1, reduceCtorEq, Nat.or_zero, Nat.add_zero, sN_le, sN_lt, sN_eq, sN_lt0, sN_le0, sN_0le, sN_0lt, sN_eq0, sN_cl, sN_ad, sN_a1, K2, K3, K4, K5, K6, K7, K8, K9, K12, K16, K20, false_or, or_false, if_neg, if_pos, vl_s, bi1_s, bi2_s, nx_or, nx_and, nx_sh]
    by_cases hc : A 2 k = o
    · by_cases hd : A 4 k = 0
      · simp (disch := omega) only [hc, hd, ↓reduceIte, decide_true, decide_false, Bool.false_eq_true, eq_self, s10, s01, cont_ok, has_ok, b2i0, b2i1, reduceCtorEq, Nat.or_zero, Nat.add_zero, sN_le, sN_lt, sN_eq, sN_lt0, sN_le0, sN_0le, sN_0lt, sN_eq0, sN_cl, sN_ad, sN_a1, K2, K3, K4, K5, K6, K7, K8, K9, K12, K16, K20, false_or, or_false, if_neg, if_pos, vl_s, bi1_s, bi2_s, nx_or, nx_and, nx_sh, bset, Bool.and_true]
      · simp (disch := omega) only [hc, hd, ↓reduceIte, decide_true, decide_false, Bool.false_eq_true, eq_self, s10, s01, cont_ok, has_ok, b2i0, b2i1, reduceCtorEq, Nat.or_zero, Nat.add_zero, sN_le, sN_lt, sN_eq, sN_lt0, sN_le0, sN_0le, sN_0lt, sN_eq0, sN_cl, sN_ad, sN_a1, K2, K3, K4, K5, K6, K7, K8, K9, K12, K16, K20, false_or, or_false, if_neg, if_pos, vl_s, bi1_s, bi2_s, nx_or, nx_and, nx_sh, bset, Bool.and_false]
    · simp (disch := omega) only [hc, ↓reduceIte, decide_true, decide_false, Bool.false_eq_true, eq_self, s10, s01, cont_ok, has_ok, b2i0, b2i1, reduceCtorEq, Nat.or_zero, Nat.add_zero, sN_le, sN_lt, sN_eq, sN_lt0, sN_le0, sN_0le, sN_0lt, sN_eq0, sN_cl, sN_ad, sN_a1, K2, K3, K4, K5, K6, K7, K8, K9, K12, K16, K20, false_or, or_false, if_neg, if_pos, vl_s, bi1_s, bi2_s, nx_or, nx_and, nx_sh, bset, Bool.false_and]
theorem ropesOf_c {mm : Mm} {r v : Nat} {V A : Dat} {L : Rop} {S : Int32} (ov : RvOk V) (hr : RaC mm r V A L S) (oa : RaOk V A L) {s : Nat} (hs : s < 2 ^ 31) : f_X4_ropesOf mm r v (nI s) = some (nI (rpO L s)) := by
  have h8 := ov.2.2.1
  have hl := oa.2.1
  have hn := hr.2.2.1.1
  unfold f_X4_ropesOf
  rw [lpa (0 : Int32) (fun k => nI (bset (fun k => s.testBit (rp L k).1 || s.testBit (rp L k).2.1) k)) L.length rfl (fun k hk => ?_) (r := nI (rpO L s)) ?_]
  · rfl
  · unfold f_X4_ropesOf_s4
    simp (disch := omega) only [hn, ↓reduceIte, decide_true, decide_false, Bool.false_eq_true, eq_self, s10, s01, cont_ok, has_ok, b2i0, b2i1, reduceCtorEq, Nat.or_zero, Nat.add_zero, sN_le, sN_lt, sN_eq, sN_lt0, sN_le0, sN_0le, sN_0lt, sN_eq0, sN_cl, sN_ad, sN_a1, K2, K3, K4, K5, K6, K7, K8, K9, K12, K16, K20, false_or, or_false, if_neg, if_pos, vl_s, bi1_s, bi2_s, nx_or, nx_and, nx_sh]
    rfl
  · have h1 := hr.2.2.1.2 k hk
    have h2 := oa.2.2.2.2 k hk
    unfold f_X4_ropesOf_s4 f_X4_ropesOf_j38
    simp (disch := omega) only [hn, h1.1, h1.2.1, ↓reduceIte, decide_true, decide_false, Bool.false_eq_true, eq_self, s10, s01, cont_ok, has_ok, b2i0, b2i1, reduceCtorEq, Nat.or_zero, Nat.add_zero, sN_le, sN_lt, sN_eq, sN_lt0, sN_le0, sN_0le, sN_0lt, sN_eq0, sN_cl, sN_ad, sN_a1, K2, K3, K4, K5, K6, K7, K8, K9, K12, K16, K20, false_or, or_false, if_neg, if_pos, vl_s, bi1_s, bi2_s, nx_or, nx_and, nx_sh]
    cases hc : s.testBit (rp L k).1
    · cases hd : s.testBit (rp L k).2.1
      · simp (disch := omega) only [hc, hd, ↓reduceIte, decide_true, decide_false, Bool.false_eq_true, eq_self, s10, s01, cont_ok, has_ok, b2i0, b2i1, reduceCtorEq, Nat.or_zero, Nat.add_zero, sN_le, sN_lt, sN_eq, sN_lt0, sN_le0, sN_0le, sN_0lt, sN_eq0, sN_cl, sN_ad, sN_a1, K2, K3, K4, K5, K6, K7, K8, K9, K12, K16, K20, false_or, or_false, if_neg, if_pos, vl_s, bi1_s, bi2_s, nx_or, nx_and, nx_sh, bset, Bool.or_false]
      · simp (disch := omega) only [hc, hd, ↓reduceIte, decide_true, decide_false, Bool.false_eq_true, eq_self, s10, s01, cont_ok, has_ok, b2i0, b2i1, reduceCtorEq, Nat.or_zero, Nat.add_zero, sN_le, sN_lt, sN_eq, sN_lt0, sN_le0, sN_0le, sN_0lt, sN_eq0, sN_cl, sN_ad, sN_a1, K2, K3, K4, K5, K6, K7, K8, K9, K12, K16, K20, false_or, or_false, if_neg, if_pos, vl_s, bi1_s, bi2_s, nx_or, nx_and, nx_sh, bset, Bool.or_true, reduceCtorEq]
    · simp (disch := omega) only [hc, ↓reduceIte, decide_true, decide_false, Bool.false_eq_true, eq_self, s10, s01, cont_ok, has_ok, b2i0, b2i1, reduceCtorEq, Nat.or_zero, Nat.add_zero, sN_le, sN_lt, sN_eq, sN_lt0, sN_le0, sN_0le, sN_0lt, sN_eq0, sN_cl, sN_ad, sN_a1, K2, K3, K4, K5, K6, K7, K8, K9, K12, K16, K20, false_or, or_false, if_neg, if_pos, vl_s, bi1_s, bi2_s, nx_or, nx_and, nx_sh, bset, Bool.true_or, reduceCtorEq]
/-- FLOAT less WEIGHT of a set behind so many miles -/
def lifT (V A : Dat) (s mi t : Nat) : Int := if s.testBit t then (if 0 < (A 3 t : Int) - mi * V 5 t then (A 3 t : Int) - mi * V 5 t else 0) - V 4 t else 0
def lif (V A : Dat) (s mi : Nat) : Int := sumZ (lifT V A s mi) (V 1 2)
theorem lifT_bd {V A : Dat} {L : Rop} (ov : RvOk V) (oa : RaOk V A L) (s mi : Nat) {t : Nat} (ht : t < V 1 2) : -100 ≤ lifT V A s mi t ∧ lifT V A s mi t ≤ 100 := by
  have h1 := oa.2.2.2.1 t ht
  have h2 := ov.2.2.2.2.1 t ht
  have h3 : 0 ≤ (mi : Int) * V 5 t := Int.mul_nonneg (by omega) (by omega)
  unfold lifT
  generalize (mi : Int) * V 5 t = z at h3 ⊢
  split
  · split <;> omega
  · omega
theorem lif_bd {V A : Dat} {L : Rop} (ov : RvOk V) (oa : RaOk V A L) (s mi : Nat) : -800 ≤ lif V A s mi ∧ lif V A s mi ≤ 800 := by
  have := sumZ_bd (b := 100) (by decide) (fun t ht => lifT_bd ov oa s mi (t := t) ht)
  have h8 := ov.2.2.1
  unfold lif
  omega
theorem lift_c {mm : Mm} {r v : Nat} {V A : Dat} {L : Rop} {S : Int32} (hv : RvC mm v V) (ov : RvOk V) (hr : RaC mm r V A L S) (oa : RaOk V A L) {s mi : Nat} (hs : s < 2 ^ 31) (hm : mi ≤ 100) : f_X4_lift mm r v (nI s) (nI mi) = some (zI (lif V A s mi)) := by
  have h8 := ov.2.2.1
  have hn := hv.1.2.2
  unfold f_X4_lift
  rw [lpa (0 : Int32) (fun k => zI (sumZ (lifT V A s mi) k)) (V 1 2) rfl (fun k hk => ?_) (r := zI (lif V A s mi)) ?_]
  · rfl
  · unfold f_X4_lift_s5
    simp (disch := omega) only [hn, ↓reduceIte, decide_true, decide_false, Bool.false_eq_true, eq_self, s10, s01, cont_ok, has_ok, b2i0, b2i1, reduceCtorEq, Nat.or_zero, Nat.add_zero, sN_le, sN_lt, sN_eq, sN_lt0, sN_le0, sN_0le, sN_0lt, sN_eq0, sN_cl, sN_ad, sN_a1, K2, K3, K4, K5, K6, K7, K8, K9, K12, K16, K20, false_or, or_false, if_neg, if_pos, vl_s, bi1_s, bi2_s, nx_or, nx_and, nx_sh]
    rfl
  · have h1 := hr.2.2.2.2 k hk
    have h2 := oa.2.2.2.1 k hk
    have h3 := ov.2.2.2.2.1 k hk
    have h4 := hv.2.2.1 k hk
    unfold f_X4_lift_s5
    simp (disch := omega) only [hn, h1.2.1, h4.1, h4.2, ↓reduceIte, decide_true, decide_false, Bool.false_eq_true, eq_self, s10, s01, cont_ok, has_ok, b2i0, b2i1, reduceCtorEq, Nat.or_zero, Nat.add_zero, sN_le, sN_lt, sN_eq, sN_lt0, sN_le0, sN_0le, sN_0lt, sN_eq0, sN_cl, sN_ad, sN_a1, K2, K3, K4, K5, K6, K7, K8, K9, K12, K16, K20, false_or, or_false, if_neg, if_pos, vl_s, bi1_s, bi2_s, nx_or, nx_and, nx_sh]
    have hm2 : (mi : Int) * V 5 k ≤ 900 := by
      have : mi * V 5 k ≤ 100 * 9 := Nat.mul_le_mul hm h3.2
      omega
    have hm3 : 0 ≤ (mi : Int) * V 5 k := Int.mul_nonneg (by omega) (by omega)
    have es : sumZ (lifT V A s mi) (k + 1) = sumZ (lifT V A s mi) k + lifT V A s mi k := rfl
    have el : lifT V A s mi k = if s.testBit k then (if 0 < (A 3 k : Int) - mi * V 5 k then (A 3 k : Int) - mi * V 5 k else 0) - V 4 k else 0 := rfl
    rw [es, el]
    cases hc : s.testBit k
    · simp (disch := omega) only [hc, ↓reduceIte, decide_true, decide_false, Bool.false_eq_true, eq_self, s10, s01, cont_ok, has_ok, b2i0, b2i1, reduceCtorEq, Nat.or_zero, Nat.add_zero, sN_le, sN_lt, sN_eq, sN_lt0, sN_le0, sN_0le, sN_0lt, sN_eq0, sN_cl, sN_ad, sN_a1, K2, K3, K4, K5, K6, K7, K8, K9, K12, K16, K20, false_or, or_false, if_neg, if_pos, vl_s, bi1_s, bi2_s, nx_or, nx_and, nx_sh, Int.add_zero]
    · rw [zI_n (A 3 k), zI_n mi, zI_n (V 5 k), zI_n (V 4 k), zI_ml, zI_sb, zI_0]
      simp (disch := omega) only [hc, ↓reduceIte, decide_true, decide_false, Bool.false_eq_true, eq_self, s10, s01, cont_ok, has_ok, b2i0, b2i1, reduceCtorEq, Nat.or_zero, Nat.add_zero, sN_le, sN_lt, sN_eq, sN_lt0, sN_le0, sN_0le, sN_0lt, sN_eq0, sN_cl, sN_ad, sN_a1, K2, K3, K4, K5, K6, K7, K8, K9, K12, K16, K20, false_or, or_false, if_neg, if_pos, vl_s, bi1_s, bi2_s, nx_or, nx_and, nx_sh]
      by_cases hd : 0 < (A 3 k : Int) - mi * V 5 k
      · rw [if_pos hd, if_pos (by rw [zI_lt (by omega) (by omega) (by omega) (by omega)]; exact hd), zI_sb, zI_ad]
      · rw [if_neg hd, if_neg (by rw [zI_lt (by omega) (by omega) (by omega) (by omega)]; exact hd), zI_sb, zI_ad]
