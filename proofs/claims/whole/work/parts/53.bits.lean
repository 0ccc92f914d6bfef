/-! PHASE 2, numbers and bits -/
theorem sN_le {a b : Nat} (ha : a < 100000) (hb : b < 100000) : (nI a ≤ nI b) = (a ≤ b) := propext (nI_le_iff ha hb)
theorem sN_lt {a b : Nat} (ha : a < 100000) (hb : b < 100000) : (nI a < nI b) = (a < b) := propext (nI_lt_iff ha hb)
theorem sN_eq {a b : Nat} (ha : a < 100000) (hb : b < 100000) : (nI a = nI b) = (a = b) := propext (nI_eq_iff ha hb)
theorem sN_lt0 {a : Nat} (ha : a < 100000) : (nI a < 0) = False := eq_false (nI_nn a ha)
theorem sN_le0 {a : Nat} (ha : a < 100000) : (nI a ≤ 0) = (a = 0) := by
  rw [show (0 : Int32) = nI 0 from rfl, sN_le ha (by decide)]
  exact propext ⟨fun h => by omega, fun h => by omega⟩
theorem sN_0le {a : Nat} (ha : a < 100000) : (0 ≤ nI a) = True := by
  rw [show (0 : Int32) = nI 0 from rfl, sN_le (by decide) ha]
  exact eq_true (Nat.zero_le a)
theorem sN_0lt {a : Nat} (ha : a < 100000) : (0 < nI a) = (0 < a) := by
  rw [show (0 : Int32) = nI 0 from rfl, sN_lt (by decide) ha]
theorem sN_eq0 {a : Nat} (ha : a < 100000) : (nI a = 0) = (a = 0) := by
  rw [show (0 : Int32) = nI 0 from rfl, sN_eq ha (by decide)]
theorem sN_cl {a : Nat} (ha : a < 100000) : (nI a).toNatClampNeg = a := cl_ok ha
theorem sN_ad (a b : Nat) : nI a + nI b = nI (a + b) := nI_add a b
theorem sN_a1 (a : Nat) : nI a + 1 = nI (a + 1) := nI_add a 1
theorem s10 : ((1 : Int32) = 0) = False := eq_false (by decide)
theorem s01 : ((0 : Int32) = 1) = False := eq_false (by decide)
theorem K1 : (1 : Int32) = nI 1 := rfl
theorem K2 : (2 : Int32) = nI 2 := rfl
theorem K3 : (3 : Int32) = nI 3 := rfl
theorem K4 : (4 : Int32) = nI 4 := rfl
theorem K5 : (5 : Int32) = nI 5 := rfl
theorem K6 : (6 : Int32) = nI 6 := rfl
theorem K7 : (7 : Int32) = nI 7 := rfl
theorem K8 : (8 : Int32) = nI 8 := rfl
theorem K9 : (9 : Int32) = nI 9 := rfl
theorem K12 : (12 : Int32) = nI 12 := rfl
theorem K16 : (16 : Int32) = nI 16 := rfl
theorem K20 : (20 : Int32) = nI 20 := rfl
/-- a loop that gathers while it counts -/
theorem lp_acc {α ρ : Type} {st : (α × Int32) → Option ((α × Int32) ⊕ ρ)} {r : ρ} (acc : Nat → α) (n : Nat) (hgo : ∀ k, k < n → st (acc k, nI k) = some (.inl (acc (k + 1), nI (k + 1)))) (hend : st (acc n, nI n) = some (.inr r)) : lp st (acc 0, (0 : Int32)) = some r := lp_first (fun k => (acc k, nI k)) n hgo hend
theorem lp_cca {α ρ : Type} {st : (Int32 × α) → Option ((Int32 × α) ⊕ ρ)} {r : ρ} (acc : Nat → α) (n : Nat) (hgo : ∀ k, k < n → st (nI k, acc k) = some (.inl (nI (k + 1), acc (k + 1)))) (hend : st (nI n, acc n) = some (.inr r)) : lp st ((0 : Int32), acc 0) = some r := lp_first (fun k => (nI k, acc k)) n hgo hend
/-! sets as numbers -/
def bset (p : Nat → Bool) : Nat → Nat
  | 0 => 0
  | k + 1 => bset p k ||| (if p k then 2 ^ k else 0)
theorem bset_lt (p : Nat → Bool) : ∀ n, bset p n < 2 ^ n
  | 0 => Nat.one_pos
  | k + 1 => by
    have h := bset_lt p k
    have h2 : bset p k < 2 ^ (k + 1) := Nat.lt_trans h (by rw [Nat.pow_succ]; omega)
    refine Nat.or_lt_two_pow h2 ?_
    by_cases hp : p k
    · rw [if_pos hp, Nat.pow_succ]
      have : 0 < 2 ^ k := Nat.two_pow_pos k
      omega
    · rw [if_neg hp]
      exact Nat.two_pow_pos _
theorem bset_tb (p : Nat → Bool) : ∀ (n t : Nat), (bset p n).testBit t = (decide (t < n) && p t)
  | 0, t => by
    show (0 : Nat).testBit t = _
    rw [Nat.zero_testBit, decide_eq_false (by omega), Bool.false_and]
  | k + 1, t => by
    show (bset p k ||| (if p k then 2 ^ k else 0)).testBit t = _
    rw [Nat.testBit_or, bset_tb p k t]
    by_cases ht : t = k
    · subst ht
      rw [decide_eq_false (Nat.lt_irrefl t), decide_eq_true (Nat.lt_succ_self t), Bool.false_and, Bool.false_or, Bool.true_and]
      cases hp : p t
      · rw [if_neg (by decide), Nat.zero_testBit]
      · rw [if_pos rfl, Nat.testBit_two_pow_self]
    · have : (if p k then 2 ^ k else 0).testBit t = false := by
        by_cases hp : p k
        · rw [if_pos hp, Nat.testBit_two_pow_of_ne (fun e => ht e.symm)]
        · rw [if_neg hp, Nat.zero_testBit]
      rw [this, Bool.or_false]
      by_cases h : t < k
      · rw [decide_eq_true h, decide_eq_true (by omega)]
      · rw [decide_eq_false h, decide_eq_false (by omega)]
theorem bset_ext {p q : Nat → Bool} : ∀ {n : Nat}, (∀ t, t < n → p t = q t) → bset p n = bset q n
  | 0, _ => rfl
  | k + 1, h => by
    show bset p k ||| _ = bset q k ||| _
    rw [bset_ext (fun t ht => h t (by omega)), h k (by omega)]
theorem tb_ext {a b : Nat} (h : ∀ t, a.testBit t = b.testBit t) : a = b := Nat.eq_of_testBit_eq h
/-- a set of numbers below n, told by its bits -/
theorem bset_of {a n : Nat} (h : a < 2 ^ n) : bset (fun t => a.testBit t) n = a := tb_ext (fun t => by
  rw [bset_tb]
  by_cases ht : t < n
  · rw [decide_eq_true ht, Bool.true_and]
  · rw [decide_eq_false ht, Bool.false_and]
    exact (Nat.testBit_lt_two_pow (Nat.lt_of_lt_of_le h (Nat.pow_le_pow_right (by decide) (by omega)))).symm)
/-- less: the set without another -/
def ndf (a b : Nat) : Nat := Nat.bitwise (fun x y => x && !y) a b
theorem ndf_tb (a b t : Nat) : (ndf a b).testBit t = (a.testBit t && !b.testBit t) := Nat.testBit_bitwise (f := fun x y => x && !y) rfl a b t
theorem ndf_lt {a n : Nat} (b : Nat) (h : a < 2 ^ n) : ndf a b < 2 ^ n := by
  refine Nat.lt_pow_two_of_testBit _ (fun i hi => ?_)
  rw [ndf_tb, Nat.testBit_lt_two_pow (Nat.lt_of_lt_of_le h (Nat.pow_le_pow_right (by decide) hi)), Bool.false_and]
theorem ndf_le (a b : Nat) : ndf a b ≤ a := Nat.le_of_testBit (fun i hi => by
  rw [ndf_tb] at hi
  exact (Bool.and_eq_true _ _ ▸ hi).1)
theorem nx_bv (a : Nat) : (nI a).toBitVec = BitVec.ofNat 32 a := rfl
theorem nx_or (a b : Nat) : nI a ||| nI b = nI (a ||| b) := by
  apply Int32.toBitVec_inj.1
  show BitVec.ofNat 32 a ||| BitVec.ofNat 32 b = BitVec.ofNat 32 (a ||| b)
  apply BitVec.eq_of_getLsbD_eq
  intro i hi
  simp [hi]
theorem nx_and (a b : Nat) : nI a &&& nI b = nI (a &&& b) := by
  apply Int32.toBitVec_inj.1
  show BitVec.ofNat 32 a &&& BitVec.ofNat 32 b = BitVec.ofNat 32 (a &&& b)
  apply BitVec.eq_of_getLsbD_eq
  intro i hi
  simp [hi]
theorem nx_ndf (a b : Nat) : nI a &&& (nI b ^^^ (-1 : Int32)) = nI (ndf a b) := by
  apply Int32.toBitVec_inj.1
  show BitVec.ofNat 32 a &&& (BitVec.ofNat 32 b ^^^ (-1#32)) = BitVec.ofNat 32 (ndf a b)
  apply BitVec.eq_of_getLsbD_eq
  intro i hi
  have : (-1#32 : BitVec 32).getLsbD i = true := (show ∀ i, i < 32 → (-1#32 : BitVec 32).getLsbD i = true by decide) i hi
  rw [BitVec.getLsbD_and, BitVec.getLsbD_xor, this, BitVec.getLsbD_ofNat, BitVec.getLsbD_ofNat, BitVec.getLsbD_ofNat, ndf_tb]
  simp [hi]
theorem nx_sh (t : Nat) (h : t < 31) : (1 : Int32) <<< (nI t &&& 31) = nI (2 ^ t) := (show ∀ t, t < 31 → (1 : Int32) <<< (nI t &&& 31) = nI (2 ^ t) by decide +kernel) t h
theorem nx_mk : ∀ n, n < 31 → ((nI n &&& 31).toBitVec.smod 32).toNat = n := by decide +kernel
theorem nx_sr {s t : Nat} (hs : s < 2 ^ 31) (ht : t < 31) : nI s >>> (nI t &&& 31) = nI (s >>> t) := by
  apply Int32.toBitVec_inj.1
  rw [Int32.toBitVec_shiftRight]
  show (BitVec.ofNat 32 s).sshiftRight ((nI t &&& 31).toBitVec.smod 32).toNat = BitVec.ofNat 32 (s >>> t)
  rw [nx_mk t ht]
  apply BitVec.eq_of_getLsbD_eq
  intro i hi
  rw [BitVec.getLsbD_sshiftRight, BitVec.msb_eq_getLsbD_last]
  have h31 : s.testBit 31 = false := Nat.testBit_lt_two_pow hs
  simp only [BitVec.getLsbD_ofNat, Nat.testBit_shiftRight, hi]
  by_cases h : t + i < 32
  · simp [h]
    omega
  · have : s.testBit (t + i) = false := Nat.testBit_lt_two_pow (Nat.lt_of_lt_of_le hs (Nat.pow_le_pow_right (by decide) (by omega)))
    simp [h, h31, this]
theorem nx_tb {s t : Nat} (hs : s < 2 ^ 31) (ht : t < 31) : (nI s >>> (nI t &&& 31)) &&& (1 : Int32) = if s.testBit t then 1 else 0 := by
  rw [nx_sr hs ht, K1, nx_and, Nat.and_one_is_mod, Nat.testBit_eq_decide_div_mod_eq, Nat.shiftRight_eq_div_pow]
  rcases Nat.mod_two_eq_zero_or_one (s / 2 ^ t) with h | h
  · rw [h]; rfl
  · rw [h]; rfl
theorem cont_ok {s t : Nat} (hs : s < 2 ^ 31) (ht : t < 31) : f_X11_contains (nI s) (nI t) = if s.testBit t then 1 else 0 := by
  unfold f_X11_contains
  rw [nx_tb hs ht]
  by_cases h : s.testBit t
  · rw [if_pos h, if_neg (by decide)]
  · rw [if_neg h, if_pos rfl]
theorem has_ok {s t : Nat} (hs : s < 2 ^ 31) (ht : t < 31) : f_X12_has (nI s) (nI t) = if s.testBit t then 1 else 0 := by
  unfold f_X12_has
  rw [nx_tb hs ht]
  by_cases h : s.testBit t
  · rw [if_pos h, if_pos rfl]
  · rw [if_neg h, if_neg (by decide)]
theorem b2i0 (c : Bool) : ((if c then (1 : Int32) else 0) = 0) = (c = false) := by cases c <;> decide
theorem b2i1 (c : Bool) : ((if c then (1 : Int32) else 0) = 1) = (c = true) := by cases c <;> decide
/-- how many there are in a set -/
def pop (s : Nat) : Nat → Nat
  | 0 => 0
  | k + 1 => pop s k + (if s.testBit k then 1 else 0)
theorem pop_le (s : Nat) : ∀ n, pop s n ≤ n
  | 0 => Nat.le_refl _
  | k + 1 => by
    show pop s k + _ ≤ k + 1
    have := pop_le s k
    by_cases h : s.testBit k
    · rw [if_pos h]; omega
    · rw [if_neg h]; omega
theorem pop_more {s n : Nat} (h : s < 2 ^ n) : ∀ k, pop s (n + k) = pop s n
  | 0 => rfl
  | k + 1 => by
    show pop s (n + k) + (if s.testBit (n + k) then 1 else 0) = _
    rw [pop_more h k, Nat.testBit_lt_two_pow (Nat.lt_of_lt_of_le h (Nat.pow_le_pow_right (by decide) (by omega))), if_neg (by decide), Nat.add_zero]
theorem bitc_ab : ∀ a, a < 64 → ∀ b, b < 64 → f_J6_bitCount_0f7a4 (nI (64 * a + b)) = nI (pop (64 * a + b) 12) := by
  unfold f_J6_bitCount_0f7a4
  decide +kernel
theorem bitc_ok (s : Nat) (h : s < 4096) : f_J6_bitCount_0f7a4 (nI s) = nI (pop s 12) := by
  have := bitc_ab (s / 64) (by omega) (s % 64) (by omega)
  rw [show 64 * (s / 64) + s % 64 = s by omega] at this
  exact this
theorem bits_ok {mm : Mm} {s : Nat} (hs : s < 65536) : f_X12_bits mm (nI s) = some (nI (pop s 16)) := by
  unfold f_X12_bits
  rw [show ((0 : Int32), (0 : Int32)) = ((fun k => nI (pop s k)) 0, (0 : Int32)) from rfl, lp_acc (fun k => nI (pop s k)) 16 (fun k hk => ?_) (r := nI (pop s 16)) ?_]
  · rfl
  · unfold f_X12_bits_s4
    dsimp only
    rw [K16, if_pos (by rw [sN_le (by decide) (by decide)]; omega)]
  · unfold f_X12_bits_s4
    dsimp only
    rw [K16, if_neg (by rw [sN_le (by decide) (by omega)]; omega), nx_tb (by omega) (by omega), vl_s, sN_a1]
    show some (Sum.inl (nI (pop s k) + _, _)) = some (Sum.inl (nI (pop s k + _), _))
    cases s.testBit k
    · rw [if_neg (by decide), if_neg (by decide), Int32.add_zero]
      rfl
    · rw [if_pos rfl, if_pos rfl, sN_a1]
