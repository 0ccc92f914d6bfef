/-! PHASE 2: the text -/
def sb (c : Nat) : Int32 := (nI c).toInt8.toInt32
theorem sb_255 : ∀ c, c < 256 → sb c &&& 255 = nI c := by unfold sb; decide +kernel
theorem sb_32 : ∀ c, c < 256 → (sb c = 32 ↔ c = 32) := by unfold sb; decide +kernel
theorem sb_61 : ∀ c, c < 256 → (sb c = 61 ↔ c = 61) := by unfold sb; decide +kernel
theorem sb_let : ∀ c, c < 256 → f_X10_isLetter (sb c) = if 97 ≤ c ∧ c ≤ 122 then 1 else 0 := by unfold sb f_X10_isLetter; decide +kernel
theorem sb_97 : ∀ c, c < 256 → (sb c < 97 ↔ c < 97 ∨ 128 ≤ c) := by unfold sb; decide +kernel
theorem sb_122 : ∀ c, c < 256 → (122 < sb c ↔ 122 < c ∧ c < 128) := by unfold sb; decide +kernel
theorem sb_dig : ∀ c, c < 256 → f_X10_isDigit (sb c) = if 48 ≤ c ∧ c ≤ 57 then 1 else 0 := by unfold sb f_X10_isDigit; decide +kernel
theorem nb_dig : ∀ c, c < 256 → f_X10_isDigit (nI c) = if 48 ≤ c ∧ c ≤ 57 then 1 else 0 := by unfold f_X10_isDigit; decide +kernel
theorem sb_val : ∀ c, c < 256 → 48 ≤ c → c ≤ 57 → sb c = nI c := by unfold sb; decide +kernel
theorem sb_bk : ∀ c, c < 256 → (nI c).toInt8.toBitVec.toNat = c := by decide +kernel
theorem sb_of (x : Int32) : ∃ c, c < 256 ∧ x.toInt8.toInt32 = sb c := by
  refine ⟨x.toInt8.toBitVec.toNat, x.toInt8.toBitVec.isLt, ?_⟩
  unfold sb
  have : x.toInt8 = (nI x.toInt8.toBitVec.toNat).toInt8 := Int8.toBitVec_inj.mp (BitVec.eq_of_toNat_eq (sb_bk _ x.toInt8.toBitVec.isLt).symm)
  rw [← this]
theorem sb_inj {c d : Nat} (hc : c < 128) (hd : d < 256) : (nI c = sb d) = (c = d) := propext ⟨fun z => by
  have h1 := sb_255 d hd
  rw [← z] at h1
  have h2 : nI c &&& 255 = nI c := (show ∀ c, c < 128 → nI c &&& 255 = nI c by decide +kernel) c hc
  rw [h2] at h1
  exact (nI_eq_iff (by omega) (by omega)).mp h1, fun z => by
  rw [← z]
  exact (show ∀ c, c < 128 → nI c = sb c by unfold sb; decide +kernel) c hc⟩
/-! runs -/
def rn (p : Nat → Bool) : Nat → Nat → Nat
  | 0, i => i
  | d + 1, i => if p i then rn p d (i + 1) else i
theorem rn_ok (p : Nat → Bool) : ∀ d i, i ≤ rn p d i ∧ rn p d i ≤ i + d ∧ (∀ j, i ≤ j → j < rn p d i → p j = true) ∧ (rn p d i < i + d → p (rn p d i) = false)
  | 0, i => ⟨Nat.le_refl _, Nat.le_refl _, fun j h1 h2 => absurd h2 (by show ¬ j < i; omega), fun h => absurd h (by show ¬ i < i + 0; omega)⟩
  | d + 1, i => by
    rw [show rn p (d + 1) i = if p i then rn p d (i + 1) else i from rfl]
    by_cases c : p i = true
    · rw [if_pos c]
      obtain ⟨h1, h2, h3, h4⟩ := rn_ok p d (i + 1)
      refine ⟨by omega, by omega, fun j j1 j2 => ?_, fun h => h4 (by omega)⟩
      by_cases q : j = i
      · rw [q]; exact c
      · exact h3 j (by omega) j2
    · rw [if_neg c]
      exact ⟨Nat.le_refl _, by omega, fun j j1 j2 => absurd j2 (by omega), fun _ => Bool.eq_false_iff.mpr c⟩
theorem lp_rn {σ ρ : Type} {st : σ → Option (σ ⊕ ρ)} (p : Nat → Bool) (mk : Nat → σ) (Rr : Nat → ρ) (n i0 : Nat) (h1 : ∀ j, i0 ≤ j → j < n → p j = true → st (mk j) = some (.inl (mk (j + 1)))) (h2 : ∀ j, i0 ≤ j → j < n → p j = false → st (mk j) = some (.inr (Rr j))) (h3 : ∀ j, i0 ≤ j → n ≤ j → j = n ∨ j = i0 → st (mk j) = some (.inr (Rr j))) : ∀ d i, d = n - i → i0 ≤ i → i ≤ n ∨ i = i0 → lp st (mk i) = some (Rr (rn p d i))
  | 0, i, hd, hi, hx => lp_end (h3 i hi (by omega) (by omega))
  | d + 1, i, hd, hi, hx => by
    rw [show rn p (d + 1) i = if p i then rn p d (i + 1) else i from rfl]
    cases c : p i
    · rw [if_neg (by decide)]
      exact lp_end (h2 i hi (by omega) c)
    · rw [if_pos rfl, lp_go (h1 i hi (by omega) c)]
      exact lp_rn p mk Rr n i0 h1 h2 h3 d (i + 1) (by omega) (by omega) (by omega)
def isL (c : Nat) : Bool := decide (97 ≤ c ∧ c ≤ 122)
def isD (c : Nat) : Bool := decide (48 ≤ c ∧ c ≤ 57)
def bl (n : Nat) (t : Nat → Nat) (i : Nat) : Nat := rn (fun j => decide (t j = 32)) (n - i) i
def lte (n : Nat) (t : Nat → Nat) (i : Nat) : Nat := rn (fun j => isL (t j)) (n - i) i
def dge (n : Nat) (t : Nat → Nat) (i : Nat) : Nat := rn (fun j => isD (t j)) (n - i) i
def sgI (n : Nat) (t : Nat → Nat) (i : Nat) : Int32 := if i < n then nI (t i) else -1
def TxC (mm : Mm) (n : Nat) (t : Nat → Nat) : Prop := mm.1 1 1 = nI n ∧ ∀ k, k < n → mm.1 2 k = sb (t k)
def TxF (mm : Mm) (n : Nat) (t : Nat → Nat) : Prop := mm.1 1088 31 = nI n ∧ ∀ k, k < n → mm.1 1119 k = sb (t k)
def TxOk (n : Nat) (t : Nat → Nat) : Prop := n ≤ 400 ∧ ∀ k, k < n → t k < 256
theorem SimT_Tx {mm : Mm} (h : SimT mm) : ∃ n t, TxC mm n t ∧ TxF mm n t ∧ TxOk n t := by
  obtain ⟨tl, h1, h2, h3, h4⟩ := h
  have : ∀ k, ∃ c, k < tl → c < 256 ∧ mm.1 2 k = sb c := fun k => by
    by_cases q : k < tl
    · obtain ⟨x, hx⟩ := (h4 k q).2
      obtain ⟨c, c1, c2⟩ := sb_of x
      exact ⟨c, fun _ => ⟨c1, by rw [hx, c2]⟩⟩
    · exact ⟨0, fun z => absurd z q⟩
  refine ⟨tl, fun k => Classical.choose (this k), ⟨h2, fun k hk => (Classical.choose_spec (this k) hk).2⟩, ⟨h3, fun k hk => ?_⟩, h1, fun k hk => (Classical.choose_spec (this k) hk).1⟩
  rw [← (h4 k hk).1]
  exact (Classical.choose_spec (this k) hk).2
theorem bl_ge (n : Nat) (t : Nat → Nat) (i : Nat) : i ≤ bl n t i := (rn_ok _ _ _).1
theorem bl_le {n : Nat} (t : Nat → Nat) {i : Nat} (h : i ≤ n) : bl n t i ≤ n := by
  have := (rn_ok (fun j => decide (t j = 32)) (n - i) i).2.1
  unfold bl
  omega
theorem bl_st {n : Nat} {t : Nat → Nat} {i : Nat} (h : bl n t i < n) : ¬ t (bl n t i) = 32 := by
  have := (rn_ok (fun j => decide (t j = 32)) (n - i) i).2.2.2
  have h1 := bl_ge n t i
  unfold bl at h h1 ⊢
  exact of_decide_eq_false (this (by omega))
theorem bl_hi {n : Nat} (t : Nat → Nat) {i : Nat} (h : n ≤ i) : bl n t i = i := by
  unfold bl
  rw [show n - i = 0 by omega]
  rfl
/-! the class's tape -/
def atC (mm : Mm) (i : Nat) : Prop := mm.1 1 2 = nI i
theorem TxC_w {mm : Mm} {n : Nat} {t : Nat → Nat} {k : Nat} {x : Int32} (h : TxC mm n t) (hk : ¬ k = 1) : TxC (wI mm 1 k x) n t := ⟨by rw [wI_pl (fun z => hk z.symm)]; exact h.1, fun j hj => by rw [wI_ne (by decide)]; exact h.2 j hj⟩
theorem next_c {mm : Mm} {n : Nat} {t : Nat → Nat} (h : TxC mm n t) (ok : TxOk n t) {i : Nat} (ha : atC mm i) (hi : i ≤ 500) : f_X10_next mm = some (sgI n t (bl n t i), wI mm 1 2 (nI (bl n t i))) := by
  have h4 := ok.1
  have hb : bl n t i ≤ 500 := by
    by_cases q : i ≤ n
    · have := bl_le t q; omega
    · rw [bl_hi t (by omega)]; exact hi
  have e : lp f_X10_next_s0 mm = some (wI mm 1 2 (nI (bl n t i))) := by
    have := lp_rn (st := f_X10_next_s0) (fun j => decide (t j = 32)) (fun j => wI mm 1 2 (nI j)) (fun j => wI mm 1 2 (nI j)) n i (fun j j1 j2 j3 => by
      unfold f_X10_next_s0
      rw [wI_pl (by decide), wI_at, wI_ne (by decide), h.1, if_neg (by rw [sN_le (by omega) (by omega)]; omega), if_neg (gd_ok (show j < 400 by omega) (by decide)), cl_ok (by omega), h.2 j j2, if_pos ((sb_32 _ (ok.2 j j2)).mpr (of_decide_eq_true j3)), sN_a1, vl_s, wI_wI]) (fun j j1 j2 j3 => by
      unfold f_X10_next_s0
      rw [wI_pl (by decide), wI_at, wI_ne (by decide), h.1, if_neg (by rw [sN_le (by omega) (by omega)]; omega), if_neg (gd_ok (show j < 400 by omega) (by decide)), cl_ok (by omega), h.2 j j2, if_neg (fun z => of_decide_eq_false j3 ((sb_32 _ (ok.2 j j2)).mp z))]) (fun j j1 j2 j3 => by
      unfold f_X10_next_s0
      rw [wI_pl (by decide), wI_at, h.1, if_pos (by rw [sN_le (by omega) (by omega)]; omega)]) (n - i) i rfl (Nat.le_refl _) (Or.inr rfl)
    rw [wI_same ha] at this
    exact this
  unfold f_X10_next sgI
  rw [e, bi1_s, wI_at, wI_pl (by decide), wI_ne (by decide), h.1]
  by_cases c : bl n t i < n
  · rw [if_pos c, if_neg (by rw [sN_le (by omega) (by omega)]; omega), if_neg (gd_ok (show bl n t i < 400 by omega) (by decide)), cl_ok (by omega), h.2 _ c, sb_255 _ (ok.2 _ c)]
  · rw [if_neg c, if_pos (by rw [sN_le (by omega) (by omega)]; omega)]
theorem sgI_eq {n : Nat} {t : Nat → Nat} (ok : TxOk n t) {i c : Nat} (hc : c < 1000) : (sgI n t i = nI c) = (i < n ∧ t i = c) := propext (by
  unfold sgI
  by_cases q : i < n
  · rw [if_pos q, nI_eq_iff (by have := ok.2 i q; omega) (by omega)]
    exact ⟨fun z => ⟨q, z⟩, fun z => z.2⟩
  · rw [if_neg q]
    exact ⟨fun z => absurd z.symm (nm1 (by omega)), fun z => absurd z.1 q⟩)
theorem accept_c {mm : Mm} {n : Nat} {t : Nat → Nat} (h : TxC mm n t) (ok : TxOk n t) {i : Nat} (ha : atC mm i) (hi : i ≤ 500) {c : Nat} (hc : c < 1000) : f_X10_accept mm (nI c) = some (if bl n t i < n ∧ t (bl n t i) = c then (1, wI (wI mm 1 3 (nI (bl n t i))) 1 2 (nI (bl n t i + 1))) else (0, wI mm 1 2 (nI (bl n t i)))) := by
  unfold f_X10_accept
  rw [next_c h ok ha hi, bi2_s]
  by_cases q : bl n t i < n ∧ t (bl n t i) = c
  · rw [if_pos q, if_pos (by rw [sgI_eq ok hc]; exact q), wI_at, vl_s, wI_pl (by decide), wI_at, sN_a1, vl_s]
    refine congrArg some (congrArg (Prod.mk (1 : Int32)) (Prod.ext ?_ rfl))
    funext a b
    rw [wI_get, wI_get, wI_get, wI_get, wI_get]
    by_cases q1 : a = 1 ∧ b = 2
    · rw [if_pos q1, if_pos q1]
    · rw [if_neg q1, if_neg q1, if_neg q1]
  · rw [if_neg q, if_neg (by rw [sgI_eq ok hc]; exact q)]
/-! numbers -/
def dv (t : Nat → Nat) (i : Nat) : Nat → Nat
  | 0 => 0
  | k + 1 => if k < 5 then dv t i k * 10 + (t (i + k) - 48) else dv t i k
theorem dv_lt {t : Nat → Nat} {i : Nat} : ∀ k, (∀ j, j < k → isD (t (i + j)) = true) → dv t i k + 1 ≤ 10 ^ (min k 5)
  | 0, _ => Nat.le_refl _
  | k + 1, h => by
    have ih := dv_lt k (fun j hj => h j (by omega))
    have hk := of_decide_eq_true (h k (by omega))
    rw [show dv t i (k + 1) = if k < 5 then dv t i k * 10 + (t (i + k) - 48) else dv t i k from rfl]
    by_cases c : k < 5
    · rw [if_pos c, show min (k + 1) 5 = min k 5 + 1 by omega, Nat.pow_succ]
      omega
    · rw [if_neg c, show min (k + 1) 5 = min k 5 by omega]
      exact ih
theorem dv_bd {t : Nat → Nat} {i k : Nat} (h : ∀ j, j < k → isD (t (i + j)) = true) : dv t i k ≤ 99999 := by
  have h1 := dv_lt k h
  have h2 : 10 ^ (min k 5) ≤ 10 ^ 5 := Nat.pow_le_pow_right (by decide) (by omega)
  omega
/-- a number read at i: the fault, or the value and the place behind it -/
def num (n : Nat) (t : Nat → Nat) (i : Nat) (lo hi : Int) : Nat ⊕ (Nat × Nat) :=
  if bl n t i < n ∧ isD (t (bl n t i)) = true then
    (if 5 < dge n t (bl n t i) - bl n t i ∨ (dv t (bl n t i) (dge n t (bl n t i) - bl n t i) : Int) < lo ∨ hi < (dv t (bl n t i) (dge n t (bl n t i) - bl n t i) : Int) then .inl (2 + 8 * bl n t i) else .inr (dv t (bl n t i) (dge n t (bl n t i) - bl n t i), dge n t (bl n t i)))
  else .inl (1 + 8 * bl n t i)
theorem dge_ok (n : Nat) (t : Nat → Nat) (b : Nat) : b ≤ dge n t b ∧ (b ≤ n → dge n t b ≤ n) ∧ ∀ j, j < dge n t b - b → isD (t (b + j)) = true := by
  obtain ⟨h1, h2, h3, _⟩ := rn_ok (fun j => isD (t j)) (n - b) b
  unfold dge
  exact ⟨h1, fun h => by omega, fun j hj => h3 (b + j) (by omega) (by omega)⟩
theorem digs_c {mm : Mm} {n : Nat} {t : Nat → Nat} (h : TxC mm n t) (ok : TxOk n t) {b : Nat} (hb : b ≤ n) (hf : mm.1 1 3 = nI b) (ha : atC mm b) {x y : Int32} : lp (f_X10_number_s32 x y) ((0 : Int32), mm) = some (nI (dv t b (dge n t b - b)), wI mm 1 2 (nI (dge n t b))) := by
  have h4 := ok.1
  have := lp_rn (st := f_X10_number_s32 x y) (fun j => isD (t j)) (fun j => (nI (dv t b (j - b)), wI mm 1 2 (nI j))) (fun j => (nI (dv t b (j - b)), wI mm 1 2 (nI j))) n b (fun j j1 j2 j3 => by
    have hd := of_decide_eq_true j3
    unfold f_X10_number_s32 f_X10_number_j89
    dsimp only
    rw [wI_pl (by decide), wI_at, wI_ne (by decide), wI_pl (by decide), h.1, hf, if_neg (by rw [sN_le (by omega) (by omega)]; omega), if_neg (gd_ok (show j < 400 by omega) (by decide)), cl_ok (by omega), h.2 j j2, sb_dig _ (ok.2 j j2), if_pos hd, if_neg (show ¬ (1 : Int32) = 0 by decide), nI_sub' j1, sN_a1, vl_s, wI_wI, show j + 1 - b = (j - b) + 1 by omega, show dv t b (j - b + 1) = if j - b < 5 then dv t b (j - b) * 10 + (t (b + (j - b)) - 48) else dv t b (j - b) from rfl]
    by_cases c : j - b < 5
    · rw [if_pos c, if_neg (by rw [K5, sN_le (by omega) (by omega)]; omega), if_neg (show ¬ (nI j < 0 ∨ 400 ≤ j) from fun z => z.elim (nI_nn _ (by omega)) (fun y => by omega)), vl_s, sb_val _ (ok.2 j j2) hd.1 hd.2, show (10 : Int32) = nI 10 from rfl, show nI (dv t b (j - b)) * nI 10 = nI (dv t b (j - b) * 10) from (Int32.ofNat_mul _ _).symm, sN_ad, show (48 : Int32) = nI 48 from rfl, nI_sub' (by omega), vl_s, show b + (j - b) = j by omega, show dv t b (j - b) * 10 + t j - 48 = dv t b (j - b) * 10 + (t j - 48) by omega]
    · rw [if_neg c, if_pos (by rw [K5, sN_le (by omega) (by omega)]; omega)]) (fun j j1 j2 j3 => by
    have hd := of_decide_eq_false j3
    unfold f_X10_number_s32
    dsimp only
    rw [wI_pl (by decide), wI_at, wI_ne (by decide), h.1, if_neg (by rw [sN_le (by omega) (by omega)]; omega), if_neg (gd_ok (show j < 400 by omega) (by decide)), cl_ok (by omega), h.2 j j2, sb_dig _ (ok.2 j j2), if_neg hd, if_pos rfl]) (fun j j1 j2 j3 => by
    unfold f_X10_number_s32
    dsimp only
    rw [wI_pl (by decide), wI_at, h.1, if_pos (by rw [sN_le (by omega) (by omega)]; omega)]) (n - b) b rfl (Nat.le_refl _) (Or.inl hb)
  rw [wI_same ha, Nat.sub_self] at this
  exact this
theorem wrong_c (mm : Mm) (i c : Nat) : f_X10_wrong mm (nI i) (nI c) = some (0, wI mm 1 4 (nI (1 + 8 * i + c))) := by
  unfold f_X10_wrong
  rw [K1, K8, show nI 8 * nI i = nI (8 * i) from (Int32.ofNat_mul _ _).symm, sN_ad, sN_ad, vl_s]
