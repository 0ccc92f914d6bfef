/-! PHASE 2: rule, entries and values -/
abbrev Es : Type := List (Nat × Nat)
def en (E : Es) (k : Nat) : Nat × Nat := E.getD k (0, 0)
theorem en_lt {E : Es} {a : Nat × Nat} {k : Nat} (h : k < E.length) : en (E ++ [a]) k = en E k := by
  unfold en
  rw [List.getD_eq_getElem?_getD, List.getD_eq_getElem?_getD, List.getElem?_append_left h]
theorem en_at (E : Es) (a : Nat × Nat) : en (E ++ [a]) E.length = a := by
  unfold en
  rw [List.getD_eq_getElem?_getD, List.getElem?_append_right (Nat.le_refl _), Nat.sub_self]
  rfl
theorem sh4 (v : Nat) : nI v <<< ((4 : Int32) &&& 31) = nI v * 16 := by
  rw [show (4 : Int32) &&& 31 = 4 by decide, show (16 : Int32) = nI 16 from rfl, show nI v * nI 16 = nI (v * 16) from (Int32.ofNat_mul _ _).symm]
  apply Int32.toBitVec_inj.1
  rw [Int32.toBitVec_shiftLeft]
  apply BitVec.eq_of_toNat_eq
  show ((BitVec.ofNat 32 v) <<< ((4 : Int32).toBitVec.smod 32)).toNat = (BitVec.ofNat 32 (v * 16)).toNat
  rw [show (4 : Int32).toBitVec.smod 32 = 4#32 by decide]
  simp [Nat.shiftLeft_eq]
def eC (m : Mm) (E : Es) (p : Nat) : Prop := m.1 20 1 = nI E.length ∧ (∀ k, k < E.length → m.1 21 k = nI (en E k).2 * 16 + kOf (nI (en E k).1)) ∧ m.1 19 2 = nI p
def eF (m : Mm) (u : Nat) (E : Es) (p : Nat) : Prop := m.1 1088 36 = nI E.length ∧ m.1 1088 34 = nI u ∧ (∀ k, k < E.length → m.1 1120 (300 * u + k) = nI (en E k).1 ∧ m.1 1121 (300 * u + k) = nI (en E k).2) ∧ m.1 1088 38 = nI p
theorem add_c {m : Mm} {E : Es} {p : Nat} (h : eC m E p) (hl : E.length < 300) {s v : Nat} {x : Int32} (hx : x = kOf (nI s)) : ∃ m1, f_X7_add m 20 x (nI v) = some m1 ∧ (∀ i, ¬ (i = 20 ∨ i = 21) → m1.1 i = m.1 i) ∧ (∀ k, ¬ k = 1 → m1.1 20 k = m.1 20 k) ∧ eC m1 (E ++ [(s, v)]) p := by
  unfold f_X7_add
  rw [h.1, if_neg (by rw [show (400 : Int32) = nI 400 from rfl, sN_le (by decide) (by omega)]; omega), if_neg (gd_ok (show E.length < 400 by omega) (by decide)), cl_ok (by omega), vl_s, wI_ne (by decide), h.1, sN_a1, vl_s, sh4, hx]
  refine ⟨_, rfl, fun i hi => by rw [wI_ne (by omega), wI_ne (by omega)], fun k hk => by rw [wI_pl hk, wI_ne (by decide)], ?_, fun k hk => ?_, ?_⟩
  · rw [wI_at, List.length_append]
    rfl
  · rw [List.length_append] at hk
    have hk : k < E.length + 1 := hk
    rw [wI_ne (by decide)]
    by_cases q : k = E.length
    · rw [q, wI_at, en_at]
    · rw [wI_pl q, en_lt (by omega)]
      exact h.2.1 k (by omega)
  · rw [wI_ne (by decide), wI_ne (by decide)]
    exact h.2.2
theorem entry_f {m : Mm} {u : Nat} {E : Es} {p : Nat} (h : eF m u E p) (hu : u < 6) (hl : E.length < 300) (h0 : m.1 1088 33 = 0) {s v : Nat} : ∃ m1, f_X12_entry m (nI s) (nI v) = some m1 ∧ (∀ i, ¬ (i = 1088 ∨ i = 1120 ∨ i = 1121) → m1.1 i = m.1 i) ∧ (∀ k, ¬ k = 36 → m1.1 1088 k = m.1 1088 k) ∧ (∀ k, k < 300 * u → m1.1 1120 k = m.1 1120 k ∧ m1.1 1121 k = m.1 1121 k) ∧ eF m1 u (E ++ [(s, v)]) p := by
  have e1 : (300 : Int32) * m.1 1088 34 + m.1 1088 36 = nI (300 * u + E.length) := by
    rw [h.1, h.2.1, show (300 : Int32) = nI 300 from rfl, show nI 300 * nI u = nI (300 * u) from (Int32.ofNat_mul _ _).symm, sN_ad]
  unfold f_X12_entry
  rw [if_pos h0, e1, if_neg (gd_ok (show 300 * u + E.length < 1800 by omega) (by decide)), cl_ok (by omega), vl_s, wI_ne (by decide), e1, if_neg (gd_ok (show 300 * u + E.length < 1800 by omega) (by decide)), cl_ok (by omega), vl_s, wI_ne (by decide), wI_ne (by decide), h.1, sN_a1, vl_s]
  refine ⟨_, rfl, fun i hi => by rw [wI_ne (by omega), wI_ne (by omega), wI_ne (by omega)], fun k hk => by rw [wI_pl hk, wI_ne (by decide), wI_ne (by decide)], fun k hk => by rw [wI_ne (by decide), wI_ne (by decide), wI_pl (by omega), wI_ne (by decide), wI_pl (by omega), wI_ne (by decide)]; exact ⟨rfl, rfl⟩, ?_, ?_, fun k hk => ?_, ?_⟩
  · rw [wI_at, List.length_append]
    rfl
  · rw [wI_pl (by decide), wI_ne (by decide), wI_ne (by decide)]
    exact h.2.1
  · rw [List.length_append] at hk
    have hk : k < E.length + 1 := hk
    by_cases q : k = E.length
    · rw [q, en_at]
      simp [wI_get]
    · have := h.2.2.1 k (by omega)
      rw [en_lt (by omega)]
      simp [wI_get, q]
      exact this
  · rw [wI_pl (by decide), wI_ne (by decide), wI_ne (by decide)]
    exact h.2.2.2
