/-! PHASE 2, tools: loops that count, memories that differ in few cells -/
/-- only cells of S may differ -/
def Fr (S : Nat → Prop) (m m' : Mm) : Prop := ∀ i, ¬ S i → m'.1 i = m.1 i
theorem Fr.rf {S : Nat → Prop} {m : Mm} : Fr S m m := fun _ _ => rfl
theorem Fr.tr {S : Nat → Prop} {a b c : Mm} (h1 : Fr S a b) (h2 : Fr S b c) : Fr S a c := fun i hi => (h2 i hi).trans (h1 i hi)
theorem Fr_wI {S : Nat → Prop} {m : Mm} {i k : Nat} {x : Int32} (h : S i) : Fr S m (wI m i k x) := fun _ hj => wI_ne (fun e => hj (e ▸ h))
theorem Fr_wA {S : Nat → Prop} {m : Mm} {i : Nat} {f : Nat → Int32} (h : S i) : Fr S m (wA m i f) := fun j hj => by
  rw [wA_get, if_neg (fun (e : j = i) => hj (e ▸ h))]
theorem Fr_wL {S : Nat → Prop} {m : Mm} {i k : Nat} {x : Int64} : Fr S m (wL m i k x) := fun _ _ => rfl
theorem Fr.sub {S T : Nat → Prop} {m m' : Mm} (h : Fr S m m') (hs : ∀ i, S i → T i) : Fr T m m' := fun i hi => h i (fun z => hi (hs i z))
/-- a loop whose k-th state is known -/
theorem lp_for {σ ρ : Type} {st : σ → Option (σ ⊕ ρ)} {r : ρ} (mk : Nat → σ) (n : Nat) : ∀ (k0 : Nat), k0 ≤ n → (∀ k, k0 ≤ k → k < n → st (mk k) = some (.inl (mk (k + 1)))) → st (mk n) = some (.inr r) → lp st (mk k0) = some r := by
  intro k0 hk hgo hend
  obtain ⟨d, hd⟩ : ∃ d, n = k0 + d := ⟨n - k0, by omega⟩
  clear hk
  revert k0
  induction d with
  | zero => intro k0 hgo hd; subst hd; exact lp_end hend
  | succ d ih =>
    intro k0 hgo hd
    rw [lp_go (hgo k0 (Nat.le_refl _) (by omega))]
    exact ih (k0 + 1) (fun k h1 h2 => hgo k (by omega) h2) (by omega)
/-- a loop that looks for the first: it goes on while p is false -/
theorem lp_first {σ ρ : Type} {st : σ → Option (σ ⊕ ρ)} {r : ρ} (mk : Nat → σ) (n : Nat) (hgo : ∀ k, k < n → st (mk k) = some (.inl (mk (k + 1)))) (hend : st (mk n) = some (.inr r)) : lp st (mk 0) = some r := lp_for mk n 0 (Nat.zero_le _) (fun k _ h => hgo k h) hend
/-- a loop with an invariant that is a relation: the states are not told, only what holds of them -/
theorem lp_inv {σ ρ : Type} {st : σ → Option (σ ⊕ ρ)} (P : Nat → σ → Prop) (Q : ρ → Prop) (n : Nat) (hgo : ∀ k x, k < n → P k x → ∃ y, st x = some (.inl y) ∧ P (k + 1) y) (hend : ∀ x, P n x → ∃ r, st x = some (.inr r) ∧ Q r) : ∀ (k0 : Nat) (x : σ), k0 ≤ n → P k0 x → ∃ r, lp st x = some r ∧ Q r := by
  intro k0 x hk hP
  obtain ⟨d, hd⟩ : ∃ d, n = k0 + d := ⟨n - k0, by omega⟩
  clear hk
  revert k0 x
  induction d with
  | zero =>
    intro k0 x hP hd
    obtain ⟨r, h1, h2⟩ := hend x (by rw [show n = k0 by omega]; exact hP)
    exact ⟨r, lp_end h1, h2⟩
  | succ d ih =>
    intro k0 x hP hd
    obtain ⟨y, h1, h2⟩ := hgo k0 x (by omega) hP
    obtain ⟨r, h3, h4⟩ := ih (k0 + 1) y h2 (by omega)
    exact ⟨r, (lp_go h1).trans h3, h4⟩
/-- a loop with a measure that falls, and an invariant -/
theorem lp_meas {σ ρ : Type} {st : σ → Option (σ ⊕ ρ)} (P : σ → Prop) (Q : ρ → Prop) (μ : σ → Nat) (h : ∀ x, P x → (∃ y, st x = some (.inl y) ∧ P y ∧ μ y < μ x) ∨ ∃ r, st x = some (.inr r) ∧ Q r) : ∀ (x : σ), P x → ∃ r, lp st x = some r ∧ Q r := by
  intro x hP
  obtain ⟨n, hn⟩ : ∃ n, μ x < n := ⟨μ x + 1, by omega⟩
  revert x
  induction n with
  | zero => intro x _ hn; exact absurd hn (by omega)
  | succ n ih =>
    intro x hP hn
    rcases h x hP with ⟨y, h1, h2, h3⟩ | ⟨r, h1, h2⟩
    · obtain ⟨r, h4, h5⟩ := ih y h2 (by omega)
      exact ⟨r, (lp_go h1).trans h4, h5⟩
    · exact ⟨r, lp_end h1, h2⟩
/-! numbers -/
theorem nI_le_iff {a b : Nat} (ha : a < 100000) (hb : b < 100000) : nI a ≤ nI b ↔ a ≤ b := nI_leI (by omega) (by omega)
theorem nI_lt_iff {a b : Nat} (ha : a < 100000) (hb : b < 100000) : nI a < nI b ↔ a < b := nI_ltI (by omega) (by omega)
theorem nI_eq_iff {a b : Nat} (ha : a < 100000) (hb : b < 100000) : nI a = nI b ↔ a = b := nI_eq (by omega) (by omega)
theorem nI_sub' {a b : Nat} (h : b ≤ a) : nI a - nI b = nI (a - b) := pk_sub h
theorem nI_nn (a : Nat) (ha : a < 100000) : ¬ nI a < 0 := nI_pos (by omega)
theorem bi1_s {α γ : Type} (a : α) (k : α → Option γ) : bi1 (some a) k = k a := rfl
theorem bi2_s {α β γ : Type} (a : α) (b : β) (k : α → β → Option γ) : bi2 (some (a, b)) k = k a b := rfl
theorem vl_s {α β : Type} (a : α) (k : α → β) : vlet a k = k a := rfl
/-! the tape: twenty bytes more -/
def byt (x : Int32) (j : Nat) : Int32 := vp_nar .byte ((x >>> ((24 : Int32) - nI (8 * j) &&& 31)).toInt8.toInt32)
theorem byt_byte (x : Int32) (j : Nat) : ∃ z : Int32, byt x j = z.toInt8.toInt32 := ⟨_, (vp_nar_byte _)⟩
def putN (cl cb : Nat) (lp0 : Nat) (x : Int32) : Nat → Mm → Nat → Mm
  | 0, m, _ => m
  | j + 1, m, n => wI (wI (putN cl cb lp0 x j m n) cb (n + j) (byt x j)) cl lp0 (nI (n + j + 1))
theorem putN_ne {cl cb lp0 : Nat} {x : Int32} {m : Mm} {n : Nat} : ∀ (j i : Nat), i ≠ cl → i ≠ cb → (putN cl cb lp0 x j m n).1 i = m.1 i
  | 0, _, _, _ => rfl
  | j + 1, i, h1, h2 => by
    show (wI (wI (putN cl cb lp0 x j m n) cb (n + j) (byt x j)) cl lp0 (nI (n + j + 1))).1 i = m.1 i
    rw [wI_ne h1, wI_ne h2, putN_ne j i h1 h2]
theorem putN_len {cl cb lp0 : Nat} {x : Int32} {m : Mm} {n : Nat} (hc : cl ≠ cb) (h : m.1 cl lp0 = nI n) : ∀ j, (putN cl cb lp0 x j m n).1 cl lp0 = nI (n + j)
  | 0 => h
  | j + 1 => wI_at _ _ _ _
theorem putN_pl {cl cb lp0 : Nat} {x : Int32} {m : Mm} {n : Nat} (hc : cl ≠ cb) : ∀ (j k : Nat), k ≠ lp0 → (putN cl cb lp0 x j m n).1 cl k = m.1 cl k
  | 0, _, _ => rfl
  | j + 1, k, hk => by
    show (wI (wI (putN cl cb lp0 x j m n) cb (n + j) (byt x j)) cl lp0 (nI (n + j + 1))).1 cl k = m.1 cl k
    rw [wI_pl hk, wI_ne hc, putN_pl hc j k hk]
theorem putN_b {cl cb lp0 : Nat} {x : Int32} {m : Mm} {n : Nat} (hc : cl ≠ cb) : ∀ (j k : Nat), (putN cl cb lp0 x j m n).1 cb k = if n ≤ k ∧ k < n + j then byt x (k - n) else m.1 cb k
  | 0, k => by rw [if_neg (by omega)]; rfl
  | j + 1, k => by
    show (wI (wI (putN cl cb lp0 x j m n) cb (n + j) (byt x j)) cl lp0 (nI (n + j + 1))).1 cb k = _
    rw [wI_ne (fun e => hc e.symm), wI_get, putN_b hc j k]
    by_cases h : k = n + j
    · rw [if_pos ⟨rfl, h⟩, if_pos (by omega), show k - n = j by omega]
    · rw [if_neg (fun z => h z.2)]
      by_cases h2 : n ≤ k ∧ k < n + j
      · rw [if_pos h2, if_pos (by omega)]
      · rw [if_neg h2, if_neg (by omega)]
theorem m8 (j : Nat) (h : j < 4) : (24 : Int32) - nI (8 * j) + (-8) = 24 - nI (8 * (j + 1)) := (show ∀ j, j < 4 → (24 : Int32) - nI (8 * j) + (-8) = 24 - nI (8 * (j + 1)) by decide +kernel) j h
theorem m8n (j : Nat) (h : j < 4) : ¬ (24 : Int32) - nI (8 * j) < 0 := (show ∀ j, j < 4 → ¬ (24 : Int32) - nI (8 * j) < 0 by decide +kernel) j h
theorem append_ok {m : Mm} {n : Nat} (h : m.1 1 1 = nI n) (hn : n + 4 ≤ 400) (x : Int32) : f_X10_append m x = some (putN 1 2 1 x 4 m n) := by
  have e : lp (f_X10_append_s3 x) ((24 : Int32) - nI (8 * 0), putN 1 2 1 x 0 m n) = some (putN 1 2 1 x 4 m n) := by
    refine lp_for (fun j => ((24 : Int32) - nI (8 * j), putN 1 2 1 x j m n)) 4 0 (by decide) (fun j _ hj => ?_) ?_
    · unfold f_X10_append_s3
      dsimp only
      have e := putN_len (cb := 2) (x := x) (by decide) h j
      rw [if_neg (m8n j hj), e, if_neg (show ¬ (400 : Int32) ≤ nI (n + j) from nI_ge (a := n + j) (b := 400) (by omega) (by decide)), if_neg (gd_ok (by omega) (by decide)), cl_ok (by omega)]
      simp only [vl_s]
      rw [wI_ne (show 1 ≠ 2 by decide), e, m8 j hj, nI_1]
      rfl
    · unfold f_X10_append_s3
      dsimp only
      rw [if_pos (by decide +kernel)]
  unfold f_X10_append
  rw [show ((24 : Int32), m) = ((24 : Int32) - nI (8 * 0), putN 1 2 1 x 0 m n) from rfl, e]
  rfl
theorem put_ok {m : Mm} {n : Nat} (h : m.1 1088 31 = nI n) (hn : n + 4 ≤ 400) (x : Int32) : f_X12_put m x = some (putN 1088 1119 31 x 4 m n) := by
  have e : lp (f_X12_put_s3 x) ((24 : Int32) - nI (8 * 0), putN 1088 1119 31 x 0 m n) = some (putN 1088 1119 31 x 4 m n) := by
    refine lp_for (fun j => ((24 : Int32) - nI (8 * j), putN 1088 1119 31 x j m n)) 4 0 (by decide) (fun j _ hj => ?_) ?_
    · unfold f_X12_put_s3
      dsimp only
      have e := putN_len (cb := 1119) (x := x) (by decide) h j
      rw [if_neg (m8n j hj), e, if_neg (gd_ok (by omega) (by decide)), cl_ok (by omega)]
      simp only [vl_s]
      rw [wI_ne (show 1088 ≠ 1119 by decide), e, m8 j hj, nI_1]
      rfl
    · unfold f_X12_put_s3
      dsimp only
      rw [if_pos (by decide +kernel)]
  unfold f_X12_put
  rw [show ((24 : Int32), m) = ((24 : Int32) - nI (8 * 0), putN 1088 1119 31 x 0 m n) from rfl, e]
  rfl
