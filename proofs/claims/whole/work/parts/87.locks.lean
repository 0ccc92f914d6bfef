/-! PHASE 2: locks, the search -/
def us : List Nat → Nat
  | [] => 0
  | l :: p => if us p ≤ l then l + 1 else us p
/-- rows are told with the last thing first -/
def ld (W : Nat → Nat) : List Nat → Nat → Nat
  | [], _ => 0
  | a :: p, l => ld W p l + (if a = l then W p.length else 0)
abbrev Bt : Type := Option (Nat × List Nat)
def bc : Bt → Nat
  | none => 9
  | some c => c.1
def fo (f : List Nat → Bt → Bt) (W : Nat → Nat) (room : Nat) (pre : List Nat) : Nat → Nat → Bt → Bt
  | 0, _, b => b
  | k + 1, l, b => fo f W room pre k (l + 1) (if ld W pre l + W pre.length ≤ room then f (l :: pre) b else b)
def go (W : Nat → Nat) (room : Nat) : Nat → List Nat → Bt → Bt
  | 0, pre, b => if us pre < bc b then some (us pre, pre) else b
  | r + 1, pre, b => if us pre < bc b then fo (go W room r) W room pre (us pre + 1) 0 b else b
theorem go_prune {W : Nat → Nat} {room : Nat} {pre : List Nat} {b : Bt} (h : bc b ≤ us pre) : ∀ r, go W room r pre b = b
  | 0 => by
    unfold go
    rw [if_neg (by omega)]
  | r + 1 => by
    unfold go
    rw [if_neg (by omega)]
theorem us_cons (l : Nat) (p : List Nat) : us (l :: p) = if us p ≤ l then l + 1 else us p := rfl
theorem us_mono {p : List Nat} {l k : Nat} (h : l ≤ k) : us (l :: p) ≤ us (k :: p) := by
  rw [us_cons, us_cons]
  split <;> split <;> omega
theorem us_ge (l : Nat) (p : List Nat) : us p ≤ us (l :: p) := by
  rw [us_cons]
  split <;> omega
theorem us_len : ∀ p : List Nat, us p ≤ p.length + (p.foldr max 0) + 1 := by
  intro p
  induction p with
  | nil => exact Nat.zero_le _
  | cons l p ih =>
    rw [us_cons]
    simp only [List.length_cons, List.foldr_cons]
    have h1 := Nat.le_max_left l (p.foldr max 0)
    have h2 := Nat.le_max_right l (p.foldr max 0)
    split <;> omega
theorem fo_prune {W : Nat → Nat} {room r : Nat} {pre : List Nat} {b : Bt} : ∀ k l, bc b ≤ us (l :: pre) → fo (go W room r) W room pre k l b = b
  | 0, l, h => rfl
  | k + 1, l, h => by
    show fo (go W room r) W room pre k (l + 1) (if ld W pre l + W pre.length ≤ room then go W room r (l :: pre) b else b) = b
    rw [go_prune h]
    have : (if ld W pre l + W pre.length ≤ room then b else b) = b := by split <;> rfl
    rw [this]
    exact fo_prune k (l + 1) (Nat.le_trans h (us_mono (by omega)))
/-- a step that does not fit -/
theorem fo_skip {f : List Nat → Bt → Bt} {W : Nat → Nat} {room : Nat} {pre : List Nat} {b : Bt} {k l : Nat} (h : ¬ ld W pre l + W pre.length ≤ room) : fo f W room pre (k + 1) l b = fo f W room pre k (l + 1) b := by
  show fo f W room pre k (l + 1) (if ld W pre l + W pre.length ≤ room then f (l :: pre) b else b) = _
  rw [if_neg h]
theorem fo_fit {f : List Nat → Bt → Bt} {W : Nat → Nat} {room : Nat} {pre : List Nat} {b : Bt} {k l : Nat} (h : ld W pre l + W pre.length ≤ room) : fo f W room pre (k + 1) l b = fo f W room pre k (l + 1) (f (l :: pre) b) := by
  show fo f W room pre k (l + 1) (if ld W pre l + W pre.length ≤ room then f (l :: pre) b else b) = _
  rw [if_pos h]
/-- rows as the searches make them: each lock is one that is used, or the next -/
def okP : List Nat → Prop
  | [] => True
  | l :: p => l ≤ us p ∧ okP p
theorem us_le {p : List Nat} (h : okP p) : us p ≤ p.length := by
  induction p with
  | nil => exact Nat.le_refl _
  | cons l p ih =>
    have := ih h.2
    have h1 := h.1
    rw [us_cons, List.length_cons]
    split <;> omega
theorem ld_new {W : Nat → Nat} {p : List Nat} {l : Nat} (h : us p ≤ l) : ld W p l = 0 := by
  induction p with
  | nil => rfl
  | cons a p ih =>
    show ld W p l + (if a = l then W p.length else 0) = 0
    rw [us_cons] at h
    have ha : us p ≤ l ∧ ¬ a = l := by
      by_cases c : us p ≤ a
      · rw [if_pos c] at h; omega
      · rw [if_neg c] at h; omega
    rw [ih ha.1, if_neg ha.2]
theorem ld_le {W : Nat → Nat} (hW : ∀ i, W i ≤ 50) (l : Nat) : ∀ p : List Nat, ld W p l ≤ 50 * p.length
  | [] => Nat.le_refl _
  | a :: p => by
    have h1 := ld_le hW l p
    have h2 := hW p.length
    show ld W p l + (if a = l then W p.length else 0) ≤ 50 * (p.length + 1)
    split <;> omega
/-- a best row is one of all things -/
def okB (n : Nat) : Bt → Prop
  | none => True
  | some c => c.1 ≤ 8 ∧ c.2.length = n ∧ okP c.2
theorem fo_ok {f : List Nat → Bt → Bt} {W : Nat → Nat} {room n : Nat} {pre : List Nat} (hf : ∀ l b, l ≤ us pre → okB n b → okB n (f (l :: pre) b)) : ∀ k l b, l + k ≤ us pre + 1 → okB n b → okB n (fo f W room pre k l b)
  | 0, l, b, _, h => h
  | k + 1, l, b, hl, h => by
    refine fo_ok hf k (l + 1) _ (by omega) ?_
    split
    · exact hf l b (by omega) h
    · exact h
theorem lgo_ok {W : Nat → Nat} {room n : Nat} (hn : n ≤ 8) : ∀ r pre b, pre.length + r = n → okP pre → okB n b → okB n (go W room r pre b)
  | 0, pre, b, hl, hp, hb => by
    unfold go
    have := us_le hp
    split
    · exact ⟨by show us pre ≤ 8; omega, by show pre.length = n; omega, hp⟩
    · exact hb
  | r + 1, pre, b, hl, hp, hb => by
    unfold go
    split
    · exact fo_ok (fun l b h1 h2 => lgo_ok hn r (l :: pre) b (by rw [List.length_cons]; omega) ⟨h1, hp⟩ h2) _ _ _ (by omega) hb
    · exact hb
/-- one that weighs too much: there is no way -/
theorem fo_bad {f : List Nat → Bt → Bt} {W : Nat → Nat} {room : Nat} {pre : List Nat} (hf : room < W pre.length ∨ ∀ l b, f (l :: pre) b = b) : ∀ k l b, fo f W room pre k l b = b
  | 0, _, _ => rfl
  | k + 1, l, b => by
    show fo f W room pre k (l + 1) (if ld W pre l + W pre.length ≤ room then f (l :: pre) b else b) = b
    have : (if ld W pre l + W pre.length ≤ room then f (l :: pre) b else b) = b := by
      rcases hf with h | h
      · rw [if_neg (by omega)]
      · rw [h]; split <;> rfl
    rw [this]
    exact fo_bad hf k (l + 1) b
theorem go_bad {W : Nat → Nat} {room n j : Nat} (hj : j < n) (hw : room < W j) : ∀ r pre b, pre.length + r = n → pre.length ≤ j → go W room r pre b = b
  | 0, pre, b, hl, h => absurd h (by omega)
  | r + 1, pre, b, hl, h => by
    unfold go
    split
    · refine fo_bad ?_ _ _ _
      by_cases c : pre.length = j
      · exact Or.inl (by rw [c]; exact hw)
      · exact Or.inr (fun l b => go_bad hj hw r (l :: pre) b (by rw [List.length_cons]; omega) (by rw [List.length_cons]; omega))
    · rfl
/-- else there is one -/
theorem fo_some {f : List Nat → Bt → Bt} {W : Nat → Nat} {room : Nat} {pre : List Nat} (hf : ∀ l b, b.isSome = true → (f (l :: pre) b).isSome = true) : ∀ k l b, b.isSome = true → (fo f W room pre k l b).isSome = true
  | 0, _, _, h => h
  | k + 1, l, b, h => by
    refine fo_some hf k (l + 1) _ ?_
    split
    · exact hf l b h
    · exact h
theorem go_some {W : Nat → Nat} {room : Nat} : ∀ r pre b, b.isSome = true → (go W room r pre b).isSome = true
  | 0, pre, b, h => by
    unfold go
    split
    · rfl
    · exact h
  | r + 1, pre, b, h => by
    unfold go
    split
    · exact fo_some (fun l b h => go_some r (l :: pre) b h) _ _ _ h
    · exact h
theorem fo_hit {f : List Nat → Bt → Bt} {W : Nat → Nat} {room : Nat} {pre : List Nat} {j : Nat} (hf : ∀ l b, b.isSome = true → (f (l :: pre) b).isSome = true) (hj : ld W pre j + W pre.length ≤ room) (hn : (f (j :: pre) none).isSome = true) : ∀ k l b, l ≤ j → j < l + k → (fo f W room pre k l b).isSome = true
  | 0, l, b, h1, h2 => absurd h2 (by omega)
  | k + 1, l, b, h1, h2 => by
    by_cases c : l = j
    · rw [c, fo_fit hj]
      refine fo_some hf _ _ _ ?_
      cases b with
      | none => exact hn
      | some x => exact hf _ _ rfl
    · exact fo_hit hf hj hn k (l + 1) _ (by omega) (by omega)
theorem go_good {W : Nat → Nat} {room n : Nat} (hn : n ≤ 8) (hw : ∀ j, j < n → W j ≤ room) : ∀ r pre, pre.length + r = n → okP pre → (go W room r pre none).isSome = true
  | 0, pre, hl, hp => by
    have := us_le hp
    unfold go
    rw [if_pos (show us pre < bc none from (by show us pre < 9; omega))]
    rfl
  | r + 1, pre, hl, hp => by
    have := us_le hp
    unfold go
    rw [if_pos (show us pre < bc none from (by show us pre < 9; omega))]
    refine fo_hit (j := us pre) (fun l b h => go_some r (l :: pre) b h) ?_ (go_good hn hw r (us pre :: pre) (by rw [List.length_cons]; omega) ⟨Nat.le_refl _, hp⟩) _ _ _ (Nat.zero_le _) (by omega)
    rw [ld_new (Nat.le_refl _), Nat.zero_add]
    exact hw _ (by omega)
