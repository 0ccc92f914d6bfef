/-! PHASE 2: river, what a text tells is a river -/
theorem part_ok {n : Nat} {t : Nat → Nat} {c w e : Nat} {X : Bv} (hO : bO X) (hf : ¬ fullX c w X) (hw : w < 5) (h0 : c = 0 → X.1 1 1 = 0 ∧ X.1 1 2 = 0 ∧ X.1 1 3 = 0) (h1 : 0 < c → 2 ≤ X.1 1 0) {e' : Nat} {X' : Bv} (h : part n t w e X = .inr (e', X')) : bO X' ∧ e' ≤ n ∧ 2 ≤ X'.1 1 0 := by
  obtain ⟨⟨ov, r3, r4, r5, r6⟩, oa, z0, z1, z4⟩ := hO
  unfold fullX at hf
  have dead : ∀ {α : Type} {f : Nat} {x : α}, ¬ (Sum.inl f : Nat ⊕ α) = .inr x := fun z => by cases z
  unfold part at h
  rcases (show w = 0 ∨ w = 1 ∨ w = 2 ∨ w = 3 ∨ w = 4 by omega) with rfl | rfl | rfl | rfl | rfl
  · rw [if_pos rfl] at h
    have hc : c = 0 := by omega
    obtain ⟨k1, k2, k3⟩ := h0 hc
    cases ha : num n t e 2 99 with
    | inl f => rw [ha] at h; exact absurd h dead
    | inr a =>
      obtain ⟨v, e1⟩ := a
      rw [ha] at h
      have h : sbd (num n t e1 0 99) (fun b => Sum.inr (b.2, (s2 X.1 1 0 v, (X.2.1, X.2.2.1, nI b.1)))) = Sum.inr (e', X') := h
      cases hb : num n t e1 0 99 with
      | inl f => rw [hb] at h; exact absurd h dead
      | inr b =>
        obtain ⟨v2, e2⟩ := b
        rw [hb] at h
        have n1 := num_ok ha
        have n2 := num_ok hb
        have h : (Sum.inr (e2, (s2 X.1 1 0 v, (X.2.1, X.2.2.1, nI v2))) : Nat ⊕ (Nat × Bv)) = Sum.inr (e', X') := h
        have h := Sum.inr.inj h
        have q1 := (Prod.mk.inj h).1
        have q2 := (Prod.mk.inj h).2
        rw [← q1, ← q2]
        refine ⟨⟨⟨⟨?_, ov.2.1, ov.2.2.1, fun o ho => ?_, fun u hu => ov.2.2.2.2.1 u hu, fun k hk => ov.2.2.2.2.2 k hk⟩, r3, fun _ => ⟨k1, k2, k3⟩, fun k hk => ?_, fun k hk hn => r6 k hk hn⟩, ⟨by rw [z0 1]; exact Nat.zero_le _, oa.2⟩, z0, z1, z4⟩, n2.2.2.1, ?_⟩
        · show s2 X.1 1 0 v 1 0 ≤ 99
          rw [s2_at]; omega
        · have ho : o < X.1 1 1 := ho
          omega
        · have hk : k < X.1 1 3 := hk
          omega
        · show 2 ≤ s2 X.1 1 0 v 1 0
          rw [s2_at]; omega
  · rw [if_neg (by decide), if_pos rfl] at h
    have hm := h1 (by omega)
    cases ha : num n t e 1 (X.1 1 0) with
    | inl f => rw [ha] at h; exact absurd h dead
    | inr a =>
      obtain ⟨v, e1⟩ := a
      rw [ha] at h
      have h : sbd (num n t e1 0 20) (fun b => Sum.inr (b.2, (ownP X.1 v b.1, X.2))) = Sum.inr (e', X') := h
      cases hb : num n t e1 0 20 with
      | inl f => rw [hb] at h; exact absurd h dead
      | inr b =>
        obtain ⟨v2, e2⟩ := b
        rw [hb] at h
        have n1 := num_ok ha
        have n2 := num_ok hb
        have h : (Sum.inr (e2, (ownP X.1 v v2, X.2)) : Nat ⊕ (Nat × Bv)) = Sum.inr (e', X') := h
        have h := Sum.inr.inj h
        have q1 := (Prod.mk.inj h).1
        have q2 := (Prod.mk.inj h).2
        rw [← q1, ← q2]
        refine ⟨⟨⟨⟨ov.1, ?_, ov.2.2.1, fun o ho => ?_, fun u hu => ov.2.2.2.2.1 u hu, fun k hk => ov.2.2.2.2.2 k hk⟩, r3, fun z => ?_, fun k hk => r5 k hk, fun k hk hn => r6 k hk hn⟩, ⟨oa.1, oa.2.1, fun o ho => by rw [z1 o]; omega, fun u hu => ?_, fun k hk => oa.2.2.2.2 k hk⟩, z0, z1, z4⟩, n2.2.2.1, hm⟩
        · show X.1 1 1 + 1 ≤ 6
          omega
        · have ho : o < X.1 1 1 + 1 := ho
          show 1 ≤ ownP X.1 v v2 2 o ∧ ownP X.1 v v2 2 o ≤ ownP X.1 v v2 1 0 ∧ ownP X.1 v v2 3 o ≤ 20
          by_cases q : o = X.1 1 1
          · have e2' : ownP X.1 v v2 2 o = v := by rw [q]; simp [ownP, s2]
            have e3' : ownP X.1 v v2 3 o = v2 := by rw [q]; simp [ownP, s2]
            rw [e2', e3', show ownP X.1 v v2 1 0 = X.1 1 0 from rfl]
            omega
          · have e2' : ownP X.1 v v2 2 o = X.1 2 o := by simp [ownP, s2, q]
            have e3' : ownP X.1 v v2 3 o = X.1 3 o := by simp [ownP, s2, q]
            rw [e2', e3', show ownP X.1 v v2 1 0 = X.1 1 0 from rfl]
            exact ov.2.2.2.1 o (by omega)
        · have z : X.1 1 0 = 0 := z
          omega
        · have := oa.2.2.2.1 u hu
          exact ⟨Nat.lt_succ_of_lt this.1, this.2⟩
  · rw [if_neg (by decide), if_neg (by decide), if_pos rfl] at h
    have hm := h1 (by omega)
    cases ha : num n t e 0 ((X.1 1 1 : Int) - 1) with
    | inl f => rw [ha] at h; exact absurd h dead
    | inr a =>
      obtain ⟨v, e1⟩ := a
      rw [ha] at h
      have h : sbd (num n t e1 0 50) (fun b => sbd (num n t b.2 0 99) fun c => sbd (num n t c.2 0 9) fun d => Sum.inr (d.2, (thgP X.1 b.1 d.1, (thgA X.1 X.2.1 v c.1, X.2.2.1, X.2.2.2)))) = Sum.inr (e', X') := h
      cases hb : num n t e1 0 50 with
      | inl f => rw [hb] at h; exact absurd h dead
      | inr b =>
        obtain ⟨v2, e2⟩ := b
        rw [hb] at h
        have h : sbd (num n t e2 0 99) (fun c => sbd (num n t c.2 0 9) fun d => Sum.inr (d.2, (thgP X.1 v2 d.1, (thgA X.1 X.2.1 v c.1, X.2.2.1, X.2.2.2)))) = Sum.inr (e', X') := h
        cases hc : num n t e2 0 99 with
        | inl f => rw [hc] at h; exact absurd h dead
        | inr c3 =>
          obtain ⟨v3, e3⟩ := c3
          rw [hc] at h
          have h : sbd (num n t e3 0 9) (fun d => Sum.inr (d.2, (thgP X.1 v2 d.1, (thgA X.1 X.2.1 v v3, X.2.2.1, X.2.2.2)))) = Sum.inr (e', X') := h
          cases hd : num n t e3 0 9 with
          | inl f => rw [hd] at h; exact absurd h dead
          | inr d =>
            obtain ⟨v4, e4⟩ := d
            rw [hd] at h
            have n1 := num_ok ha
            have n2 := num_ok hb
            have n3 := num_ok hc
            have n4 := num_ok hd
            have h : (Sum.inr (e4, (thgP X.1 v2 v4, (thgA X.1 X.2.1 v v3, X.2.2.1, X.2.2.2))) : Nat ⊕ (Nat × Bv)) = Sum.inr (e', X') := h
            have h := Sum.inr.inj h
            have q1 := (Prod.mk.inj h).1
            have q2 := (Prod.mk.inj h).2
            rw [← q1, ← q2]
            refine ⟨⟨⟨⟨ov.1, ov.2.1, ?_, fun o ho => ov.2.2.2.1 o ho, fun u hu => ?_, fun k hk => ov.2.2.2.2.2 k hk⟩, r3, fun z => ?_, fun k hk => r5 k hk, fun k hk hn => r6 k hk hn⟩, ⟨by show thgA X.1 X.2.1 v v3 0 1 ≤ X.1 1 0; rw [show thgA X.1 X.2.1 v v3 0 1 = X.2.1 0 1 from rfl]; exact oa.1, oa.2.1, fun o ho => by show thgA X.1 X.2.1 v v3 1 o ≤ 2; rw [show thgA X.1 X.2.1 v v3 1 o = X.2.1 1 o from rfl, z1 o]; omega, fun u hu => ?_, fun k hk => ?_⟩, fun k => z0 k, fun o => z1 o, fun u => z4 u⟩, n4.2.2.1, hm⟩
            · show X.1 1 2 + 1 ≤ 8
              omega
            · have hu : u < X.1 1 2 + 1 := hu
              show thgP X.1 v2 v4 4 u ≤ 50 ∧ thgP X.1 v2 v4 5 u ≤ 9
              by_cases q : u = X.1 1 2
              · have e4' : thgP X.1 v2 v4 4 u = v2 := by rw [q]; simp [thgP, s2]
                have e5' : thgP X.1 v2 v4 5 u = v4 := by rw [q]; simp [thgP, s2]
                rw [e4', e5']
                omega
              · have e4' : thgP X.1 v2 v4 4 u = X.1 4 u := by simp [thgP, s2, q]
                have e5' : thgP X.1 v2 v4 5 u = X.1 5 u := by simp [thgP, s2, q]
                rw [e4', e5']
                exact ov.2.2.2.2.1 u (by omega)
            · have z : X.1 1 0 = 0 := z
              omega
            · have hu : u < X.1 1 2 + 1 := hu
              show thgA X.1 X.2.1 v v3 2 u < X.1 1 1 ∧ thgA X.1 X.2.1 v v3 3 u ≤ 99 ∧ thgA X.1 X.2.1 v v3 4 u ≤ 2
              rw [show thgA X.1 X.2.1 v v3 4 u = X.2.1 4 u from rfl, z4 u]
              by_cases q : u = X.1 1 2
              · have e2' : thgA X.1 X.2.1 v v3 2 u = v := by rw [q]; simp [thgA, s2]
                have e3' : thgA X.1 X.2.1 v v3 3 u = v3 := by rw [q]; simp [thgA, s2]
                rw [e2', e3']
                omega
              · have e2' : thgA X.1 X.2.1 v v3 2 u = X.2.1 2 u := by simp [thgA, s2, q]
                have e3' : thgA X.1 X.2.1 v v3 3 u = X.2.1 3 u := by simp [thgA, s2, q]
                rw [e2', e3']
                have := oa.2.2.2.1 u (by omega)
                omega
            · have := oa.2.2.2.2 k hk
              refine ⟨this.1, Nat.lt_succ_of_lt this.2.1, this.2.2.1, this.2.2.2.1, z4 _, z4 _⟩
  · rw [if_neg (by decide), if_neg (by decide), if_neg (by decide), if_pos rfl] at h
    have hm := h1 (by omega)
    cases ha : num n t e 0 ((X.1 1 2 : Int) - 1) with
    | inl f => rw [ha] at h; exact absurd h dead
    | inr a =>
      obtain ⟨v, e1⟩ := a
      rw [ha] at h
      have h : sbd (num n t e1 0 ((X.1 1 2 : Int) - 1)) (fun b => if b.1 = v ∨ pb (Bnd X.2.2.1 v b.1) = true then .inl (2 + 8 * bl n t e1) else sbd (num n t b.2 1 9) fun c => .inr (c.2, (X.1, (X.2.1, X.2.2.1 ++ [((if b.1 < v then b.1 else v), (if v < b.1 then b.1 else v), c.1)], X.2.2.2)))) = Sum.inr (e', X') := h
      cases hb : num n t e1 0 ((X.1 1 2 : Int) - 1) with
      | inl f => rw [hb] at h; exact absurd h dead
      | inr b =>
        obtain ⟨v2, e2⟩ := b
        rw [hb] at h
        have h : (if v2 = v ∨ pb (Bnd X.2.2.1 v v2) = true then .inl (2 + 8 * bl n t e1) else sbd (num n t e2 1 9) fun c => .inr (c.2, (X.1, (X.2.1, X.2.2.1 ++ [((if v2 < v then v2 else v), (if v < v2 then v2 else v), c.1)], X.2.2.2)))) = Sum.inr (e', X') := h
        by_cases c4 : v2 = v ∨ pb (Bnd X.2.2.1 v v2) = true
        · rw [if_pos c4] at h; exact absurd h dead
        · rw [if_neg c4] at h
          cases hc : num n t e2 1 9 with
          | inl f => rw [hc] at h; exact absurd h dead
          | inr c3 =>
            obtain ⟨v3, e3⟩ := c3
            rw [hc] at h
            have n1 := num_ok ha
            have n2 := num_ok hb
            have n3 := num_ok hc
            have h : (Sum.inr (e3, (X.1, (X.2.1, X.2.2.1 ++ [((if v2 < v then v2 else v), (if v < v2 then v2 else v), v3)], X.2.2.2))) : Nat ⊕ (Nat × Bv)) = Sum.inr (e', X') := h
            have h := Sum.inr.inj h
            have q1 := (Prod.mk.inj h).1
            have q2 := (Prod.mk.inj h).2
            rw [← q1, ← q2]
            have := tieR_ok (V := X.1) (R := X.2) oa (by omega) (a := v) (b := v2) (s := v3) ⟨by omega, z4 v⟩ ⟨by omega, z4 v2⟩ (fun z => c4 (Or.inl z.symm)) (by omega)
            exact ⟨⟨⟨ov, r3, r4, r5, r6⟩, this, z0, z1, z4⟩, n3.2.2.1, hm⟩
  · rw [if_neg (by decide), if_neg (by decide), if_neg (by decide), if_neg (by decide)] at h
    have hm := h1 (by omega)
    cases ha : num n t e 1 (X.1 1 0) with
    | inl f => rw [ha] at h; exact absurd h dead
    | inr a =>
      obtain ⟨v, e1⟩ := a
      rw [ha] at h
      have h : (if X.1 6 v = 0 then sbd (num n t e1 1 9) (fun b => Sum.inr (b.2, (rapP X.1 v b.1, X.2))) else .inl (2 + 8 * bl n t e)) = Sum.inr (e', X') := h
      by_cases c6 : X.1 6 v = 0
      · rw [if_pos c6] at h
        cases hb : num n t e1 1 9 with
        | inl f => rw [hb] at h; exact absurd h dead
        | inr b =>
          obtain ⟨v2, e2⟩ := b
          rw [hb] at h
          have n1 := num_ok ha
          have n2 := num_ok hb
          have h : (Sum.inr (e2, (rapP X.1 v v2, X.2)) : Nat ⊕ (Nat × Bv)) = Sum.inr (e', X') := h
          have h := Sum.inr.inj h
          have q1 := (Prod.mk.inj h).1
          have q2 := (Prod.mk.inj h).2
          rw [← q1, ← q2]
          have e6 : ∀ k, rapP X.1 v v2 6 k = if k = v then v2 else X.1 6 k := fun k => by simp [rapP, s2]
          have e7 : ∀ k, rapP X.1 v v2 7 k = if k = X.1 1 3 then v else X.1 7 k := fun k => by simp [rapP, s2]
          have e8 : ∀ k, rapP X.1 v v2 8 k = if k = X.1 1 3 then v2 else X.1 8 k := fun k => by simp [rapP, s2]
          refine ⟨⟨⟨⟨ov.1, ov.2.1, ov.2.2.1, fun o ho => ov.2.2.2.1 o ho, fun u hu => ov.2.2.2.2.1 u hu, fun k hk => ?_⟩, ?_, fun z => ?_, fun k hk => ?_, fun k hk hn => ?_⟩, oa, z0, z1, z4⟩, n2.2.2.1, hm⟩
          · show rapP X.1 v v2 6 k ≤ 9
            rw [e6 k]
            have := ov.2.2.2.2.2 k hk
            split <;> omega
          · show X.1 1 3 + 1 ≤ 6
            omega
          · have z : X.1 1 0 = 0 := z
            omega
          · have hk : k < X.1 1 3 + 1 := hk
            show 1 ≤ rapP X.1 v v2 7 k ∧ rapP X.1 v v2 7 k ≤ X.1 1 0 ∧ 1 ≤ rapP X.1 v v2 8 k ∧ rapP X.1 v v2 6 (rapP X.1 v v2 7 k) = rapP X.1 v v2 8 k ∧ ∀ j, j < k → ¬ rapP X.1 v v2 7 j = rapP X.1 v v2 7 k
            rw [e7 k, e8 k]
            by_cases q : k = X.1 1 3
            · rw [if_pos q, if_pos q, e6 v, if_pos rfl]
              refine ⟨by omega, by omega, by omega, rfl, fun j hj => ?_⟩
              rw [e7 j, if_neg (by omega)]
              intro z
              have := r5 j (by omega)
              rw [z, c6] at this
              omega
            · have r := r5 k (by omega)
              rw [if_neg q, if_neg q, e6 (X.1 7 k)]
              have hne : ¬ X.1 7 k = v := fun z => by
                rw [z, c6] at r
                omega
              rw [if_neg hne]
              refine ⟨r.1, r.2.1, r.2.2.1, r.2.2.2.1, fun j hj => ?_⟩
              rw [e7 j, if_neg (by omega)]
              exact r.2.2.2.2 j hj
          · show rapP X.1 v v2 6 k = 0
            rw [e6 k]
            have hk3 : ¬ rapP X.1 v v2 7 (X.1 1 3) = k := hn (X.1 1 3) (by show X.1 1 3 < X.1 1 3 + 1; omega)
            rw [e7, if_pos rfl] at hk3
            rw [if_neg (fun z => hk3 z.symm)]
            refine r6 k hk (fun j hj => ?_)
            have : ¬ rapP X.1 v v2 7 j = k := hn j (by show j < X.1 1 3 + 1; omega)
            rw [e7 j, if_neg (by omega)] at this
            exact this
      · rw [if_neg c6] at h; exact absurd h dead
theorem clause_ok {n : Nat} {t : Nat → Nat} {c i : Nat} {X : Bv} (hO : bO X) (h0 : c = 0 → X.1 1 1 = 0 ∧ X.1 1 2 = 0 ∧ X.1 1 3 = 0) (h1 : 0 < c → 2 ≤ X.1 1 0) {e' : Nat} {X' : Bv} (h : clause n t c i X = .inr (e', X')) : bO X' ∧ e' ≤ n ∧ 2 ≤ X'.1 1 0 ∧ ¬ c = 40 := by
  unfold clause at h
  cases hf : fw n t (bl n t i) (wl 0) 0 with
  | none => rw [hf] at h; cases h
  | some w =>
    rw [hf] at h
    have hw5 : w < 5 := by
      have := (fw_lt _ _ _ hf).2
      have e : (wl 0).length = 5 := rfl
      omega
    have h : (if pb (fullX c w X) = true then .inl (5 + 8 * bl n t i) else part n t w (lte n t (bl n t i)) X) = Sum.inr (e', X') := h
    by_cases q : fullX c w X
    · rw [if_pos (pb_t q)] at h; cases h
    · rw [pb_f q, if_neg (by decide)] at h
      obtain ⟨a, b, d⟩ := part_ok hO q hw5 h0 h1 h
      exact ⟨a, b, d, fun z => q (Or.inl z)⟩
