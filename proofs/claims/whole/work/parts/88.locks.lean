/-! PHASE 2: locks, the class's side -/
def af (V A : Dat) (t : Nat) : Bool := decide (t < V 1 2 ∧ A 4 t = 0)
def ix (V A : Dat) (t : Nat) : Nat := cnt (af V A) t
theorem ix_su (V A : Dat) (t : Nat) : ix V A (t + 1) = if af V A t then ix V A t + 1 else ix V A t := rfl
theorem ix_mono (V A : Dat) {t : Nat} : ∀ d, ix V A t ≤ ix V A (t + d)
  | 0 => Nat.le_refl _
  | d + 1 => by
    have := ix_mono V A (t := t) d
    rw [← Nat.add_assoc, ix_su]
    split <;> omega
theorem ix_lt {V A : Dat} {u t : Nat} (h : u < t) (ha : af V A u = true) : ix V A u < ix V A t := by
  have h1 := ix_mono V A (t := u + 1) (t - (u + 1))
  rw [show u + 1 + (t - (u + 1)) = t by omega, ix_su, if_pos ha] at h1
  omega
theorem ix_le (V A : Dat) (t : Nat) : ix V A t ≤ t := cnt_le _ _
def thI (V A : Dat) (i : Nat) : Nat := frst (fun t => af V A t && decide (ix V A t = i)) 8
theorem thI_ix {V A : Dat} {t : Nat} (ht : t < 8) (ha : af V A t = true) : thI V A (ix V A t) = t := by
  obtain ⟨k1, k2, k3⟩ := frst_ok 8 (fun u => af V A u && decide (ix V A u = ix V A t))
  have hk : thI V A (ix V A t) = frst (fun u => af V A u && decide (ix V A u = ix V A t)) 8 := rfl
  rw [← hk] at k1 k2 k3
  by_cases c : t < thI V A (ix V A t)
  · have := k2 t c
    rw [ha, decide_eq_true rfl] at this
    exact absurd this (by decide)
  · by_cases d : thI V A (ix V A t) < t
    · have := k3 (by omega)
      rw [Bool.and_eq_true, decide_eq_true_iff] at this
      have := ix_lt d this.1
      omega
    · omega
def wtI (V A : Dat) (i : Nat) : Nat := if thI V A i < V 1 2 then V 4 (thI V A i) else 0
theorem wtI_le {V A : Dat} (ov : RvOk V) (i : Nat) : wtI V A i ≤ 50 := by
  unfold wtI
  split
  · exact (ov.2.2.2.2.1 _ ‹_›).1
  · omega
theorem af_iff {V A : Dat} {t : Nat} : af V A t = true ↔ t < V 1 2 ∧ A 4 t = 0 := decide_eq_true_iff
theorem wtI_ix {V A : Dat} (ov : RvOk V) {t : Nat} (ha : af V A t = true) : wtI V A (ix V A t) = V 4 t := by
  have h := af_iff.mp ha
  have h8 := ov.2.2.1
  unfold wtI
  rw [thI_ix (by omega) ha, if_pos h.1]
def gt' : List Nat → Nat → Nat
  | [], _ => 0
  | l :: p, i => if i = p.length then l else gt' p i
theorem gt_lt {l : Nat} {p : List Nat} {i : Nat} (h : i < p.length) : gt' (l :: p) i = gt' p i := if_neg (by omega)
theorem gt_at {l : Nat} {p : List Nat} : gt' (l :: p) p.length = l := if_pos rfl
def wayOk (m : Mm) (V A : Dat) (pre : List Nat) (t : Nat) : Prop := ∀ u, u < t → m.1 240 u = if af V A u then nI (gt' pre (ix V A u)) else -1
def bOk (m : Mm) (V A : Dat) (b : Bt) : Prop := m.1 238 2 = nI (bc b) ∧ ∀ c, b = some c → ∀ u, u < 8 → m.1 239 u = if af V A u then nI (gt' c.2 (ix V A u)) else -1
def ldOk (m : Mm) (V A : Dat) (pre : List Nat) : Prop := ∀ l, l < 8 → m.1 241 l = nI (ld (wtI V A) pre l)
def fr4 (m m1 : Mm) : Prop := (∀ i, ¬ i = 238 → ¬ i = 239 → ¬ i = 240 → ¬ i = 241 → m1.1 i = m.1 i) ∧ m1.1 238 1 = m.1 238 1
theorem fr4.tr {a b c : Mm} (h1 : fr4 a b) (h2 : fr4 b c) : fr4 a c := ⟨fun i i1 i2 i3 i4 => (h2.1 i i1 i2 i3 i4).trans (h1.1 i i1 i2 i3 i4), h2.2.trans h1.2⟩
theorem bc_le {n : Nat} {b : Bt} (h : okB n b) : bc b ≤ 9 := by
  cases b with
  | none => exact Nat.le_refl _
  | some c => have := h.1; show c.1 ≤ 9; omega
theorem putFrom_c {V A : Dat} (ov : RvOk V) {room : Nat} (hroom : room ≤ 200) : ∀ (d t : Nat), t ≤ 8 → 9 ≤ d + t → ∀ (m : Mm) (pre : List Nat) (b : Bt), m.1 27 2 = nI (V 1 2) → (∀ u, u < V 1 2 → m.1 37 u = nI (A 4 u) ∧ A 4 u ≤ 2 ∧ m.1 30 u = nI (V 4 u)) → m.1 238 1 = nI room → bOk m V A b → ldOk m V A pre → wayOk m V A pre t → pre.length = ix V A t → okP pre → okB (ix V A 8) b → ∃ m1, fd_X0_putFrom d m (nI t) (nI (us pre)) = some m1 ∧ bOk m1 V A (go (wtI V A) room (ix V A 8 - ix V A t) pre b) ∧ ldOk m1 V A pre ∧ wayOk m1 V A pre t ∧ fr4 m m1
  | 0, t, ht, hdt => absurd hdt (by omega)
  | d + 1, t, ht, hdt => by
    intro m pre b h27 h3 h1 hb hl hw hlen hp hob
    have h8 := ov.2.2.1
    have hus := us_le hp
    have hbc := bc_le hob
    have hixt := ix_le V A t
    show ∃ m1, f_X0_putFrom_b (fd_X0_putFrom d) m (nI t) (nI (us pre)) = some m1 ∧ _
    unfold f_X0_putFrom_b
    rw [hb.1]
    by_cases c0 : us pre < bc b
    · rw [if_pos (by rw [sN_lt (by omega) (by omega)]; exact c0), K8]
      by_cases c1 : t < 8
      · rw [if_pos (by rw [sN_lt (by omega) (by decide)]; exact c1), h27]
        have hix8 := ix_mono V A (t := t + 1) (8 - (t + 1))
        rw [show t + 1 + (8 - (t + 1)) = 8 by omega] at hix8
        have nopart : af V A t = false → ∃ m1, f_X0_putFrom_j62 (fd_X0_putFrom d) m (nI t) (nI (us pre)) = some m1 ∧ bOk m1 V A (go (wtI V A) room (ix V A 8 - ix V A t) pre b) ∧ ldOk m1 V A pre ∧ wayOk m1 V A pre t ∧ fr4 m m1 := fun hna => by
          have eix : ix V A (t + 1) = ix V A t := by rw [ix_su, hna, if_neg (by decide)]
          obtain ⟨m1, e1, g1, g2, g3, g4⟩ := putFrom_c ov hroom d (t + 1) (by omega) (by omega) (wI m 240 t (-1)) pre b (by rw [wI_ne (by decide)]; exact h27) (fun u hu => by rw [wI_ne (by decide), wI_ne (by decide)]; exact h3 u hu) (by rw [wI_ne (by decide)]; exact h1) ⟨by rw [wI_ne (by decide)]; exact hb.1, fun c hc u hu => by rw [wI_ne (by decide)]; exact hb.2 c hc u hu⟩ (fun l hl' => by rw [wI_ne (by decide)]; exact hl l hl') (fun u hu => by
            by_cases q : u = t
            · rw [q, wI_at, hna, if_neg (by decide)]
            · rw [wI_pl q]; exact hw u (by omega)) (by rw [hlen, eix]) hp hob
          refine ⟨m1, ?_, by rw [← eix]; exact g1, g2, fun u hu => g3 u (by omega), fun i i1 i2 i3 i4 => by rw [g4.1 i i1 i2 i3 i4, wI_ne i3], by rw [g4.2, wI_ne (by decide)]⟩
          unfold f_X0_putFrom_j62
          rw [if_neg (gd_ok c1 (by decide)), cl_ok (by omega), vl_s, sN_a1, e1, bi1_s]
        by_cases c2 : V 1 2 ≤ t
        · rw [if_pos (by rw [sN_le (by omega) (by omega)]; exact c2)]
          exact nopart (decide_eq_false (fun z => by omega))
        · rw [if_neg (by rw [sN_le (by omega) (by omega)]; exact c2), if_neg (gd_ok c1 (by decide)), cl_ok (by omega)]
          obtain ⟨h37, h4b, h30⟩ := h3 t (by omega)
          rw [h37]
          by_cases c3 : A 4 t = 0
          · have haf : af V A t = true := af_iff.mpr ⟨by omega, c3⟩
            have eix : ix V A (t + 1) = ix V A t + 1 := by rw [ix_su, if_pos haf]
            have hwt : wtI V A pre.length = V 4 t := by rw [hlen, wtI_ix ov haf]
            have hw50 := (ov.2.2.2.2.1 t (by omega)).1
            obtain ⟨r, hr⟩ : ∃ r, ix V A 8 - ix V A t = r + 1 := ⟨ix V A 8 - ix V A t - 1, by omega⟩
            have hr2 : ix V A 8 - ix V A (t + 1) = r := by omega
            rw [if_pos (by rw [c3]; rfl), if_neg (show ¬ (nI t < 0 ∨ 8 ≤ t) from fun z => z.elim (nI_nn t (by omega)) (fun y => by omega)), h30, vl_s, hr]
            have hx : ∃ w, lp (f_X0_putFrom_s94 (fd_X0_putFrom d) (nI t) (nI (us pre)) (nI (V 4 t))) ((0 : Int32), m) = some w ∧ bOk w V A (fo (go (wtI V A) room r) (wtI V A) room pre (us pre + 1) 0 b) ∧ ldOk w V A pre ∧ wayOk w V A pre t ∧ fr4 m w := by
              refine lp_inv (fun l x => ∃ w b', x = (nI l, w) ∧ fo (go (wtI V A) room r) (wtI V A) room pre (us pre + 1) 0 b = fo (go (wtI V A) room r) (wtI V A) room pre (us pre + 1 - l) l b' ∧ okB (ix V A 8) b' ∧ bOk w V A b' ∧ ldOk w V A pre ∧ wayOk w V A pre t ∧ fr4 m w) _ (us pre + 1) (fun l x hlx hx => ?_) (fun x hx => ?_) 0 _ (Nat.zero_le _) ⟨m, b, rfl, rfl, hob, hb, hl, hw, fun _ _ _ _ _ => rfl, rfl⟩
              · obtain ⟨w, b', rfl, w0, w1, w2, w3, w4, w5⟩ := hx
                have hl8 : l < 8 := by omega
                have ell := w3 l hl8
                have hldl := ld_le (wtI_le (A := A) ov) l pre
                unfold f_X0_putFrom_s94
                dsimp only
                rw [if_neg (by rw [sN_lt (by omega) (by omega)]; omega), K8, if_neg (by rw [sN_le (by decide) (by omega)]; omega), if_neg (gd_ok hl8 (by decide)), cl_ok (by omega), ell, w5.2, h1, sN_ad]
                rw [show us pre + 1 - l = (us pre - l) + 1 by omega] at w0
                by_cases c4 : ld (wtI V A) pre l + V 4 t ≤ room
                · have hfit : ld (wtI V A) pre l + wtI V A pre.length ≤ room := by rw [hwt]; exact c4
                  rw [fo_fit hfit] at w0
                  rw [if_neg (by rw [sN_lt (by omega) (by omega)]; omega)]
                  obtain ⟨m2, hm2⟩ : ∃ m2, m2 = wI (wI w 241 l (nI (ld (wtI V A) pre l + V 4 t))) 240 t (nI l) := ⟨_, rfl⟩
                  have f2 : ∀ i, ¬ i = 240 → ¬ i = 241 → m2.1 i = w.1 i := fun i i1 i2 => by rw [hm2, wI_ne i1, wI_ne i2]
                  have hokc : okP (l :: pre) := ⟨by omega, hp⟩
                  have eus : (if nI (us pre) < nI l + 1 then nI l + 1 else nI (us pre)) = nI (us (l :: pre)) := by
                    rw [us_cons, sN_a1]
                    by_cases q : us pre ≤ l
                    · rw [if_pos q, if_pos (by rw [sN_lt (by omega) (by omega)]; omega)]
                    · rw [if_neg q, if_neg (by rw [sN_lt (by omega) (by omega)]; omega)]
                  obtain ⟨m3, e3, g1, g2, g3, g4⟩ := putFrom_c ov hroom d (t + 1) (by omega) (by omega) m2 (l :: pre) b' (by rw [f2 27 (by decide) (by decide), w5.1 27 (by decide) (by decide) (by decide) (by decide)]; exact h27) (fun u hu => by rw [f2 37 (by decide) (by decide), f2 30 (by decide) (by decide), w5.1 37 (by decide) (by decide) (by decide) (by decide), w5.1 30 (by decide) (by decide) (by decide) (by decide)]; exact h3 u hu) (by rw [f2 238 (by decide) (by decide), w5.2]; exact h1) ⟨by rw [f2 238 (by decide) (by decide)]; exact w2.1, fun c hc u hu => by rw [f2 239 (by decide) (by decide)]; exact w2.2 c hc u hu⟩ (fun l' hl' => by
                      rw [hm2, wI_ne (by decide), wI_sm]
                      show _ = nI (ld (wtI V A) pre l' + (if l = l' then wtI V A pre.length else 0))
                      by_cases q : l' = l
                      · rw [if_pos q, if_pos q.symm, hwt, q]
                      · rw [if_neg q, if_neg (fun z => q z.symm), Nat.add_zero]; exact w3 l' hl') (fun u hu => by
                      by_cases q : u = t
                      · rw [hm2, q, wI_at, haf, if_pos rfl, ← hlen, gt_at]
                      · rw [hm2, wI_pl q, wI_ne (by decide), w4 u (by omega)]
                        by_cases qa : af V A u = true
                        · rw [if_pos qa, if_pos qa, gt_lt (by rw [hlen]; exact ix_lt (by omega) qa)]
                        · rw [if_neg qa, if_neg qa]) (by rw [List.length_cons, hlen, eix]) hokc w1
                  rw [hr2] at g1
                  have e241 : m3.1 241 l - nI (V 4 t) = nI (ld (wtI V A) pre l) := by
                    rw [g2 l hl8]
                    show nI (ld (wtI V A) pre l + (if l = l then wtI V A pre.length else 0)) - _ = _
                    rw [if_pos rfl, hwt, nI_sub' (by omega), show ld (wtI V A) pre l + V 4 t - V 4 t = ld (wtI V A) pre l by omega]
                  refine ⟨(nI (l + 1), wI m3 241 l (nI (ld (wtI V A) pre l))), ?_, _, go (wtI V A) room r (l :: pre) b', rfl, ?_, lgo_ok (by have := ix_le V A 8; omega) r (l :: pre) b' (by rw [List.length_cons, hlen]; omega) hokc w1, ?_, fun l' hl' => ?_, fun u hu => ?_, ?_⟩
                  · rw [if_neg (show ¬ (nI l < 0 ∨ 8 ≤ l) from fun z => z.elim (nI_nn l (by omega)) (fun y => by omega)), if_neg (show ¬ (nI l < 0 ∨ 8 ≤ l) from fun z => z.elim (nI_nn l (by omega)) (fun y => by omega)), vl_s, if_neg (gd_ok c1 (by decide)), cl_ok (by omega), vl_s, ← hm2, eus, sN_a1, e3, bi1_s, if_neg (show ¬ (nI l < 0 ∨ 8 ≤ l) from fun z => z.elim (nI_nn l (by omega)) (fun y => by omega)), if_neg (show ¬ (nI l < 0 ∨ 8 ≤ l) from fun z => z.elim (nI_nn l (by omega)) (fun y => by omega)), vl_s, e241, sN_a1]
                  · rw [show us pre + 1 - (l + 1) = us pre - l by omega]; exact w0
                  · exact ⟨by rw [wI_ne (by decide)]; exact g1.1, fun c hc u hu => by rw [wI_ne (by decide)]; exact g1.2 c hc u hu⟩
                  · rw [wI_sm]
                    by_cases q : l' = l
                    · rw [if_pos q, q]
                    · rw [if_neg q, g2 l' hl']
                      show nI (ld (wtI V A) pre l' + (if l = l' then wtI V A pre.length else 0)) = _
                      rw [if_neg (fun z => q z.symm), Nat.add_zero]
                  · rw [wI_ne (by decide), g3 u (by omega)]
                    by_cases qa : af V A u = true
                    · rw [if_pos qa, if_pos qa, gt_lt (by rw [hlen]; exact ix_lt hu qa)]
                    · rw [if_neg qa, if_neg qa]
                  · refine w5.tr ⟨fun i i1 i2 i3 i4 => ?_, ?_⟩
                    · rw [wI_ne i4, g4.1 i i1 i2 i3 i4, f2 i i3 i4]
                    · rw [wI_ne (by decide), g4.2, f2 238 (by decide) (by decide)]
                · have hfit : ¬ ld (wtI V A) pre l + wtI V A pre.length ≤ room := by rw [hwt]; exact c4
                  rw [fo_skip hfit] at w0
                  rw [if_pos (by rw [sN_lt (by omega) (by omega)]; omega)]
                  exact ⟨_, rfl, w, b', by rw [sN_a1], by rw [show us pre + 1 - (l + 1) = us pre - l by omega]; exact w0, w1, w2, w3, w4, w5⟩
              · obtain ⟨w, b', rfl, w0, w1, w2, w3, w4, w5⟩ := hx
                refine ⟨w, ?_, ?_, w3, w4, w5⟩
                · unfold f_X0_putFrom_s94
                  dsimp only
                  rw [if_pos (by rw [sN_lt (by omega) (by omega)]; omega)]
                · rw [w0, Nat.sub_self]
                  exact w2
            obtain ⟨w, e, g1, g2, g3, g4⟩ := hx
            refine ⟨w, by rw [e, bi1_s], ?_, g2, g3, g4⟩
            have : go (wtI V A) room (r + 1) pre b = fo (go (wtI V A) room r) (wtI V A) room pre (us pre + 1) 0 b := by
              show (if us pre < bc b then _ else b) = _
              rw [if_pos c0]
            rw [this]
            exact g1
          · rw [if_neg (by rw [sN_eq0 (by omega)]; exact c3)]
            exact nopart (decide_eq_false (fun z => c3 z.2))
      · have e8 : t = 8 := by omega
        subst e8
        rw [if_neg (by rw [sN_lt (by decide) (by decide)]; omega), vl_s, vl_s, Nat.sub_self]
        have eg : go (wtI V A) room 0 pre b = some (us pre, pre) := by
          show (if us pre < bc b then _ else b) = _
          rw [if_pos c0]
        rw [eg]
        refine ⟨_, rfl, ⟨?_, fun c hc u hu => ?_⟩, fun l hl' => ?_, fun u hu => ?_, fun i i1 i2 i3 i4 => ?_, ?_⟩
        · rw [wA_ne (by decide), wI_at]; rfl
        · have := Option.some.inj hc
          rw [← this, wA_at, cpy0 hu, wI_ne (by decide)]
          exact hw u hu
        · rw [wA_ne (by decide), wI_ne (by decide)]; exact hl l hl'
        · rw [wA_ne (by decide), wI_ne (by decide)]; exact hw u hu
        · rw [wA_ne i2, wI_ne i1]
        · rw [wA_ne (by decide), wI_pl (by decide)]
    · rw [if_neg (by rw [sN_lt (by omega) (by omega)]; exact c0), go_prune (by omega)]
      exact ⟨m, rfl, hb, hl, hw, fun _ _ _ _ _ => rfl, rfl⟩
