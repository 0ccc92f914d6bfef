/-! PHASE 2: locks, the reference's side -/
theorem thI_ex {V A : Dat} : ∀ t i, i < ix V A t → ∃ u, u < t ∧ af V A u = true ∧ ix V A u = i
  | 0, i, h => absurd h (Nat.not_lt_zero _)
  | t + 1, i, h => by
    rw [ix_su] at h
    by_cases c : af V A t = true
    · rw [if_pos c] at h
      by_cases d : i = ix V A t
      · exact ⟨t, by omega, c, d.symm⟩
      · obtain ⟨u, u1, u2, u3⟩ := thI_ex (V := V) (A := A) t i (by omega)
        exact ⟨u, by omega, u2, u3⟩
    · rw [if_neg c] at h
      obtain ⟨u, u1, u2, u3⟩ := thI_ex t i h
      exact ⟨u, by omega, u2, u3⟩
theorem thI_ok {V A : Dat} {i : Nat} (h : i < ix V A 8) : thI V A i < V 1 2 ∧ A 4 (thI V A i) = 0 ∧ ix V A (thI V A i) = i ∧ thI V A i < 8 := by
  obtain ⟨u, u1, u2, u3⟩ := thI_ex 8 i h
  have e := thI_ix u1 u2
  rw [u3] at e
  rw [e]
  have := af_iff.mp u2
  exact ⟨this.1, this.2, u3, u1⟩
theorem wtI_at {V A : Dat} {i : Nat} (h : i < ix V A 8) : wtI V A i = V 4 (thI V A i) := if_pos (thI_ok h).1
theorem drop_gt : ∀ (p : List Nat) (k : Nat), k < p.length → p.drop (p.length - (k + 1)) = gt' p k :: p.drop (p.length - k)
  | [], k, h => absurd h (Nat.not_lt_zero _)
  | a :: p, k, h => by
    rw [List.length_cons] at h ⊢
    by_cases c : k = p.length
    · rw [c, Nat.sub_self, gt_at, show p.length + 1 - p.length = 1 by omega]
      rfl
    · rw [gt_lt (by omega), show p.length + 1 - (k + 1) = (p.length - (k + 1)) + 1 by omega, show p.length + 1 - k = (p.length - k) + 1 by omega, List.drop_succ_cons, List.drop_succ_cons]
      exact drop_gt p k (by omega)
theorem drop_len (p : List Nat) {k : Nat} (h : k ≤ p.length) : (p.drop (p.length - k)).length = k := by
  rw [List.length_drop]
  omega
theorem us_drop {p : List Nat} (d : Nat) : us (p.drop d) ≤ us p := by
  induction p generalizing d with
  | nil => rw [List.drop_nil]; exact Nat.le_refl _
  | cons a p ih =>
    cases d with
    | zero => exact Nat.le_refl _
    | succ d => rw [List.drop_succ_cons]; exact Nat.le_trans (ih d) (us_ge a p)
def lkOk (m : Mm) (pre : List Nat) : Prop := ∀ i, i < pre.length → m.1 1134 i = nI (gt' pre i)
theorem gt_us : ∀ (p : List Nat) (i : Nat), i < p.length → gt' p i < us p
  | [], i, h => absurd h (Nat.not_lt_zero _)
  | a :: p, i, h => by
    rw [List.length_cons] at h
    by_cases c : i = p.length
    · rw [c, gt_at, us_cons]
      split <;> omega
    · rw [gt_lt (by omega)]
      have := gt_us p i (by omega)
      have h2 := us_ge a p
      omega
theorem locksUsed_f {m : Mm} {pre : List Nat} (h : lkOk m pre) (hl : pre.length ≤ 8) (hu : us pre ≤ 100) : f_X12_locksUsed m (nI pre.length) = some (nI (us pre)) := by
  have e : lp (f_X12_locksUsed_s4 m (nI pre.length)) ((0 : Int32), (0 : Int32)) = some (nI (us pre)) := by
    refine lpa (0 : Int32) (fun k => nI (us (pre.drop (pre.length - k)))) pre.length ?_ (fun k hk => ?_) ?_
    · show nI (us (pre.drop (pre.length - 0))) = 0
      rw [Nat.sub_zero, List.drop_length]
      rfl
    · have hud := us_drop (p := pre) (pre.length - k)
      have hg := gt_us pre k hk
      rw [drop_gt pre k hk, us_cons]
      unfold f_X12_locksUsed_s4 f_X12_locksUsed_j31
      dsimp only
      rw [if_neg (by rw [sN_le (by omega) (by omega)]; omega), if_neg (gd_ok (by omega) (by decide)), cl_ok (by omega), h k hk, sN_a1]
      by_cases c : us (pre.drop (pre.length - k)) ≤ gt' pre k
      · rw [if_neg (by rw [sN_lt (by omega) (by omega)]; omega), if_pos c, if_neg (show ¬ (nI k < 0 ∨ 9 ≤ k) from fun z => z.elim (nI_nn k (by omega)) (fun y => by omega)), sN_a1]
      · rw [if_pos (by rw [sN_lt (by omega) (by omega)]; omega), if_neg c]
    · unfold f_X12_locksUsed_s4
      dsimp only
      rw [if_pos (by rw [sN_le (by omega) (by omega)]; omega), Nat.sub_self]
      rfl
  unfold f_X12_locksUsed
  rw [e]
  rfl
def tkOk (m : Mm) (V A : Dat) : Prop := ∀ i, i < ix V A 8 → m.1 1136 i = nI (thI V A i)
theorem loadOf_f {m : Mm} {V A : Dat} {pre : List Nat} (ov : RvOk V) (hv : ∀ t, t < V 1 2 → m.1 1094 t = nI (V 4 t)) (h : lkOk m pre) (ht : tkOk m V A) (hl : pre.length ≤ ix V A 8) (hu : us pre ≤ 100) {l : Nat} (hll : l ≤ 100) : f_X12_loadOf m (nI l) (nI pre.length) = some (nI (ld (wtI V A) pre l)) := by
  have h8 := ix_le V A 8
  have e : lp (f_X12_loadOf_s5 m (nI l) (nI pre.length)) ((0 : Int32), (0 : Int32)) = some (nI (ld (wtI V A) pre l)) := by
    refine lpa (0 : Int32) (fun k => nI (ld (wtI V A) (pre.drop (pre.length - k)) l)) pre.length ?_ (fun k hk => ?_) ?_
    · show nI (ld (wtI V A) (pre.drop (pre.length - 0)) l) = 0
      rw [Nat.sub_zero, List.drop_length]
      rfl
    · have hg := gt_us pre k hk
      have hti := thI_ok (V := V) (A := A) (show k < ix V A 8 by omega)
      have hw := (ov.2.2.2.2.1 _ hti.1).1
      have hld := ld_le (wtI_le (A := A) ov) l (pre.drop (pre.length - k))
      rw [drop_len pre (by omega)] at hld
      rw [drop_gt pre k hk, show ld (wtI V A) (gt' pre k :: pre.drop (pre.length - k)) l = ld (wtI V A) (pre.drop (pre.length - k)) l + (if gt' pre k = l then wtI V A (pre.drop (pre.length - k)).length else 0) from rfl, drop_len pre (by omega), wtI_at (by omega)]
      unfold f_X12_loadOf_s5 f_X12_loadOf_j39
      dsimp only
      rw [if_neg (by rw [sN_le (by omega) (by omega)]; omega), if_neg (gd_ok (show k < 9 by omega) (by decide)), cl_ok (by omega), h k hk, sN_a1]
      by_cases c : gt' pre k = l
      · rw [if_pos (by rw [c]), if_pos c, if_neg (show ¬ (nI k < 0 ∨ 8 ≤ k) from fun z => z.elim (nI_nn k (by omega)) (fun y => by omega)), ht k (by omega), if_neg (gd_ok (show thI V A k < 8 by omega) (by decide)), cl_ok (by omega), hv _ hti.1, sN_ad]
      · rw [if_neg (by rw [sN_eq (by omega) (by omega)]; exact c), if_neg c, Int32.add_zero]
        rfl
    · unfold f_X12_loadOf_s5
      dsimp only
      rw [if_pos (by rw [sN_le (by omega) (by omega)]; omega), Nat.sub_self]
      rfl
  unfold f_X12_loadOf
  rw [e]
  rfl
def fits (V A : Dat) (room : Nat) (pre : List Nat) (l : Nat) : Prop := ld (wtI V A) pre l + wtI V A pre.length ≤ room
/-- what the reference's search leaves as it is -/
def frL (m m1 : Mm) : Prop := (∀ i, ¬ i = 1088 → ¬ i = 1134 → ¬ i = 1135 → m1.1 i = m.1 i) ∧ ∀ k, ¬ k = 66 → m1.1 1088 k = m.1 1088 k
theorem frL.tr {a b c : Mm} (h1 : frL a b) (h2 : frL b c) : frL a c := ⟨fun i i1 i2 i3 => (h2.1 i i1 i2 i3).trans (h1.1 i i1 i2 i3), fun k hk => (h2.2 k hk).trans (h1.2 k hk)⟩
theorem lkOk_1 {m : Mm} {pre : List Nat} (h : lkOk m pre) {x : Int32} : lkOk (wI m 1134 pre.length x) pre := fun i hi => by
  rw [wI_pl (by omega)]
  exact h i hi
theorem skips_f {m : Mm} {V A : Dat} {pre : List Nat} {room l : Nat} (ov : RvOk V) (hv : ∀ t, t < V 1 2 → m.1 1094 t = nI (V 4 t)) (h : lkOk m pre) (ht : tkOk m V A) (hl : pre.length < ix V A 8) (hu : us pre ≤ 8) (hroom : room ≤ 200) (hll : l ≤ us pre + 1) (e : m.1 1134 pre.length = nI l) {y : Int32} : ∃ m1 l', lp (f_X12_findsLocks_s86 (nI room) y (nI pre.length) (nI (us pre))) m = some m1 ∧ m1 = wI m 1134 pre.length (nI l') ∧ l ≤ l' ∧ l' ≤ us pre + 1 ∧ (∀ j, l ≤ j → j < l' → ¬ fits V A room pre j) ∧ (l' ≤ us pre → fits V A room pre l') := by
  have h8 := ix_le V A 8
  have hti := thI_ok (V := V) (A := A) hl
  have hx : ∃ m1, lp (f_X12_findsLocks_s86 (nI room) y (nI pre.length) (nI (us pre))) m = some m1 ∧ ∃ l', m1 = wI m 1134 pre.length (nI l') ∧ l ≤ l' ∧ l' ≤ us pre + 1 ∧ (∀ j, l ≤ j → j < l' → ¬ fits V A room pre j) ∧ (l' ≤ us pre → fits V A room pre l') := by
    refine lp_stop (fun k x => x = wI m 1134 pre.length (nI (l + k)) ∧ l + k ≤ us pre + 1 ∧ ∀ j, l ≤ j → j < l + k → ¬ fits V A room pre j) _ (us pre + 1 - l) (fun k x hk hx => ?_) 0 m (Nat.zero_le _) ⟨by rw [Nat.add_zero, wI_same e], by omega, fun j j1 j2 => absurd j2 (by omega)⟩
    obtain ⟨rfl, x2, x3⟩ := hx
    unfold f_X12_findsLocks_s86
    rw [if_neg (gd_ok (show pre.length < 9 by omega) (by decide)), cl_ok (by omega), wI_at]
    by_cases c : l + k ≤ us pre
    · have hldl := ld_le (wtI_le (A := A) ov) (l + k) pre
      have hw := wtI_le (V := V) (A := A) ov pre.length
      rw [if_neg (by rw [sN_lt (by omega) (by omega)]; omega), if_neg (show ¬ (nI pre.length < 0 ∨ 9 ≤ pre.length) from fun z => z.elim (nI_nn _ (by omega)) (fun y => by omega)), loadOf_f ov (fun t ht => by rw [wI_ne (by decide)]; exact hv t ht) (lkOk_1 h) (fun i hi => by rw [wI_ne (by decide)]; exact ht i hi) (by omega) (by omega) (by omega), bi1_s, if_neg (show ¬ (nI pre.length < 0 ∨ 8 ≤ pre.length) from fun z => z.elim (nI_nn _ (by omega)) (fun y => by omega)), wI_ne (show 1136 ≠ 1134 by decide), ht _ hl, if_neg (gd_ok (show thI V A pre.length < 8 by omega) (by decide)), cl_ok (by omega), wI_ne (show 1094 ≠ 1134 by decide), hv _ hti.1, ← wtI_at hl, sN_ad]
      by_cases d : fits V A room pre (l + k)
      · rw [if_pos (by rw [sN_le (by omega) (by omega)]; exact d)]
        exact Or.inr ⟨_, rfl, l + k, rfl, by omega, by omega, x3, fun _ => d⟩
      · rw [if_neg (by rw [sN_le (by omega) (by omega)]; exact d), if_neg (show ¬ (nI pre.length < 0 ∨ 9 ≤ pre.length) from fun z => z.elim (nI_nn _ (by omega)) (fun y => by omega)), if_neg (show ¬ (nI pre.length < 0 ∨ 9 ≤ pre.length) from fun z => z.elim (nI_nn _ (by omega)) (fun y => by omega)), vl_s, sN_a1]
        refine Or.inl ⟨by omega, _, rfl, ?_, by omega, fun j j1 j2 => ?_⟩
        · refine Prod.ext ?_ rfl
          funext i j
          rw [wI_get, wI_get, wI_get]
          by_cases q : i = 1134 ∧ j = pre.length
          · rw [if_pos q, if_pos q]; rfl
          · rw [if_neg q, if_neg q, if_neg q]
        · by_cases q : j = l + k
          · rw [q]; exact d
          · exact x3 j j1 (by omega)
    · rw [if_pos (by rw [sN_lt (by omega) (by omega)]; omega)]
      exact Or.inr ⟨_, rfl, l + k, rfl, by omega, by omega, x3, fun z => absurd z c⟩
  obtain ⟨m1, e1, l', h1, h2, h3, h4, h5⟩ := hx
  exact ⟨m1, l', e1, h1, h2, h3, h4, h5⟩
theorem fo_skips {f : List Nat → Bt → Bt} {V A : Dat} {room : Nat} {pre : List Nat} {b : Bt} : ∀ d k l, (∀ j, l ≤ j → j < l + d → ¬ fits V A room pre j) → fo f (wtI V A) room pre (d + k) l b = fo f (wtI V A) room pre k (l + d) b
  | 0, k, l, _ => by rw [Nat.zero_add]; rfl
  | d + 1, k, l, h => by
    rw [show d + 1 + k = (d + k) + 1 by omega, fo_skip (h l (Nat.le_refl _) (by omega)), fo_skips d k (l + 1) (fun j j1 j2 => h j (by omega) (by omega)), show l + 1 + d = l + (d + 1) by omega]
def bR (b : Bt) : Int32 := match b with
  | none => -1
  | some c => nI c.1
def rb (m : Mm) (n : Nat) (b : Bt) : Prop := m.1 1088 66 = bR b ∧ ∀ c, b = some c → ∀ i, i < n → m.1 1135 i = nI (gt' c.2 i)
theorem copyB_f {m : Mm} {pre : List Nat} (h : lkOk m pre) (hl : pre.length ≤ 8) {y z : Int32} : ∃ m1, lp (f_X12_findsLocks_s207 y (nI pre.length) z) ((0 : Int32), m) = some m1 ∧ (∀ i, ¬ i = 1135 → m1.1 i = m.1 i) ∧ ∀ i, i < pre.length → m1.1 1135 i = nI (gt' pre i) := by
  have hxr := row_loop (st := f_X12_findsLocks_s207 y (nI pre.length) z) (mm := m) (fun i => i = 1135) (fun _ t => nI (gt' pre t)) pre.length (fun k w hk hw => ?_) (fun w hw => ?_)
  · obtain ⟨m1, e, g1, g2⟩ := hxr
    exact ⟨m1, e, fun i hi => by funext j; exact g1 i j (fun q => hi q.1), fun i hi => g2 _ i rfl hi⟩
  · have ek : w.1 1134 k = nI (gt' pre k) := by rw [hw 1134 k (fun q => by omega)]; exact h k hk
    unfold f_X12_findsLocks_s207
    dsimp only
    rw [if_neg (by rw [sN_le (by omega) (by omega)]; omega), if_neg (gd_ok (show k < 9 by omega) (by decide)), cl_ok (by omega), if_neg (show ¬ (nI k < 0 ∨ 8 ≤ k) from fun z => z.elim (nI_nn _ (by omega)) (fun y => by omega)), vl_s, ek]
    exact ⟨_, by rw [sN_a1], fun i j h => by rw [wI_get, if_neg (fun z => h z)], fun i hi => by rw [hi, wI_at]⟩
  · unfold f_X12_findsLocks_s207
    dsimp only
    rw [if_pos (by rw [sN_le (by omega) (by omega)]; omega)]
/-- statics of the search -/
def stL (m : Mm) (V A : Dat) : Prop := (∀ t, t < V 1 2 → m.1 1094 t = nI (V 4 t)) ∧ tkOk m V A
theorem frL.st {m m1 : Mm} {V A : Dat} (h : frL m m1) (g : stL m V A) : stL m1 V A := ⟨fun t ht => by rw [h.1 1094 (by decide) (by decide) (by decide)]; exact g.1 t ht, fun i hi => by rw [h.1 1136 (by decide) (by decide) (by decide)]; exact g.2 i hi⟩
theorem frL_1 (m : Mm) (k : Nat) (x : Int32) : frL m (wI m 1134 k x) := ⟨fun i _ i2 _ => wI_ne i2, fun k _ => by rw [wI_ne (by decide)]⟩
theorem lkOk_c {m : Mm} {pre : List Nat} (h : lkOk m pre) (l : Nat) : lkOk (wI m 1134 pre.length (nI l)) (l :: pre) := fun i hi => by
  rw [List.length_cons] at hi
  rw [wI_sm]
  by_cases c : i = pre.length
  · rw [if_pos c, c, gt_at]
  · rw [if_neg c, gt_lt (by omega)]
    exact h i (by omega)
theorem lkOk_t {m : Mm} {pre : List Nat} {l : Nat} (h : lkOk m (l :: pre)) : lkOk m pre ∧ m.1 1134 pre.length = nI l := ⟨fun i hi => by rw [h i (by rw [List.length_cons]; omega), gt_lt hi], by rw [h pre.length (by rw [List.length_cons]; omega), gt_at]⟩
/-- one look of the search's loop -/
theorem look1_f {m : Mm} {V A : Dat} (ov : RvOk V) {room l : Nat} (hroom : room ≤ 200) {pre : List Nat} {b : Bt} (hs : stL m V A) (hn : pre.length < ix V A 8) (hp : okP pre) (hb : okB (ix V A 8) b) (hll : l ≤ us pre + 1) (hk : lkOk m pre) (e : m.1 1134 pre.length = nI l - 1) (hr : rb m (ix V A 8) b) : ∃ l', l ≤ l' ∧ l' ≤ us pre + 1 ∧ (∀ j, l ≤ j → j < l' → ¬ fits V A room pre j) ∧ (l' ≤ us pre → fits V A room pre l') ∧ f_X12_findsLocks_s61 (nI room) (nI (ix V A 8)) (nI pre.length, m) = if us pre < l' ∨ bc b ≤ us (l' :: pre) then some (.inl (nI pre.length - 1, wI m 1134 pre.length (nI l'))) else f_X12_findsLocks_j164 (wI m 1134 pre.length (nI l')) (nI room) (nI (ix V A 8)) (nI pre.length) (nI (us pre)) 0 := by
  have h8 := ix_le V A 8
  have hus := us_le hp
  obtain ⟨m1, hm1⟩ : ∃ m1, m1 = wI m 1134 pre.length (nI l) := ⟨_, rfl⟩
  have f1 : frL m m1 := by rw [hm1]; exact frL_1 _ _ _
  have k1 : lkOk m1 pre := by rw [hm1]; exact lkOk_1 hk
  obtain ⟨m2, l', e2, hm2, a1, a2, a3, a4⟩ := skips_f ov (f1.st hs).1 k1 (f1.st hs).2 hn (by omega) hroom hll (by rw [hm1, wI_at]) (y := nI (ix V A 8))
  have em2 : m2 = wI m 1134 pre.length (nI l') := by
    rw [hm2, hm1]
    refine Prod.ext ?_ rfl
    funext i j
    rw [wI_get, wI_get, wI_get]
    by_cases q : i = 1134 ∧ j = pre.length
    · rw [if_pos q, if_pos q]
    · rw [if_neg q, if_neg q, if_neg q]
  refine ⟨l', a1, a2, a3, a4, ?_⟩
  have k2 : lkOk m2 (l' :: pre) := by rw [em2]; exact lkOk_c hk l'
  have e66 : m2.1 1088 66 = bR b := by rw [em2, wI_ne (by decide)]; exact hr.1
  have elk : m2.1 1134 pre.length = nI l' := by rw [em2, wI_at]
  have e0 : nI l - 1 + 1 = nI l := by rw [Int32.sub_add_cancel]
  have hul : us (l' :: pre) ≤ 10 := by rw [us_cons]; split <;> omega
  rw [← em2]
  unfold f_X12_findsLocks_s61 f_X12_findsLocks_j163
  dsimp only
  rw [if_neg (nI_nn _ (by omega)), if_neg (by rw [sN_le0 (by omega)]; omega), if_neg (gd_ok (show pre.length < 9 by omega) (by decide)), cl_ok (by omega), if_neg (show ¬ (nI pre.length < 0 ∨ 9 ≤ pre.length) from fun z => z.elim (nI_nn _ (by omega)) (fun y => by omega)), e, e0, vl_s, ← hm1, locksUsed_f k1 (by omega) (by omega), bi1_s, e2, bi1_s, e66]
  have hj : ∀ z0 : Int32, us pre < l' → f_X12_findsLocks_j164 m2 (nI room) (nI (ix V A 8)) (nI pre.length) (nI (us pre)) z0 = some (.inl (nI pre.length - 1, m2)) := fun z0 h => by
    unfold f_X12_findsLocks_j164
    rw [if_neg (gd_ok (show pre.length < 9 by omega) (by decide)), cl_ok (by omega), elk, if_pos (by rw [sN_lt (by omega) (by omega)]; exact h), nI_m1]
  by_cases c : us pre < l'
  · rw [if_pos (Or.inl c), hj 0 c, hj 1 c]
    cases b with
    | none => rw [show bR none = -1 from rfl, if_pos rfl]
    | some x =>
      have hx := hb.1
      rw [show bR (some x) = nI x.1 from rfl, if_neg (nm1 (by omega)), sN_a1, show nI (pre.length + 1) = nI (l' :: pre).length from rfl, locksUsed_f k2 (by rw [List.length_cons]; omega) (by omega), bi1_s]
      split <;> rfl
  · have hu9 : us (l' :: pre) ≤ 8 := by
      have := us_le (show okP (l' :: pre) from ⟨by omega, hp⟩)
      rw [List.length_cons] at this
      omega
    cases b with
    | none => rw [show bR none = -1 from rfl, if_pos rfl, if_neg (fun z => z.elim c (fun y => by have : 9 ≤ us (l' :: pre) := y; omega))]
    | some x =>
      have hx := hb.1
      rw [show bR (some x) = nI x.1 from rfl, if_neg (nm1 (by omega)), sN_a1, show nI (pre.length + 1) = nI (l' :: pre).length from rfl, locksUsed_f k2 (by rw [List.length_cons]; omega) (by omega), bi1_s]
      by_cases d : x.1 ≤ us (l' :: pre)
      · rw [if_neg (by rw [sN_lt (by omega) (by omega)]; omega), if_pos (Or.inr (show bc (some x) ≤ us (l' :: pre) from d))]
        unfold f_X12_findsLocks_j164
        rw [if_neg (gd_ok (show pre.length < 9 by omega) (by decide)), cl_ok (by omega), elk, if_neg (by rw [sN_lt (by omega) (by omega)]; exact c), if_neg (by decide), nI_m1]
      · rw [if_pos (by rw [sN_lt (by omega) (by omega)]; omega), if_neg (fun z => z.elim c (fun y => d y))]
theorem level_f {V A : Dat} (ov : RvOk V) {room : Nat} (hroom : room ≤ 200) (r : Nat) {pre : List Nat} (hn : pre.length + (r + 1) = ix V A 8) (hp : okP pre)
    (hch : ∀ (m2 : Mm) (b : Bt) (l : Nat), stL m2 V A → l ≤ us pre → okB (ix V A 8) b → us (l :: pre) < bc b → lkOk m2 (l :: pre) → rb m2 (ix V A 8) b → ∃ x m3, f_X12_findsLocks_j164 m2 (nI room) (nI (ix V A 8)) (nI pre.length) (nI (us pre)) 0 = some (.inl x) ∧ lp (f_X12_findsLocks_s61 (nI room) (nI (ix V A 8))) x = lp (f_X12_findsLocks_s61 (nI room) (nI (ix V A 8))) (nI pre.length, m3) ∧ lkOk m3 (l :: pre) ∧ rb m3 (ix V A 8) (go (wtI V A) room r (l :: pre) b) ∧ frL m2 m3) :
    ∀ (K k l : Nat) (m : Mm) (b : Bt), k ≤ K → stL m V A → okB (ix V A 8) b → l + k = us pre + 1 → lkOk m pre → m.1 1134 pre.length = nI l - 1 → rb m (ix V A 8) b → ∃ m1, lp (f_X12_findsLocks_s61 (nI room) (nI (ix V A 8))) (nI pre.length, m) = lp (f_X12_findsLocks_s61 (nI room) (nI (ix V A 8))) (nI pre.length - 1, m1) ∧ lkOk m1 pre ∧ rb m1 (ix V A 8) (fo (go (wtI V A) room r) (wtI V A) room pre k l b) ∧ frL m m1 := by
  have h8 := ix_le V A 8
  intro K
  induction K with
  | zero =>
    intro k l m b hkK hs hb hl hk e hr
    obtain ⟨l', a1, a2, a3, a4, e1⟩ := look1_f ov hroom hs (by omega) hp hb (by omega) hk e hr
    have : us pre < l' := by omega
    rw [if_pos (Or.inl this)] at e1
    refine ⟨wI m 1134 pre.length (nI l'), lp_go e1, lkOk_1 hk, ?_, frL_1 _ _ _⟩
    rw [show k = 0 by omega]
    exact ⟨by rw [wI_ne (by decide)]; exact hr.1, fun c hc i hi => by rw [wI_ne (by decide)]; exact hr.2 c hc i hi⟩
  | succ K ihK =>
    intro k l m b hkK hs hb hl hk e hr
    obtain ⟨l', a1, a2, a3, a4, e1⟩ := look1_f ov hroom hs (by omega) hp hb (by omega) hk e hr
    have hr2 : rb (wI m 1134 pre.length (nI l')) (ix V A 8) b := ⟨by rw [wI_ne (by decide)]; exact hr.1, fun c hc i hi => by rw [wI_ne (by decide)]; exact hr.2 c hc i hi⟩
    have hfo : fo (go (wtI V A) room r) (wtI V A) room pre k l b = fo (go (wtI V A) room r) (wtI V A) room pre (us pre + 1 - l') l' b := by
      have := fo_skips (f := go (wtI V A) room r) (b := b) (l' - l) (us pre + 1 - l') l (fun j j1 j2 => a3 j j1 (by omega))
      rw [show l' - l + (us pre + 1 - l') = k by omega, show l + (l' - l) = l' by omega] at this
      exact this
    rw [hfo]
    by_cases c : us pre < l' ∨ bc b ≤ us (l' :: pre)
    · rw [if_pos c] at e1
      refine ⟨wI m 1134 pre.length (nI l'), lp_go e1, lkOk_1 hk, ?_, frL_1 _ _ _⟩
      rcases c with c | c
      · rw [show us pre + 1 - l' = 0 by omega]
        exact hr2
      · rw [fo_prune _ _ c]
        exact hr2
    · rw [if_neg c] at e1
      have c1 : l' ≤ us pre := by omega
      have c2 : us (l' :: pre) < bc b := by omega
      obtain ⟨x, m3, e2, e3, k3, r3, f3⟩ := hch (wI m 1134 pre.length (nI l')) b l' ((frL_1 _ _ _).st hs) c1 hb c2 (lkOk_c hk l') hr2
      rw [e2] at e1
      obtain ⟨k4, e4⟩ := lkOk_t k3
      obtain ⟨m5, e5, k5, r5, f5⟩ := ihK (us pre - l') (l' + 1) m3 (go (wtI V A) room r (l' :: pre) b) (by omega) (f3.st ((frL_1 _ _ _).st hs)) (lgo_ok (by omega) r (l' :: pre) b (by rw [List.length_cons]; omega) ⟨c1, hp⟩ hb) (by omega) k4 (by rw [e4, nI_s1]) r3
      refine ⟨m5, ?_, k5, ?_, (frL_1 _ _ _).tr (f3.tr f5)⟩
      · rw [lp_go e1, e3, e5]
      · rw [show us pre + 1 - l' = (us pre - l') + 1 by omega, fo_fit (a4 c1)]
        exact r5
theorem levels_f {V A : Dat} (ov : RvOk V) {room : Nat} (hroom : room ≤ 200) : ∀ (r : Nat) (pre : List Nat), pre.length + (r + 1) = ix V A 8 → okP pre → ∀ (k l : Nat) (m : Mm) (b : Bt), stL m V A → okB (ix V A 8) b → l + k = us pre + 1 → lkOk m pre → m.1 1134 pre.length = nI l - 1 → rb m (ix V A 8) b → ∃ m1, lp (f_X12_findsLocks_s61 (nI room) (nI (ix V A 8))) (nI pre.length, m) = lp (f_X12_findsLocks_s61 (nI room) (nI (ix V A 8))) (nI pre.length - 1, m1) ∧ lkOk m1 pre ∧ rb m1 (ix V A 8) (fo (go (wtI V A) room r) (wtI V A) room pre k l b) ∧ frL m m1
  | 0, pre, hn, hp => by
    intro k l m b hs hb hl hk e hr
    have h8 := ix_le V A 8
    refine level_f ov hroom 0 hn hp (fun m2 b l s2 hl hb hu k2 r2 => ?_) k k l m b (Nat.le_refl _) hs hb hl hk e hr
    have hus := us_le hp
    have hlen : (l :: pre).length = ix V A 8 := by rw [List.length_cons]; omega
    have hul := us_le (show okP (l :: pre) from ⟨hl, hp⟩)
    obtain ⟨k4, e4⟩ := lkOk_t k2
    obtain ⟨m3, hm3⟩ : ∃ m3, m3 = wI m2 1088 66 (nI (us (l :: pre))) := ⟨_, rfl⟩
    have k3 : lkOk m3 (l :: pre) := fun i hi => by rw [hm3, wI_ne (by decide)]; exact k2 i hi
    obtain ⟨m4, e5, g1, g2⟩ := copyB_f k3 (by omega) (y := nI room) (z := nI pre.length)
    refine ⟨(nI pre.length, m4), m4, ?_, rfl, fun i hi => by rw [g1 1134 (by decide)]; exact k3 i hi, ?_, ⟨fun i i1 i2 i3 => by rw [g1 i i3, hm3, wI_ne i1], fun j hj => by rw [g1 1088 (by decide), hm3, wI_pl hj]⟩⟩
    · unfold f_X12_findsLocks_j164
      rw [if_neg (gd_ok (show pre.length < 9 by omega) (by decide)), cl_ok (by omega), e4, if_neg (by rw [sN_lt (by omega) (by omega)]; omega), if_pos rfl, if_pos (by rw [show ix V A 8 = pre.length + 1 by omega, nI_s1]), ← hlen, locksUsed_f k2 (by omega) (by omega), bi1_s, vl_s, ← hm3, e5, bi1_s]
    · show rb m4 _ (if us (l :: pre) < bc b then some (us (l :: pre), l :: pre) else b)
      rw [if_pos hu]
      refine ⟨by rw [g1 1088 (by decide), hm3, wI_at]; rfl, fun c hc i hi => ?_⟩
      have := Option.some.inj hc
      rw [← this]
      exact g2 i (by omega)
  | r + 1, pre, hn, hp => by
    intro k l m b hs hb hl hk e hr
    have h8 := ix_le V A 8
    refine level_f ov hroom (r + 1) hn hp (fun m2 b l s2 hl hb hu k2 r2 => ?_) k k l m b (Nat.le_refl _) hs hb hl hk e hr
    have hus := us_le hp
    have hlen : (l :: pre).length = pre.length + 1 := rfl
    obtain ⟨k4, e4⟩ := lkOk_t k2
    obtain ⟨m3, hm3⟩ : ∃ m3, m3 = wI m2 1134 (pre.length + 1) (-1) := ⟨_, rfl⟩
    have k3 : lkOk m3 (l :: pre) := by rw [hm3]; exact lkOk_1 k2
    obtain ⟨m5, e5, k5, r5, f5⟩ := levels_f ov hroom r (l :: pre) (by rw [hlen]; omega) ⟨hl, hp⟩ (us (l :: pre) + 1) 0 m3 b (by rw [hm3]; exact (frL_1 _ _ _).st s2) hb (by omega) k3 (by rw [hlen, hm3, wI_at]; decide) ⟨by rw [hm3, wI_ne (by decide)]; exact r2.1, fun c hc i hi => by rw [hm3, wI_ne (by decide)]; exact r2.2 c hc i hi⟩
    refine ⟨(nI (pre.length + 1), m3), m5, ?_, ?_, k5, ?_, ?_⟩
    · unfold f_X12_findsLocks_j164
      rw [if_neg (gd_ok (show pre.length < 9 by omega) (by decide)), cl_ok (by omega), e4, if_neg (by rw [sN_lt (by omega) (by omega)]; omega), if_pos rfl, if_neg (by rw [show ix V A 8 = (ix V A 8 - 1) + 1 by omega, nI_s1, sN_eq (by omega) (by omega)]; omega), sN_a1, if_neg (gd_ok (show pre.length + 1 < 9 by omega) (by decide)), cl_ok (by omega), vl_s, ← hm3]
    · rw [show nI (pre.length + 1) = nI (l :: pre).length from rfl, e5, hlen, nI_s1]
    · show rb m5 _ (if us (l :: pre) < bc b then fo (go (wtI V A) room r) (wtI V A) room (l :: pre) (us (l :: pre) + 1) 0 b else b)
      rw [if_pos hu]
      exact r5
    · exact (show frL m2 m3 from by rw [hm3]; exact frL_1 _ _ _).tr f5
