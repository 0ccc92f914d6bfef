/-! PHASE 2: from the invariant to the data, and back -/
def RaA (a : Nat → Nat → Int32) (V A : Dat) (L : Rop) (S : Int32) : Prop := a 0 1 = nI (A 0 1) ∧ a 0 2 = S ∧ RpOk (a 0 3) (a 6) (a 7) (a 8) L ∧ (∀ o, o < V 1 1 → a 1 o = nI (A 1 o)) ∧ ∀ t, t < V 1 2 → a 2 t = nI (A 2 t) ∧ a 3 t = nI (A 3 t) ∧ a 4 t = nI (A 4 t)
def SkA (a b : Nat → Nat → Int32) (V A : Dat) : Prop := ∀ t, t < V 1 2 → (A 4 t = 2 → a 5 t = b 5 t) ∧ (¬ A 4 t = 2 → b 5 t = -2)
theorem rp_map (f : Nat → Nat × Nat × Nat) {n k : Nat} (h : k < n) : rp ((List.range n).map f) k = f k := by
  unfold rp
  rw [List.getD_eq_getElem?_getD, List.getElem?_map, List.getElem?_range h]
  rfl
theorem SimR_data {nm no nt : Nat} {a b : Nat → Nat → Int32} (h : SimR nm no nt a b) (h6 : no ≤ 6) (h8 : nt ≤ 8) {V : Dat} (v0 : V 1 0 = nm) (v1 : V 1 1 = no) (v2 : V 1 2 = nt) : ∃ A L S, RaA a V A L S ∧ RaA b V A L S ∧ RaOk V A L ∧ SkA a b V A := by
  obtain ⟨mi, nr, q1, q2, q3, q4, q5, q6, q7, q8, q9, q10⟩ := h
  have eL : ∀ k, k < nr → ∃ lo hi s : Nat, lo < hi ∧ hi < nt ∧ 1 ≤ s ∧ s ≤ 9 ∧ rp ((List.range nr).map (fun k => ((a 6 k).toNatClampNeg, (a 7 k).toNatClampNeg, (a 8 k).toNatClampNeg))) k = (lo, hi, s) ∧ a 6 k = nI lo ∧ b 6 k = nI lo ∧ a 7 k = nI hi ∧ b 7 k = nI hi ∧ a 8 k = nI s ∧ b 8 k = nI s ∧ a 4 lo = 0 ∧ a 4 hi = 0 := fun k hk => by
    obtain ⟨lo, hi, s, z1, z2, z3, z4, z5, z6, z7, z8, z9, z10, z11, z12⟩ := q10 k hk
    refine ⟨lo, hi, s, z1, z2, z3, z4, ?_, z5, z6, z7, z8, z9, z10, z11, z12⟩
    rw [rp_map _ hk, z5, z7, z9, cl_ok (by omega), cl_ok (by omega), cl_ok (by omega)]
  have hlen : ((List.range nr).map (fun k => ((a 6 k).toNatClampNeg, (a 7 k).toNatClampNeg, (a 8 k).toNatClampNeg))).length = nr := by rw [List.length_map, List.length_range]
  generalize hL : (List.range nr).map (fun k => ((a 6 k).toNatClampNeg, (a 7 k).toNatClampNeg, (a 8 k).toNatClampNeg)) = L at eL hlen
  refine ⟨fun j k => if j = 0 then mi else (a j k).toNatClampNeg, L, a 0 2, ⟨q3, rfl, ⟨by rw [hlen]; exact q6, fun k hk => ?_⟩, fun o ho => ?_, fun t ht => ?_⟩, ⟨q4, q5.symm, ⟨by rw [hlen]; exact q7, fun k hk => ?_⟩, fun o ho => ?_, fun t ht => ?_⟩, ⟨by rw [v0]; exact q1, by rw [hlen]; exact q2, fun o ho => ?_, fun t ht => ?_, fun k hk => ?_⟩, fun t ht => ?_⟩
  · rw [hlen] at hk
    obtain ⟨lo, hi, s, z1, z2, z3, z4, e, z5, z6, z7, z8, z9, z10, z11, z12⟩ := eL k hk
    rw [e]
    exact ⟨z5, z7, z9⟩
  · obtain ⟨x, x1, x2, x3⟩ := q8 o (by omega)
    show a 1 o = nI (a 1 o).toNatClampNeg
    rw [x2, cl_ok (by omega)]
  · obtain ⟨w, fl, pl, x1, x2, x3, x4, x5, x6, x7, x8, x9, x10⟩ := q9 t (by omega)
    refine ⟨?_, ?_, ?_⟩
    · show a 2 t = nI (a 2 t).toNatClampNeg
      rw [x4, cl_ok (by omega)]
    · show a 3 t = nI (a 3 t).toNatClampNeg
      rw [x6, cl_ok (by omega)]
    · show a 4 t = nI (a 4 t).toNatClampNeg
      rw [x8, cl_ok (by omega)]
  · rw [hlen] at hk
    obtain ⟨lo, hi, s, z1, z2, z3, z4, e, z5, z6, z7, z8, z9, z10, z11, z12⟩ := eL k hk
    rw [e]
    exact ⟨z6, z8, z10⟩
  · obtain ⟨x, x1, x2, x3⟩ := q8 o (by omega)
    show b 1 o = nI (a 1 o).toNatClampNeg
    rw [x2, x3, cl_ok (by omega)]
  · obtain ⟨w, fl, pl, x1, x2, x3, x4, x5, x6, x7, x8, x9, x10⟩ := q9 t (by omega)
    refine ⟨?_, ?_, ?_⟩
    · show b 2 t = nI (a 2 t).toNatClampNeg
      rw [x4, x5, cl_ok (by omega)]
    · show b 3 t = nI (a 3 t).toNatClampNeg
      rw [x6, x7, cl_ok (by omega)]
    · show b 4 t = nI (a 4 t).toNatClampNeg
      rw [x8, x9, cl_ok (by omega)]
  · obtain ⟨x, x1, x2, x3⟩ := q8 o (by omega)
    show (a 1 o).toNatClampNeg ≤ 2
    rw [x2, cl_ok (by omega)]
    exact x1
  · obtain ⟨w, fl, pl, x1, x2, x3, x4, x5, x6, x7, x8, x9, x10⟩ := q9 t (by omega)
    show (a 2 t).toNatClampNeg < _ ∧ (a 3 t).toNatClampNeg ≤ 99 ∧ (a 4 t).toNatClampNeg ≤ 2
    rw [x4, x6, x8, cl_ok (by omega), cl_ok (by omega), cl_ok (by omega)]
    exact ⟨by omega, x2, x3⟩
  · rw [hlen] at hk
    obtain ⟨lo, hi, s, z1, z2, z3, z4, e, z5, z6, z7, z8, z9, z10, z11, z12⟩ := eL k hk
    rw [e]
    refine ⟨z1, (show hi < V 1 2 by omega), z3, z4, ?_, ?_⟩
    · show (a 4 lo).toNatClampNeg = 0
      rw [z11]
      rfl
    · show (a 4 hi).toNatClampNeg = 0
      rw [z12]
      rfl
  · obtain ⟨w, fl, pl, x1, x2, x3, x4, x5, x6, x7, x8, x9, x10, x11⟩ := q9 t (by omega)
    show ((a 4 t).toNatClampNeg = 2 → _) ∧ (¬ (a 4 t).toNatClampNeg = 2 → _)
    rw [x8, cl_ok (by omega)]
    exact ⟨x10, x11⟩
theorem SimR_mk {a b : Nat → Nat → Int32} {V A : Dat} {L : Rop} {S : Int32} (ha : RaA a V A L S) (hb : RaA b V A L S) (oa : RaOk V A L) (hs : SkA a b V A) : SimR (V 1 0) (V 1 1) (V 1 2) a b := by
  refine ⟨A 0 1, L.length, oa.1, oa.2.1, ha.1, hb.1, ha.2.1.trans hb.2.1.symm, ha.2.2.1.1, hb.2.2.1.1, fun o ho => ⟨A 1 o, oa.2.2.1 o ho, ha.2.2.2.1 o ho, hb.2.2.2.1 o ho⟩, fun t ht => ?_, fun k hk => ?_⟩
  · have h1 := oa.2.2.2.1 t ht
    have h2 := ha.2.2.2.2 t ht
    have h3 := hb.2.2.2.2 t ht
    exact ⟨A 2 t, A 3 t, A 4 t, h1.1, h1.2.1, h1.2.2, h2.1, h3.1, h2.2.1, h3.2.1, h2.2.2, h3.2.2, (hs t ht).1, (hs t ht).2⟩
  · have h1 := oa.2.2.2.2 k hk
    have h2 := ha.2.2.1.2 k hk
    have h3 := hb.2.2.1.2 k hk
    refine ⟨(rp L k).1, (rp L k).2.1, (rp L k).2.2, h1.1, h1.2.1, h1.2.2.1, h1.2.2.2.1, h2.1, h3.1, h2.2.1, h3.2.1, h2.2.2, h3.2.2, ?_, ?_⟩
    · rw [(ha.2.2.2.2 _ (by omega)).2.2, h1.2.2.2.2.1]
      rfl
    · rw [(ha.2.2.2.2 _ (by omega)).2.2, h1.2.2.2.2.2]
      rfl
/-- all that is now: the class's raft r on the river 27, and the reference's -/
def Now (mm : Mm) (r : Nat) (V A : Dat) (L : Rop) (S : Int32) : Prop := RvC mm 27 V ∧ RvF mm V ∧ RvOk V ∧ RaC mm r V A L S ∧ RaF mm V A L S ∧ RaOk V A L ∧ SkA (fun j k => mm.1 (r + j) k) (gR (fS mm)) V A
theorem SimS_data {mm : Mm} (h : SimS (cS mm 26) (fS mm)) : ∃ V A L S, Now mm 33 V A L S := by
  obtain ⟨nm, no, nt, ra, na, ol, nf, h1, h2, h3, h4, h5, h6, h7, h8, h9⟩ := h
  have cE : ∀ j k, cS mm 26 j k = mm.1 (26 + j) k := fun j k => rfl
  obtain ⟨A, L, S, d1, d2, d3, d4⟩ := SimR_data h8 h1.2.1 h1.2.2.1 (V := fun j k => if j = 1 then (if k = 0 then nm else if k = 1 then no else if k = 2 then nt else ra) else (mm.1 (26 + j) k).toNatClampNeg) rfl rfl rfl
  refine ⟨(fun j k => if j = 1 then (if k = 0 then nm else if k = 1 then no else if k = 2 then nt else ra) else (mm.1 (26 + j) k).toNatClampNeg), A, L, S, ⟨⟨h2.1, h2.2.2.1, h2.2.2.2.2.1⟩, fun o ho => ?_, fun t ht => ?_, fun m hm => ?_⟩, ⟨⟨h2.2.1, h2.2.2.2.1, h2.2.2.2.2.2.1⟩, fun o ho => ?_, fun t ht => ?_, ra, h1.2.2.2.1, h2.2.2.2.2.2.2.2.1, fun m hm => ?_⟩, ⟨h1.1, h1.2.1, h1.2.2.1, fun o ho => ?_, fun t ht => ?_, fun m hm => ?_⟩, d1, d2, d3, d4⟩
  · obtain ⟨la, w, x1, x2, x3, x4, x5, x6, x7⟩ := h3 o ho
    have x4' : mm.1 28 o = nI la := x4
    have x6' : mm.1 29 o = nI w := x6
    show mm.1 28 o = nI (mm.1 28 o).toNatClampNeg ∧ mm.1 29 o = nI (mm.1 29 o).toNatClampNeg
    rw [x4', x6', cl_ok (by omega), cl_ok (by omega)]
    exact ⟨rfl, rfl⟩
  · obtain ⟨w, s, x1, x2, x3, x4, x5, x6⟩ := h4 t ht
    have x3' : mm.1 30 t = nI w := x3
    have x5' : mm.1 31 t = nI s := x5
    show mm.1 30 t = nI (mm.1 30 t).toNatClampNeg ∧ mm.1 31 t = nI (mm.1 31 t).toNatClampNeg
    rw [x3', x5', cl_ok (by omega), cl_ok (by omega)]
    exact ⟨rfl, rfl⟩
  · show mm.1 32 m = nI (mm.1 32 m).toNatClampNeg
    by_cases c : ∃ k, k < ra ∧ fS mm 14 k = nI m
    · obtain ⟨k, hk, e⟩ := c
      obtain ⟨m', fo, x1, x2, x3, x4, x5, x6, x7, x8⟩ := h5 k hk
      rw [x5, nI_eq_iff (by omega) (by omega)] at e
      subst e
      have x7' : mm.1 32 m' = nI fo := x7
      rw [x7', cl_ok (by omega)]
    · have : mm.1 32 m = 0 := h6 m hm (fun k hk e => c ⟨k, hk, e⟩)
      rw [this]
      rfl
  · obtain ⟨la, w, x1, x2, x3, x4, x5, x6, x7⟩ := h3 o ho
    have x4' : mm.1 28 o = nI la := x4
    have x6' : mm.1 29 o = nI w := x6
    show mm.1 1090 o = nI (mm.1 28 o).toNatClampNeg ∧ mm.1 1091 o = nI (mm.1 29 o).toNatClampNeg
    rw [x4', x6', cl_ok (by omega), cl_ok (by omega)]
    exact ⟨x5, x7⟩
  · obtain ⟨w, s, x1, x2, x3, x4, x5, x6⟩ := h4 t ht
    have x3' : mm.1 30 t = nI w := x3
    have x5' : mm.1 31 t = nI s := x5
    show mm.1 1094 t = nI (mm.1 30 t).toNatClampNeg ∧ mm.1 1096 t = nI (mm.1 31 t).toNatClampNeg
    rw [x3', x5', cl_ok (by omega), cl_ok (by omega)]
    exact ⟨x4, x6⟩
  · show (∃ k, k < ra ∧ mm.1 1102 k = nI m ∧ mm.1 1103 k = nI (mm.1 32 m).toNatClampNeg ∧ ∀ j, j < k → ¬ mm.1 1102 j = nI m) ∨ ((mm.1 32 m).toNatClampNeg = 0 ∧ ∀ k, k < ra → ¬ mm.1 1102 k = nI m)
    by_cases c : ∃ k, k < ra ∧ fS mm 14 k = nI m
    · obtain ⟨k, hk, e⟩ := c
      obtain ⟨m', fo, x1, x2, x3, x4, x5, x6, x7, x8⟩ := h5 k hk
      have e' := e
      rw [x5, nI_eq_iff (by omega) (by omega)] at e
      subst e
      have x7' : mm.1 32 m' = nI fo := x7
      rw [x7', cl_ok (by omega)]
      exact Or.inl ⟨k, hk, x5, x6, x8⟩
    · have : mm.1 32 m = 0 := h6 m hm (fun k hk e => c ⟨k, hk, e⟩)
      rw [this]
      exact Or.inr ⟨rfl, fun k hk e => c ⟨k, hk, e⟩⟩
  · obtain ⟨la, w, x1, x2, x3, x4, x5, x6, x7⟩ := h3 o ho
    have x4' : mm.1 28 o = nI la := x4
    have x6' : mm.1 29 o = nI w := x6
    show 1 ≤ (mm.1 28 o).toNatClampNeg ∧ (mm.1 28 o).toNatClampNeg ≤ nm ∧ (mm.1 29 o).toNatClampNeg ≤ 20
    rw [x4', x6', cl_ok (by omega), cl_ok (by omega)]
    exact ⟨x1, x2, x3⟩
  · obtain ⟨w, s, x1, x2, x3, x4, x5, x6⟩ := h4 t ht
    have x3' : mm.1 30 t = nI w := x3
    have x5' : mm.1 31 t = nI s := x5
    show (mm.1 30 t).toNatClampNeg ≤ 50 ∧ (mm.1 31 t).toNatClampNeg ≤ 9
    rw [x3', x5', cl_ok (by omega), cl_ok (by omega)]
    exact ⟨x1, x2⟩
  · show (mm.1 32 m).toNatClampNeg ≤ 9
    by_cases c : ∃ k, k < ra ∧ fS mm 14 k = nI m
    · obtain ⟨k, hk, e⟩ := c
      obtain ⟨m', fo, x1, x2, x3, x4, x5, x6, x7, x8⟩ := h5 k hk
      rw [x5, nI_eq_iff (by omega) (by omega)] at e
      subst e
      have x7' : mm.1 32 m' = nI fo := x7
      rw [x7', cl_ok (by omega)]
      exact x4
    · have : mm.1 32 m = 0 := h6 m hm (fun k hk e => c ⟨k, hk, e⟩)
      rw [this]
      exact Nat.zero_le _
/-- Inv stays where it reads nothing new -/
theorem Inv_fr {mm m' : Mm} (h : Inv mm) (a0 : m'.1 0 7 = mm.1 0 7) (a1 : m'.1 1 1 = mm.1 1 1) (a2 : m'.1 2 = mm.1 2) (a3 : ∀ i, 26 ≤ i → i < 226 → m'.1 i = mm.1 i) (a4 : m'.1 227 = mm.1 227) (a5 : ∀ i, 252 ≤ i → i < 1088 → m'.1 i = mm.1 i) (b1 : m'.1 1088 31 = mm.1 1088 31) (b2 : m'.1 1088 35 = mm.1 1088 35) (b3 : m'.1 1088 40 = mm.1 1088 40) (b4 : m'.1 1088 55 = mm.1 1088 55) (b5 : ∀ i, 1089 ≤ i → i < 1107 → m'.1 i = mm.1 i) (b6 : ∀ i, 1119 ≤ i → i < 1126 → m'.1 i = mm.1 i) (b7 : m'.1 1129 = mm.1 1129) (b8 : m'.1 1139 = mm.1 1139) (b9 : m'.1 1140 = mm.1 1140) : Inv m' :=
  ⟨SimT_eq a1 a2 b1 (b6 1119 (by decide) (by decide)) h.1, SimL_eq a0 b2 b3 (fun i h1 h2 => a5 i (by omega) h2) (fun i h1 h2 => b6 i (by omega) h2) h.2.1, SimN_eq a3 b5 b4 b7 h.2.2.1, SimI_eq a4 b9 (fun i h1 h2 => a5 i h1 (by omega)) b8 h.2.2.2⟩
/-- only scratch of the class differs -/
def scC (i : Nat) : Prop := (3 ≤ i ∧ i < 26) ∨ i = 226 ∨ (228 ≤ i ∧ i < 252)
theorem Inv_sc {mm m' : Mm} (h : Inv mm) (hf : ∀ i, ¬ scC i → m'.1 i = mm.1 i) : Inv m' := by
  have g : ∀ i, (i < 3 ∨ (26 ≤ i ∧ i < 226) ∨ i = 227 ∨ 252 ≤ i) → m'.1 i = mm.1 i := fun i hi => hf i (fun z => by unfold scC at z; omega)
  exact Inv_fr h (by rw [g 0 (by omega)]) (by rw [g 1 (by omega)]) (g 2 (by omega)) (fun i _ _ => g i (by omega)) (g 227 (by omega)) (fun i _ _ => g i (by omega)) (by rw [g 1088 (by omega)]) (by rw [g 1088 (by omega)]) (by rw [g 1088 (by omega)]) (by rw [g 1088 (by omega)]) (fun i _ _ => g i (by omega)) (fun i _ _ => g i (by omega)) (g 1129 (by omega)) (g 1139 (by omega)) (g 1140 (by omega))
theorem RvF_eq {mm m' : Mm} {V : Dat} (h : ∀ i, 1089 ≤ i → i < 1104 → m'.1 i = mm.1 i) (g : RvF mm V) : RvF m' V := by
  unfold RvF
  rw [h 1089 (by decide) (by decide), h 1090 (by decide) (by decide), h 1091 (by decide) (by decide), h 1094 (by decide) (by decide), h 1096 (by decide) (by decide), h 1102 (by decide) (by decide), h 1103 (by decide) (by decide)]
  exact g
theorem RaF_eq {mm m' : Mm} {V A : Dat} {L : Rop} {S : Int32} (h : ∀ i, 1089 ≤ i → i < 1104 → m'.1 i = mm.1 i) (g : RaF mm V A L S) : RaF m' V A L S := by
  unfold RaF
  rw [h 1089 (by decide) (by decide), h 1092 (by decide) (by decide), h 1093 (by decide) (by decide), h 1095 (by decide) (by decide), h 1097 (by decide) (by decide), h 1099 (by decide) (by decide), h 1100 (by decide) (by decide), h 1101 (by decide) (by decide)]
  exact g
