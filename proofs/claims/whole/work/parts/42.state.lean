def stA (r j : Nat) : List Lay := [.inl (9, [some (some (r + 1)), some (some (r + 7)), some (some (r + 16)), none, none, none, some (some (r + 17)), some (some (r + 18)), some (some (r + 19)), none]), .inl (5, [none, none, none, none, some (some (r + 2)), some (some (r + 3)), some (some (r + 4)), some (some (r + 5)), some (some (r + 6))]), .inr (0, 6, ng), .inr (0, 6, ng), .inr (0, 8, ng), .inr (0, 8, ng), .inr (0, 100, ng), .inl (4, [some (some (r + 1)), none, none, none, some (some (r + 8)), some (some (r + 9)), some (some (r + 10)), some (some (r + 11)), some (some (r + 12)), some (some (r + 13)), some (some (r + 14)), some (some (r + 15))]), .inr (0, 6, ng), .inr (0, 8, ng), .inr (0, 8, ng), .inr (0, 8, ng), .inr (0, 8, ng), .inr (0, 12, ng), .inr (0, 12, ng), .inr (0, 12, ng), .inr (6, 20, fun i => if i < j then some (r + 20 + 9 * i) else none), .inr (0, 6, ng), .inr (0, 6, ng), .inr (0, 6, ng)]
def lRS (r : Nat) : Nat → List Lay
  | 0 => []
  | j + 1 => lRS r j ++ lRaft (r + 20 + 9 * j) (r + 1)
theorem lRS_len (r : Nat) : ∀ j, (lRS r j).length = 9 * j
  | 0 => rfl
  | j + 1 => by
    show (lRS r j ++ lRaft (r + 20 + 9 * j) (r + 1)).length = _
    rw [List.length_append, lRS_len r j]
    show 9 * j + 9 = _
    omega
theorem lRafts_app : ∀ (k a v : Nat), lRafts (k + 1) a v = lRafts k a v ++ lRaft (a + 9 * k) v
  | 0, a, v => by show lRaft a v ++ [] = [] ++ lRaft a v; simp
  | k + 1, a, v => by
    show lRaft a v ++ lRafts (k + 1) (a + 9) v = (lRaft a v ++ lRafts k (a + 9) v) ++ lRaft (a + 9 * (k + 1)) v
    rw [lRafts_app k (a + 9) v, List.append_assoc, show a + 9 + 9 * k = a + 9 * (k + 1) by omega]
theorem lRS_eq (r : Nat) : ∀ j, lRS r j = lRafts j (r + 20) (r + 1)
  | 0 => rfl
  | j + 1 => by
    show lRS r j ++ lRaft (r + 20 + 9 * j) (r + 1) = _
    rw [lRS_eq r j, lRafts_app]
theorem st_fin (r : Nat) : stA r 20 ++ lRS r 20 = lState r := by
  rw [lRS_eq]
  rfl
theorem stA_up (r j : Nat) : va_up (fun i => if i < j then some (r + 20 + 9 * i) else none) j (some (r + 20 + 9 * j)) = (fun i => if i < j + 1 then some (r + 20 + 9 * i) else none) := by
  funext i
  unfold va_up
  by_cases h : i = j
  · subst h
    rw [if_pos rfl, if_pos (by omega)]
  · rw [if_neg h]
    by_cases h2 : i < j
    · show (if i < j then some (r + 20 + 9 * i) else none) = _
      rw [if_pos h2, if_pos (by omega)]
    · show (if i < j then some (r + 20 + 9 * i) else none) = _
      rw [if_neg h2, if_neg (by omega)]
set_option maxHeartbeats 4000000 in
set_option maxRecDepth 100000 in
theorem k_State_loop {l : Launch} {D : va_G} {dA : Nat → ClassId} {zz : (Nat → Nat) × (Nat → Nat)} {bs : Nat} {ly : List Lay} {r : Nat} (hr : ly.length = r) {p : Program} {e : Env} {s : State} {m : MethodId} {args : Array Value} {below : List Frame} {meth : Method} {c : Code} (X : CxK p m meth c cX9_init 2 s args RX9 D dA zz bs) (hr0 : meth.sig.returnType = none) :
    ∀ (n j : Nat), j + n = 20 → ∀ (H : Heap) (locs : List Loc) (ls : Array Slot), Wk D dA bs (ly ++ (stA r j ++ lRS r j)) mz H → va_S (Aq bs) s.heap H locs → lv_has ls 2 [(1, .int (nI j)), (0, .ref (bs + r))] →
    W p l e (rmK 2 45 199 1981) s m args below meth c H locs (19 + 9 * j) (261 + 86 * j) (MQ below (QcK D dA bs (ly ++ lState r) mz) args s 199 1981 (Aq bs)) (F0 m 65 ls []) := by
  have hx := X.1.1
  have hb := X.1.2.1
  intro n
  induction n with
  | zero =>
    intro j hj H locs ls hP hS hl
    have hj : j = 20 := by omega
    subst hj
    refine lv_iload_n hx hb dX9_init_65 rfl (lv_at hl 0 rfl) ?_
    refine lv_bipush (v := 20) hx hb dX9_init_66 (by decide) ?_
    refine lv_icmp_ge (tgt := 94) hx hb dX9_init_68 (by decide) (fun _ => ?_) (fun c_1 => absurd (by decide) c_1)
    rw [st_fin] at hP
    exact wk_vret X hP hS hr0 dX9_init_94 ⟨rfl, rfl⟩
  | succ n ih =>
    intro j hj H locs ls hP hS hl
    have hlen : (ly ++ (stA r j ++ lRS r j)).length = r + 20 + 9 * j := by
      rw [List.length_append, List.length_append, lRS_len, hr]
      show r + (20 + 9 * j) = _
      omega
    refine lv_iload_n hx hb dX9_init_65 rfl (lv_at hl 0 rfl) ?_
    refine lv_bipush (v := 20) hx hb dX9_init_66 (by decide) ?_
    refine lv_icmp_ge (tgt := 94) hx hb dX9_init_68 (by decide) (fun c_1 => absurd c_1 (nI_ge (a := j) (b := 20) (by omega) (by decide))) (fun _ => ?_)
    refine lv_aload_n hx hb dX9_init_71 rfl (lv_at hl 1 rfl) ?_
    refine wd_getR (q := r + 16) X.1 hP.1 (ap_at (k := 0) hr rfl) fl_X9_27 rfl dX9_init_72 ?_
    refine lv_iload_n hx hb dX9_init_75 rfl (lv_at hl 0 rfl) ?_
    refine wk_new X hP hS nn_X9_18 (Zr_mz _) (by show 19 + 9 * j + 1 ≤ 199; omega) (by show 261 + 86 * j + 12 ≤ 1981; omega) dX9_init_76 (fun H hP hS => ?_)
    rw [hlen]
    have hPn := hP
    rw [List.append_assoc, List.append_assoc] at hP
    refine lv_dup hx hb dX9_init_79 rfl ?_
    refine lv_aload_n hx hb dX9_init_80 rfl (lv_at hl 1 rfl) ?_
    refine wd_getR (q := r + 1) X.1 hP.1 (ap_at (k := 0) hr rfl) fl_X9_12 rfl dX9_init_81 ?_
    refine wk_ci X hPn hS mi_X9_20 (k_X4_init l D dA zz bs (ly ++ (stA r j ++ lRS r j)) (r + 20 + 9 * j) hlen (r + 1)) rfl ⟨Nat.le_of_ble_eq_true rfl, Nat.le_of_ble_eq_true rfl⟩ hl.1 rfl (rest := [.ref (bs + (r + 20 + 9 * j)), .int (nI j), .ref (bs + (r + 16))]) (Nat.le_of_ble_eq_true rfl) ⟨by show 19 + 9 * j + 1 + 8 ≤ 199; omega, by show 261 + 86 * j + 12 + 74 ≤ 1981; omega⟩ dX9_init_84 (fun H locs hP hS => ?_)
    have hP : Wk D dA bs (ly ++ (stA r j ++ lRS r (j + 1))) mz H := by
      rw [List.append_assoc, List.append_assoc] at hP
      exact hP
    have hq : (ly ++ (stA r j ++ lRS r (j + 1)))[r + 20 + 9 * j]? = (lRaft (r + 20 + 9 * j) (r + 1))[0]? := by
      show (ly ++ (stA r j ++ (lRS r j ++ lRaft (r + 20 + 9 * j) (r + 1))))[r + 20 + 9 * j]? = _
      rw [List.getElem?_append_right (by omega), List.getElem?_append_right (by rw [hr]; show 20 ≤ _; omega), List.getElem?_append_right (by rw [hr, lRS_len]; show 9 * j ≤ r + 20 + 9 * j - r - 20; omega), lRS_len, hr]
      congr 1
      show r + 20 + 9 * j - r - 20 - 9 * j = 0
      omega
    refine wk_astq (t := 6) (k := j) X hP hS (ap_at (k := 16) hr rfl) rfl ⟨by decide, by decide⟩ hq ⟨_, _, rfl⟩ (vp_in_nI (by omega) (by decide)) (nI_clamp (by omega)) dX9_init_87 (fun H locs hP hS => ?_)
    have hP : Wk D dA bs (ly ++ (stA r (j + 1) ++ lRS r (j + 1))) mz H := by
      rw [ap_set hr, stA_up] at hP
      exact hP
    refine lv_iinc (v := nI (j + 1)) (lv' := [(1, .int (nI (j + 1))), (0, .ref (bs + r))]) hx hb dX9_init_88 hl (k := 0) rfl (nI_add j 1) (by decide) rfl (fun ls hl => ?_)
    refine lv_goto (tgt := 65) hx hb dX9_init_91 (by decide) ?_
    refine W.widen (k := 19 + 9 * (j + 1)) (n := 261 + 86 * (j + 1)) (by omega) (by omega) ?_
    exact ih (j + 1) (by omega) H locs ls hP hS hl
set_option maxHeartbeats 4000000 in
set_option maxRecDepth 100000 in
theorem k_X9_init (l : Launch) (D : va_G) (dA : Nat → ClassId) (zz : (Nat → Nat) × (Nat → Nat)) (bs : Nat) (ly : List Lay) (r : Nat) (hr : ly.length = r) : Mk l D dA zz bs yX9_init cX9_init 2 2 45 199 1981 [.ref (bs + r)] (ly ++ [.inl (9, [some none, some none, some none, none, none, none, some none, some none, some none, none])]) mz (ly ++ lState r) mz := by
  refine Mk.of (own := RX9) (by decide) rfl rfl (Nat.le_of_ble_eq_true rfl) ?_
  intro p e s m args below meth c X hin hr0 hP hS ls hl
  have hx := X.1.1
  have hb := X.1.2.1
  obtain ⟨H, hH⟩ : ∃ z : Heap, z = s.heap := ⟨_, rfl⟩
  obtain ⟨locs, hL⟩ : ∃ z : List Loc, z = [] := ⟨_, rfl⟩
  rw [← hH, ← hL]
  have hS : va_S (Aq bs) s.heap H locs := by rw [hH, hL]; exact hS
  have hP : Wk D dA bs (ly ++ [.inl (9, [some none, some none, some none, none, none, none, some none, some none, some none, none])]) mz H := by rw [hH]; exact hP
  have hl : lv_has ls 2 [(0, .ref (bs + r))] := hl
  refine lv_aload_n hx hb dX9_init_0 rfl (lv_at hl 0 rfl) ?_
  refine W.objInit hx hb X.1.2.2.2.1 (X.1.2.2.2.2.1 _ ol_X9_3) (X.1.2.2.2.2.1 _ ob_i) (X.1.2.2.2.2.1 _ ob_c) rfl (X.1.2.2.1 ▸ hl.1) rfl dX9_init_1 (Nat.le_of_ble_eq_true rfl) (Nat.le_of_ble_eq_true rfl) ?_
  refine W.eq (g2 := F0 m 4 ls []) rfl ?_
  refine lv_aload_n hx hb dX9_init_4 rfl (lv_at hl 0 rfl) ?_
  refine wk_new X hP hS nn_X9_9 (Zr_mz _) (Nat.le_of_ble_eq_true rfl) (Nat.le_of_ble_eq_true rfl) dX9_init_5 (fun H hP hS => ?_)
  rw [ap_len (k := 1) hr rfl]
  have hPn := hP
  rw [List.append_assoc] at hP
  have hP : Wk D dA bs (ly ++ [.inl (9, [some none, some none, some none, none, none, none, some none, some none, some none, none]), .inl (5, [none, none, none, none, some none, some none, some none, some none, some none])]) mz H := hP
  refine W.widen (k := 1) (n := 9) (Nat.le_of_ble_eq_true rfl) (Nat.le_of_ble_eq_true rfl) ?_
  refine lv_dup hx hb dX9_init_8 rfl ?_
  refine wk_cin X hPn hS mi_X9_11 (k_X5_init l D dA zz bs (ly ++ [.inl (9, [some none, some none, some none, none, none, none, some none, some none, some none, none])]) (r + 1) (ap_len hr rfl)) rfl ⟨Nat.le_of_ble_eq_true rfl, Nat.le_of_ble_eq_true rfl⟩ hl.1 rfl (rest := [.ref (bs + (r + 1)), .ref (bs + (r))]) (Nat.le_of_ble_eq_true rfl) ⟨Nat.le_of_ble_eq_true rfl, Nat.le_of_ble_eq_true rfl⟩ dX9_init_9 (fun H locs hP hS => ?_)
  rw [List.append_assoc] at hP
  have hP : Wk D dA bs (ly ++ [.inl (9, [some none, some none, some none, none, none, none, some none, some none, some none, none]), .inl (5, [none, none, none, none, some (some (r + 2)), some (some (r + 3)), some (some (r + 4)), some (some (r + 5)), some (some (r + 6))]), .inr (0, 6, ng), .inr (0, 6, ng), .inr (0, 8, ng), .inr (0, 8, ng), .inr (0, 100, ng)]) mz H := hP
  refine W.widen (k := 6) (n := 137) (Nat.le_of_ble_eq_true rfl) (Nat.le_of_ble_eq_true rfl) ?_
  refine W.eq (g2 := F0 m 12 ls [.ref (bs + (r + 1)), .ref (bs + (r))]) rfl ?_
  refine wk_putR (q := r + 1) X hin hP hS (ap_at (k := 0) hr rfl) ff_X9_12 rfl dX9_init_12 (fun H locs hP hS => ?_)
  rw [ap_set0 hr] at hP
  have hP : Wk D dA bs (ly ++ [.inl (9, [some (some (r + 1)), some none, some none, none, none, none, some none, some none, some none, none]), .inl (5, [none, none, none, none, some (some (r + 2)), some (some (r + 3)), some (some (r + 4)), some (some (r + 5)), some (some (r + 6))]), .inr (0, 6, ng), .inr (0, 6, ng), .inr (0, 8, ng), .inr (0, 8, ng), .inr (0, 100, ng)]) mz H := hP
  refine lv_aload_n hx hb dX9_init_15 rfl (lv_at hl 0 rfl) ?_
  refine wk_new X hP hS nn_X9_18 (Zr_mz _) (Nat.le_of_ble_eq_true rfl) (Nat.le_of_ble_eq_true rfl) dX9_init_16 (fun H hP hS => ?_)
  rw [ap_len (k := 7) hr rfl]
  have hPn := hP
  rw [List.append_assoc] at hP
  have hP : Wk D dA bs (ly ++ [.inl (9, [some (some (r + 1)), some none, some none, none, none, none, some none, some none, some none, none]), .inl (5, [none, none, none, none, some (some (r + 2)), some (some (r + 3)), some (some (r + 4)), some (some (r + 5)), some (some (r + 6))]), .inr (0, 6, ng), .inr (0, 6, ng), .inr (0, 8, ng), .inr (0, 8, ng), .inr (0, 100, ng), .inl (4, [some none, none, none, none, some none, some none, some none, some none, some none, some none, some none, some none])]) mz H := hP
  refine W.widen (k := 7) (n := 149) (Nat.le_of_ble_eq_true rfl) (Nat.le_of_ble_eq_true rfl) ?_
  refine lv_dup hx hb dX9_init_19 rfl ?_
  refine lv_aload_n hx hb dX9_init_20 rfl (lv_at hl 0 rfl) ?_
  refine wd_getR (q := r + 1) X.1 hP.1 (ap_at (k := 0) hr rfl) fl_X9_12 rfl dX9_init_21 ?_
  refine wk_ci X hPn hS mi_X9_20 (k_X4_init l D dA zz bs (ly ++ [.inl (9, [some (some (r + 1)), some none, some none, none, none, none, some none, some none, some none, none]), .inl (5, [none, none, none, none, some (some (r + 2)), some (some (r + 3)), some (some (r + 4)), some (some (r + 5)), some (some (r + 6))]), .inr (0, 6, ng), .inr (0, 6, ng), .inr (0, 8, ng), .inr (0, 8, ng), .inr (0, 100, ng)]) (r + 7) (ap_len hr rfl) (r + 1)) rfl ⟨Nat.le_of_ble_eq_true rfl, Nat.le_of_ble_eq_true rfl⟩ hl.1 rfl (rest := [.ref (bs + (r + 7)), .ref (bs + (r))]) (Nat.le_of_ble_eq_true rfl) ⟨Nat.le_of_ble_eq_true rfl, Nat.le_of_ble_eq_true rfl⟩ dX9_init_24 (fun H locs hP hS => ?_)
  rw [List.append_assoc] at hP
  have hP : Wk D dA bs (ly ++ [.inl (9, [some (some (r + 1)), some none, some none, none, none, none, some none, some none, some none, none]), .inl (5, [none, none, none, none, some (some (r + 2)), some (some (r + 3)), some (some (r + 4)), some (some (r + 5)), some (some (r + 6))]), .inr (0, 6, ng), .inr (0, 6, ng), .inr (0, 8, ng), .inr (0, 8, ng), .inr (0, 100, ng), .inl (4, [some (some (r + 1)), none, none, none, some (some (r + 8)), some (some (r + 9)), some (some (r + 10)), some (some (r + 11)), some (some (r + 12)), some (some (r + 13)), some (some (r + 14)), some (some (r + 15))]), .inr (0, 6, ng), .inr (0, 8, ng), .inr (0, 8, ng), .inr (0, 8, ng), .inr (0, 8, ng), .inr (0, 12, ng), .inr (0, 12, ng), .inr (0, 12, ng)]) mz H := hP
  refine W.widen (k := 15) (n := 223) (Nat.le_of_ble_eq_true rfl) (Nat.le_of_ble_eq_true rfl) ?_
  refine W.eq (g2 := F0 m 27 ls [.ref (bs + (r + 7)), .ref (bs + (r))]) rfl ?_
  refine wk_putR (q := r + 7) X hin hP hS (ap_at (k := 0) hr rfl) ff_X9_23 rfl dX9_init_27 (fun H locs hP hS => ?_)
  rw [ap_set0 hr] at hP
  have hP : Wk D dA bs (ly ++ [.inl (9, [some (some (r + 1)), some (some (r + 7)), some none, none, none, none, some none, some none, some none, none]), .inl (5, [none, none, none, none, some (some (r + 2)), some (some (r + 3)), some (some (r + 4)), some (some (r + 5)), some (some (r + 6))]), .inr (0, 6, ng), .inr (0, 6, ng), .inr (0, 8, ng), .inr (0, 8, ng), .inr (0, 100, ng), .inl (4, [some (some (r + 1)), none, none, none, some (some (r + 8)), some (some (r + 9)), some (some (r + 10)), some (some (r + 11)), some (some (r + 12)), some (some (r + 13)), some (some (r + 14)), some (some (r + 15))]), .inr (0, 6, ng), .inr (0, 8, ng), .inr (0, 8, ng), .inr (0, 8, ng), .inr (0, 8, ng), .inr (0, 12, ng), .inr (0, 12, ng), .inr (0, 12, ng)]) mz H := hP
  refine lv_aload_n hx hb dX9_init_30 rfl (lv_at hl 0 rfl) ?_
  refine lv_bipush (v := 20) hx hb dX9_init_31 (by decide) ?_
  refine wk_newq (t := 6) (N := 20) X hP hS cl_X9_18 (by decide) rfl ⟨by decide, by decide⟩ (by decide) (by decide) (by decide) (Nat.le_of_ble_eq_true rfl) (Nat.le_of_ble_eq_true rfl) dX9_init_33 (fun H hP hS => ?_)
  rw [ap_len (k := 16) hr rfl]
  rw [List.append_assoc] at hP
  have hP : Wk D dA bs (ly ++ [.inl (9, [some (some (r + 1)), some (some (r + 7)), some none, none, none, none, some none, some none, some none, none]), .inl (5, [none, none, none, none, some (some (r + 2)), some (some (r + 3)), some (some (r + 4)), some (some (r + 5)), some (some (r + 6))]), .inr (0, 6, ng), .inr (0, 6, ng), .inr (0, 8, ng), .inr (0, 8, ng), .inr (0, 100, ng), .inl (4, [some (some (r + 1)), none, none, none, some (some (r + 8)), some (some (r + 9)), some (some (r + 10)), some (some (r + 11)), some (some (r + 12)), some (some (r + 13)), some (some (r + 14)), some (some (r + 15))]), .inr (0, 6, ng), .inr (0, 8, ng), .inr (0, 8, ng), .inr (0, 8, ng), .inr (0, 8, ng), .inr (0, 12, ng), .inr (0, 12, ng), .inr (0, 12, ng), .inr (6, 20, ng)]) mz H := hP
  refine W.widen (k := 16) (n := 243) (Nat.le_of_ble_eq_true rfl) (Nat.le_of_ble_eq_true rfl) ?_
  refine wk_putR (q := r + 16) X hin hP hS (ap_at (k := 0) hr rfl) ff_X9_27 rfl dX9_init_36 (fun H locs hP hS => ?_)
  rw [ap_set0 hr] at hP
  have hP : Wk D dA bs (ly ++ [.inl (9, [some (some (r + 1)), some (some (r + 7)), some (some (r + 16)), none, none, none, some none, some none, some none, none]), .inl (5, [none, none, none, none, some (some (r + 2)), some (some (r + 3)), some (some (r + 4)), some (some (r + 5)), some (some (r + 6))]), .inr (0, 6, ng), .inr (0, 6, ng), .inr (0, 8, ng), .inr (0, 8, ng), .inr (0, 100, ng), .inl (4, [some (some (r + 1)), none, none, none, some (some (r + 8)), some (some (r + 9)), some (some (r + 10)), some (some (r + 11)), some (some (r + 12)), some (some (r + 13)), some (some (r + 14)), some (some (r + 15))]), .inr (0, 6, ng), .inr (0, 8, ng), .inr (0, 8, ng), .inr (0, 8, ng), .inr (0, 8, ng), .inr (0, 12, ng), .inr (0, 12, ng), .inr (0, 12, ng), .inr (6, 20, ng)]) mz H := hP
  refine lv_aload_n hx hb dX9_init_39 rfl (lv_at hl 0 rfl) ?_
  refine lv_bipush (v := 6) hx hb dX9_init_40 (by decide) ?_
  refine wk_newI (N := 6) X hP hS aw_int (Zr_mz _) (by decide) (by decide) (by decide) (Nat.le_of_ble_eq_true rfl) (Nat.le_of_ble_eq_true rfl) dX9_init_42 (fun H hP hS => ?_)
  rw [ap_len (k := 17) hr rfl]
  rw [List.append_assoc] at hP
  have hP : Wk D dA bs (ly ++ [.inl (9, [some (some (r + 1)), some (some (r + 7)), some (some (r + 16)), none, none, none, some none, some none, some none, none]), .inl (5, [none, none, none, none, some (some (r + 2)), some (some (r + 3)), some (some (r + 4)), some (some (r + 5)), some (some (r + 6))]), .inr (0, 6, ng), .inr (0, 6, ng), .inr (0, 8, ng), .inr (0, 8, ng), .inr (0, 100, ng), .inl (4, [some (some (r + 1)), none, none, none, some (some (r + 8)), some (some (r + 9)), some (some (r + 10)), some (some (r + 11)), some (some (r + 12)), some (some (r + 13)), some (some (r + 14)), some (some (r + 15))]), .inr (0, 6, ng), .inr (0, 8, ng), .inr (0, 8, ng), .inr (0, 8, ng), .inr (0, 8, ng), .inr (0, 12, ng), .inr (0, 12, ng), .inr (0, 12, ng), .inr (6, 20, ng), .inr (0, 6, ng)]) mz H := hP
  refine W.widen (k := 17) (n := 249) (Nat.le_of_ble_eq_true rfl) (Nat.le_of_ble_eq_true rfl) ?_
  refine wk_putR (q := r + 17) X hin hP hS (ap_at (k := 0) hr rfl) ff_X9_31 rfl dX9_init_44 (fun H locs hP hS => ?_)
  rw [ap_set0 hr] at hP
  have hP : Wk D dA bs (ly ++ [.inl (9, [some (some (r + 1)), some (some (r + 7)), some (some (r + 16)), none, none, none, some (some (r + 17)), some none, some none, none]), .inl (5, [none, none, none, none, some (some (r + 2)), some (some (r + 3)), some (some (r + 4)), some (some (r + 5)), some (some (r + 6))]), .inr (0, 6, ng), .inr (0, 6, ng), .inr (0, 8, ng), .inr (0, 8, ng), .inr (0, 100, ng), .inl (4, [some (some (r + 1)), none, none, none, some (some (r + 8)), some (some (r + 9)), some (some (r + 10)), some (some (r + 11)), some (some (r + 12)), some (some (r + 13)), some (some (r + 14)), some (some (r + 15))]), .inr (0, 6, ng), .inr (0, 8, ng), .inr (0, 8, ng), .inr (0, 8, ng), .inr (0, 8, ng), .inr (0, 12, ng), .inr (0, 12, ng), .inr (0, 12, ng), .inr (6, 20, ng), .inr (0, 6, ng)]) mz H := hP
  refine lv_aload_n hx hb dX9_init_47 rfl (lv_at hl 0 rfl) ?_
  refine lv_bipush (v := 6) hx hb dX9_init_48 (by decide) ?_
  refine wk_newI (N := 6) X hP hS aw_int (Zr_mz _) (by decide) (by decide) (by decide) (Nat.le_of_ble_eq_true rfl) (Nat.le_of_ble_eq_true rfl) dX9_init_50 (fun H hP hS => ?_)
  rw [ap_len (k := 18) hr rfl]
  rw [List.append_assoc] at hP
  have hP : Wk D dA bs (ly ++ [.inl (9, [some (some (r + 1)), some (some (r + 7)), some (some (r + 16)), none, none, none, some (some (r + 17)), some none, some none, none]), .inl (5, [none, none, none, none, some (some (r + 2)), some (some (r + 3)), some (some (r + 4)), some (some (r + 5)), some (some (r + 6))]), .inr (0, 6, ng), .inr (0, 6, ng), .inr (0, 8, ng), .inr (0, 8, ng), .inr (0, 100, ng), .inl (4, [some (some (r + 1)), none, none, none, some (some (r + 8)), some (some (r + 9)), some (some (r + 10)), some (some (r + 11)), some (some (r + 12)), some (some (r + 13)), some (some (r + 14)), some (some (r + 15))]), .inr (0, 6, ng), .inr (0, 8, ng), .inr (0, 8, ng), .inr (0, 8, ng), .inr (0, 8, ng), .inr (0, 12, ng), .inr (0, 12, ng), .inr (0, 12, ng), .inr (6, 20, ng), .inr (0, 6, ng), .inr (0, 6, ng)]) mz H := hP
  refine W.widen (k := 18) (n := 255) (Nat.le_of_ble_eq_true rfl) (Nat.le_of_ble_eq_true rfl) ?_
  refine wk_putR (q := r + 18) X hin hP hS (ap_at (k := 0) hr rfl) ff_X9_35 rfl dX9_init_52 (fun H locs hP hS => ?_)
  rw [ap_set0 hr] at hP
  have hP : Wk D dA bs (ly ++ [.inl (9, [some (some (r + 1)), some (some (r + 7)), some (some (r + 16)), none, none, none, some (some (r + 17)), some (some (r + 18)), some none, none]), .inl (5, [none, none, none, none, some (some (r + 2)), some (some (r + 3)), some (some (r + 4)), some (some (r + 5)), some (some (r + 6))]), .inr (0, 6, ng), .inr (0, 6, ng), .inr (0, 8, ng), .inr (0, 8, ng), .inr (0, 100, ng), .inl (4, [some (some (r + 1)), none, none, none, some (some (r + 8)), some (some (r + 9)), some (some (r + 10)), some (some (r + 11)), some (some (r + 12)), some (some (r + 13)), some (some (r + 14)), some (some (r + 15))]), .inr (0, 6, ng), .inr (0, 8, ng), .inr (0, 8, ng), .inr (0, 8, ng), .inr (0, 8, ng), .inr (0, 12, ng), .inr (0, 12, ng), .inr (0, 12, ng), .inr (6, 20, ng), .inr (0, 6, ng), .inr (0, 6, ng)]) mz H := hP
  refine lv_aload_n hx hb dX9_init_55 rfl (lv_at hl 0 rfl) ?_
  refine lv_bipush (v := 6) hx hb dX9_init_56 (by decide) ?_
  refine wk_newI (N := 6) X hP hS aw_int (Zr_mz _) (by decide) (by decide) (by decide) (Nat.le_of_ble_eq_true rfl) (Nat.le_of_ble_eq_true rfl) dX9_init_58 (fun H hP hS => ?_)
  rw [ap_len (k := 19) hr rfl]
  rw [List.append_assoc] at hP
  have hP : Wk D dA bs (ly ++ [.inl (9, [some (some (r + 1)), some (some (r + 7)), some (some (r + 16)), none, none, none, some (some (r + 17)), some (some (r + 18)), some none, none]), .inl (5, [none, none, none, none, some (some (r + 2)), some (some (r + 3)), some (some (r + 4)), some (some (r + 5)), some (some (r + 6))]), .inr (0, 6, ng), .inr (0, 6, ng), .inr (0, 8, ng), .inr (0, 8, ng), .inr (0, 100, ng), .inl (4, [some (some (r + 1)), none, none, none, some (some (r + 8)), some (some (r + 9)), some (some (r + 10)), some (some (r + 11)), some (some (r + 12)), some (some (r + 13)), some (some (r + 14)), some (some (r + 15))]), .inr (0, 6, ng), .inr (0, 8, ng), .inr (0, 8, ng), .inr (0, 8, ng), .inr (0, 8, ng), .inr (0, 12, ng), .inr (0, 12, ng), .inr (0, 12, ng), .inr (6, 20, ng), .inr (0, 6, ng), .inr (0, 6, ng), .inr (0, 6, ng)]) mz H := hP
  refine W.widen (k := 19) (n := 261) (Nat.le_of_ble_eq_true rfl) (Nat.le_of_ble_eq_true rfl) ?_
  refine wk_putR (q := r + 19) X hin hP hS (ap_at (k := 0) hr rfl) ff_X9_38 rfl dX9_init_60 (fun H locs hP hS => ?_)
  rw [ap_set0 hr] at hP
  have hP : Wk D dA bs (ly ++ [.inl (9, [some (some (r + 1)), some (some (r + 7)), some (some (r + 16)), none, none, none, some (some (r + 17)), some (some (r + 18)), some (some (r + 19)), none]), .inl (5, [none, none, none, none, some (some (r + 2)), some (some (r + 3)), some (some (r + 4)), some (some (r + 5)), some (some (r + 6))]), .inr (0, 6, ng), .inr (0, 6, ng), .inr (0, 8, ng), .inr (0, 8, ng), .inr (0, 100, ng), .inl (4, [some (some (r + 1)), none, none, none, some (some (r + 8)), some (some (r + 9)), some (some (r + 10)), some (some (r + 11)), some (some (r + 12)), some (some (r + 13)), some (some (r + 14)), some (some (r + 15))]), .inr (0, 6, ng), .inr (0, 8, ng), .inr (0, 8, ng), .inr (0, 8, ng), .inr (0, 8, ng), .inr (0, 12, ng), .inr (0, 12, ng), .inr (0, 12, ng), .inr (6, 20, ng), .inr (0, 6, ng), .inr (0, 6, ng), .inr (0, 6, ng)]) mz H := hP
  refine lv_iconst (v := 0) hx hb dX9_init_63 (by decide) ?_
  refine lv_istore_n (lv' := [(1, .int 0), (0, .ref (bs + r))]) hx hb dX9_init_64 rfl hl (by decide) rfl (fun ls hl => ?_)
  refine W.widen (k := 19 + 9 * 0) (n := 261 + 86 * 0) (Nat.le_of_ble_eq_true rfl) (Nat.le_of_ble_eq_true rfl) ?_
  have hP : Wk D dA bs (ly ++ (stA r 0 ++ lRS r 0)) mz H := by
    rw [show stA r 0 ++ lRS r 0 = stA r 0 from List.append_nil _]
    have e0 : stA r 0 = [.inl (9, [some (some (r + 1)), some (some (r + 7)), some (some (r + 16)), none, none, none, some (some (r + 17)), some (some (r + 18)), some (some (r + 19)), none]), .inl (5, [none, none, none, none, some (some (r + 2)), some (some (r + 3)), some (some (r + 4)), some (some (r + 5)), some (some (r + 6))]), .inr (0, 6, ng), .inr (0, 6, ng), .inr (0, 8, ng), .inr (0, 8, ng), .inr (0, 100, ng), .inl (4, [some (some (r + 1)), none, none, none, some (some (r + 8)), some (some (r + 9)), some (some (r + 10)), some (some (r + 11)), some (some (r + 12)), some (some (r + 13)), some (some (r + 14)), some (some (r + 15))]), .inr (0, 6, ng), .inr (0, 8, ng), .inr (0, 8, ng), .inr (0, 8, ng), .inr (0, 8, ng), .inr (0, 12, ng), .inr (0, 12, ng), .inr (0, 12, ng), .inr (6, 20, ng), .inr (0, 6, ng), .inr (0, 6, ng), .inr (0, 6, ng)] := by
      unfold stA
      rw [show (fun i => if i < 0 then some (r + 20 + 9 * i) else none) = ng from funext fun i => if_neg (by omega)]
    rw [e0]
    exact hP
  exact k_State_loop hr X hr0 20 0 rfl H locs ls hP hS hl
