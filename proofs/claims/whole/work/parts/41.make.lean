def lX10 (r : Nat) : List Lay := [.inl (10, [some (some (r + 1)), none, none, none, none]), .inr (1, 400, ng)]
set_option maxHeartbeats 4000000 in
set_option maxRecDepth 100000 in
theorem k_X10_init (l : Launch) (D : va_G) (dA : Nat → ClassId) (zz : (Nat → Nat) × (Nat → Nat)) (bs : Nat) (ly : List Lay) (r : Nat) (hr : ly.length = r) : Mk l D dA zz bs yX10_init cX10_init 1 1 24 1 400 [.ref (bs + r)] (ly ++ [.inl (10, [some none, none, none, none, none])]) mz (ly ++ lX10 r) mz := by
  refine Mk.of (own := RX10) (by decide) rfl rfl (Nat.le_of_ble_eq_true rfl) ?_
  intro p e s m args below meth c X hin hr0 hP hS ls hl
  have hx := X.1.1
  have hb := X.1.2.1
  obtain ⟨H, hH⟩ : ∃ z : Heap, z = s.heap := ⟨_, rfl⟩
  obtain ⟨locs, hL⟩ : ∃ z : List Loc, z = [] := ⟨_, rfl⟩
  rw [← hH, ← hL]
  have hS : va_S (Aq bs) s.heap H locs := by rw [hH, hL]; exact hS
  have hP : Wk D dA bs (ly ++ [.inl (10, [some none, none, none, none, none])]) mz H := by rw [hH]; exact hP
  have hl : lv_has ls 1 [(0, .ref (bs + r))] := hl
  refine lv_aload_n hx hb dX10_init_0 rfl (lv_at hl 0 rfl) ?_
  refine W.objInit hx hb X.1.2.2.2.1 (X.1.2.2.2.2.1 _ ol_X10_3) (X.1.2.2.2.2.1 _ ob_i) (X.1.2.2.2.2.1 _ ob_c) rfl (X.1.2.2.1 ▸ hl.1) rfl dX10_init_1 (Nat.le_of_ble_eq_true rfl) (Nat.le_of_ble_eq_true rfl) ?_
  refine W.eq (g2 := F0 m 4 ls []) rfl ?_
  refine lv_aload_n hx hb dX10_init_4 rfl (lv_at hl 0 rfl) ?_
  refine lv_sipush (v := 400) hx hb dX10_init_5 (by decide) ?_
  refine wk_newB (N := 400) X hP hS aw_byte (Zr_mz _) (by decide) (by decide) (by decide) (Nat.le_of_ble_eq_true rfl) (Nat.le_of_ble_eq_true rfl) dX10_init_8 (fun H hP hS => ?_)
  rw [ap_len (k := 1) hr rfl]
  rw [List.append_assoc] at hP
  have hP : Wk D dA bs (ly ++ [.inl (10, [some none, none, none, none, none]), .inr (1, 400, ng)]) mz H := hP
  refine W.widen (k := 1) (n := 400) (Nat.le_of_ble_eq_true rfl) (Nat.le_of_ble_eq_true rfl) ?_
  refine wk_putR (q := r + 1) X hin hP hS (ap_at (k := 0) hr rfl) ff_X10_9 rfl dX10_init_10 (fun H locs hP hS => ?_)
  rw [ap_set0 hr] at hP
  have hP : Wk D dA bs (ly ++ [.inl (10, [some (some (r + 1)), none, none, none, none]), .inr (1, 400, ng)]) mz H := hP
  exact wk_vret X hP hS hr0 dX10_init_13 ⟨rfl, rfl⟩
set_option maxHeartbeats 4000000 in
set_option maxRecDepth 100000 in
theorem k_X5_init (l : Launch) (D : va_G) (dA : Nat → ClassId) (zz : (Nat → Nat) × (Nat → Nat)) (bs : Nat) (ly : List Lay) (r : Nat) (hr : ly.length = r) : Mk l D dA zz bs yX5_init cX5_init 1 1 24 5 128 [.ref (bs + r)] (ly ++ [.inl (5, [none, none, none, none, some none, some none, some none, some none, some none])]) mz (ly ++ lRiver r) mz := by
  refine Mk.of (own := RX5) (by decide) rfl rfl (Nat.le_of_ble_eq_true rfl) ?_
  intro p e s m args below meth c X hin hr0 hP hS ls hl
  have hx := X.1.1
  have hb := X.1.2.1
  obtain ⟨H, hH⟩ : ∃ z : Heap, z = s.heap := ⟨_, rfl⟩
  obtain ⟨locs, hL⟩ : ∃ z : List Loc, z = [] := ⟨_, rfl⟩
  rw [← hH, ← hL]
  have hS : va_S (Aq bs) s.heap H locs := by rw [hH, hL]; exact hS
  have hP : Wk D dA bs (ly ++ [.inl (5, [none, none, none, none, some none, some none, some none, some none, some none])]) mz H := by rw [hH]; exact hP
  have hl : lv_has ls 1 [(0, .ref (bs + r))] := hl
  refine lv_aload_n hx hb dX5_init_0 rfl (lv_at hl 0 rfl) ?_
  refine W.objInit hx hb X.1.2.2.2.1 (X.1.2.2.2.2.1 _ ol_X5_3) (X.1.2.2.2.2.1 _ ob_i) (X.1.2.2.2.2.1 _ ob_c) rfl (X.1.2.2.1 ▸ hl.1) rfl dX5_init_1 (Nat.le_of_ble_eq_true rfl) (Nat.le_of_ble_eq_true rfl) ?_
  refine W.eq (g2 := F0 m 4 ls []) rfl ?_
  refine lv_aload_n hx hb dX5_init_4 rfl (lv_at hl 0 rfl) ?_
  refine lv_bipush (v := 6) hx hb dX5_init_5 (by decide) ?_
  refine wk_newI (N := 6) X hP hS aw_int (Zr_mz _) (by decide) (by decide) (by decide) (Nat.le_of_ble_eq_true rfl) (Nat.le_of_ble_eq_true rfl) dX5_init_7 (fun H hP hS => ?_)
  rw [ap_len (k := 1) hr rfl]
  rw [List.append_assoc] at hP
  have hP : Wk D dA bs (ly ++ [.inl (5, [none, none, none, none, some none, some none, some none, some none, some none]), .inr (0, 6, ng)]) mz H := hP
  refine W.widen (k := 1) (n := 6) (Nat.le_of_ble_eq_true rfl) (Nat.le_of_ble_eq_true rfl) ?_
  refine wk_putR (q := r + 1) X hin hP hS (ap_at (k := 0) hr rfl) ff_X5_9 rfl dX5_init_9 (fun H locs hP hS => ?_)
  rw [ap_set0 hr] at hP
  have hP : Wk D dA bs (ly ++ [.inl (5, [none, none, none, none, some (some (r + 1)), some none, some none, some none, some none]), .inr (0, 6, ng)]) mz H := hP
  refine lv_aload_n hx hb dX5_init_12 rfl (lv_at hl 0 rfl) ?_
  refine lv_bipush (v := 6) hx hb dX5_init_13 (by decide) ?_
  refine wk_newI (N := 6) X hP hS aw_int (Zr_mz _) (by decide) (by decide) (by decide) (Nat.le_of_ble_eq_true rfl) (Nat.le_of_ble_eq_true rfl) dX5_init_15 (fun H hP hS => ?_)
  rw [ap_len (k := 2) hr rfl]
  rw [List.append_assoc] at hP
  have hP : Wk D dA bs (ly ++ [.inl (5, [none, none, none, none, some (some (r + 1)), some none, some none, some none, some none]), .inr (0, 6, ng), .inr (0, 6, ng)]) mz H := hP
  refine W.widen (k := 2) (n := 12) (Nat.le_of_ble_eq_true rfl) (Nat.le_of_ble_eq_true rfl) ?_
  refine wk_putR (q := r + 2) X hin hP hS (ap_at (k := 0) hr rfl) ff_X5_15 rfl dX5_init_17 (fun H locs hP hS => ?_)
  rw [ap_set0 hr] at hP
  have hP : Wk D dA bs (ly ++ [.inl (5, [none, none, none, none, some (some (r + 1)), some (some (r + 2)), some none, some none, some none]), .inr (0, 6, ng), .inr (0, 6, ng)]) mz H := hP
  refine lv_aload_n hx hb dX5_init_20 rfl (lv_at hl 0 rfl) ?_
  refine lv_bipush (v := 8) hx hb dX5_init_21 (by decide) ?_
  refine wk_newI (N := 8) X hP hS aw_int (Zr_mz _) (by decide) (by decide) (by decide) (Nat.le_of_ble_eq_true rfl) (Nat.le_of_ble_eq_true rfl) dX5_init_23 (fun H hP hS => ?_)
  rw [ap_len (k := 3) hr rfl]
  rw [List.append_assoc] at hP
  have hP : Wk D dA bs (ly ++ [.inl (5, [none, none, none, none, some (some (r + 1)), some (some (r + 2)), some none, some none, some none]), .inr (0, 6, ng), .inr (0, 6, ng), .inr (0, 8, ng)]) mz H := hP
  refine W.widen (k := 3) (n := 20) (Nat.le_of_ble_eq_true rfl) (Nat.le_of_ble_eq_true rfl) ?_
  refine wk_putR (q := r + 3) X hin hP hS (ap_at (k := 0) hr rfl) ff_X5_18 rfl dX5_init_25 (fun H locs hP hS => ?_)
  rw [ap_set0 hr] at hP
  have hP : Wk D dA bs (ly ++ [.inl (5, [none, none, none, none, some (some (r + 1)), some (some (r + 2)), some (some (r + 3)), some none, some none]), .inr (0, 6, ng), .inr (0, 6, ng), .inr (0, 8, ng)]) mz H := hP
  refine lv_aload_n hx hb dX5_init_28 rfl (lv_at hl 0 rfl) ?_
  refine lv_bipush (v := 8) hx hb dX5_init_29 (by decide) ?_
  refine wk_newI (N := 8) X hP hS aw_int (Zr_mz _) (by decide) (by decide) (by decide) (Nat.le_of_ble_eq_true rfl) (Nat.le_of_ble_eq_true rfl) dX5_init_31 (fun H hP hS => ?_)
  rw [ap_len (k := 4) hr rfl]
  rw [List.append_assoc] at hP
  have hP : Wk D dA bs (ly ++ [.inl (5, [none, none, none, none, some (some (r + 1)), some (some (r + 2)), some (some (r + 3)), some none, some none]), .inr (0, 6, ng), .inr (0, 6, ng), .inr (0, 8, ng), .inr (0, 8, ng)]) mz H := hP
  refine W.widen (k := 4) (n := 28) (Nat.le_of_ble_eq_true rfl) (Nat.le_of_ble_eq_true rfl) ?_
  refine wk_putR (q := r + 4) X hin hP hS (ap_at (k := 0) hr rfl) ff_X5_21 rfl dX5_init_33 (fun H locs hP hS => ?_)
  rw [ap_set0 hr] at hP
  have hP : Wk D dA bs (ly ++ [.inl (5, [none, none, none, none, some (some (r + 1)), some (some (r + 2)), some (some (r + 3)), some (some (r + 4)), some none]), .inr (0, 6, ng), .inr (0, 6, ng), .inr (0, 8, ng), .inr (0, 8, ng)]) mz H := hP
  refine lv_aload_n hx hb dX5_init_36 rfl (lv_at hl 0 rfl) ?_
  refine lv_bipush (v := 100) hx hb dX5_init_37 (by decide) ?_
  refine wk_newI (N := 100) X hP hS aw_int (Zr_mz _) (by decide) (by decide) (by decide) (Nat.le_of_ble_eq_true rfl) (Nat.le_of_ble_eq_true rfl) dX5_init_39 (fun H hP hS => ?_)
  rw [ap_len (k := 5) hr rfl]
  rw [List.append_assoc] at hP
  have hP : Wk D dA bs (ly ++ [.inl (5, [none, none, none, none, some (some (r + 1)), some (some (r + 2)), some (some (r + 3)), some (some (r + 4)), some none]), .inr (0, 6, ng), .inr (0, 6, ng), .inr (0, 8, ng), .inr (0, 8, ng), .inr (0, 100, ng)]) mz H := hP
  refine W.widen (k := 5) (n := 128) (Nat.le_of_ble_eq_true rfl) (Nat.le_of_ble_eq_true rfl) ?_
  refine wk_putR (q := r + 5) X hin hP hS (ap_at (k := 0) hr rfl) ff_X5_24 rfl dX5_init_41 (fun H locs hP hS => ?_)
  rw [ap_set0 hr] at hP
  have hP : Wk D dA bs (ly ++ [.inl (5, [none, none, none, none, some (some (r + 1)), some (some (r + 2)), some (some (r + 3)), some (some (r + 4)), some (some (r + 5))]), .inr (0, 6, ng), .inr (0, 6, ng), .inr (0, 8, ng), .inr (0, 8, ng), .inr (0, 100, ng)]) mz H := hP
  exact wk_vret X hP hS hr0 dX5_init_44 ⟨rfl, rfl⟩
set_option maxHeartbeats 4000000 in
set_option maxRecDepth 100000 in
theorem k_X4_init (l : Launch) (D : va_G) (dA : Nat → ClassId) (zz : (Nat → Nat) × (Nat → Nat)) (bs : Nat) (ly : List Lay) (r : Nat) (hr : ly.length = r) (v : Nat) : Mk l D dA zz bs yX4_init cX4_init 2 1 24 8 74 [.ref (bs + r), .ref (bs + v)] (ly ++ [.inl (4, [some none, none, none, none, some none, some none, some none, some none, some none, some none, some none, some none])]) mz (ly ++ lRaft r v) mz := by
  refine Mk.of (own := RX4) (by decide) rfl rfl (Nat.le_of_ble_eq_true rfl) ?_
  intro p e s m args below meth c X hin hr0 hP hS ls hl
  have hx := X.1.1
  have hb := X.1.2.1
  obtain ⟨H, hH⟩ : ∃ z : Heap, z = s.heap := ⟨_, rfl⟩
  obtain ⟨locs, hL⟩ : ∃ z : List Loc, z = [] := ⟨_, rfl⟩
  rw [← hH, ← hL]
  have hS : va_S (Aq bs) s.heap H locs := by rw [hH, hL]; exact hS
  have hP : Wk D dA bs (ly ++ [.inl (4, [some none, none, none, none, some none, some none, some none, some none, some none, some none, some none, some none])]) mz H := by rw [hH]; exact hP
  have hl : lv_has ls 2 [(0, .ref (bs + r)), (1, .ref (bs + v))] := hl
  refine lv_aload_n hx hb dX4_init_0 rfl (lv_at hl 0 rfl) ?_
  refine W.objInit hx hb X.1.2.2.2.1 (X.1.2.2.2.2.1 _ ol_X4_3) (X.1.2.2.2.2.1 _ ob_i) (X.1.2.2.2.2.1 _ ob_c) rfl (X.1.2.2.1 ▸ hl.1) rfl dX4_init_1 (Nat.le_of_ble_eq_true rfl) (Nat.le_of_ble_eq_true rfl) ?_
  refine W.eq (g2 := F0 m 4 ls []) rfl ?_
  refine lv_aload_n hx hb dX4_init_4 rfl (lv_at hl 0 rfl) ?_
  refine lv_bipush (v := 6) hx hb dX4_init_5 (by decide) ?_
  refine wk_newI (N := 6) X hP hS aw_int (Zr_mz _) (by decide) (by decide) (by decide) (Nat.le_of_ble_eq_true rfl) (Nat.le_of_ble_eq_true rfl) dX4_init_7 (fun H hP hS => ?_)
  rw [ap_len (k := 1) hr rfl]
  rw [List.append_assoc] at hP
  have hP : Wk D dA bs (ly ++ [.inl (4, [some none, none, none, none, some none, some none, some none, some none, some none, some none, some none, some none]), .inr (0, 6, ng)]) mz H := hP
  refine W.widen (k := 1) (n := 6) (Nat.le_of_ble_eq_true rfl) (Nat.le_of_ble_eq_true rfl) ?_
  refine wk_putR (q := r + 1) X hin hP hS (ap_at (k := 0) hr rfl) ff_X4_9 rfl dX4_init_9 (fun H locs hP hS => ?_)
  rw [ap_set0 hr] at hP
  have hP : Wk D dA bs (ly ++ [.inl (4, [some none, none, none, none, some (some (r + 1)), some none, some none, some none, some none, some none, some none, some none]), .inr (0, 6, ng)]) mz H := hP
  refine lv_aload_n hx hb dX4_init_12 rfl (lv_at hl 0 rfl) ?_
  refine lv_bipush (v := 8) hx hb dX4_init_13 (by decide) ?_
  refine wk_newI (N := 8) X hP hS aw_int (Zr_mz _) (by decide) (by decide) (by decide) (Nat.le_of_ble_eq_true rfl) (Nat.le_of_ble_eq_true rfl) dX4_init_15 (fun H hP hS => ?_)
  rw [ap_len (k := 2) hr rfl]
  rw [List.append_assoc] at hP
  have hP : Wk D dA bs (ly ++ [.inl (4, [some none, none, none, none, some (some (r + 1)), some none, some none, some none, some none, some none, some none, some none]), .inr (0, 6, ng), .inr (0, 8, ng)]) mz H := hP
  refine W.widen (k := 2) (n := 14) (Nat.le_of_ble_eq_true rfl) (Nat.le_of_ble_eq_true rfl) ?_
  refine wk_putR (q := r + 2) X hin hP hS (ap_at (k := 0) hr rfl) ff_X4_15 rfl dX4_init_17 (fun H locs hP hS => ?_)
  rw [ap_set0 hr] at hP
  have hP : Wk D dA bs (ly ++ [.inl (4, [some none, none, none, none, some (some (r + 1)), some (some (r + 2)), some none, some none, some none, some none, some none, some none]), .inr (0, 6, ng), .inr (0, 8, ng)]) mz H := hP
  refine lv_aload_n hx hb dX4_init_20 rfl (lv_at hl 0 rfl) ?_
  refine lv_bipush (v := 8) hx hb dX4_init_21 (by decide) ?_
  refine wk_newI (N := 8) X hP hS aw_int (Zr_mz _) (by decide) (by decide) (by decide) (Nat.le_of_ble_eq_true rfl) (Nat.le_of_ble_eq_true rfl) dX4_init_23 (fun H hP hS => ?_)
  rw [ap_len (k := 3) hr rfl]
  rw [List.append_assoc] at hP
  have hP : Wk D dA bs (ly ++ [.inl (4, [some none, none, none, none, some (some (r + 1)), some (some (r + 2)), some none, some none, some none, some none, some none, some none]), .inr (0, 6, ng), .inr (0, 8, ng), .inr (0, 8, ng)]) mz H := hP
  refine W.widen (k := 3) (n := 22) (Nat.le_of_ble_eq_true rfl) (Nat.le_of_ble_eq_true rfl) ?_
  refine wk_putR (q := r + 3) X hin hP hS (ap_at (k := 0) hr rfl) ff_X4_18 rfl dX4_init_25 (fun H locs hP hS => ?_)
  rw [ap_set0 hr] at hP
  have hP : Wk D dA bs (ly ++ [.inl (4, [some none, none, none, none, some (some (r + 1)), some (some (r + 2)), some (some (r + 3)), some none, some none, some none, some none, some none]), .inr (0, 6, ng), .inr (0, 8, ng), .inr (0, 8, ng)]) mz H := hP
  refine lv_aload_n hx hb dX4_init_28 rfl (lv_at hl 0 rfl) ?_
  refine lv_bipush (v := 8) hx hb dX4_init_29 (by decide) ?_
  refine wk_newI (N := 8) X hP hS aw_int (Zr_mz _) (by decide) (by decide) (by decide) (Nat.le_of_ble_eq_true rfl) (Nat.le_of_ble_eq_true rfl) dX4_init_31 (fun H hP hS => ?_)
  rw [ap_len (k := 4) hr rfl]
  rw [List.append_assoc] at hP
  have hP : Wk D dA bs (ly ++ [.inl (4, [some none, none, none, none, some (some (r + 1)), some (some (r + 2)), some (some (r + 3)), some none, some none, some none, some none, some none]), .inr (0, 6, ng), .inr (0, 8, ng), .inr (0, 8, ng), .inr (0, 8, ng)]) mz H := hP
  refine W.widen (k := 4) (n := 30) (Nat.le_of_ble_eq_true rfl) (Nat.le_of_ble_eq_true rfl) ?_
  refine wk_putR (q := r + 4) X hin hP hS (ap_at (k := 0) hr rfl) ff_X4_21 rfl dX4_init_33 (fun H locs hP hS => ?_)
  rw [ap_set0 hr] at hP
  have hP : Wk D dA bs (ly ++ [.inl (4, [some none, none, none, none, some (some (r + 1)), some (some (r + 2)), some (some (r + 3)), some (some (r + 4)), some none, some none, some none, some none]), .inr (0, 6, ng), .inr (0, 8, ng), .inr (0, 8, ng), .inr (0, 8, ng)]) mz H := hP
  refine lv_aload_n hx hb dX4_init_36 rfl (lv_at hl 0 rfl) ?_
  refine lv_bipush (v := 8) hx hb dX4_init_37 (by decide) ?_
  refine wk_newI (N := 8) X hP hS aw_int (Zr_mz _) (by decide) (by decide) (by decide) (Nat.le_of_ble_eq_true rfl) (Nat.le_of_ble_eq_true rfl) dX4_init_39 (fun H hP hS => ?_)
  rw [ap_len (k := 5) hr rfl]
  rw [List.append_assoc] at hP
  have hP : Wk D dA bs (ly ++ [.inl (4, [some none, none, none, none, some (some (r + 1)), some (some (r + 2)), some (some (r + 3)), some (some (r + 4)), some none, some none, some none, some none]), .inr (0, 6, ng), .inr (0, 8, ng), .inr (0, 8, ng), .inr (0, 8, ng), .inr (0, 8, ng)]) mz H := hP
  refine W.widen (k := 5) (n := 38) (Nat.le_of_ble_eq_true rfl) (Nat.le_of_ble_eq_true rfl) ?_
  refine wk_putR (q := r + 5) X hin hP hS (ap_at (k := 0) hr rfl) ff_X4_24 rfl dX4_init_41 (fun H locs hP hS => ?_)
  rw [ap_set0 hr] at hP
  have hP : Wk D dA bs (ly ++ [.inl (4, [some none, none, none, none, some (some (r + 1)), some (some (r + 2)), some (some (r + 3)), some (some (r + 4)), some (some (r + 5)), some none, some none, some none]), .inr (0, 6, ng), .inr (0, 8, ng), .inr (0, 8, ng), .inr (0, 8, ng), .inr (0, 8, ng)]) mz H := hP
  refine lv_aload_n hx hb dX4_init_44 rfl (lv_at hl 0 rfl) ?_
  refine lv_bipush (v := 12) hx hb dX4_init_45 (by decide) ?_
  refine wk_newI (N := 12) X hP hS aw_int (Zr_mz _) (by decide) (by decide) (by decide) (Nat.le_of_ble_eq_true rfl) (Nat.le_of_ble_eq_true rfl) dX4_init_47 (fun H hP hS => ?_)
  rw [ap_len (k := 6) hr rfl]
  rw [List.append_assoc] at hP
  have hP : Wk D dA bs (ly ++ [.inl (4, [some none, none, none, none, some (some (r + 1)), some (some (r + 2)), some (some (r + 3)), some (some (r + 4)), some (some (r + 5)), some none, some none, some none]), .inr (0, 6, ng), .inr (0, 8, ng), .inr (0, 8, ng), .inr (0, 8, ng), .inr (0, 8, ng), .inr (0, 12, ng)]) mz H := hP
  refine W.widen (k := 6) (n := 50) (Nat.le_of_ble_eq_true rfl) (Nat.le_of_ble_eq_true rfl) ?_
  refine wk_putR (q := r + 6) X hin hP hS (ap_at (k := 0) hr rfl) ff_X4_27 rfl dX4_init_49 (fun H locs hP hS => ?_)
  rw [ap_set0 hr] at hP
  have hP : Wk D dA bs (ly ++ [.inl (4, [some none, none, none, none, some (some (r + 1)), some (some (r + 2)), some (some (r + 3)), some (some (r + 4)), some (some (r + 5)), some (some (r + 6)), some none, some none]), .inr (0, 6, ng), .inr (0, 8, ng), .inr (0, 8, ng), .inr (0, 8, ng), .inr (0, 8, ng), .inr (0, 12, ng)]) mz H := hP
  refine lv_aload_n hx hb dX4_init_52 rfl (lv_at hl 0 rfl) ?_
  refine lv_bipush (v := 12) hx hb dX4_init_53 (by decide) ?_
  refine wk_newI (N := 12) X hP hS aw_int (Zr_mz _) (by decide) (by decide) (by decide) (Nat.le_of_ble_eq_true rfl) (Nat.le_of_ble_eq_true rfl) dX4_init_55 (fun H hP hS => ?_)
  rw [ap_len (k := 7) hr rfl]
  rw [List.append_assoc] at hP
  have hP : Wk D dA bs (ly ++ [.inl (4, [some none, none, none, none, some (some (r + 1)), some (some (r + 2)), some (some (r + 3)), some (some (r + 4)), some (some (r + 5)), some (some (r + 6)), some none, some none]), .inr (0, 6, ng), .inr (0, 8, ng), .inr (0, 8, ng), .inr (0, 8, ng), .inr (0, 8, ng), .inr (0, 12, ng), .inr (0, 12, ng)]) mz H := hP
  refine W.widen (k := 7) (n := 62) (Nat.le_of_ble_eq_true rfl) (Nat.le_of_ble_eq_true rfl) ?_
  refine wk_putR (q := r + 7) X hin hP hS (ap_at (k := 0) hr rfl) ff_X4_30 rfl dX4_init_57 (fun H locs hP hS => ?_)
  rw [ap_set0 hr] at hP
  have hP : Wk D dA bs (ly ++ [.inl (4, [some none, none, none, none, some (some (r + 1)), some (some (r + 2)), some (some (r + 3)), some (some (r + 4)), some (some (r + 5)), some (some (r + 6)), some (some (r + 7)), some none]), .inr (0, 6, ng), .inr (0, 8, ng), .inr (0, 8, ng), .inr (0, 8, ng), .inr (0, 8, ng), .inr (0, 12, ng), .inr (0, 12, ng)]) mz H := hP
  refine lv_aload_n hx hb dX4_init_60 rfl (lv_at hl 0 rfl) ?_
  refine lv_bipush (v := 12) hx hb dX4_init_61 (by decide) ?_
  refine wk_newI (N := 12) X hP hS aw_int (Zr_mz _) (by decide) (by decide) (by decide) (Nat.le_of_ble_eq_true rfl) (Nat.le_of_ble_eq_true rfl) dX4_init_63 (fun H hP hS => ?_)
  rw [ap_len (k := 8) hr rfl]
  rw [List.append_assoc] at hP
  have hP : Wk D dA bs (ly ++ [.inl (4, [some none, none, none, none, some (some (r + 1)), some (some (r + 2)), some (some (r + 3)), some (some (r + 4)), some (some (r + 5)), some (some (r + 6)), some (some (r + 7)), some none]), .inr (0, 6, ng), .inr (0, 8, ng), .inr (0, 8, ng), .inr (0, 8, ng), .inr (0, 8, ng), .inr (0, 12, ng), .inr (0, 12, ng), .inr (0, 12, ng)]) mz H := hP
  refine W.widen (k := 8) (n := 74) (Nat.le_of_ble_eq_true rfl) (Nat.le_of_ble_eq_true rfl) ?_
  refine wk_putR (q := r + 8) X hin hP hS (ap_at (k := 0) hr rfl) ff_X4_33 rfl dX4_init_65 (fun H locs hP hS => ?_)
  rw [ap_set0 hr] at hP
  have hP : Wk D dA bs (ly ++ [.inl (4, [some none, none, none, none, some (some (r + 1)), some (some (r + 2)), some (some (r + 3)), some (some (r + 4)), some (some (r + 5)), some (some (r + 6)), some (some (r + 7)), some (some (r + 8))]), .inr (0, 6, ng), .inr (0, 8, ng), .inr (0, 8, ng), .inr (0, 8, ng), .inr (0, 8, ng), .inr (0, 12, ng), .inr (0, 12, ng), .inr (0, 12, ng)]) mz H := hP
  refine lv_aload_n hx hb dX4_init_68 rfl (lv_at hl 0 rfl) ?_
  refine lv_aload_n hx hb dX4_init_69 rfl (lv_at hl 1 rfl) ?_
  refine wk_putR (q := v) X hin hP hS (ap_at (k := 0) hr rfl) ff_X4_36 rfl dX4_init_70 (fun H locs hP hS => ?_)
  rw [ap_set0 hr] at hP
  have hP : Wk D dA bs (ly ++ [.inl (4, [some (some (v)), none, none, none, some (some (r + 1)), some (some (r + 2)), some (some (r + 3)), some (some (r + 4)), some (some (r + 5)), some (some (r + 6)), some (some (r + 7)), some (some (r + 8))]), .inr (0, 6, ng), .inr (0, 8, ng), .inr (0, 8, ng), .inr (0, 8, ng), .inr (0, 8, ng), .inr (0, 12, ng), .inr (0, 12, ng), .inr (0, 12, ng)]) mz H := hP
  exact wk_vret X hP hS hr0 dX4_init_73 ⟨rfl, rfl⟩
set_option maxHeartbeats 4000000 in
set_option maxRecDepth 100000 in
theorem k_X7_init (l : Launch) (D : va_G) (dA : Nat → ClassId) (zz : (Nat → Nat) × (Nat → Nat)) (bs : Nat) (ly : List Lay) (r : Nat) (hr : ly.length = r) : Mk l D dA zz bs yX7_init cX7_init 1 1 24 5 500 [.ref (bs + r)] (ly ++ [.inl (7, [some none, none, some none, some none, some none, none, some none])]) mz (ly ++ lRule r) mz := by
  refine Mk.of (own := RX7) (by decide) rfl rfl (Nat.le_of_ble_eq_true rfl) ?_
  intro p e s m args below meth c X hin hr0 hP hS ls hl
  have hx := X.1.1
  have hb := X.1.2.1
  obtain ⟨H, hH⟩ : ∃ z : Heap, z = s.heap := ⟨_, rfl⟩
  obtain ⟨locs, hL⟩ : ∃ z : List Loc, z = [] := ⟨_, rfl⟩
  rw [← hH, ← hL]
  have hS : va_S (Aq bs) s.heap H locs := by rw [hH, hL]; exact hS
  have hP : Wk D dA bs (ly ++ [.inl (7, [some none, none, some none, some none, some none, none, some none])]) mz H := by rw [hH]; exact hP
  have hl : lv_has ls 1 [(0, .ref (bs + r))] := hl
  refine lv_aload_n hx hb dX7_init_0 rfl (lv_at hl 0 rfl) ?_
  refine W.objInit hx hb X.1.2.2.2.1 (X.1.2.2.2.2.1 _ ol_X7_3) (X.1.2.2.2.2.1 _ ob_i) (X.1.2.2.2.2.1 _ ob_c) rfl (X.1.2.2.1 ▸ hl.1) rfl dX7_init_1 (Nat.le_of_ble_eq_true rfl) (Nat.le_of_ble_eq_true rfl) ?_
  refine W.eq (g2 := F0 m 4 ls []) rfl ?_
  refine lv_aload_n hx hb dX7_init_4 rfl (lv_at hl 0 rfl) ?_
  refine lv_sipush (v := 400) hx hb dX7_init_5 (by decide) ?_
  refine wk_newI (N := 400) X hP hS aw_int (Zr_mz _) (by decide) (by decide) (by decide) (Nat.le_of_ble_eq_true rfl) (Nat.le_of_ble_eq_true rfl) dX7_init_8 (fun H hP hS => ?_)
  rw [ap_len (k := 1) hr rfl]
  rw [List.append_assoc] at hP
  have hP : Wk D dA bs (ly ++ [.inl (7, [some none, none, some none, some none, some none, none, some none]), .inr (0, 400, ng)]) mz H := hP
  refine W.widen (k := 1) (n := 400) (Nat.le_of_ble_eq_true rfl) (Nat.le_of_ble_eq_true rfl) ?_
  refine wk_putR (q := r + 1) X hin hP hS (ap_at (k := 0) hr rfl) ff_X7_9 rfl dX7_init_10 (fun H locs hP hS => ?_)
  rw [ap_set0 hr] at hP
  have hP : Wk D dA bs (ly ++ [.inl (7, [some (some (r + 1)), none, some none, some none, some none, none, some none]), .inr (0, 400, ng)]) mz H := hP
  refine lv_aload_n hx hb dX7_init_13 rfl (lv_at hl 0 rfl) ?_
  refine lv_bipush (v := 12) hx hb dX7_init_14 (by decide) ?_
  refine wk_newI (N := 12) X hP hS aw_int (Zr_mz _) (by decide) (by decide) (by decide) (Nat.le_of_ble_eq_true rfl) (Nat.le_of_ble_eq_true rfl) dX7_init_16 (fun H hP hS => ?_)
  rw [ap_len (k := 2) hr rfl]
  rw [List.append_assoc] at hP
  have hP : Wk D dA bs (ly ++ [.inl (7, [some (some (r + 1)), none, some none, some none, some none, none, some none]), .inr (0, 400, ng), .inr (0, 12, ng)]) mz H := hP
  refine W.widen (k := 2) (n := 412) (Nat.le_of_ble_eq_true rfl) (Nat.le_of_ble_eq_true rfl) ?_
  refine wk_putR (q := r + 2) X hin hP hS (ap_at (k := 0) hr rfl) ff_X7_15 rfl dX7_init_18 (fun H locs hP hS => ?_)
  rw [ap_set0 hr] at hP
  have hP : Wk D dA bs (ly ++ [.inl (7, [some (some (r + 1)), none, some (some (r + 2)), some none, some none, none, some none]), .inr (0, 400, ng), .inr (0, 12, ng)]) mz H := hP
  refine lv_aload_n hx hb dX7_init_21 rfl (lv_at hl 0 rfl) ?_
  refine lv_bipush (v := 12) hx hb dX7_init_22 (by decide) ?_
  refine wk_newI (N := 12) X hP hS aw_int (Zr_mz _) (by decide) (by decide) (by decide) (Nat.le_of_ble_eq_true rfl) (Nat.le_of_ble_eq_true rfl) dX7_init_24 (fun H hP hS => ?_)
  rw [ap_len (k := 3) hr rfl]
  rw [List.append_assoc] at hP
  have hP : Wk D dA bs (ly ++ [.inl (7, [some (some (r + 1)), none, some (some (r + 2)), some none, some none, none, some none]), .inr (0, 400, ng), .inr (0, 12, ng), .inr (0, 12, ng)]) mz H := hP
  refine W.widen (k := 3) (n := 424) (Nat.le_of_ble_eq_true rfl) (Nat.le_of_ble_eq_true rfl) ?_
  refine wk_putR (q := r + 3) X hin hP hS (ap_at (k := 0) hr rfl) ff_X7_18 rfl dX7_init_26 (fun H locs hP hS => ?_)
  rw [ap_set0 hr] at hP
  have hP : Wk D dA bs (ly ++ [.inl (7, [some (some (r + 1)), none, some (some (r + 2)), some (some (r + 3)), some none, none, some none]), .inr (0, 400, ng), .inr (0, 12, ng), .inr (0, 12, ng)]) mz H := hP
  refine lv_aload_n hx hb dX7_init_29 rfl (lv_at hl 0 rfl) ?_
  refine lv_bipush (v := 12) hx hb dX7_init_30 (by decide) ?_
  refine wk_newI (N := 12) X hP hS aw_int (Zr_mz _) (by decide) (by decide) (by decide) (Nat.le_of_ble_eq_true rfl) (Nat.le_of_ble_eq_true rfl) dX7_init_32 (fun H hP hS => ?_)
  rw [ap_len (k := 4) hr rfl]
  rw [List.append_assoc] at hP
  have hP : Wk D dA bs (ly ++ [.inl (7, [some (some (r + 1)), none, some (some (r + 2)), some (some (r + 3)), some none, none, some none]), .inr (0, 400, ng), .inr (0, 12, ng), .inr (0, 12, ng), .inr (0, 12, ng)]) mz H := hP
  refine W.widen (k := 4) (n := 436) (Nat.le_of_ble_eq_true rfl) (Nat.le_of_ble_eq_true rfl) ?_
  refine wk_putR (q := r + 4) X hin hP hS (ap_at (k := 0) hr rfl) ff_X7_21 rfl dX7_init_34 (fun H locs hP hS => ?_)
  rw [ap_set0 hr] at hP
  have hP : Wk D dA bs (ly ++ [.inl (7, [some (some (r + 1)), none, some (some (r + 2)), some (some (r + 3)), some (some (r + 4)), none, some none]), .inr (0, 400, ng), .inr (0, 12, ng), .inr (0, 12, ng), .inr (0, 12, ng)]) mz H := hP
  refine lv_aload_n hx hb dX7_init_37 rfl (lv_at hl 0 rfl) ?_
  refine lv_bipush (v := 64) hx hb dX7_init_38 (by decide) ?_
  refine wk_newJ (N := 64) X hP hS aw_long (Zr_mz _) (by decide) (by decide) (by decide) (Nat.le_of_ble_eq_true rfl) (Nat.le_of_ble_eq_true rfl) dX7_init_40 (fun H hP hS => ?_)
  rw [ap_len (k := 5) hr rfl]
  rw [List.append_assoc] at hP
  have hP : Wk D dA bs (ly ++ [.inl (7, [some (some (r + 1)), none, some (some (r + 2)), some (some (r + 3)), some (some (r + 4)), none, some none]), .inr (0, 400, ng), .inr (0, 12, ng), .inr (0, 12, ng), .inr (0, 12, ng), .inr (3, 64, ng)]) mz H := hP
  refine W.widen (k := 5) (n := 500) (Nat.le_of_ble_eq_true rfl) (Nat.le_of_ble_eq_true rfl) ?_
  refine wk_putR (q := r + 5) X hin hP hS (ap_at (k := 0) hr rfl) ff_X7_24 rfl dX7_init_42 (fun H locs hP hS => ?_)
  rw [ap_set0 hr] at hP
  have hP : Wk D dA bs (ly ++ [.inl (7, [some (some (r + 1)), none, some (some (r + 2)), some (some (r + 3)), some (some (r + 4)), none, some (some (r + 5))]), .inr (0, 400, ng), .inr (0, 12, ng), .inr (0, 12, ng), .inr (0, 12, ng), .inr (3, 64, ng)]) mz H := hP
  exact wk_vret X hP hS hr0 dX7_init_45 ⟨rfl, rfl⟩
def lX6 (r tp : Nat) : List Lay := [.inl (6, [some (some (tp)), some (some (r + 1)), some (some (r + 7))]), .inl (5, [none, none, none, none, some (some (r + 2)), some (some (r + 3)), some (some (r + 4)), some (some (r + 5)), some (some (r + 6))]), .inr (0, 6, ng), .inr (0, 6, ng), .inr (0, 8, ng), .inr (0, 8, ng), .inr (0, 100, ng), .inl (4, [some (some (r + 1)), none, none, none, some (some (r + 8)), some (some (r + 9)), some (some (r + 10)), some (some (r + 11)), some (some (r + 12)), some (some (r + 13)), some (some (r + 14)), some (some (r + 15))]), .inr (0, 6, ng), .inr (0, 8, ng), .inr (0, 8, ng), .inr (0, 8, ng), .inr (0, 8, ng), .inr (0, 12, ng), .inr (0, 12, ng), .inr (0, 12, ng)]
set_option maxHeartbeats 4000000 in
set_option maxRecDepth 100000 in
theorem k_X6_init (l : Launch) (D : va_G) (dA : Nat → ClassId) (zz : (Nat → Nat) × (Nat → Nat)) (bs : Nat) (ly : List Lay) (r : Nat) (hr : ly.length = r) (tp : Nat) : Mk l D dA zz bs yX6_init cX6_init 2 2 45 15 223 [.ref (bs + r), .ref (bs + tp)] (ly ++ [.inl (6, [some none, some none, some none])]) mz (ly ++ lX6 r tp) mz := by
  refine Mk.of (own := RX6) (by decide) rfl rfl (Nat.le_of_ble_eq_true rfl) ?_
  intro p e s m args below meth c X hin hr0 hP hS ls hl
  have hx := X.1.1
  have hb := X.1.2.1
  obtain ⟨H, hH⟩ : ∃ z : Heap, z = s.heap := ⟨_, rfl⟩
  obtain ⟨locs, hL⟩ : ∃ z : List Loc, z = [] := ⟨_, rfl⟩
  rw [← hH, ← hL]
  have hS : va_S (Aq bs) s.heap H locs := by rw [hH, hL]; exact hS
  have hP : Wk D dA bs (ly ++ [.inl (6, [some none, some none, some none])]) mz H := by rw [hH]; exact hP
  have hl : lv_has ls 2 [(0, .ref (bs + r)), (1, .ref (bs + tp))] := hl
  refine lv_aload_n hx hb dX6_init_0 rfl (lv_at hl 0 rfl) ?_
  refine W.objInit hx hb X.1.2.2.2.1 (X.1.2.2.2.2.1 _ ol_X6_3) (X.1.2.2.2.2.1 _ ob_i) (X.1.2.2.2.2.1 _ ob_c) rfl (X.1.2.2.1 ▸ hl.1) rfl dX6_init_1 (Nat.le_of_ble_eq_true rfl) (Nat.le_of_ble_eq_true rfl) ?_
  refine W.eq (g2 := F0 m 4 ls []) rfl ?_
  refine lv_aload_n hx hb dX6_init_4 rfl (lv_at hl 0 rfl) ?_
  refine wk_new X hP hS nn_X6_9 (Zr_mz _) (Nat.le_of_ble_eq_true rfl) (Nat.le_of_ble_eq_true rfl) dX6_init_5 (fun H hP hS => ?_)
  rw [ap_len (k := 1) hr rfl]
  have hPn := hP
  rw [List.append_assoc] at hP
  have hP : Wk D dA bs (ly ++ [.inl (6, [some none, some none, some none]), .inl (5, [none, none, none, none, some none, some none, some none, some none, some none])]) mz H := hP
  refine W.widen (k := 1) (n := 9) (Nat.le_of_ble_eq_true rfl) (Nat.le_of_ble_eq_true rfl) ?_
  refine lv_dup hx hb dX6_init_8 rfl ?_
  refine wk_cin X hPn hS mi_X6_11 (k_X5_init l D dA zz bs (ly ++ [.inl (6, [some none, some none, some none])]) (r + 1) (ap_len hr rfl)) rfl ⟨Nat.le_of_ble_eq_true rfl, Nat.le_of_ble_eq_true rfl⟩ hl.1 rfl (rest := [.ref (bs + (r + 1)), .ref (bs + (r))]) (Nat.le_of_ble_eq_true rfl) ⟨Nat.le_of_ble_eq_true rfl, Nat.le_of_ble_eq_true rfl⟩ dX6_init_9 (fun H locs hP hS => ?_)
  rw [List.append_assoc] at hP
  have hP : Wk D dA bs (ly ++ [.inl (6, [some none, some none, some none]), .inl (5, [none, none, none, none, some (some (r + 2)), some (some (r + 3)), some (some (r + 4)), some (some (r + 5)), some (some (r + 6))]), .inr (0, 6, ng), .inr (0, 6, ng), .inr (0, 8, ng), .inr (0, 8, ng), .inr (0, 100, ng)]) mz H := hP
  refine W.widen (k := 6) (n := 137) (Nat.le_of_ble_eq_true rfl) (Nat.le_of_ble_eq_true rfl) ?_
  refine W.eq (g2 := F0 m 12 ls [.ref (bs + (r + 1)), .ref (bs + (r))]) rfl ?_
  refine wk_putR (q := r + 1) X hin hP hS (ap_at (k := 0) hr rfl) ff_X6_12 rfl dX6_init_12 (fun H locs hP hS => ?_)
  rw [ap_set0 hr] at hP
  have hP : Wk D dA bs (ly ++ [.inl (6, [some none, some (some (r + 1)), some none]), .inl (5, [none, none, none, none, some (some (r + 2)), some (some (r + 3)), some (some (r + 4)), some (some (r + 5)), some (some (r + 6))]), .inr (0, 6, ng), .inr (0, 6, ng), .inr (0, 8, ng), .inr (0, 8, ng), .inr (0, 100, ng)]) mz H := hP
  refine lv_aload_n hx hb dX6_init_15 rfl (lv_at hl 0 rfl) ?_
  refine wk_new X hP hS nn_X6_18 (Zr_mz _) (Nat.le_of_ble_eq_true rfl) (Nat.le_of_ble_eq_true rfl) dX6_init_16 (fun H hP hS => ?_)
  rw [ap_len (k := 7) hr rfl]
  have hPn := hP
  rw [List.append_assoc] at hP
  have hP : Wk D dA bs (ly ++ [.inl (6, [some none, some (some (r + 1)), some none]), .inl (5, [none, none, none, none, some (some (r + 2)), some (some (r + 3)), some (some (r + 4)), some (some (r + 5)), some (some (r + 6))]), .inr (0, 6, ng), .inr (0, 6, ng), .inr (0, 8, ng), .inr (0, 8, ng), .inr (0, 100, ng), .inl (4, [some none, none, none, none, some none, some none, some none, some none, some none, some none, some none, some none])]) mz H := hP
  refine W.widen (k := 7) (n := 149) (Nat.le_of_ble_eq_true rfl) (Nat.le_of_ble_eq_true rfl) ?_
  refine lv_dup hx hb dX6_init_19 rfl ?_
  refine lv_aload_n hx hb dX6_init_20 rfl (lv_at hl 0 rfl) ?_
  refine wd_getR (q := r + 1) X.1 hP.1 (ap_at (k := 0) hr rfl) fl_X6_12 rfl dX6_init_21 ?_
  refine wk_ci X hPn hS mi_X6_20 (k_X4_init l D dA zz bs (ly ++ [.inl (6, [some none, some (some (r + 1)), some none]), .inl (5, [none, none, none, none, some (some (r + 2)), some (some (r + 3)), some (some (r + 4)), some (some (r + 5)), some (some (r + 6))]), .inr (0, 6, ng), .inr (0, 6, ng), .inr (0, 8, ng), .inr (0, 8, ng), .inr (0, 100, ng)]) (r + 7) (ap_len hr rfl) (r + 1)) rfl ⟨Nat.le_of_ble_eq_true rfl, Nat.le_of_ble_eq_true rfl⟩ hl.1 rfl (rest := [.ref (bs + (r + 7)), .ref (bs + (r))]) (Nat.le_of_ble_eq_true rfl) ⟨Nat.le_of_ble_eq_true rfl, Nat.le_of_ble_eq_true rfl⟩ dX6_init_24 (fun H locs hP hS => ?_)
  rw [List.append_assoc] at hP
  have hP : Wk D dA bs (ly ++ [.inl (6, [some none, some (some (r + 1)), some none]), .inl (5, [none, none, none, none, some (some (r + 2)), some (some (r + 3)), some (some (r + 4)), some (some (r + 5)), some (some (r + 6))]), .inr (0, 6, ng), .inr (0, 6, ng), .inr (0, 8, ng), .inr (0, 8, ng), .inr (0, 100, ng), .inl (4, [some (some (r + 1)), none, none, none, some (some (r + 8)), some (some (r + 9)), some (some (r + 10)), some (some (r + 11)), some (some (r + 12)), some (some (r + 13)), some (some (r + 14)), some (some (r + 15))]), .inr (0, 6, ng), .inr (0, 8, ng), .inr (0, 8, ng), .inr (0, 8, ng), .inr (0, 8, ng), .inr (0, 12, ng), .inr (0, 12, ng), .inr (0, 12, ng)]) mz H := hP
  refine W.widen (k := 15) (n := 223) (Nat.le_of_ble_eq_true rfl) (Nat.le_of_ble_eq_true rfl) ?_
  refine W.eq (g2 := F0 m 27 ls [.ref (bs + (r + 7)), .ref (bs + (r))]) rfl ?_
  refine wk_putR (q := r + 7) X hin hP hS (ap_at (k := 0) hr rfl) ff_X6_23 rfl dX6_init_27 (fun H locs hP hS => ?_)
  rw [ap_set0 hr] at hP
  have hP : Wk D dA bs (ly ++ [.inl (6, [some none, some (some (r + 1)), some (some (r + 7))]), .inl (5, [none, none, none, none, some (some (r + 2)), some (some (r + 3)), some (some (r + 4)), some (some (r + 5)), some (some (r + 6))]), .inr (0, 6, ng), .inr (0, 6, ng), .inr (0, 8, ng), .inr (0, 8, ng), .inr (0, 100, ng), .inl (4, [some (some (r + 1)), none, none, none, some (some (r + 8)), some (some (r + 9)), some (some (r + 10)), some (some (r + 11)), some (some (r + 12)), some (some (r + 13)), some (some (r + 14)), some (some (r + 15))]), .inr (0, 6, ng), .inr (0, 8, ng), .inr (0, 8, ng), .inr (0, 8, ng), .inr (0, 8, ng), .inr (0, 12, ng), .inr (0, 12, ng), .inr (0, 12, ng)]) mz H := hP
  refine lv_aload_n hx hb dX6_init_30 rfl (lv_at hl 0 rfl) ?_
  refine lv_aload_n hx hb dX6_init_31 rfl (lv_at hl 1 rfl) ?_
  refine wk_putR (q := tp) X hin hP hS (ap_at (k := 0) hr rfl) ff_X6_27 rfl dX6_init_32 (fun H locs hP hS => ?_)
  rw [ap_set0 hr] at hP
  have hP : Wk D dA bs (ly ++ [.inl (6, [some (some (tp)), some (some (r + 1)), some (some (r + 7))]), .inl (5, [none, none, none, none, some (some (r + 2)), some (some (r + 3)), some (some (r + 4)), some (some (r + 5)), some (some (r + 6))]), .inr (0, 6, ng), .inr (0, 6, ng), .inr (0, 8, ng), .inr (0, 8, ng), .inr (0, 100, ng), .inl (4, [some (some (r + 1)), none, none, none, some (some (r + 8)), some (some (r + 9)), some (some (r + 10)), some (some (r + 11)), some (some (r + 12)), some (some (r + 13)), some (some (r + 14)), some (some (r + 15))]), .inr (0, 6, ng), .inr (0, 8, ng), .inr (0, 8, ng), .inr (0, 8, ng), .inr (0, 8, ng), .inr (0, 12, ng), .inr (0, 12, ng), .inr (0, 12, ng)]) mz H := hP
  exact wk_vret X hP hS hr0 dX6_init_35 ⟨rfl, rfl⟩
def lX8 (r tp : Nat) : List Lay := [.inl (8, [some (some (tp)), some (some (r + 1)), none]), .inl (7, [some (some (r + 2)), none, some (some (r + 3)), some (some (r + 4)), some (some (r + 5)), none, some (some (r + 6))]), .inr (0, 400, ng), .inr (0, 12, ng), .inr (0, 12, ng), .inr (0, 12, ng), .inr (3, 64, ng)]
set_option maxHeartbeats 4000000 in
set_option maxRecDepth 100000 in
theorem k_X8_init (l : Launch) (D : va_G) (dA : Nat → ClassId) (zz : (Nat → Nat) × (Nat → Nat)) (bs : Nat) (ly : List Lay) (r : Nat) (hr : ly.length = r) (tp : Nat) : Mk l D dA zz bs yX8_init cX8_init 2 2 44 6 507 [.ref (bs + r), .ref (bs + tp)] (ly ++ [.inl (8, [some none, some none, none])]) mz (ly ++ lX8 r tp) mz := by
  refine Mk.of (own := RX8) (by decide) rfl rfl (Nat.le_of_ble_eq_true rfl) ?_
  intro p e s m args below meth c X hin hr0 hP hS ls hl
  have hx := X.1.1
  have hb := X.1.2.1
  obtain ⟨H, hH⟩ : ∃ z : Heap, z = s.heap := ⟨_, rfl⟩
  obtain ⟨locs, hL⟩ : ∃ z : List Loc, z = [] := ⟨_, rfl⟩
  rw [← hH, ← hL]
  have hS : va_S (Aq bs) s.heap H locs := by rw [hH, hL]; exact hS
  have hP : Wk D dA bs (ly ++ [.inl (8, [some none, some none, none])]) mz H := by rw [hH]; exact hP
  have hl : lv_has ls 2 [(0, .ref (bs + r)), (1, .ref (bs + tp))] := hl
  refine lv_aload_n hx hb dX8_init_0 rfl (lv_at hl 0 rfl) ?_
  refine W.objInit hx hb X.1.2.2.2.1 (X.1.2.2.2.2.1 _ ol_X8_3) (X.1.2.2.2.2.1 _ ob_i) (X.1.2.2.2.2.1 _ ob_c) rfl (X.1.2.2.1 ▸ hl.1) rfl dX8_init_1 (Nat.le_of_ble_eq_true rfl) (Nat.le_of_ble_eq_true rfl) ?_
  refine W.eq (g2 := F0 m 4 ls []) rfl ?_
  refine lv_aload_n hx hb dX8_init_4 rfl (lv_at hl 0 rfl) ?_
  refine wk_new X hP hS nn_X8_9 (Zr_mz _) (Nat.le_of_ble_eq_true rfl) (Nat.le_of_ble_eq_true rfl) dX8_init_5 (fun H hP hS => ?_)
  rw [ap_len (k := 1) hr rfl]
  have hPn := hP
  rw [List.append_assoc] at hP
  have hP : Wk D dA bs (ly ++ [.inl (8, [some none, some none, none]), .inl (7, [some none, none, some none, some none, some none, none, some none])]) mz H := hP
  refine W.widen (k := 1) (n := 7) (Nat.le_of_ble_eq_true rfl) (Nat.le_of_ble_eq_true rfl) ?_
  refine lv_dup hx hb dX8_init_8 rfl ?_
  refine wk_cin X hPn hS mi_X8_11 (k_X7_init l D dA zz bs (ly ++ [.inl (8, [some none, some none, none])]) (r + 1) (ap_len hr rfl)) rfl ⟨Nat.le_of_ble_eq_true rfl, Nat.le_of_ble_eq_true rfl⟩ hl.1 rfl (rest := [.ref (bs + (r + 1)), .ref (bs + (r))]) (Nat.le_of_ble_eq_true rfl) ⟨Nat.le_of_ble_eq_true rfl, Nat.le_of_ble_eq_true rfl⟩ dX8_init_9 (fun H locs hP hS => ?_)
  rw [List.append_assoc] at hP
  have hP : Wk D dA bs (ly ++ [.inl (8, [some none, some none, none]), .inl (7, [some (some (r + 2)), none, some (some (r + 3)), some (some (r + 4)), some (some (r + 5)), none, some (some (r + 6))]), .inr (0, 400, ng), .inr (0, 12, ng), .inr (0, 12, ng), .inr (0, 12, ng), .inr (3, 64, ng)]) mz H := hP
  refine W.widen (k := 6) (n := 507) (Nat.le_of_ble_eq_true rfl) (Nat.le_of_ble_eq_true rfl) ?_
  refine W.eq (g2 := F0 m 12 ls [.ref (bs + (r + 1)), .ref (bs + (r))]) rfl ?_
  refine wk_putR (q := r + 1) X hin hP hS (ap_at (k := 0) hr rfl) ff_X8_12 rfl dX8_init_12 (fun H locs hP hS => ?_)
  rw [ap_set0 hr] at hP
  have hP : Wk D dA bs (ly ++ [.inl (8, [some none, some (some (r + 1)), none]), .inl (7, [some (some (r + 2)), none, some (some (r + 3)), some (some (r + 4)), some (some (r + 5)), none, some (some (r + 6))]), .inr (0, 400, ng), .inr (0, 12, ng), .inr (0, 12, ng), .inr (0, 12, ng), .inr (3, 64, ng)]) mz H := hP
  refine lv_aload_n hx hb dX8_init_15 rfl (lv_at hl 0 rfl) ?_
  refine lv_aload_n hx hb dX8_init_16 rfl (lv_at hl 1 rfl) ?_
  refine wk_putR (q := tp) X hin hP hS (ap_at (k := 0) hr rfl) ff_X8_18 rfl dX8_init_17 (fun H locs hP hS => ?_)
  rw [ap_set0 hr] at hP
  have hP : Wk D dA bs (ly ++ [.inl (8, [some (some (tp)), some (some (r + 1)), none]), .inl (7, [some (some (r + 2)), none, some (some (r + 3)), some (some (r + 4)), some (some (r + 5)), none, some (some (r + 6))]), .inr (0, 400, ng), .inr (0, 12, ng), .inr (0, 12, ng), .inr (0, 12, ng), .inr (3, 64, ng)]) mz H := hP
  exact wk_vret X hP hS hr0 dX8_init_20 ⟨rfl, rfl⟩
def lX2 (r : Nat) : List Lay := [.inl (2, [some (some (r + 1)), some (some (r + 2))]), .inr (0, 8, ng), .inr (0, 6, ng)]
set_option maxHeartbeats 4000000 in
set_option maxRecDepth 100000 in
theorem k_X2_init (l : Launch) (D : va_G) (dA : Nat → ClassId) (zz : (Nat → Nat) × (Nat → Nat)) (bs : Nat) (ly : List Lay) (r : Nat) (hr : ly.length = r) : Mk l D dA zz bs yX2_init cX2_init 1 1 24 2 14 [.ref (bs + r)] (ly ++ [.inl (2, [some none, some none])]) mz (ly ++ lX2 r) mz := by
  refine Mk.of (own := RX2) (by decide) rfl rfl (Nat.le_of_ble_eq_true rfl) ?_
  intro p e s m args below meth c X hin hr0 hP hS ls hl
  have hx := X.1.1
  have hb := X.1.2.1
  obtain ⟨H, hH⟩ : ∃ z : Heap, z = s.heap := ⟨_, rfl⟩
  obtain ⟨locs, hL⟩ : ∃ z : List Loc, z = [] := ⟨_, rfl⟩
  rw [← hH, ← hL]
  have hS : va_S (Aq bs) s.heap H locs := by rw [hH, hL]; exact hS
  have hP : Wk D dA bs (ly ++ [.inl (2, [some none, some none])]) mz H := by rw [hH]; exact hP
  have hl : lv_has ls 1 [(0, .ref (bs + r))] := hl
  refine lv_aload_n hx hb dX2_init_0 rfl (lv_at hl 0 rfl) ?_
  refine W.objInit hx hb X.1.2.2.2.1 (X.1.2.2.2.2.1 _ ol_X2_3) (X.1.2.2.2.2.1 _ ob_i) (X.1.2.2.2.2.1 _ ob_c) rfl (X.1.2.2.1 ▸ hl.1) rfl dX2_init_1 (Nat.le_of_ble_eq_true rfl) (Nat.le_of_ble_eq_true rfl) ?_
  refine W.eq (g2 := F0 m 4 ls []) rfl ?_
  refine lv_aload_n hx hb dX2_init_4 rfl (lv_at hl 0 rfl) ?_
  refine lv_bipush (v := 8) hx hb dX2_init_5 (by decide) ?_
  refine wk_newI (N := 8) X hP hS aw_int (Zr_mz _) (by decide) (by decide) (by decide) (Nat.le_of_ble_eq_true rfl) (Nat.le_of_ble_eq_true rfl) dX2_init_7 (fun H hP hS => ?_)
  rw [ap_len (k := 1) hr rfl]
  rw [List.append_assoc] at hP
  have hP : Wk D dA bs (ly ++ [.inl (2, [some none, some none]), .inr (0, 8, ng)]) mz H := hP
  refine W.widen (k := 1) (n := 8) (Nat.le_of_ble_eq_true rfl) (Nat.le_of_ble_eq_true rfl) ?_
  refine wk_putR (q := r + 1) X hin hP hS (ap_at (k := 0) hr rfl) ff_X2_9 rfl dX2_init_9 (fun H locs hP hS => ?_)
  rw [ap_set0 hr] at hP
  have hP : Wk D dA bs (ly ++ [.inl (2, [some (some (r + 1)), some none]), .inr (0, 8, ng)]) mz H := hP
  refine lv_aload_n hx hb dX2_init_12 rfl (lv_at hl 0 rfl) ?_
  refine lv_bipush (v := 6) hx hb dX2_init_13 (by decide) ?_
  refine wk_newI (N := 6) X hP hS aw_int (Zr_mz _) (by decide) (by decide) (by decide) (Nat.le_of_ble_eq_true rfl) (Nat.le_of_ble_eq_true rfl) dX2_init_15 (fun H hP hS => ?_)
  rw [ap_len (k := 2) hr rfl]
  rw [List.append_assoc] at hP
  have hP : Wk D dA bs (ly ++ [.inl (2, [some (some (r + 1)), some none]), .inr (0, 8, ng), .inr (0, 6, ng)]) mz H := hP
  refine W.widen (k := 2) (n := 14) (Nat.le_of_ble_eq_true rfl) (Nat.le_of_ble_eq_true rfl) ?_
  refine wk_putR (q := r + 2) X hin hP hS (ap_at (k := 0) hr rfl) ff_X2_15 rfl dX2_init_17 (fun H locs hP hS => ?_)
  rw [ap_set0 hr] at hP
  have hP : Wk D dA bs (ly ++ [.inl (2, [some (some (r + 1)), some (some (r + 2))]), .inr (0, 8, ng), .inr (0, 6, ng)]) mz H := hP
  exact wk_vret X hP hS hr0 dX2_init_20 ⟨rfl, rfl⟩
def lX1 (r rf : Nat) : List Lay := [.inl (1, [some (some (rf)), some (some (r + 1)), none, some (some (r + 2)), some (some (r + 3)), none, none]), .inr (0, 6, ng), .inr (0, 256, ng), .inr (0, 8, ng)]
set_option maxHeartbeats 4000000 in
set_option maxRecDepth 100000 in
theorem k_X1_init (l : Launch) (D : va_G) (dA : Nat → ClassId) (zz : (Nat → Nat) × (Nat → Nat)) (bs : Nat) (ly : List Lay) (r : Nat) (hr : ly.length = r) (rf : Nat) : Mk l D dA zz bs yX1_init cX1_init 2 1 24 3 270 [.ref (bs + r), .ref (bs + rf)] (ly ++ [.inl (1, [some none, some none, none, some none, some none, none, none])]) mz (ly ++ lX1 r rf) mz := by
  refine Mk.of (own := RX1) (by decide) rfl rfl (Nat.le_of_ble_eq_true rfl) ?_
  intro p e s m args below meth c X hin hr0 hP hS ls hl
  have hx := X.1.1
  have hb := X.1.2.1
  obtain ⟨H, hH⟩ : ∃ z : Heap, z = s.heap := ⟨_, rfl⟩
  obtain ⟨locs, hL⟩ : ∃ z : List Loc, z = [] := ⟨_, rfl⟩
  rw [← hH, ← hL]
  have hS : va_S (Aq bs) s.heap H locs := by rw [hH, hL]; exact hS
  have hP : Wk D dA bs (ly ++ [.inl (1, [some none, some none, none, some none, some none, none, none])]) mz H := by rw [hH]; exact hP
  have hl : lv_has ls 2 [(0, .ref (bs + r)), (1, .ref (bs + rf))] := hl
  refine lv_aload_n hx hb dX1_init_0 rfl (lv_at hl 0 rfl) ?_
  refine W.objInit hx hb X.1.2.2.2.1 (X.1.2.2.2.2.1 _ ol_X1_3) (X.1.2.2.2.2.1 _ ob_i) (X.1.2.2.2.2.1 _ ob_c) rfl (X.1.2.2.1 ▸ hl.1) rfl dX1_init_1 (Nat.le_of_ble_eq_true rfl) (Nat.le_of_ble_eq_true rfl) ?_
  refine W.eq (g2 := F0 m 4 ls []) rfl ?_
  refine lv_aload_n hx hb dX1_init_4 rfl (lv_at hl 0 rfl) ?_
  refine lv_bipush (v := 6) hx hb dX1_init_5 (by decide) ?_
  refine wk_newI (N := 6) X hP hS aw_int (Zr_mz _) (by decide) (by decide) (by decide) (Nat.le_of_ble_eq_true rfl) (Nat.le_of_ble_eq_true rfl) dX1_init_7 (fun H hP hS => ?_)
  rw [ap_len (k := 1) hr rfl]
  rw [List.append_assoc] at hP
  have hP : Wk D dA bs (ly ++ [.inl (1, [some none, some none, none, some none, some none, none, none]), .inr (0, 6, ng)]) mz H := hP
  refine W.widen (k := 1) (n := 6) (Nat.le_of_ble_eq_true rfl) (Nat.le_of_ble_eq_true rfl) ?_
  refine wk_putR (q := r + 1) X hin hP hS (ap_at (k := 0) hr rfl) ff_X1_9 rfl dX1_init_9 (fun H locs hP hS => ?_)
  rw [ap_set0 hr] at hP
  have hP : Wk D dA bs (ly ++ [.inl (1, [some none, some (some (r + 1)), none, some none, some none, none, none]), .inr (0, 6, ng)]) mz H := hP
  refine lv_aload_n hx hb dX1_init_12 rfl (lv_at hl 0 rfl) ?_
  refine lv_sipush (v := 256) hx hb dX1_init_13 (by decide) ?_
  refine wk_newI (N := 256) X hP hS aw_int (Zr_mz _) (by decide) (by decide) (by decide) (Nat.le_of_ble_eq_true rfl) (Nat.le_of_ble_eq_true rfl) dX1_init_16 (fun H hP hS => ?_)
  rw [ap_len (k := 2) hr rfl]
  rw [List.append_assoc] at hP
  have hP : Wk D dA bs (ly ++ [.inl (1, [some none, some (some (r + 1)), none, some none, some none, none, none]), .inr (0, 6, ng), .inr (0, 256, ng)]) mz H := hP
  refine W.widen (k := 2) (n := 262) (Nat.le_of_ble_eq_true rfl) (Nat.le_of_ble_eq_true rfl) ?_
  refine wk_putR (q := r + 2) X hin hP hS (ap_at (k := 0) hr rfl) ff_X1_15 rfl dX1_init_18 (fun H locs hP hS => ?_)
  rw [ap_set0 hr] at hP
  have hP : Wk D dA bs (ly ++ [.inl (1, [some none, some (some (r + 1)), none, some (some (r + 2)), some none, none, none]), .inr (0, 6, ng), .inr (0, 256, ng)]) mz H := hP
  refine lv_aload_n hx hb dX1_init_21 rfl (lv_at hl 0 rfl) ?_
  refine lv_bipush (v := 8) hx hb dX1_init_22 (by decide) ?_
  refine wk_newI (N := 8) X hP hS aw_int (Zr_mz _) (by decide) (by decide) (by decide) (Nat.le_of_ble_eq_true rfl) (Nat.le_of_ble_eq_true rfl) dX1_init_24 (fun H hP hS => ?_)
  rw [ap_len (k := 3) hr rfl]
  rw [List.append_assoc] at hP
  have hP : Wk D dA bs (ly ++ [.inl (1, [some none, some (some (r + 1)), none, some (some (r + 2)), some none, none, none]), .inr (0, 6, ng), .inr (0, 256, ng), .inr (0, 8, ng)]) mz H := hP
  refine W.widen (k := 3) (n := 270) (Nat.le_of_ble_eq_true rfl) (Nat.le_of_ble_eq_true rfl) ?_
  refine wk_putR (q := r + 3) X hin hP hS (ap_at (k := 0) hr rfl) ff_X1_18 rfl dX1_init_26 (fun H locs hP hS => ?_)
  rw [ap_set0 hr] at hP
  have hP : Wk D dA bs (ly ++ [.inl (1, [some none, some (some (r + 1)), none, some (some (r + 2)), some (some (r + 3)), none, none]), .inr (0, 6, ng), .inr (0, 256, ng), .inr (0, 8, ng)]) mz H := hP
  refine lv_aload_n hx hb dX1_init_29 rfl (lv_at hl 0 rfl) ?_
  refine lv_aload_n hx hb dX1_init_30 rfl (lv_at hl 1 rfl) ?_
  refine wk_putR (q := rf) X hin hP hS (ap_at (k := 0) hr rfl) ff_X1_21 rfl dX1_init_31 (fun H locs hP hS => ?_)
  rw [ap_set0 hr] at hP
  have hP : Wk D dA bs (ly ++ [.inl (1, [some (some (rf)), some (some (r + 1)), none, some (some (r + 2)), some (some (r + 3)), none, none]), .inr (0, 6, ng), .inr (0, 256, ng), .inr (0, 8, ng)]) mz H := hP
  exact wk_vret X hP hS hr0 dX1_init_34 ⟨rfl, rfl⟩
def lX0 (r rf : Nat) : List Lay := [.inl (0, [some (some (rf)), none, none, some (some (r + 1)), some (some (r + 2)), some (some (r + 3))]), .inr (0, 8, ng), .inr (0, 8, ng), .inr (0, 8, ng)]
set_option maxHeartbeats 4000000 in
set_option maxRecDepth 100000 in
theorem k_X0_init (l : Launch) (D : va_G) (dA : Nat → ClassId) (zz : (Nat → Nat) × (Nat → Nat)) (bs : Nat) (ly : List Lay) (r : Nat) (hr : ly.length = r) (rf : Nat) : Mk l D dA zz bs yX0_init cX0_init 2 1 24 3 24 [.ref (bs + r), .ref (bs + rf)] (ly ++ [.inl (0, [some none, none, none, some none, some none, some none])]) mz (ly ++ lX0 r rf) mz := by
  refine Mk.of (own := RX0) (by decide) rfl rfl (Nat.le_of_ble_eq_true rfl) ?_
  intro p e s m args below meth c X hin hr0 hP hS ls hl
  have hx := X.1.1
  have hb := X.1.2.1
  obtain ⟨H, hH⟩ : ∃ z : Heap, z = s.heap := ⟨_, rfl⟩
  obtain ⟨locs, hL⟩ : ∃ z : List Loc, z = [] := ⟨_, rfl⟩
  rw [← hH, ← hL]
  have hS : va_S (Aq bs) s.heap H locs := by rw [hH, hL]; exact hS
  have hP : Wk D dA bs (ly ++ [.inl (0, [some none, none, none, some none, some none, some none])]) mz H := by rw [hH]; exact hP
  have hl : lv_has ls 2 [(0, .ref (bs + r)), (1, .ref (bs + rf))] := hl
  refine lv_aload_n hx hb dX0_init_0 rfl (lv_at hl 0 rfl) ?_
  refine W.objInit hx hb X.1.2.2.2.1 (X.1.2.2.2.2.1 _ ol_X0_3) (X.1.2.2.2.2.1 _ ob_i) (X.1.2.2.2.2.1 _ ob_c) rfl (X.1.2.2.1 ▸ hl.1) rfl dX0_init_1 (Nat.le_of_ble_eq_true rfl) (Nat.le_of_ble_eq_true rfl) ?_
  refine W.eq (g2 := F0 m 4 ls []) rfl ?_
  refine lv_aload_n hx hb dX0_init_4 rfl (lv_at hl 0 rfl) ?_
  refine lv_bipush (v := 8) hx hb dX0_init_5 (by decide) ?_
  refine wk_newI (N := 8) X hP hS aw_int (Zr_mz _) (by decide) (by decide) (by decide) (Nat.le_of_ble_eq_true rfl) (Nat.le_of_ble_eq_true rfl) dX0_init_7 (fun H hP hS => ?_)
  rw [ap_len (k := 1) hr rfl]
  rw [List.append_assoc] at hP
  have hP : Wk D dA bs (ly ++ [.inl (0, [some none, none, none, some none, some none, some none]), .inr (0, 8, ng)]) mz H := hP
  refine W.widen (k := 1) (n := 8) (Nat.le_of_ble_eq_true rfl) (Nat.le_of_ble_eq_true rfl) ?_
  refine wk_putR (q := r + 1) X hin hP hS (ap_at (k := 0) hr rfl) ff_X0_9 rfl dX0_init_9 (fun H locs hP hS => ?_)
  rw [ap_set0 hr] at hP
  have hP : Wk D dA bs (ly ++ [.inl (0, [some none, none, none, some (some (r + 1)), some none, some none]), .inr (0, 8, ng)]) mz H := hP
  refine lv_aload_n hx hb dX0_init_12 rfl (lv_at hl 0 rfl) ?_
  refine lv_bipush (v := 8) hx hb dX0_init_13 (by decide) ?_
  refine wk_newI (N := 8) X hP hS aw_int (Zr_mz _) (by decide) (by decide) (by decide) (Nat.le_of_ble_eq_true rfl) (Nat.le_of_ble_eq_true rfl) dX0_init_15 (fun H hP hS => ?_)
  rw [ap_len (k := 2) hr rfl]
  rw [List.append_assoc] at hP
  have hP : Wk D dA bs (ly ++ [.inl (0, [some none, none, none, some (some (r + 1)), some none, some none]), .inr (0, 8, ng), .inr (0, 8, ng)]) mz H := hP
  refine W.widen (k := 2) (n := 16) (Nat.le_of_ble_eq_true rfl) (Nat.le_of_ble_eq_true rfl) ?_
  refine wk_putR (q := r + 2) X hin hP hS (ap_at (k := 0) hr rfl) ff_X0_15 rfl dX0_init_17 (fun H locs hP hS => ?_)
  rw [ap_set0 hr] at hP
  have hP : Wk D dA bs (ly ++ [.inl (0, [some none, none, none, some (some (r + 1)), some (some (r + 2)), some none]), .inr (0, 8, ng), .inr (0, 8, ng)]) mz H := hP
  refine lv_aload_n hx hb dX0_init_20 rfl (lv_at hl 0 rfl) ?_
  refine lv_bipush (v := 8) hx hb dX0_init_21 (by decide) ?_
  refine wk_newI (N := 8) X hP hS aw_int (Zr_mz _) (by decide) (by decide) (by decide) (Nat.le_of_ble_eq_true rfl) (Nat.le_of_ble_eq_true rfl) dX0_init_23 (fun H hP hS => ?_)
  rw [ap_len (k := 3) hr rfl]
  rw [List.append_assoc] at hP
  have hP : Wk D dA bs (ly ++ [.inl (0, [some none, none, none, some (some (r + 1)), some (some (r + 2)), some none]), .inr (0, 8, ng), .inr (0, 8, ng), .inr (0, 8, ng)]) mz H := hP
  refine W.widen (k := 3) (n := 24) (Nat.le_of_ble_eq_true rfl) (Nat.le_of_ble_eq_true rfl) ?_
  refine wk_putR (q := r + 3) X hin hP hS (ap_at (k := 0) hr rfl) ff_X0_18 rfl dX0_init_25 (fun H locs hP hS => ?_)
  rw [ap_set0 hr] at hP
  have hP : Wk D dA bs (ly ++ [.inl (0, [some none, none, none, some (some (r + 1)), some (some (r + 2)), some (some (r + 3))]), .inr (0, 8, ng), .inr (0, 8, ng), .inr (0, 8, ng)]) mz H := hP
  refine lv_aload_n hx hb dX0_init_28 rfl (lv_at hl 0 rfl) ?_
  refine lv_aload_n hx hb dX0_init_29 rfl (lv_at hl 1 rfl) ?_
  refine wk_putR (q := rf) X hin hP hS (ap_at (k := 0) hr rfl) ff_X0_21 rfl dX0_init_30 (fun H locs hP hS => ?_)
  rw [ap_set0 hr] at hP
  have hP : Wk D dA bs (ly ++ [.inl (0, [some (some (rf)), none, none, some (some (r + 1)), some (some (r + 2)), some (some (r + 3))]), .inr (0, 8, ng), .inr (0, 8, ng), .inr (0, 8, ng)]) mz H := hP
  exact wk_vret X hP hS hr0 dX0_init_33 ⟨rfl, rfl⟩
