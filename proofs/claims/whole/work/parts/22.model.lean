noncomputable def f_X12_seed (mm : Mm) (x1 : Int32) : Option (Int32 × Mm) :=
  if 0 ≤ x1 then
    vlet (wI mm 1089 8 x1) fun mm_2 => some ((mm.1 1089 8), mm_2)
  else
    some ((-1 : Int32), mm)
set_option maxHeartbeats 4000000 in
set_option maxRecDepth 100000 in
theorem c_X12_seed (l : Launch) (D : va_G) (dA : Nat → ClassId) (zz : (Nat → Nat) × (Nat → Nat)) (bs : Nat) (mm : Mm) (x1 : Int32) (out : Int32) (m1 : Mm) (hf : f_X12_seed mm x1 = some (out, m1)) : Mw l D dA zz bs LY yX12_seed cX12_seed 3 (some .int) 0 0 [.ref (bs + 1088), .int x1] mm (some (.int out)) m1 := by
  refine Mw.of (own := RX12) (by decide) rfl (Nat.le_of_ble_eq_true rfl) ?_
  intro p e s m args below meth c X hr0 hP hS ls hl
  have hx := X.1
  have hb := X.2.1
  obtain ⟨H, hH⟩ : ∃ z : Heap, z = s.heap := ⟨_, rfl⟩
  obtain ⟨locs, hL⟩ : ∃ z : List Loc, z = [] := ⟨_, rfl⟩
  rw [← hH, ← hL]
  have hS : va_S (Aq bs) s.heap H locs := by rw [hH, hL]; exact hS
  have hP : Wd D dA bs LY mm H := by rw [hH]; exact hP
  have hl : lv_has ls 3 [(0, .ref (bs + 1088)), (1, .int x1)] := hl
  unfold f_X12_seed at hf
  refine lv_iload_n hx hb dX12_seed_0 rfl (lv_at hl 1 rfl) ?_
  refine lv_if_ge (tgt := 6) hx hb dX12_seed_1 (by decide) (fun c_1 => ?_) (fun c_1 => ?_)
  · have hf := itT hf c_1
    refine lv_aload_n hx hb dX12_seed_6 rfl (lv_at hl 0 rfl) ?_
    refine wd_getR (q := 1089) X hP L1088 fl_X12_9 rfl dX12_seed_7 ?_
    refine lv_bipush (v := 8) hx hb dX12_seed_10 (by decide) ?_
    refine wd_ialdK (k := 8) X hP L1089 (by decide) (by decide) dX12_seed_12 ?_
    refine lv_istore_n (lv' := [(2, .int (mm.1 1089 8)), (0, .ref (bs + 1088)), (1, .int x1)]) hx hb dX12_seed_13 rfl hl (by decide) rfl (fun ls hl => ?_)
    refine lv_aload_n hx hb dX12_seed_14 rfl (lv_at hl 1 rfl) ?_
    refine wd_getR (q := 1089) X hP L1088 fl_X12_9 rfl dX12_seed_15 ?_
    refine lv_bipush (v := 8) hx hb dX12_seed_18 (by decide) ?_
    refine lv_iload_n hx hb dX12_seed_20 rfl (lv_at hl 2 rfl) ?_
    refine wd_iastK (k := 8) X hP hS L1089 (by decide) (by decide) dX12_seed_21 (fun H locs mm_2 emm_2 hP hS => ?_)
    have hf := vl hf emm_2
    refine lv_iload_n hx hb dX12_seed_22 rfl (lv_at hl 0 rfl) ?_
    cases hf
    exact wd_iret X hP hS hr0 dX12_seed_23 ⟨rfl, rfl⟩
  · have hf := itF hf c_1
    refine lv_iconst (v := -1) hx hb dX12_seed_4 (by decide) ?_
    cases hf
    exact wd_iret X hP hS hr0 dX12_seed_5 ⟨rfl, rfl⟩

noncomputable def f_X12_draws (mm : Mm) (x1 : Int32) : Option (Int32 × Mm) :=
  vlet (wI mm 1089 8 ((((((mm.1 1089 8).toInt64) * (1103515245 : Int64)) + (12345 : Int64)) - ((((mm.1 1089 8).toInt64) * (1103515245 : Int64)) + (12345 : Int64)) / (2147483648 : Int64) * (2147483648 : Int64)).toInt32)) fun mm_1 =>
    if x1 = 0 then none else
      some ((((mm_1.1 1089 8) / (65536 : Int32)) - ((mm_1.1 1089 8) / (65536 : Int32)) / x1 * x1), mm_1)
set_option maxHeartbeats 4000000 in
set_option maxRecDepth 100000 in
theorem c_X12_draws (l : Launch) (D : va_G) (dA : Nat → ClassId) (zz : (Nat → Nat) × (Nat → Nat)) (bs : Nat) (mm : Mm) (x1 : Int32) (out : Int32) (m1 : Mm) (hf : f_X12_draws mm x1 = some (out, m1)) : Mw l D dA zz bs LY yX12_draws cX12_draws 2 (some .int) 0 0 [.ref (bs + 1088), .int x1] mm (some (.int out)) m1 := by
  refine Mw.of (own := RX12) (by decide) rfl (Nat.le_of_ble_eq_true rfl) ?_
  intro p e s m args below meth c X hr0 hP hS ls hl
  have hx := X.1
  have hb := X.2.1
  obtain ⟨H, hH⟩ : ∃ z : Heap, z = s.heap := ⟨_, rfl⟩
  obtain ⟨locs, hL⟩ : ∃ z : List Loc, z = [] := ⟨_, rfl⟩
  rw [← hH, ← hL]
  have hS : va_S (Aq bs) s.heap H locs := by rw [hH, hL]; exact hS
  have hP : Wd D dA bs LY mm H := by rw [hH]; exact hP
  have hl : lv_has ls 2 [(0, .ref (bs + 1088)), (1, .int x1)] := hl
  unfold f_X12_draws at hf
  refine lv_aload_n hx hb dX12_draws_0 rfl (lv_at hl 0 rfl) ?_
  refine wd_getR (q := 1089) X hP L1088 fl_X12_9 rfl dX12_draws_1 ?_
  refine lv_bipush (v := 8) hx hb dX12_draws_4 (by decide) ?_
  refine lv_aload_n hx hb dX12_draws_6 rfl (lv_at hl 0 rfl) ?_
  refine wd_getR (q := 1089) X hP L1088 fl_X12_9 rfl dX12_draws_7 ?_
  refine lv_bipush (v := 8) hx hb dX12_draws_10 (by decide) ?_
  refine wd_ialdK (k := 8) X hP L1089 (by decide) (by decide) dX12_draws_12 ?_
  refine lv_i2l hx hb dX12_draws_13 rfl ?_
  refine lv_ldc2 (own := RX12) (v := 1103515245) hx hb X.2.2.2.1 (X.2.2.2.2.1 _ (tb_at 1875 (by decide +kernel) (by decide +kernel))) dX12_draws_14 ?_
  refine lv_lmul hx hb dX12_draws_17 ?_
  refine lv_ldc2 (own := RX12) (v := 12345) hx hb X.2.2.2.1 (X.2.2.2.2.1 _ (tb_at 1876 (by decide +kernel) (by decide +kernel))) dX12_draws_18 ?_
  refine lv_ladd hx hb dX12_draws_21 ?_
  refine lv_ldc2 (own := RX12) (v := 2147483648) hx hb X.2.2.2.1 (X.2.2.2.2.1 _ (tb_at 1877 (by decide +kernel) (by decide +kernel))) dX12_draws_22 ?_
  refine lv_lrem hx hb dX12_draws_25 (by decide) ?_
  refine lv_l2i hx hb dX12_draws_26 rfl ?_
  refine wd_iastK (k := 8) X hP hS L1089 (by decide) (by decide) dX12_draws_27 (fun H locs mm_1 emm_1 hP hS => ?_)
  have hf := vl hf emm_1
  refine lv_aload_n hx hb dX12_draws_28 rfl (lv_at hl 0 rfl) ?_
  refine wd_getR (q := 1089) X hP L1088 fl_X12_9 rfl dX12_draws_29 ?_
  refine lv_bipush (v := 8) hx hb dX12_draws_32 (by decide) ?_
  refine wd_ialdK (k := 8) X hP L1089 (by decide) (by decide) dX12_draws_34 ?_
  refine lv_ldcw (own := RX12) (v := 65536) hx hb X.2.2.2.1 (X.2.2.2.2.1 _ (tb_at 1878 (by decide +kernel) (by decide +kernel))) dX12_draws_35 ?_
  refine lv_idiv hx hb dX12_draws_38 (by decide) ?_
  refine lv_iload_n hx hb dX12_draws_39 rfl (lv_at hl 1 rfl) ?_
  have g_2 := gdN hf
  have hf := gdK hf
  refine lv_irem hx hb dX12_draws_40 g_2 ?_
  cases hf
  exact wd_iret X hP hS hr0 dX12_draws_41 ⟨rfl, rfl⟩

noncomputable def f_X12_drawn_j170 (mm : Mm) (y1 : Int32) (y2 : Int32) (y3 : Int32) (y4 : Int32) (y7 : Int32) (y8 : Int32) (z0 : Int32) (z1 : Int32) : Option ((Int32 × Int32 × Mm) ⊕ (Int32 × Mm)) :=
  some (.inl ((z1 + z0), (y8 + 1), mm))
noncomputable def f_X12_drawn_j138 (mm : Mm) (y1 : Int32) (y2 : Int32) (y3 : Int32) (y4 : Int32) (y6 : Int32) (y7 : Int32) (y8 : Int32) (z0 : Int32) : Option ((Int32 × Int32 × Mm) ⊕ (Int32 × Mm)) :=
  bi2 (f_X12_mileBy mm z0) fun r_13 mm_11 =>
    if y3 = 0 then
      f_X12_drawn_j170 mm_11 y1 y2 y3 y4 y7 y8 r_13 y6
    else
      if y3 = (1 : Int32) then
        f_X12_drawn_j170 mm_11 y1 y2 y3 y4 y7 y8 (mm_11.1 1088 51) y6
      else
        f_X12_drawn_j170 mm_11 y1 y2 y3 y4 y7 y8 (mm_11.1 1088 52) y6
noncomputable def f_X12_drawn_s94 (y1 : Int32) (y2 : Int32) (y3 : Int32) (y4 : Int32) (y7 : Int32) : (Int32 × Int32 × Mm) → Option ((Int32 × Int32 × Mm) ⊕ (Int32 × Mm)) :=
  fun q => match q with
  | (y6, y8, mm) =>
    if y2 ≤ y8 then
      some (.inr (y6, mm))
    else
      bi2 (f_X12_draws mm (10 : Int32)) fun r_20 mm_18 =>
        bi1 (f_X12_forceAt mm_18 ((mm_18.1 1089 6) + (1 : Int32))) fun r_22 =>
          if r_22 ≤ r_20 then
            f_X12_drawn_j138 mm_18 y1 y2 y3 y4 y6 y7 y8 r_20
          else
            f_X12_drawn_j138 mm_18 y1 y2 y3 y4 y6 y7 y8 r_22
noncomputable def f_X12_drawn_s76 (y1 : Int32) (y2 : Int32) (y3 : Int32) (y4 : Int32) : (Int32 × Int32 × Int32 × Mm) → Option ((Int32 × Int32 × Int32 × Mm) ⊕ (Int32 × Mm)) :=
  fun q => match q with
  | (y5, y6, y7, mm) =>
    if y1 ≤ y7 then
      some (.inr (y6, mm))
    else
      vlet (wI mm 1089 8 y5) fun mm_9 =>
        bi1 (lp (f_X12_drawn_s94 y1 y2 y3 y4 y7) (y6, (0 : Int32), mm_9)) fun q => match q with
        | (w6_25, mm_26) =>
          bi1 (f_X12_laysBack mm_26) fun mm_27 => some (.inl ((mm_26.1 1089 8), w6_25, (y7 + 1), mm_27))
noncomputable def f_X12_drawn (mm : Mm) (x1 : Int32) (x2 : Int32) (x3 : Int32) : Option (Int32 × Mm) :=
  if (f_X12_isRiver mm) = 0 then
    some ((-1 : Int32), mm)
  else
    if (f_X12_in (x1.toInt64) (1 : Int64) (20 : Int64)) = 0 then
      some ((-1 : Int32), mm)
    else
      if (f_X12_in (x2.toInt64) (1 : Int64) (60 : Int64)) = 0 then
        some ((-1 : Int32), mm)
      else
        if (f_X12_milesLeft mm) < x2 then
          some ((-1 : Int32), mm)
        else
          if (f_X12_in (x3.toInt64) (0 : Int64) (2 : Int64)) = 0 then
            some ((-1 : Int32), mm)
          else
            bi1 (f_X12_keepsAll mm) fun mm_6 =>
              bi1 (lp (f_X12_drawn_s76 x1 x2 x3 (mm.1 1089 8)) ((mm.1 1089 8), (0 : Int32), (0 : Int32), mm_6)) fun q => match q with
              | (w6_32, mm_33) =>
                vlet (wI mm_33 1089 8 (mm.1 1089 8)) fun mm_34 => some (w6_32, mm_34)
set_option maxHeartbeats 4000000 in
set_option maxRecDepth 100000 in
theorem c_X12_drawn (l : Launch) (D : va_G) (dA : Nat → ClassId) (zz : (Nat → Nat) × (Nat → Nat)) (bs : Nat) (mm : Mm) (x1 : Int32) (x2 : Int32) (x3 : Int32) (out : Int32) (m1 : Mm) (hf : f_X12_drawn mm x1 x2 x3 = some (out, m1)) : Mw l D dA zz bs LY yX12_drawn cX12_drawn 12 (some .int) 7 175 [.ref (bs + 1088), .int x1, .int x2, .int x3] mm (some (.int out)) m1 := by
  refine Mw.of (own := RX12) (by decide) rfl (Nat.le_of_ble_eq_true rfl) ?_
  intro p e s m args below meth c X hr0 hP hS ls hl
  have hx := X.1
  have hb := X.2.1
  obtain ⟨H, hH⟩ : ∃ z : Heap, z = s.heap := ⟨_, rfl⟩
  obtain ⟨locs, hL⟩ : ∃ z : List Loc, z = [] := ⟨_, rfl⟩
  rw [← hH, ← hL]
  have hS : va_S (Aq bs) s.heap H locs := by rw [hH, hL]; exact hS
  have hP : Wd D dA bs LY mm H := by rw [hH]; exact hP
  have hl : lv_has ls 12 [(0, .ref (bs + 1088)), (1, .int x1), (2, .int x2), (3, .int x3)] := hl
  unfold f_X12_drawn at hf
  refine lv_aload_n hx hb dX12_drawn_0 rfl (lv_at hl 0 rfl) ?_
  refine wd_cv X hP hS L1088 ml_X12_430 ⟨_, _, rfl⟩ (c_X12_isRiver l D dA zz bs mm (f_X12_isRiver mm) rfl) rfl ⟨Nat.le_of_ble_eq_true rfl, Nat.le_of_ble_eq_true rfl⟩ hl.1 rfl (rest := []) (Nat.le_of_ble_eq_true rfl) ⟨Nat.zero_le _, Nat.zero_le _⟩ dX12_drawn_1 (fun H locs hP hS => ?_)
  refine W.eq (g2 := F0 m 4 ls [.int (f_X12_isRiver mm)]) rfl ?_
  refine lv_if_eq (tgt := 51) hx hb dX12_drawn_4 (by decide) (fun c_1 => ?_) (fun c_1 => ?_)
  · have hf := itT hf c_1
    refine lv_iconst (v := -1) hx hb dX12_drawn_51 (by decide) ?_
    cases hf
    exact wd_iret X hP hS hr0 dX12_drawn_52 ⟨rfl, rfl⟩
  · have hf := itF hf c_1
    refine lv_iload_n hx hb dX12_drawn_7 rfl (lv_at hl 1 rfl) ?_
    refine lv_i2l hx hb dX12_drawn_8 rfl ?_
    refine lv_lconst (v := 1) hx hb dX12_drawn_9 (by decide) ?_
    refine lv_ldc2 (own := RX12) (v := 20) hx hb X.2.2.2.1 (X.2.2.2.2.1 _ (tb_at 1869 (by decide +kernel) (by decide +kernel))) dX12_drawn_10 ?_
    refine wd_cs X hP hS ml_X12_176 (c_X12_in l D dA zz bs mm (x1.toInt64) (1 : Int64) (20 : Int64) (f_X12_in (x1.toInt64) (1 : Int64) (20 : Int64)) rfl) rfl ⟨Nat.le_of_ble_eq_true rfl, Nat.le_of_ble_eq_true rfl⟩ hl.1 rfl (rest := []) (Nat.le_of_ble_eq_true rfl) ⟨Nat.zero_le _, Nat.zero_le _⟩ dX12_drawn_13 (fun H locs hP hS => ?_)
    refine W.eq (g2 := F0 m 16 ls [.int (f_X12_in (x1.toInt64) (1 : Int64) (20 : Int64))]) rfl ?_
    refine lv_if_eq (tgt := 51) hx hb dX12_drawn_16 (by decide) (fun c_2 => ?_) (fun c_2 => ?_)
    · have hf := itT hf c_2
      refine lv_iconst (v := -1) hx hb dX12_drawn_51 (by decide) ?_
      cases hf
      exact wd_iret X hP hS hr0 dX12_drawn_52 ⟨rfl, rfl⟩
    · have hf := itF hf c_2
      refine lv_iload_n hx hb dX12_drawn_19 rfl (lv_at hl 2 rfl) ?_
      refine lv_i2l hx hb dX12_drawn_20 rfl ?_
      refine lv_lconst (v := 1) hx hb dX12_drawn_21 (by decide) ?_
      refine lv_ldc2 (own := RX12) (v := 60) hx hb X.2.2.2.1 (X.2.2.2.2.1 _ (tb_at 1870 (by decide +kernel) (by decide +kernel))) dX12_drawn_22 ?_
      refine wd_cs X hP hS ml_X12_176 (c_X12_in l D dA zz bs mm (x2.toInt64) (1 : Int64) (60 : Int64) (f_X12_in (x2.toInt64) (1 : Int64) (60 : Int64)) rfl) rfl ⟨Nat.le_of_ble_eq_true rfl, Nat.le_of_ble_eq_true rfl⟩ hl.1 rfl (rest := []) (Nat.le_of_ble_eq_true rfl) ⟨Nat.zero_le _, Nat.zero_le _⟩ dX12_drawn_25 (fun H locs hP hS => ?_)
      refine W.eq (g2 := F0 m 28 ls [.int (f_X12_in (x2.toInt64) (1 : Int64) (60 : Int64))]) rfl ?_
      refine lv_if_eq (tgt := 51) hx hb dX12_drawn_28 (by decide) (fun c_3 => ?_) (fun c_3 => ?_)
      · have hf := itT hf c_3
        refine lv_iconst (v := -1) hx hb dX12_drawn_51 (by decide) ?_
        cases hf
        exact wd_iret X hP hS hr0 dX12_drawn_52 ⟨rfl, rfl⟩
      · have hf := itF hf c_3
        refine lv_iload_n hx hb dX12_drawn_31 rfl (lv_at hl 2 rfl) ?_
        refine lv_aload_n hx hb dX12_drawn_32 rfl (lv_at hl 0 rfl) ?_
        refine wd_cv X hP hS L1088 ml_X12_487 ⟨_, _, rfl⟩ (c_X12_milesLeft l D dA zz bs mm (f_X12_milesLeft mm) rfl) rfl ⟨Nat.le_of_ble_eq_true rfl, Nat.le_of_ble_eq_true rfl⟩ hl.1 rfl (rest := [.int x2]) (Nat.le_of_ble_eq_true rfl) ⟨Nat.zero_le _, Nat.zero_le _⟩ dX12_drawn_33 (fun H locs hP hS => ?_)
        refine W.eq (g2 := F0 m 36 ls [.int (f_X12_milesLeft mm), .int x2]) rfl ?_
        refine lv_icmp_gt (tgt := 51) hx hb dX12_drawn_36 (by decide) (fun c_4 => ?_) (fun c_4 => ?_)
        · have hf := itT hf c_4
          refine lv_iconst (v := -1) hx hb dX12_drawn_51 (by decide) ?_
          cases hf
          exact wd_iret X hP hS hr0 dX12_drawn_52 ⟨rfl, rfl⟩
        · have hf := itF hf c_4
          refine lv_iload_n hx hb dX12_drawn_39 rfl (lv_at hl 3 rfl) ?_
          refine lv_i2l hx hb dX12_drawn_40 rfl ?_
          refine lv_lconst (v := 0) hx hb dX12_drawn_41 (by decide) ?_
          refine lv_ldc2 (own := RX12) (v := 2) hx hb X.2.2.2.1 (X.2.2.2.2.1 _ (tb_at 1801 (by decide +kernel) (by decide +kernel))) dX12_drawn_42 ?_
          refine wd_cs X hP hS ml_X12_176 (c_X12_in l D dA zz bs mm (x3.toInt64) (0 : Int64) (2 : Int64) (f_X12_in (x3.toInt64) (0 : Int64) (2 : Int64)) rfl) rfl ⟨Nat.le_of_ble_eq_true rfl, Nat.le_of_ble_eq_true rfl⟩ hl.1 rfl (rest := []) (Nat.le_of_ble_eq_true rfl) ⟨Nat.zero_le _, Nat.zero_le _⟩ dX12_drawn_45 (fun H locs hP hS => ?_)
          refine W.eq (g2 := F0 m 48 ls [.int (f_X12_in (x3.toInt64) (0 : Int64) (2 : Int64))]) rfl ?_
          refine lv_if_ne (tgt := 53) hx hb dX12_drawn_48 (by decide) (fun c_5 => ?_) (fun c_5 => ?_)
          · have hf := itF hf c_5
            refine lv_aload_n hx hb dX12_drawn_53 rfl (lv_at hl 0 rfl) ?_
            refine wd_getR (q := 1089) X hP L1088 fl_X12_9 rfl dX12_drawn_54 ?_
            refine lv_bipush (v := 8) hx hb dX12_drawn_57 (by decide) ?_
            refine wd_ialdK (k := 8) X hP L1089 (by decide) (by decide) dX12_drawn_59 ?_
            refine lv_istore (lv' := [(4, .int (mm.1 1089 8)), (0, .ref (bs + 1088)), (1, .int x1), (2, .int x2), (3, .int x3)]) hx hb dX12_drawn_60 hl (by decide) rfl (fun ls hl => ?_)
            refine lv_iload hx hb dX12_drawn_62 (lv_at hl 0 rfl) ?_
            refine lv_istore (lv' := [(5, .int (mm.1 1089 8)), (4, .int (mm.1 1089 8)), (0, .ref (bs + 1088)), (1, .int x1), (2, .int x2), (3, .int x3)]) hx hb dX12_drawn_64 hl (by decide) rfl (fun ls hl => ?_)
            refine lv_iconst (v := 0) hx hb dX12_drawn_66 (by decide) ?_
            refine lv_istore (lv' := [(6, .int (0 : Int32)), (5, .int (mm.1 1089 8)), (4, .int (mm.1 1089 8)), (0, .ref (bs + 1088)), (1, .int x1), (2, .int x2), (3, .int x3)]) hx hb dX12_drawn_67 hl (by decide) rfl (fun ls hl => ?_)
            refine lv_aload_n hx hb dX12_drawn_69 rfl (lv_at hl 3 rfl) ?_
            obtain ⟨mm_6, hc_7, hf⟩ := bi1S hf
            refine wd_cv X hP hS L1088 ml_X12_521 ⟨_, _, rfl⟩ (c_X12_keepsAll l D dA zz bs mm mm_6 hc_7) rfl ⟨Nat.le_of_ble_eq_true rfl, Nat.le_of_ble_eq_true rfl⟩ hl.1 rfl (rest := []) (Nat.le_of_ble_eq_true rfl) ⟨Nat.zero_le _, Nat.zero_le _⟩ dX12_drawn_70 (fun H locs hP hS => ?_)
            refine W.eq (g2 := F0 m 73 ls []) rfl ?_
            refine lv_iconst (v := 0) hx hb dX12_drawn_73 (by decide) ?_
            refine lv_istore (lv' := [(7, .int (0 : Int32)), (6, .int (0 : Int32)), (5, .int (mm.1 1089 8)), (4, .int (mm.1 1089 8)), (0, .ref (bs + 1088)), (1, .int x1), (2, .int x2), (3, .int x3)]) hx hb dX12_drawn_74 hl (by decide) rfl (fun ls hl => ?_)
            obtain ⟨q_35, hlp_36, hf⟩ := bi1S hf
            refine lp_walk (Wh := (fun z => match z with | (y5L_31, y6L_31, y7L_31, mmL_31) => ∀ (H : Heap) (locs : List Loc) (ls : Array Slot), Wd D dA bs LY mmL_31 H → va_S (Aq bs) s.heap H locs → lv_has ls 12 [(0, .ref (bs + 1088)), (1, .int x1), (2, .int x2), (3, .int x3), (4, .int (mm.1 1089 8)), (5, .int y5L_31), (6, .int y6L_31), (7, .int y7L_31)] → Wz p l e s m args below meth c D dA bs (some (.int out)) m1 7 175 H locs 76 ls [])) (Ph := (fun z => match z with | (w6_32, mm_33) => ∀ (H : Heap) (locs : List Loc) (ls : Array Slot), Wd D dA bs LY mm_33 H → va_S (Aq bs) s.heap H locs → lv_has ls 12 [(0, .ref (bs + 1088)), (4, .int (mm.1 1089 8)), (6, .int w6_32)] → Wz p l e s m args below meth c D dA bs (some (.int out)) m1 7 175 H locs 198 ls [])) ?_ hlp_36 ?_ H locs ls hP hS (lv_sub hl [4, 5, 6, 7, 3, 2, 1, 0] rfl)
            · intro z o hf hB hE
              obtain ⟨y5L_31, y6L_31, y7L_31, mmL_31⟩ := z
              intro H locs ls hP hS hl
              have hf : f_X12_drawn_s76 x1 x2 x3 (mm.1 1089 8) (y5L_31, y6L_31, y7L_31, mmL_31) = some o := hf
              unfold f_X12_drawn_s76 at hf
              dsimp only at hf
              refine lv_iload hx hb dX12_drawn_76 (lv_at hl 7 rfl) ?_
              refine lv_iload_n hx hb dX12_drawn_78 rfl (lv_at hl 1 rfl) ?_
              refine lv_icmp_ge (tgt := 198) hx hb dX12_drawn_79 (by decide) (fun c_8 => ?_) (fun c_8 => ?_)
              · have hf := itT hf c_8
                cases hf
                exact hE _ rfl H locs ls hP hS (lv_sub hl [0, 4, 6] rfl)
              · have hf := itF hf c_8
                refine lv_aload_n hx hb dX12_drawn_82 rfl (lv_at hl 0 rfl) ?_
                refine wd_getR (q := 1089) X hP L1088 fl_X12_9 rfl dX12_drawn_83 ?_
                refine lv_bipush (v := 8) hx hb dX12_drawn_86 (by decide) ?_
                refine lv_iload hx hb dX12_drawn_88 (lv_at hl 5 rfl) ?_
                refine wd_iastK (k := 8) X hP hS L1089 (by decide) (by decide) dX12_drawn_90 (fun H locs mm_9 emm_9 hP hS => ?_)
                have hf := vl hf emm_9
                refine lv_iconst (v := 0) hx hb dX12_drawn_91 (by decide) ?_
                refine lv_istore (lv' := [(8, .int (0 : Int32)), (0, .ref (bs + 1088)), (1, .int x1), (2, .int x2), (3, .int x3), (4, .int (mm.1 1089 8)), (5, .int y5L_31), (6, .int y6L_31), (7, .int y7L_31)]) hx hb dX12_drawn_92 hl (by decide) rfl (fun ls hl => ?_)
                obtain ⟨q_29, hlp_30, hf⟩ := bi1S hf
                refine lp_walk (Wh := (fun z => match z with | (y6L_24, y8L_24, mmL_24) => ∀ (H : Heap) (locs : List Loc) (ls : Array Slot), Wd D dA bs LY mmL_24 H → va_S (Aq bs) s.heap H locs → lv_has ls 12 [(0, .ref (bs + 1088)), (1, .int x1), (2, .int x2), (3, .int x3), (4, .int (mm.1 1089 8)), (6, .int y6L_24), (7, .int y7L_31), (8, .int y8L_24)] → Wz p l e s m args below meth c D dA bs (some (.int out)) m1 7 175 H locs 94 ls [])) (Ph := (fun z => match z with | (w6_25, mm_26) => ∀ (H : Heap) (locs : List Loc) (ls : Array Slot), Wd D dA bs LY mm_26 H → va_S (Aq bs) s.heap H locs → lv_has ls 12 [(0, .ref (bs + 1088)), (1, .int x1), (2, .int x2), (3, .int x3), (4, .int (mm.1 1089 8)), (6, .int w6_25), (7, .int y7L_31)] → Wz p l e s m args below meth c D dA bs (some (.int out)) m1 7 175 H locs 179 ls [])) ?_ hlp_30 ?_ H locs ls hP hS (lv_sub hl [1, 2, 3, 4, 5, 7, 8, 0] rfl)
                · intro z o hf hB hE
                  obtain ⟨y6L_24, y8L_24, mmL_24⟩ := z
                  intro H locs ls hP hS hl
                  have hf : f_X12_drawn_s94 x1 x2 x3 (mm.1 1089 8) y7L_31 (y6L_24, y8L_24, mmL_24) = some o := hf
                  unfold f_X12_drawn_s94 at hf
                  dsimp only at hf
                  have hJ170 : ∀ (mmJ_10 : Mm) (y8J_10 : Int32) (z0J_10 : Int32) (z1J_10 : Int32) (H : Heap) (locs : List Loc) (ls : Array Slot), f_X12_drawn_j170 mmJ_10 x1 x2 x3 (mm.1 1089 8) y7L_31 y8J_10 z0J_10 z1J_10 = some o → Wd D dA bs LY mmJ_10 H → va_S (Aq bs) s.heap H locs → lv_has ls 12 [(0, .ref (bs + 1088)), (1, .int x1), (2, .int x2), (3, .int x3), (4, .int (mm.1 1089 8)), (7, .int y7L_31), (8, .int y8J_10)] → Wz p l e s m args below meth c D dA bs (some (.int out)) m1 7 175 H locs 170 ls [.int z0J_10, .int z1J_10] := by
                    intro mmJ_10 y8J_10 z0J_10 z1J_10 H locs ls hf hP hS hl
                    unfold f_X12_drawn_j170 at hf
                    refine lv_iadd hx hb dX12_drawn_170 ?_
                    refine lv_istore (lv' := [(6, .int (z1J_10 + z0J_10)), (0, .ref (bs + 1088)), (1, .int x1), (2, .int x2), (3, .int x3), (4, .int (mm.1 1089 8)), (7, .int y7L_31), (8, .int y8J_10)]) hx hb dX12_drawn_171 hl (by decide) rfl (fun ls hl => ?_)
                    refine lv_iinc (v := (y8J_10 + 1)) (lv' := [(8, .int (y8J_10 + 1)), (6, .int (z1J_10 + z0J_10)), (0, .ref (bs + 1088)), (1, .int x1), (2, .int x2), (3, .int x3), (4, .int (mm.1 1089 8)), (7, .int y7L_31)]) hx hb dX12_drawn_173 hl (k := 7) rfl rfl (by decide) rfl (fun ls hl => ?_)
                    refine lv_goto (tgt := 94) hx hb dX12_drawn_176 (by decide) ?_
                    cases hf
                    exact hB _ rfl H locs ls hP hS (lv_sub hl [2, 3, 4, 5, 6, 1, 7, 0] rfl)
                  have hJ138 : ∀ (mmJ_16 : Mm) (y6J_16 : Int32) (y8J_16 : Int32) (z0J_16 : Int32) (H : Heap) (locs : List Loc) (ls : Array Slot), f_X12_drawn_j138 mmJ_16 x1 x2 x3 (mm.1 1089 8) y6J_16 y7L_31 y8J_16 z0J_16 = some o → Wd D dA bs LY mmJ_16 H → va_S (Aq bs) s.heap H locs → lv_has ls 12 [(0, .ref (bs + 1088)), (1, .int x1), (2, .int x2), (3, .int x3), (4, .int (mm.1 1089 8)), (6, .int y6J_16), (7, .int y7L_31), (8, .int y8J_16)] → Wz p l e s m args below meth c D dA bs (some (.int out)) m1 7 175 H locs 138 ls [.int z0J_16, .ref (bs + 1088)] := by
                    intro mmJ_16 y6J_16 y8J_16 z0J_16 H locs ls hf hP hS hl
                    unfold f_X12_drawn_j138 at hf
                    obtain ⟨r_13, mm_11, hc_12, hf⟩ := bi2S hf
                    refine wd_cv X hP hS L1088 ml_X12_466 ⟨_, _, rfl⟩ (c_X12_mileBy l D dA zz bs mmJ_16 z0J_16 r_13 mm_11 hc_12) rfl ⟨Nat.le_of_ble_eq_true rfl, Nat.le_of_ble_eq_true rfl⟩ hl.1 rfl (rest := []) (Nat.le_of_ble_eq_true rfl) ⟨Nat.zero_le _, Nat.zero_le _⟩ dX12_drawn_138 (fun H locs hP hS => ?_)
                    refine W.eq (g2 := F0 m 141 ls [.int r_13]) rfl ?_
                    refine lv_istore (lv' := [(11, .int r_13), (0, .ref (bs + 1088)), (1, .int x1), (2, .int x2), (3, .int x3), (4, .int (mm.1 1089 8)), (6, .int y6J_16), (7, .int y7L_31), (8, .int y8J_16)]) hx hb dX12_drawn_141 hl (by decide) rfl (fun ls hl => ?_)
                    refine lv_iload hx hb dX12_drawn_143 (lv_at hl 6 rfl) ?_
                    refine lv_iload_n hx hb dX12_drawn_145 rfl (lv_at hl 4 rfl) ?_
                    refine lv_if_ne (tgt := 154) hx hb dX12_drawn_146 (by decide) (fun c_14 => ?_) (fun c_14 => ?_)
                    · have hf := itF hf c_14
                      refine lv_iload_n hx hb dX12_drawn_154 rfl (lv_at hl 4 rfl) ?_
                      refine lv_iconst (v := 1) hx hb dX12_drawn_155 (by decide) ?_
                      refine lv_icmp_ne (tgt := 166) hx hb dX12_drawn_156 (by decide) (fun c_15 => ?_) (fun c_15 => ?_)
                      · have hf := itF hf c_15
                        refine lv_aload_n hx hb dX12_drawn_166 rfl (lv_at hl 1 rfl) ?_
                        refine wd_getI X hP L1088 fl_X12_447 rfl dX12_drawn_167 ?_
                        exact hJ170 mm_11 y8J_16 (mm_11.1 1088 52) y6J_16 H locs ls hf hP hS (lv_sub hl [1, 2, 3, 4, 5, 7, 8] rfl)
                      · have hf := itT hf c_15
                        refine lv_aload_n hx hb dX12_drawn_159 rfl (lv_at hl 1 rfl) ?_
                        refine wd_getI X hP L1088 fl_X12_463 rfl dX12_drawn_160 ?_
                        refine lv_goto (tgt := 170) hx hb dX12_drawn_163 (by decide) ?_
                        exact hJ170 mm_11 y8J_16 (mm_11.1 1088 51) y6J_16 H locs ls hf hP hS (lv_sub hl [1, 2, 3, 4, 5, 7, 8] rfl)
                    · have hf := itT hf c_14
                      refine lv_iload hx hb dX12_drawn_149 (lv_at hl 0 rfl) ?_
                      refine lv_goto (tgt := 170) hx hb dX12_drawn_151 (by decide) ?_
                      exact hJ170 mm_11 y8J_16 r_13 y6J_16 H locs ls hf hP hS (lv_sub hl [1, 2, 3, 4, 5, 7, 8] rfl)
                  refine lv_iload hx hb dX12_drawn_94 (lv_at hl 7 rfl) ?_
                  refine lv_iload_n hx hb dX12_drawn_96 rfl (lv_at hl 2 rfl) ?_
                  refine lv_icmp_ge (tgt := 179) hx hb dX12_drawn_97 (by decide) (fun c_17 => ?_) (fun c_17 => ?_)
                  · have hf := itT hf c_17
                    cases hf
                    exact hE _ rfl H locs ls hP hS (lv_sub hl [0, 1, 2, 3, 4, 5, 6] rfl)
                  · have hf := itF hf c_17
                    refine lv_aload_n hx hb dX12_drawn_100 rfl (lv_at hl 0 rfl) ?_
                    refine lv_bipush (v := 10) hx hb dX12_drawn_101 (by decide) ?_
                    obtain ⟨r_20, mm_18, hc_19, hf⟩ := bi2S hf
                    refine wd_cv X hP hS L1088 ml_X12_603 ⟨_, _, rfl⟩ (c_X12_draws l D dA zz bs mmL_24 (10 : Int32) r_20 mm_18 hc_19) rfl ⟨Nat.le_of_ble_eq_true rfl, Nat.le_of_ble_eq_true rfl⟩ hl.1 rfl (rest := []) (Nat.le_of_ble_eq_true rfl) ⟨Nat.zero_le _, Nat.zero_le _⟩ dX12_drawn_103 (fun H locs hP hS => ?_)
                    refine W.eq (g2 := F0 m 106 ls [.int r_20]) rfl ?_
                    refine lv_istore (lv' := [(9, .int r_20), (0, .ref (bs + 1088)), (1, .int x1), (2, .int x2), (3, .int x3), (4, .int (mm.1 1089 8)), (6, .int y6L_24), (7, .int y7L_31), (8, .int y8L_24)]) hx hb dX12_drawn_106 hl (by decide) rfl (fun ls hl => ?_)
                    refine lv_aload_n hx hb dX12_drawn_108 rfl (lv_at hl 1 rfl) ?_
                    refine lv_aload_n hx hb dX12_drawn_109 rfl (lv_at hl 1 rfl) ?_
                    refine wd_getR (q := 1089) X hP L1088 fl_X12_9 rfl dX12_drawn_110 ?_
                    refine lv_bipush (v := 6) hx hb dX12_drawn_113 (by decide) ?_
                    refine wd_ialdK (k := 6) X hP L1089 (by decide) (by decide) dX12_drawn_115 ?_
                    refine lv_iconst (v := 1) hx hb dX12_drawn_116 (by decide) ?_
                    refine lv_iadd hx hb dX12_drawn_117 ?_
                    obtain ⟨r_22, hc_21, hf⟩ := bi1S hf
                    refine wd_cv X hP hS L1088 ml_X12_433 ⟨_, _, rfl⟩ (c_X12_forceAt l D dA zz bs mm_18 ((mm_18.1 1089 6) + (1 : Int32)) r_22 hc_21) rfl ⟨Nat.le_of_ble_eq_true rfl, Nat.le_of_ble_eq_true rfl⟩ hl.1 rfl (rest := []) (Nat.le_of_ble_eq_true rfl) ⟨Nat.zero_le _, Nat.zero_le _⟩ dX12_drawn_118 (fun H locs hP hS => ?_)
                    refine W.eq (g2 := F0 m 121 ls [.int r_22]) rfl ?_
                    refine lv_istore (lv' := [(10, .int r_22), (9, .int r_20), (0, .ref (bs + 1088)), (1, .int x1), (2, .int x2), (3, .int x3), (4, .int (mm.1 1089 8)), (6, .int y6L_24), (7, .int y7L_31), (8, .int y8L_24)]) hx hb dX12_drawn_121 hl (by decide) rfl (fun ls hl => ?_)
                    refine lv_aload_n hx hb dX12_drawn_123 rfl (lv_at hl 2 rfl) ?_
                    refine lv_iload hx hb dX12_drawn_124 (lv_at hl 0 rfl) ?_
                    refine lv_iload hx hb dX12_drawn_126 (lv_at hl 1 rfl) ?_
                    refine lv_icmp_le (tgt := 136) hx hb dX12_drawn_128 (by decide) (fun c_23 => ?_) (fun c_23 => ?_)
                    · have hf := itT hf c_23
                      refine lv_iload hx hb dX12_drawn_136 (lv_at hl 1 rfl) ?_
                      exact hJ138 mm_18 y6L_24 y8L_24 r_20 H locs ls hf hP hS (lv_sub hl [2, 3, 4, 5, 6, 7, 8, 9] rfl)
                    · have hf := itF hf c_23
                      refine lv_iload hx hb dX12_drawn_131 (lv_at hl 0 rfl) ?_
                      refine lv_goto (tgt := 138) hx hb dX12_drawn_133 (by decide) ?_
                      exact hJ138 mm_18 y6L_24 y8L_24 r_22 H locs ls hf hP hS (lv_sub hl [2, 3, 4, 5, 6, 7, 8, 9] rfl)
                · obtain ⟨w6_25, mm_26⟩ := q_29
                  dsimp only at hf
                  intro H locs ls hP hS hl
                  refine lv_aload_n hx hb dX12_drawn_179 rfl (lv_at hl 0 rfl) ?_
                  refine wd_getR (q := 1089) X hP L1088 fl_X12_9 rfl dX12_drawn_180 ?_
                  refine lv_bipush (v := 8) hx hb dX12_drawn_183 (by decide) ?_
                  refine wd_ialdK (k := 8) X hP L1089 (by decide) (by decide) dX12_drawn_185 ?_
                  refine lv_istore (lv' := [(5, .int (mm_26.1 1089 8)), (0, .ref (bs + 1088)), (1, .int x1), (2, .int x2), (3, .int x3), (4, .int (mm.1 1089 8)), (6, .int w6_25), (7, .int y7L_31)]) hx hb dX12_drawn_186 hl (by decide) rfl (fun ls hl => ?_)
                  refine lv_aload_n hx hb dX12_drawn_188 rfl (lv_at hl 1 rfl) ?_
                  obtain ⟨mm_27, hc_28, hf⟩ := bi1S hf
                  refine wd_cv X hP hS L1088 ml_X12_527 ⟨_, _, rfl⟩ (c_X12_laysBack l D dA zz bs mm_26 mm_27 hc_28) rfl ⟨Nat.le_of_ble_eq_true rfl, Nat.le_of_ble_eq_true rfl⟩ hl.1 rfl (rest := []) (Nat.le_of_ble_eq_true rfl) ⟨Nat.zero_le _, Nat.zero_le _⟩ dX12_drawn_189 (fun H locs hP hS => ?_)
                  refine W.eq (g2 := F0 m 192 ls []) rfl ?_
                  refine lv_iinc (v := (y7L_31 + 1)) (lv' := [(7, .int (y7L_31 + 1)), (5, .int (mm_26.1 1089 8)), (0, .ref (bs + 1088)), (1, .int x1), (2, .int x2), (3, .int x3), (4, .int (mm.1 1089 8)), (6, .int w6_25)]) hx hb dX12_drawn_192 hl (k := 7) rfl rfl (by decide) rfl (fun ls hl => ?_)
                  refine lv_goto (tgt := 76) hx hb dX12_drawn_195 (by decide) ?_
                  cases hf
                  exact hB _ rfl H locs ls hP hS (lv_sub hl [2, 3, 4, 5, 6, 1, 7, 0] rfl)
            · obtain ⟨w6_32, mm_33⟩ := q_35
              dsimp only at hf
              intro H locs ls hP hS hl
              refine lv_aload_n hx hb dX12_drawn_198 rfl (lv_at hl 0 rfl) ?_
              refine wd_getR (q := 1089) X hP L1088 fl_X12_9 rfl dX12_drawn_199 ?_
              refine lv_bipush (v := 8) hx hb dX12_drawn_202 (by decide) ?_
              refine lv_iload hx hb dX12_drawn_204 (lv_at hl 1 rfl) ?_
              refine wd_iastK (k := 8) X hP hS L1089 (by decide) (by decide) dX12_drawn_206 (fun H locs mm_34 emm_34 hP hS => ?_)
              have hf := vl hf emm_34
              refine lv_iload hx hb dX12_drawn_207 (lv_at hl 2 rfl) ?_
              cases hf
              exact wd_iret X hP hS hr0 dX12_drawn_209 ⟨rfl, rfl⟩
          · have hf := itT hf c_5
            refine lv_iconst (v := -1) hx hb dX12_drawn_51 (by decide) ?_
            cases hf
            exact wd_iret X hP hS hr0 dX12_drawn_52 ⟨rfl, rfl⟩

noncomputable def f_X12_pieces_j41 (mm : Mm) (y2 : Int32) (z0 : Int32) (z1 : Int32) : Option ((Int32 × Int32) ⊕ (Int32)) :=
  some (.inl ((z1 + z0), (y2 + 1)))
noncomputable def f_X12_pieces_j40 (mm : Mm) (y2 : Int32) (z0 : Int32) : Option ((Int32 × Int32) ⊕ (Int32)) :=
  f_X12_pieces_j41 mm y2 (0 : Int32) z0
noncomputable def f_X12_pieces_s4 (mm : Mm) : (Int32 × Int32) → Option ((Int32 × Int32) ⊕ (Int32)) :=
  fun q => match q with
  | (y1, y2) =>
    if (mm.1 1089 3) ≤ y2 then
      some (.inr y1)
    else
      if y2 < 0 ∨ 8 ≤ y2.toNatClampNeg then none else
        if (mm.1 1097 y2.toNatClampNeg) = 0 then
          bi1 (f_X12_pieceOf mm y2) fun r_7 =>
            bi1 (f_X12_least mm r_7) fun r_9 =>
              if r_9 = y2 then
                f_X12_pieces_j41 mm y2 (1 : Int32) y1
              else
                f_X12_pieces_j40 mm y2 y1
        else
          f_X12_pieces_j40 mm y2 y1
noncomputable def f_X12_pieces (mm : Mm) : Option (Int32) :=
  bi1 (lp (f_X12_pieces_s4 mm) ((0 : Int32), (0 : Int32))) fun w1_12 =>
    some w1_12
set_option maxHeartbeats 4000000 in
set_option maxRecDepth 100000 in
theorem c_X12_pieces (l : Launch) (D : va_G) (dA : Nat → ClassId) (zz : (Nat → Nat) × (Nat → Nat)) (bs : Nat) (mm : Mm) (out : Int32) (hf : f_X12_pieces mm = some out) : Mw l D dA zz bs LY yX12_pieces cX12_pieces 3 (some .int) 3 70 [.ref (bs + 1088)] mm (some (.int out)) mm := by
  refine Mw.of (own := RX12) (by decide) rfl (Nat.le_of_ble_eq_true rfl) ?_
  intro p e s m args below meth c X hr0 hP hS ls hl
  have hx := X.1
  have hb := X.2.1
  obtain ⟨H, hH⟩ : ∃ z : Heap, z = s.heap := ⟨_, rfl⟩
  obtain ⟨locs, hL⟩ : ∃ z : List Loc, z = [] := ⟨_, rfl⟩
  rw [← hH, ← hL]
  have hS : va_S (Aq bs) s.heap H locs := by rw [hH, hL]; exact hS
  have hP : Wd D dA bs LY mm H := by rw [hH]; exact hP
  have hl : lv_has ls 3 [(0, .ref (bs + 1088))] := hl
  unfold f_X12_pieces at hf
  refine lv_iconst (v := 0) hx hb dX12_pieces_0 (by decide) ?_
  refine lv_istore_n (lv' := [(1, .int (0 : Int32)), (0, .ref (bs + 1088))]) hx hb dX12_pieces_1 rfl hl (by decide) rfl (fun ls hl => ?_)
  refine lv_iconst (v := 0) hx hb dX12_pieces_2 (by decide) ?_
  refine lv_istore_n (lv' := [(2, .int (0 : Int32)), (1, .int (0 : Int32)), (0, .ref (bs + 1088))]) hx hb dX12_pieces_3 rfl hl (by decide) rfl (fun ls hl => ?_)
  obtain ⟨q_13, hlp_14, hf⟩ := bi1S hf
  refine lp_walk (Wh := (fun z => match z with | (y1L_11, y2L_11) => ∀ (H : Heap) (locs : List Loc) (ls : Array Slot), Wd D dA bs LY mm H → va_S (Aq bs) s.heap H locs → lv_has ls 3 [(0, .ref (bs + 1088)), (1, .int y1L_11), (2, .int y2L_11)] → Wz p l e s m args below meth c D dA bs (some (.int out)) mm 3 70 H locs 4 ls [])) (Ph := (fun w1_12 => ∀ (H : Heap) (locs : List Loc) (ls : Array Slot), Wd D dA bs LY mm H → va_S (Aq bs) s.heap H locs → lv_has ls 3 [(1, .int w1_12)] → Wz p l e s m args below meth c D dA bs (some (.int out)) mm 3 70 H locs 49 ls [])) ?_ hlp_14 ?_ H locs ls hP hS (lv_sub hl [2, 1, 0] rfl)
  · intro z o hf hB hE
    obtain ⟨y1L_11, y2L_11⟩ := z
    intro H locs ls hP hS hl
    have hf : f_X12_pieces_s4 mm (y1L_11, y2L_11) = some o := hf
    unfold f_X12_pieces_s4 at hf
    dsimp only at hf
    have hJ41 : ∀ (y2J_1 : Int32) (z0J_1 : Int32) (z1J_1 : Int32) (H : Heap) (locs : List Loc) (ls : Array Slot), f_X12_pieces_j41 mm y2J_1 z0J_1 z1J_1 = some o → Wd D dA bs LY mm H → va_S (Aq bs) s.heap H locs → lv_has ls 3 [(0, .ref (bs + 1088)), (2, .int y2J_1)] → Wz p l e s m args below meth c D dA bs (some (.int out)) mm 3 70 H locs 41 ls [.int z0J_1, .int z1J_1] := by
      intro y2J_1 z0J_1 z1J_1 H locs ls hf hP hS hl
      unfold f_X12_pieces_j41 at hf
      refine lv_iadd hx hb dX12_pieces_41 ?_
      refine lv_istore_n (lv' := [(1, .int (z1J_1 + z0J_1)), (0, .ref (bs + 1088)), (2, .int y2J_1)]) hx hb dX12_pieces_42 rfl hl (by decide) rfl (fun ls hl => ?_)
      refine lv_iinc (v := (y2J_1 + 1)) (lv' := [(2, .int (y2J_1 + 1)), (1, .int (z1J_1 + z0J_1)), (0, .ref (bs + 1088))]) hx hb dX12_pieces_43 hl (k := 2) rfl rfl (by decide) rfl (fun ls hl => ?_)
      refine lv_goto (tgt := 4) hx hb dX12_pieces_46 (by decide) ?_
      cases hf
      exact hB _ rfl H locs ls hP hS (lv_sub hl [2, 1, 0] rfl)
    have hJ40 : ∀ (y2J_2 : Int32) (z0J_2 : Int32) (H : Heap) (locs : List Loc) (ls : Array Slot), f_X12_pieces_j40 mm y2J_2 z0J_2 = some o → Wd D dA bs LY mm H → va_S (Aq bs) s.heap H locs → lv_has ls 3 [(0, .ref (bs + 1088)), (2, .int y2J_2)] → Wz p l e s m args below meth c D dA bs (some (.int out)) mm 3 70 H locs 40 ls [.int z0J_2] := by
      intro y2J_2 z0J_2 H locs ls hf hP hS hl
      unfold f_X12_pieces_j40 at hf
      refine lv_iconst (v := 0) hx hb dX12_pieces_40 (by decide) ?_
      exact hJ41 y2J_2 (0 : Int32) z0J_2 H locs ls hf hP hS (lv_sub hl [0, 1] rfl)
    refine lv_iload_n hx hb dX12_pieces_4 rfl (lv_at hl 2 rfl) ?_
    refine lv_aload_n hx hb dX12_pieces_5 rfl (lv_at hl 0 rfl) ?_
    refine wd_getR (q := 1089) X hP L1088 fl_X12_9 rfl dX12_pieces_6 ?_
    refine lv_iconst (v := 3) hx hb dX12_pieces_9 (by decide) ?_
    refine wd_ialdK (k := 3) X hP L1089 (by decide) (by decide) dX12_pieces_10 ?_
    refine lv_icmp_ge (tgt := 49) hx hb dX12_pieces_11 (by decide) (fun c_3 => ?_) (fun c_3 => ?_)
    · have hf := itT hf c_3
      cases hf
      exact hE _ rfl H locs ls hP hS (lv_sub hl [1] rfl)
    · have hf := itF hf c_3
      refine lv_iload_n hx hb dX12_pieces_14 rfl (lv_at hl 1 rfl) ?_
      refine lv_aload_n hx hb dX12_pieces_15 rfl (lv_at hl 0 rfl) ?_
      refine wd_getR (q := 1097) X hP L1088 fl_X12_34 rfl dX12_pieces_16 ?_
      refine lv_iload_n hx hb dX12_pieces_19 rfl (lv_at hl 2 rfl) ?_
      have g_4 := gdN hf
      have hf := gdK hf
      refine wd_iald X hP L1097 g_4 dX12_pieces_20 ?_
      refine lv_if_ne (tgt := 40) hx hb dX12_pieces_21 (by decide) (fun c_5 => ?_) (fun c_5 => ?_)
      · have hf := itF hf c_5
        exact hJ40 y2L_11 y1L_11 H locs ls hf hP hS (lv_sub hl [0, 2] rfl)
      · have hf := itT hf c_5
        refine lv_aload_n hx hb dX12_pieces_24 rfl (lv_at hl 0 rfl) ?_
        refine lv_iload_n hx hb dX12_pieces_25 rfl (lv_at hl 2 rfl) ?_
        obtain ⟨r_7, hc_6, hf⟩ := bi1S hf
        refine wd_cv X hP hS L1088 ml_X12_424 ⟨_, _, rfl⟩ (c_X12_pieceOf l D dA zz bs mm y2L_11 r_7 hc_6) rfl ⟨Nat.le_of_ble_eq_true rfl, Nat.le_of_ble_eq_true rfl⟩ hl.1 rfl (rest := [.int y1L_11]) (Nat.le_of_ble_eq_true rfl) ⟨Nat.zero_le _, Nat.zero_le _⟩ dX12_pieces_26 (fun H locs hP hS => ?_)
        refine W.eq (g2 := F0 m 29 ls [.int r_7, .int y1L_11]) rfl ?_
        obtain ⟨r_9, hc_8, hf⟩ := bi1S hf
        refine wd_cs X hP hS ml_X12_421 (c_X12_least l D dA zz bs mm r_7 r_9 hc_8) rfl ⟨Nat.le_of_ble_eq_true rfl, Nat.le_of_ble_eq_true rfl⟩ hl.1 rfl (rest := [.int y1L_11]) (Nat.le_of_ble_eq_true rfl) ⟨Nat.zero_le _, Nat.zero_le _⟩ dX12_pieces_29 (fun H locs hP hS => ?_)
        refine W.eq (g2 := F0 m 32 ls [.int r_9, .int y1L_11]) rfl ?_
        refine lv_iload_n hx hb dX12_pieces_32 rfl (lv_at hl 2 rfl) ?_
        refine lv_icmp_ne (tgt := 40) hx hb dX12_pieces_33 (by decide) (fun c_10 => ?_) (fun c_10 => ?_)
        · have hf := itF hf c_10
          exact hJ40 y2L_11 y1L_11 H locs ls hf hP hS (lv_sub hl [0, 2] rfl)
        · have hf := itT hf c_10
          refine lv_iconst (v := 1) hx hb dX12_pieces_36 (by decide) ?_
          refine lv_goto (tgt := 41) hx hb dX12_pieces_37 (by decide) ?_
          exact hJ41 y2L_11 (1 : Int32) y1L_11 H locs ls hf hP hS (lv_sub hl [0, 2] rfl)
  · obtain ⟨w1_12, e_w1_12⟩ : ∃ z, z = q_13 := ⟨_, rfl⟩
    subst e_w1_12
    intro H locs ls hP hS hl
    refine lv_iload_n hx hb dX12_pieces_49 rfl (lv_at hl 0 rfl) ?_
    cases hf
    exact wd_iret X hP hS hr0 dX12_pieces_50 ⟨rfl, rfl⟩

noncomputable def f_X12_count (mm : Mm) (x1 : Int32) : Option (Int32) :=
  if x1 = 0 then
    some (mm.1 1089 0)
  else if x1 = 1 then
    some (mm.1 1089 1)
  else if x1 = 2 then
    some (mm.1 1089 2)
  else if x1 = 3 then
    some (mm.1 1089 3)
  else if x1 = 4 then
    some (mm.1 1089 4)
  else if x1 = 5 then
    some (mm.1 1089 5)
  else if x1 = 6 then
    some (mm.1 1088 35)
  else if x1 = 7 then
    some (mm.1 1089 6)
  else if x1 = 8 then
    bi1 (f_X12_pieces mm) fun r_11 => some r_11
  else if x1 = 9 then
    bi1 (f_X12_afloat mm) fun r_14 => some r_14
  else if x1 = 10 then
    some (mm.1 1089 7)
  else if x1 = 11 then
    some (mm.1 1088 55)
  else if x1 = 12 then
    some (mm.1 1089 8)
  else if x1 = 13 then
    some (mm.1 1088 31)
  else
    some (-1 : Int32)
set_option maxHeartbeats 4000000 in
set_option maxRecDepth 100000 in
theorem c_X12_count (l : Launch) (D : va_G) (dA : Nat → ClassId) (zz : (Nat → Nat) × (Nat → Nat)) (bs : Nat) (mm : Mm) (x1 : Int32) (out : Int32) (hf : f_X12_count mm x1 = some out) : Mw l D dA zz bs LY yX12_count cX12_count 2 (some .int) 4 92 [.ref (bs + 1088), .int x1] mm (some (.int out)) mm := by
  refine Mw.of (own := RX12) (by decide) rfl (Nat.le_of_ble_eq_true rfl) ?_
  intro p e s m args below meth c X hr0 hP hS ls hl
  have hx := X.1
  have hb := X.2.1
  obtain ⟨H, hH⟩ : ∃ z : Heap, z = s.heap := ⟨_, rfl⟩
  obtain ⟨locs, hL⟩ : ∃ z : List Loc, z = [] := ⟨_, rfl⟩
  rw [← hH, ← hL]
  have hS : va_S (Aq bs) s.heap H locs := by rw [hH, hL]; exact hS
  have hP : Wd D dA bs LY mm H := by rw [hH]; exact hP
  have hl : lv_has ls 2 [(0, .ref (bs + 1088)), (1, .int x1)] := hl
  unfold f_X12_count at hf
  refine lv_iload_n hx hb dX12_count_0 rfl (lv_at hl 1 rfl) ?_
  by_cases c_1 : x1 = 0
  · have hf := itT hf c_1
    refine lv_tableIn (tgt := 72) (off := 71) hx hb dX12_count_1 (by rw [c_1]; decide) (by rw [c_1]; decide) (by rw [c_1]; decide) (by decide) ?_
    refine lv_aload_n hx hb dX12_count_72 rfl (lv_at hl 0 rfl) ?_
    refine wd_getR (q := 1089) X hP L1088 fl_X12_9 rfl dX12_count_73 ?_
    refine lv_iconst (v := 0) hx hb dX12_count_76 (by decide) ?_
    refine wd_ialdK (k := 0) X hP L1089 (by decide) (by decide) dX12_count_77 ?_
    cases hf
    exact wd_iret X hP hS hr0 dX12_count_78 ⟨rfl, rfl⟩
  · have hf := itF hf c_1
    by_cases c_2 : x1 = 1
    · have hf := itT hf c_2
      refine lv_tableIn (tgt := 79) (off := 78) hx hb dX12_count_1 (by rw [c_2]; decide) (by rw [c_2]; decide) (by rw [c_2]; decide) (by decide) ?_
      refine lv_aload_n hx hb dX12_count_79 rfl (lv_at hl 0 rfl) ?_
      refine wd_getR (q := 1089) X hP L1088 fl_X12_9 rfl dX12_count_80 ?_
      refine lv_iconst (v := 1) hx hb dX12_count_83 (by decide) ?_
      refine wd_ialdK (k := 1) X hP L1089 (by decide) (by decide) dX12_count_84 ?_
      cases hf
      exact wd_iret X hP hS hr0 dX12_count_85 ⟨rfl, rfl⟩
    · have hf := itF hf c_2
      by_cases c_3 : x1 = 2
      · have hf := itT hf c_3
        refine lv_tableIn (tgt := 86) (off := 85) hx hb dX12_count_1 (by rw [c_3]; decide) (by rw [c_3]; decide) (by rw [c_3]; decide) (by decide) ?_
        refine lv_aload_n hx hb dX12_count_86 rfl (lv_at hl 0 rfl) ?_
        refine wd_getR (q := 1089) X hP L1088 fl_X12_9 rfl dX12_count_87 ?_
        refine lv_iconst (v := 2) hx hb dX12_count_90 (by decide) ?_
        refine wd_ialdK (k := 2) X hP L1089 (by decide) (by decide) dX12_count_91 ?_
        cases hf
        exact wd_iret X hP hS hr0 dX12_count_92 ⟨rfl, rfl⟩
      · have hf := itF hf c_3
        by_cases c_4 : x1 = 3
        · have hf := itT hf c_4
          refine lv_tableIn (tgt := 93) (off := 92) hx hb dX12_count_1 (by rw [c_4]; decide) (by rw [c_4]; decide) (by rw [c_4]; decide) (by decide) ?_
          refine lv_aload_n hx hb dX12_count_93 rfl (lv_at hl 0 rfl) ?_
          refine wd_getR (q := 1089) X hP L1088 fl_X12_9 rfl dX12_count_94 ?_
          refine lv_iconst (v := 3) hx hb dX12_count_97 (by decide) ?_
          refine wd_ialdK (k := 3) X hP L1089 (by decide) (by decide) dX12_count_98 ?_
          cases hf
          exact wd_iret X hP hS hr0 dX12_count_99 ⟨rfl, rfl⟩
        · have hf := itF hf c_4
          by_cases c_5 : x1 = 4
          · have hf := itT hf c_5
            refine lv_tableIn (tgt := 100) (off := 99) hx hb dX12_count_1 (by rw [c_5]; decide) (by rw [c_5]; decide) (by rw [c_5]; decide) (by decide) ?_
            refine lv_aload_n hx hb dX12_count_100 rfl (lv_at hl 0 rfl) ?_
            refine wd_getR (q := 1089) X hP L1088 fl_X12_9 rfl dX12_count_101 ?_
            refine lv_iconst (v := 4) hx hb dX12_count_104 (by decide) ?_
            refine wd_ialdK (k := 4) X hP L1089 (by decide) (by decide) dX12_count_105 ?_
            cases hf
            exact wd_iret X hP hS hr0 dX12_count_106 ⟨rfl, rfl⟩
          · have hf := itF hf c_5
            by_cases c_6 : x1 = 5
            · have hf := itT hf c_6
              refine lv_tableIn (tgt := 107) (off := 106) hx hb dX12_count_1 (by rw [c_6]; decide) (by rw [c_6]; decide) (by rw [c_6]; decide) (by decide) ?_
              refine lv_aload_n hx hb dX12_count_107 rfl (lv_at hl 0 rfl) ?_
              refine wd_getR (q := 1089) X hP L1088 fl_X12_9 rfl dX12_count_108 ?_
              refine lv_iconst (v := 5) hx hb dX12_count_111 (by decide) ?_
              refine wd_ialdK (k := 5) X hP L1089 (by decide) (by decide) dX12_count_112 ?_
              cases hf
              exact wd_iret X hP hS hr0 dX12_count_113 ⟨rfl, rfl⟩
            · have hf := itF hf c_6
              by_cases c_7 : x1 = 6
              · have hf := itT hf c_7
                refine lv_tableIn (tgt := 114) (off := 113) hx hb dX12_count_1 (by rw [c_7]; decide) (by rw [c_7]; decide) (by rw [c_7]; decide) (by decide) ?_
                refine lv_aload_n hx hb dX12_count_114 rfl (lv_at hl 0 rfl) ?_
                refine wd_getI X hP L1088 fl_X12_372 rfl dX12_count_115 ?_
                cases hf
                exact wd_iret X hP hS hr0 dX12_count_118 ⟨rfl, rfl⟩
              · have hf := itF hf c_7
                by_cases c_8 : x1 = 7
                · have hf := itT hf c_8
                  refine lv_tableIn (tgt := 119) (off := 118) hx hb dX12_count_1 (by rw [c_8]; decide) (by rw [c_8]; decide) (by rw [c_8]; decide) (by decide) ?_
                  refine lv_aload_n hx hb dX12_count_119 rfl (lv_at hl 0 rfl) ?_
                  refine wd_getR (q := 1089) X hP L1088 fl_X12_9 rfl dX12_count_120 ?_
                  refine lv_bipush (v := 6) hx hb dX12_count_123 (by decide) ?_
                  refine wd_ialdK (k := 6) X hP L1089 (by decide) (by decide) dX12_count_125 ?_
                  cases hf
                  exact wd_iret X hP hS hr0 dX12_count_126 ⟨rfl, rfl⟩
                · have hf := itF hf c_8
                  by_cases c_9 : x1 = 8
                  · have hf := itT hf c_9
                    refine lv_tableIn (tgt := 127) (off := 126) hx hb dX12_count_1 (by rw [c_9]; decide) (by rw [c_9]; decide) (by rw [c_9]; decide) (by decide) ?_
                    refine lv_aload_n hx hb dX12_count_127 rfl (lv_at hl 0 rfl) ?_
                    obtain ⟨r_11, hc_10, hf⟩ := bi1S hf
                    refine wd_cv X hP hS L1088 ml_X12_606 ⟨_, _, rfl⟩ (c_X12_pieces l D dA zz bs mm r_11 hc_10) rfl ⟨Nat.le_of_ble_eq_true rfl, Nat.le_of_ble_eq_true rfl⟩ hl.1 rfl (rest := []) (Nat.le_of_ble_eq_true rfl) ⟨Nat.zero_le _, Nat.zero_le _⟩ dX12_count_128 (fun H locs hP hS => ?_)
                    refine W.eq (g2 := F0 m 131 ls [.int r_11]) rfl ?_
                    cases hf
                    exact wd_iret X hP hS hr0 dX12_count_131 ⟨rfl, rfl⟩
                  · have hf := itF hf c_9
                    by_cases c_12 : x1 = 9
                    · have hf := itT hf c_12
                      refine lv_tableIn (tgt := 132) (off := 131) hx hb dX12_count_1 (by rw [c_12]; decide) (by rw [c_12]; decide) (by rw [c_12]; decide) (by decide) ?_
                      refine lv_aload_n hx hb dX12_count_132 rfl (lv_at hl 0 rfl) ?_
                      obtain ⟨r_14, hc_13, hf⟩ := bi1S hf
                      refine wd_cv X hP hS L1088 ml_X12_393 ⟨_, _, rfl⟩ (c_X12_afloat l D dA zz bs mm r_14 hc_13) rfl ⟨Nat.le_of_ble_eq_true rfl, Nat.le_of_ble_eq_true rfl⟩ hl.1 rfl (rest := []) (Nat.le_of_ble_eq_true rfl) ⟨Nat.zero_le _, Nat.zero_le _⟩ dX12_count_133 (fun H locs hP hS => ?_)
                      refine W.eq (g2 := F0 m 136 ls [.int r_14]) rfl ?_
                      cases hf
                      exact wd_iret X hP hS hr0 dX12_count_136 ⟨rfl, rfl⟩
                    · have hf := itF hf c_12
                      by_cases c_15 : x1 = 10
                      · have hf := itT hf c_15
                        refine lv_tableIn (tgt := 137) (off := 136) hx hb dX12_count_1 (by rw [c_15]; decide) (by rw [c_15]; decide) (by rw [c_15]; decide) (by decide) ?_
                        refine lv_aload_n hx hb dX12_count_137 rfl (lv_at hl 0 rfl) ?_
                        refine wd_getR (q := 1089) X hP L1088 fl_X12_9 rfl dX12_count_138 ?_
                        refine lv_bipush (v := 7) hx hb dX12_count_141 (by decide) ?_
                        refine wd_ialdK (k := 7) X hP L1089 (by decide) (by decide) dX12_count_143 ?_
                        cases hf
                        exact wd_iret X hP hS hr0 dX12_count_144 ⟨rfl, rfl⟩
                      · have hf := itF hf c_15
                        by_cases c_16 : x1 = 11
                        · have hf := itT hf c_16
                          refine lv_tableIn (tgt := 145) (off := 144) hx hb dX12_count_1 (by rw [c_16]; decide) (by rw [c_16]; decide) (by rw [c_16]; decide) (by decide) ?_
                          refine lv_aload_n hx hb dX12_count_145 rfl (lv_at hl 0 rfl) ?_
                          refine wd_getI X hP L1088 fl_X12_359 rfl dX12_count_146 ?_
                          cases hf
                          exact wd_iret X hP hS hr0 dX12_count_149 ⟨rfl, rfl⟩
                        · have hf := itF hf c_16
                          by_cases c_17 : x1 = 12
                          · have hf := itT hf c_17
                            refine lv_tableIn (tgt := 150) (off := 149) hx hb dX12_count_1 (by rw [c_17]; decide) (by rw [c_17]; decide) (by rw [c_17]; decide) (by decide) ?_
                            refine lv_aload_n hx hb dX12_count_150 rfl (lv_at hl 0 rfl) ?_
                            refine wd_getR (q := 1089) X hP L1088 fl_X12_9 rfl dX12_count_151 ?_
                            refine lv_bipush (v := 8) hx hb dX12_count_154 (by decide) ?_
                            refine wd_ialdK (k := 8) X hP L1089 (by decide) (by decide) dX12_count_156 ?_
                            cases hf
                            exact wd_iret X hP hS hr0 dX12_count_157 ⟨rfl, rfl⟩
                          · have hf := itF hf c_17
                            by_cases c_18 : x1 = 13
                            · have hf := itT hf c_18
                              refine lv_tableIn (tgt := 158) (off := 157) hx hb dX12_count_1 (by rw [c_18]; decide) (by rw [c_18]; decide) (by rw [c_18]; decide) (by decide) ?_
                              refine lv_aload_n hx hb dX12_count_158 rfl (lv_at hl 0 rfl) ?_
                              refine wd_getI X hP L1088 fl_X12_184 rfl dX12_count_159 ?_
                              cases hf
                              exact wd_iret X hP hS hr0 dX12_count_162 ⟨rfl, rfl⟩
                            · have hf := itF hf c_18
                              refine lv_tableOut (tgt := 163) hx hb dX12_count_1 (tb_out14 c_1 c_2 c_3 c_4 c_5 c_6 c_7 c_8 c_9 c_12 c_15 c_16 c_17 c_18) (by decide) ?_
                              refine lv_iconst (v := -1) hx hb dX12_count_163 (by decide) ?_
                              cases hf
                              exact wd_iret X hP hS hr0 dX12_count_164 ⟨rfl, rfl⟩

noncomputable def f_X12_image (mm : Mm) (x1 : Int32) : Option (Int32 × Mm) :=
  if (f_X12_in (x1.toInt64) (0 : Int64) (3 : Int64)) = 0 then
    some ((-1 : Int32), mm)
  else
    if x1 < 0 ∨ 4 ≤ x1.toNatClampNeg then none else
      vlet (wI mm 1140 x1.toNatClampNeg (vp_nar .boolean (1 : Int32))) fun mm_2 =>
        bi1 (f_X12_carriesAll mm_2 x1 (0 : Int32)) fun mm_4 => some ((mm_4.1 1089 6), mm_4)
set_option maxHeartbeats 4000000 in
set_option maxRecDepth 100000 in
theorem c_X12_image (l : Launch) (D : va_G) (dA : Nat → ClassId) (zz : (Nat → Nat) × (Nat → Nat)) (bs : Nat) (mm : Mm) (x1 : Int32) (out : Int32) (m1 : Mm) (hf : f_X12_image mm x1 = some (out, m1)) : Mw l D dA zz bs LY yX12_image cX12_image 2 (some .int) 2 44 [.ref (bs + 1088), .int x1] mm (some (.int out)) m1 := by
  refine Mw.of (own := RX12) (by decide) rfl (Nat.le_of_ble_eq_true rfl) ?_
  intro p e s m args below meth c X hr0 hP hS ls hl
  have hx := X.1
  have hb := X.2.1
  obtain ⟨H, hH⟩ : ∃ z : Heap, z = s.heap := ⟨_, rfl⟩
  obtain ⟨locs, hL⟩ : ∃ z : List Loc, z = [] := ⟨_, rfl⟩
  rw [← hH, ← hL]
  have hS : va_S (Aq bs) s.heap H locs := by rw [hH, hL]; exact hS
  have hP : Wd D dA bs LY mm H := by rw [hH]; exact hP
  have hl : lv_has ls 2 [(0, .ref (bs + 1088)), (1, .int x1)] := hl
  unfold f_X12_image at hf
  refine lv_iload_n hx hb dX12_image_0 rfl (lv_at hl 1 rfl) ?_
  refine lv_i2l hx hb dX12_image_1 rfl ?_
  refine lv_lconst (v := 0) hx hb dX12_image_2 (by decide) ?_
  refine lv_ldc2 (own := RX12) (v := 3) hx hb X.2.2.2.1 (X.2.2.2.2.1 _ (tb_at 1742 (by decide +kernel) (by decide +kernel))) dX12_image_3 ?_
  refine wd_cs X hP hS ml_X12_176 (c_X12_in l D dA zz bs mm (x1.toInt64) (0 : Int64) (3 : Int64) (f_X12_in (x1.toInt64) (0 : Int64) (3 : Int64)) rfl) rfl ⟨Nat.le_of_ble_eq_true rfl, Nat.le_of_ble_eq_true rfl⟩ hl.1 rfl (rest := []) (Nat.le_of_ble_eq_true rfl) ⟨Nat.zero_le _, Nat.zero_le _⟩ dX12_image_6 (fun H locs hP hS => ?_)
  refine W.eq (g2 := F0 m 9 ls [.int (f_X12_in (x1.toInt64) (0 : Int64) (3 : Int64))]) rfl ?_
  refine lv_if_ne (tgt := 14) hx hb dX12_image_9 (by decide) (fun c_1 => ?_) (fun c_1 => ?_)
  · have hf := itF hf c_1
    refine lv_aload_n hx hb dX12_image_14 rfl (lv_at hl 0 rfl) ?_
    refine wd_getR (q := 1140) X hP L1088 fl_X12_170 rfl dX12_image_15 ?_
    refine lv_iload_n hx hb dX12_image_18 rfl (lv_at hl 1 rfl) ?_
    refine lv_iconst (v := 1) hx hb dX12_image_19 (by decide) ?_
    have g_3 := gdN hf
    have hf := gdK hf
    refine wd_zast X hP hS L1140 g_3 dX12_image_20 (fun H locs mm_2 emm_2 hP hS => ?_)
    have hf := vl hf emm_2
    refine lv_aload_n hx hb dX12_image_21 rfl (lv_at hl 0 rfl) ?_
    refine lv_iload_n hx hb dX12_image_22 rfl (lv_at hl 1 rfl) ?_
    refine lv_iconst (v := 0) hx hb dX12_image_23 (by decide) ?_
    obtain ⟨mm_4, hc_5, hf⟩ := bi1S hf
    refine wd_cv X hP hS L1088 ml_X12_516 ⟨_, _, rfl⟩ (c_X12_carriesAll l D dA zz bs mm_2 x1 (0 : Int32) mm_4 hc_5) rfl ⟨Nat.le_of_ble_eq_true rfl, Nat.le_of_ble_eq_true rfl⟩ hl.1 rfl (rest := []) (Nat.le_of_ble_eq_true rfl) ⟨Nat.zero_le _, Nat.zero_le _⟩ dX12_image_24 (fun H locs hP hS => ?_)
    refine W.eq (g2 := F0 m 27 ls []) rfl ?_
    refine lv_aload_n hx hb dX12_image_27 rfl (lv_at hl 0 rfl) ?_
    refine wd_getR (q := 1089) X hP L1088 fl_X12_9 rfl dX12_image_28 ?_
    refine lv_bipush (v := 6) hx hb dX12_image_31 (by decide) ?_
    refine wd_ialdK (k := 6) X hP L1089 (by decide) (by decide) dX12_image_33 ?_
    cases hf
    exact wd_iret X hP hS hr0 dX12_image_34 ⟨rfl, rfl⟩
  · have hf := itT hf c_1
    refine lv_iconst (v := -1) hx hb dX12_image_12 (by decide) ?_
    cases hf
    exact wd_iret X hP hS hr0 dX12_image_13 ⟨rfl, rfl⟩

noncomputable def f_X12_back (mm : Mm) (x1 : Int32) : Option (Int32 × Mm) :=
  if (f_X12_in (x1.toInt64) (0 : Int64) (3 : Int64)) = 0 then
    some ((-1 : Int32), mm)
  else
    if x1 < 0 ∨ 4 ≤ x1.toNatClampNeg then none else
      if (mm.1 1140 x1.toNatClampNeg) = 0 then
        some ((-1 : Int32), mm)
      else
        bi1 (f_X12_carriesAll mm x1 (1 : Int32)) fun mm_4 => some ((mm_4.1 1089 6), mm_4)
set_option maxHeartbeats 4000000 in
set_option maxRecDepth 100000 in
theorem c_X12_back (l : Launch) (D : va_G) (dA : Nat → ClassId) (zz : (Nat → Nat) × (Nat → Nat)) (bs : Nat) (mm : Mm) (x1 : Int32) (out : Int32) (m1 : Mm) (hf : f_X12_back mm x1 = some (out, m1)) : Mw l D dA zz bs LY yX12_back cX12_back 2 (some .int) 2 44 [.ref (bs + 1088), .int x1] mm (some (.int out)) m1 := by
  refine Mw.of (own := RX12) (by decide) rfl (Nat.le_of_ble_eq_true rfl) ?_
  intro p e s m args below meth c X hr0 hP hS ls hl
  have hx := X.1
  have hb := X.2.1
  obtain ⟨H, hH⟩ : ∃ z : Heap, z = s.heap := ⟨_, rfl⟩
  obtain ⟨locs, hL⟩ : ∃ z : List Loc, z = [] := ⟨_, rfl⟩
  rw [← hH, ← hL]
  have hS : va_S (Aq bs) s.heap H locs := by rw [hH, hL]; exact hS
  have hP : Wd D dA bs LY mm H := by rw [hH]; exact hP
  have hl : lv_has ls 2 [(0, .ref (bs + 1088)), (1, .int x1)] := hl
  unfold f_X12_back at hf
  refine lv_iload_n hx hb dX12_back_0 rfl (lv_at hl 1 rfl) ?_
  refine lv_i2l hx hb dX12_back_1 rfl ?_
  refine lv_lconst (v := 0) hx hb dX12_back_2 (by decide) ?_
  refine lv_ldc2 (own := RX12) (v := 3) hx hb X.2.2.2.1 (X.2.2.2.2.1 _ (tb_at 1742 (by decide +kernel) (by decide +kernel))) dX12_back_3 ?_
  refine wd_cs X hP hS ml_X12_176 (c_X12_in l D dA zz bs mm (x1.toInt64) (0 : Int64) (3 : Int64) (f_X12_in (x1.toInt64) (0 : Int64) (3 : Int64)) rfl) rfl ⟨Nat.le_of_ble_eq_true rfl, Nat.le_of_ble_eq_true rfl⟩ hl.1 rfl (rest := []) (Nat.le_of_ble_eq_true rfl) ⟨Nat.zero_le _, Nat.zero_le _⟩ dX12_back_6 (fun H locs hP hS => ?_)
  refine W.eq (g2 := F0 m 9 ls [.int (f_X12_in (x1.toInt64) (0 : Int64) (3 : Int64))]) rfl ?_
  refine lv_if_eq (tgt := 21) hx hb dX12_back_9 (by decide) (fun c_1 => ?_) (fun c_1 => ?_)
  · have hf := itT hf c_1
    refine lv_iconst (v := -1) hx hb dX12_back_21 (by decide) ?_
    cases hf
    exact wd_iret X hP hS hr0 dX12_back_22 ⟨rfl, rfl⟩
  · have hf := itF hf c_1
    refine lv_aload_n hx hb dX12_back_12 rfl (lv_at hl 0 rfl) ?_
    refine wd_getR (q := 1140) X hP L1088 fl_X12_170 rfl dX12_back_13 ?_
    refine lv_iload_n hx hb dX12_back_16 rfl (lv_at hl 1 rfl) ?_
    have g_2 := gdN hf
    have hf := gdK hf
    refine wd_zald X hP L1140 g_2 dX12_back_17 ?_
    refine lv_if_ne (tgt := 23) hx hb dX12_back_18 (by decide) (fun c_3 => ?_) (fun c_3 => ?_)
    · have hf := itF hf c_3
      refine lv_aload_n hx hb dX12_back_23 rfl (lv_at hl 0 rfl) ?_
      refine lv_iload_n hx hb dX12_back_24 rfl (lv_at hl 1 rfl) ?_
      refine lv_iconst (v := 1) hx hb dX12_back_25 (by decide) ?_
      obtain ⟨mm_4, hc_5, hf⟩ := bi1S hf
      refine wd_cv X hP hS L1088 ml_X12_516 ⟨_, _, rfl⟩ (c_X12_carriesAll l D dA zz bs mm x1 (1 : Int32) mm_4 hc_5) rfl ⟨Nat.le_of_ble_eq_true rfl, Nat.le_of_ble_eq_true rfl⟩ hl.1 rfl (rest := []) (Nat.le_of_ble_eq_true rfl) ⟨Nat.zero_le _, Nat.zero_le _⟩ dX12_back_26 (fun H locs hP hS => ?_)
      refine W.eq (g2 := F0 m 29 ls []) rfl ?_
      refine lv_aload_n hx hb dX12_back_29 rfl (lv_at hl 0 rfl) ?_
      refine wd_getR (q := 1089) X hP L1088 fl_X12_9 rfl dX12_back_30 ?_
      refine lv_bipush (v := 6) hx hb dX12_back_33 (by decide) ?_
      refine wd_ialdK (k := 6) X hP L1089 (by decide) (by decide) dX12_back_35 ?_
      cases hf
      exact wd_iret X hP hS hr0 dX12_back_36 ⟨rfl, rfl⟩
    · have hf := itT hf c_3
      refine lv_iconst (v := -1) hx hb dX12_back_21 (by decide) ?_
      cases hf
      exact wd_iret X hP hS hr0 dX12_back_22 ⟨rfl, rfl⟩
