noncomputable def f_X11_locks (mm : Mm) (x1 : Int32) (x2 : Int32) : Option (Int32 × Mm) :=
  if (f_X11_hasRiver mm) = 0 then
    some ((-1 : Int32), mm)
  else
    if x1 < (1 : Int32) then
      some ((-1 : Int32), mm)
    else
      if (200 : Int32) < x1 then
        some ((-1 : Int32), mm)
      else
        if x2 < 0 then
          some ((-1 : Int32), mm)
        else
          if x2 ≤ (8 : Int32) then
            bi2 (f_X0_find mm x1) fun r_8 mm_6 =>
              if r_8 = 0 then
                some ((-2 : Int32), mm_6)
              else
                if x2 = 0 then
                  some ((mm_6.1 238 2), mm_6)
                else
                  if (x2 - (1 : Int32)) < 0 ∨ 8 ≤ (x2 - (1 : Int32)).toNatClampNeg then none else some ((mm_6.1 239 (x2 - (1 : Int32)).toNatClampNeg), mm_6)
          else
            some ((-1 : Int32), mm)
set_option maxHeartbeats 4000000 in
set_option maxRecDepth 100000 in
theorem c_X11_locks (l : Launch) (D : va_G) (dA : Nat → ClassId) (zz : (Nat → Nat) × (Nat → Nat)) (bs : Nat) (mm : Mm) (x1 : Int32) (x2 : Int32) (out : Int32) (m1 : Mm) (hf : f_X11_locks mm x1 x2 = some (out, m1)) : Mw l D dA zz bs LY yX11_locks cX11_locks 3 (some .int) 12 645 [.ref (bs + 0), .int x1, .int x2] mm (some (.int out)) m1 := by
  refine Mw.of (own := RX11) (by decide) rfl (Nat.le_of_ble_eq_true rfl) ?_
  intro p e s m args below meth c X hr0 hP hS ls hl
  have hx := X.1
  have hb := X.2.1
  obtain ⟨H, hH⟩ : ∃ z : Heap, z = s.heap := ⟨_, rfl⟩
  obtain ⟨locs, hL⟩ : ∃ z : List Loc, z = [] := ⟨_, rfl⟩
  rw [← hH, ← hL]
  have hS : va_S (Aq bs) s.heap H locs := by rw [hH, hL]; exact hS
  have hP : Wd D dA bs LY mm H := by rw [hH]; exact hP
  have hl : lv_has ls 3 [(0, .ref (bs + 0)), (1, .int x1), (2, .int x2)] := hl
  unfold f_X11_locks at hf
  refine lv_aload_n hx hb dX11_locks_0 rfl (lv_at hl 0 rfl) ?_
  refine wd_cv X hP hS L0 ml_X11_200 ⟨_, _, rfl⟩ (c_X11_hasRiver l D dA zz bs mm (f_X11_hasRiver mm) rfl) rfl ⟨Nat.le_of_ble_eq_true rfl, Nat.le_of_ble_eq_true rfl⟩ hl.1 rfl (rest := []) (Nat.le_of_ble_eq_true rfl) ⟨Nat.zero_le _, Nat.zero_le _⟩ dX11_locks_1 (fun H locs hP hS => ?_)
  refine W.eq (g2 := F0 m 4 ls [.int (f_X11_hasRiver mm)]) rfl ?_
  refine lv_if_eq (tgt := 29) hx hb dX11_locks_4 (by decide) (fun c_1 => ?_) (fun c_1 => ?_)
  · have hf := itT hf c_1
    refine lv_iconst (v := -1) hx hb dX11_locks_29 (by decide) ?_
    obtain ⟨rfl, rfl⟩ := Prod.mk.inj (Option.some.inj hf)
    exact wd_iret X hP hS hr0 dX11_locks_30 ⟨rfl, rfl⟩
  · have hf := itF hf c_1
    refine lv_iload_n hx hb dX11_locks_7 rfl (lv_at hl 1 rfl) ?_
    refine lv_iconst (v := 1) hx hb dX11_locks_8 (by decide) ?_
    refine lv_icmp_lt (tgt := 29) hx hb dX11_locks_9 (by decide) (fun c_2 => ?_) (fun c_2 => ?_)
    · have hf := itT hf c_2
      refine lv_iconst (v := -1) hx hb dX11_locks_29 (by decide) ?_
      obtain ⟨rfl, rfl⟩ := Prod.mk.inj (Option.some.inj hf)
      exact wd_iret X hP hS hr0 dX11_locks_30 ⟨rfl, rfl⟩
    · have hf := itF hf c_2
      refine lv_iload_n hx hb dX11_locks_12 rfl (lv_at hl 1 rfl) ?_
      refine lv_sipush (v := 200) hx hb dX11_locks_13 (by decide) ?_
      refine lv_icmp_gt (tgt := 29) hx hb dX11_locks_16 (by decide) (fun c_3 => ?_) (fun c_3 => ?_)
      · have hf := itT hf c_3
        refine lv_iconst (v := -1) hx hb dX11_locks_29 (by decide) ?_
        obtain ⟨rfl, rfl⟩ := Prod.mk.inj (Option.some.inj hf)
        exact wd_iret X hP hS hr0 dX11_locks_30 ⟨rfl, rfl⟩
      · have hf := itF hf c_3
        refine lv_iload_n hx hb dX11_locks_19 rfl (lv_at hl 2 rfl) ?_
        refine lv_if_lt (tgt := 29) hx hb dX11_locks_20 (by decide) (fun c_4 => ?_) (fun c_4 => ?_)
        · have hf := itT hf c_4
          refine lv_iconst (v := -1) hx hb dX11_locks_29 (by decide) ?_
          obtain ⟨rfl, rfl⟩ := Prod.mk.inj (Option.some.inj hf)
          exact wd_iret X hP hS hr0 dX11_locks_30 ⟨rfl, rfl⟩
        · have hf := itF hf c_4
          refine lv_iload_n hx hb dX11_locks_23 rfl (lv_at hl 2 rfl) ?_
          refine lv_bipush (v := 8) hx hb dX11_locks_24 (by decide) ?_
          refine lv_icmp_le (tgt := 31) hx hb dX11_locks_26 (by decide) (fun c_5 => ?_) (fun c_5 => ?_)
          · have hf := itT hf c_5
            refine lv_aload_n hx hb dX11_locks_31 rfl (lv_at hl 0 rfl) ?_
            refine wd_getR (q := 238) X hP L0 fl_X11_85 rfl dX11_locks_32 ?_
            refine lv_iload_n hx hb dX11_locks_35 rfl (lv_at hl 1 rfl) ?_
            obtain ⟨r_8, mm_6, hc_7, hf⟩ := bi2S hf
            refine wd_cv X hP hS L238 ml_X11_311 ⟨_, _, rfl⟩ (c_X0_find l D dA zz bs mm x1 r_8 mm_6 hc_7) rfl ⟨Nat.le_of_ble_eq_true rfl, Nat.le_of_ble_eq_true rfl⟩ hl.1 rfl (rest := []) (Nat.le_of_ble_eq_true rfl) ⟨Nat.zero_le _, Nat.zero_le _⟩ dX11_locks_36 (fun H locs hP hS => ?_)
            refine W.eq (g2 := F0 m 39 ls [.int r_8]) rfl ?_
            refine lv_if_ne (tgt := 45) hx hb dX11_locks_39 (by decide) (fun c_9 => ?_) (fun c_9 => ?_)
            · have hf := itF hf c_9
              refine lv_iload_n hx hb dX11_locks_45 rfl (lv_at hl 2 rfl) ?_
              refine lv_if_ne (tgt := 59) hx hb dX11_locks_46 (by decide) (fun c_10 => ?_) (fun c_10 => ?_)
              · have hf := itF hf c_10
                refine lv_aload_n hx hb dX11_locks_59 rfl (lv_at hl 0 rfl) ?_
                refine wd_getR (q := 238) X hP L0 fl_X11_85 rfl dX11_locks_60 ?_
                refine wd_getR (q := 239) X hP L238 fl_X11_316 rfl dX11_locks_63 ?_
                refine lv_iload_n hx hb dX11_locks_66 rfl (lv_at hl 2 rfl) ?_
                refine lv_iconst (v := 1) hx hb dX11_locks_67 (by decide) ?_
                refine lv_isub hx hb dX11_locks_68 ?_
                have g_11 := gdN hf
                have hf := gdK hf
                refine wd_iald X hP L239 g_11 dX11_locks_69 ?_
                obtain ⟨rfl, rfl⟩ := Prod.mk.inj (Option.some.inj hf)
                exact wd_iret X hP hS hr0 dX11_locks_70 ⟨rfl, rfl⟩
              · have hf := itT hf c_10
                refine lv_aload_n hx hb dX11_locks_49 rfl (lv_at hl 0 rfl) ?_
                refine wd_getR (q := 238) X hP L0 fl_X11_85 rfl dX11_locks_50 ?_
                refine wd_getI X hP L238 fl_X11_313 rfl dX11_locks_53 ?_
                refine lv_goto (tgt := 70) hx hb dX11_locks_56 (by decide) ?_
                obtain ⟨rfl, rfl⟩ := Prod.mk.inj (Option.some.inj hf)
                exact wd_iret X hP hS hr0 dX11_locks_70 ⟨rfl, rfl⟩
            · have hf := itT hf c_9
              refine lv_bipush (v := -2) hx hb dX11_locks_42 (by decide) ?_
              obtain ⟨rfl, rfl⟩ := Prod.mk.inj (Option.some.inj hf)
              exact wd_iret X hP hS hr0 dX11_locks_44 ⟨rfl, rfl⟩
          · have hf := itF hf c_5
            refine lv_iconst (v := -1) hx hb dX11_locks_29 (by decide) ?_
            obtain ⟨rfl, rfl⟩ := Prod.mk.inj (Option.some.inj hf)
            exact wd_iret X hP hS hr0 dX11_locks_30 ⟨rfl, rfl⟩

noncomputable def f_X11_delta (mm : Mm) (x1 : Int32) : Option (Int32 × Mm) :=
  if (f_X11_hasRiver mm) = 0 then
    some ((-1 : Int32), mm)
  else
    if x1 < 0 then
      some ((-1 : Int32), mm)
    else
      if x1 ≤ (1 : Int32) then
        bi1 (f_X3_findDelta mm) fun mm_4 =>
          if x1 = 0 then
            some ((mm_4.1 232 6), mm_4)
          else
            some ((mm_4.1 232 7), mm_4)
      else
        some ((-1 : Int32), mm)
set_option maxHeartbeats 4000000 in
set_option maxRecDepth 100000 in
theorem c_X11_delta (l : Launch) (D : va_G) (dA : Nat → ClassId) (zz : (Nat → Nat) × (Nat → Nat)) (bs : Nat) (mm : Mm) (x1 : Int32) (out : Int32) (m1 : Mm) (hf : f_X11_delta mm x1 = some (out, m1)) : Mw l D dA zz bs LY yX11_delta cX11_delta 2 (some .int) 4 93 [.ref (bs + 0), .int x1] mm (some (.int out)) m1 := by
  refine Mw.of (own := RX11) (by decide) rfl (Nat.le_of_ble_eq_true rfl) ?_
  intro p e s m args below meth c X hr0 hP hS ls hl
  have hx := X.1
  have hb := X.2.1
  obtain ⟨H, hH⟩ : ∃ z : Heap, z = s.heap := ⟨_, rfl⟩
  obtain ⟨locs, hL⟩ : ∃ z : List Loc, z = [] := ⟨_, rfl⟩
  rw [← hH, ← hL]
  have hS : va_S (Aq bs) s.heap H locs := by rw [hH, hL]; exact hS
  have hP : Wd D dA bs LY mm H := by rw [hH]; exact hP
  have hl : lv_has ls 2 [(0, .ref (bs + 0)), (1, .int x1)] := hl
  unfold f_X11_delta at hf
  refine lv_aload_n hx hb dX11_delta_0 rfl (lv_at hl 0 rfl) ?_
  refine wd_cv X hP hS L0 ml_X11_200 ⟨_, _, rfl⟩ (c_X11_hasRiver l D dA zz bs mm (f_X11_hasRiver mm) rfl) rfl ⟨Nat.le_of_ble_eq_true rfl, Nat.le_of_ble_eq_true rfl⟩ hl.1 rfl (rest := []) (Nat.le_of_ble_eq_true rfl) ⟨Nat.zero_le _, Nat.zero_le _⟩ dX11_delta_1 (fun H locs hP hS => ?_)
  refine W.eq (g2 := F0 m 4 ls [.int (f_X11_hasRiver mm)]) rfl ?_
  refine lv_if_eq (tgt := 16) hx hb dX11_delta_4 (by decide) (fun c_1 => ?_) (fun c_1 => ?_)
  · have hf := itT hf c_1
    refine lv_iconst (v := -1) hx hb dX11_delta_16 (by decide) ?_
    obtain ⟨rfl, rfl⟩ := Prod.mk.inj (Option.some.inj hf)
    exact wd_iret X hP hS hr0 dX11_delta_17 ⟨rfl, rfl⟩
  · have hf := itF hf c_1
    refine lv_iload_n hx hb dX11_delta_7 rfl (lv_at hl 1 rfl) ?_
    refine lv_if_lt (tgt := 16) hx hb dX11_delta_8 (by decide) (fun c_2 => ?_) (fun c_2 => ?_)
    · have hf := itT hf c_2
      refine lv_iconst (v := -1) hx hb dX11_delta_16 (by decide) ?_
      obtain ⟨rfl, rfl⟩ := Prod.mk.inj (Option.some.inj hf)
      exact wd_iret X hP hS hr0 dX11_delta_17 ⟨rfl, rfl⟩
    · have hf := itF hf c_2
      refine lv_iload_n hx hb dX11_delta_11 rfl (lv_at hl 1 rfl) ?_
      refine lv_iconst (v := 1) hx hb dX11_delta_12 (by decide) ?_
      refine lv_icmp_le (tgt := 18) hx hb dX11_delta_13 (by decide) (fun c_3 => ?_) (fun c_3 => ?_)
      · have hf := itT hf c_3
        refine lv_aload_n hx hb dX11_delta_18 rfl (lv_at hl 0 rfl) ?_
        refine wd_getR (q := 232) X hP L0 fl_X11_65 rfl dX11_delta_19 ?_
        obtain ⟨mm_4, hc_5, hf⟩ := bi1S hf
        refine wd_cv X hP hS L232 ml_X11_317 ⟨_, _, rfl⟩ (c_X3_findDelta l D dA zz bs mm mm_4 hc_5) rfl ⟨Nat.le_of_ble_eq_true rfl, Nat.le_of_ble_eq_true rfl⟩ hl.1 rfl (rest := []) (Nat.le_of_ble_eq_true rfl) ⟨Nat.zero_le _, Nat.zero_le _⟩ dX11_delta_22 (fun H locs hP hS => ?_)
        refine W.eq (g2 := F0 m 25 ls []) rfl ?_
        refine lv_iload_n hx hb dX11_delta_25 rfl (lv_at hl 1 rfl) ?_
        refine lv_if_ne (tgt := 39) hx hb dX11_delta_26 (by decide) (fun c_6 => ?_) (fun c_6 => ?_)
        · have hf := itF hf c_6
          refine lv_aload_n hx hb dX11_delta_39 rfl (lv_at hl 0 rfl) ?_
          refine wd_getR (q := 232) X hP L0 fl_X11_65 rfl dX11_delta_40 ?_
          refine wd_getI X hP L232 fl_X11_323 rfl dX11_delta_43 ?_
          obtain ⟨rfl, rfl⟩ := Prod.mk.inj (Option.some.inj hf)
          exact wd_iret X hP hS hr0 dX11_delta_46 ⟨rfl, rfl⟩
        · have hf := itT hf c_6
          refine lv_aload_n hx hb dX11_delta_29 rfl (lv_at hl 0 rfl) ?_
          refine wd_getR (q := 232) X hP L0 fl_X11_65 rfl dX11_delta_30 ?_
          refine wd_getI X hP L232 fl_X11_320 rfl dX11_delta_33 ?_
          refine lv_goto (tgt := 46) hx hb dX11_delta_36 (by decide) ?_
          obtain ⟨rfl, rfl⟩ := Prod.mk.inj (Option.some.inj hf)
          exact wd_iret X hP hS hr0 dX11_delta_46 ⟨rfl, rfl⟩
      · have hf := itF hf c_3
        refine lv_iconst (v := -1) hx hb dX11_delta_16 (by decide) ?_
        obtain ⟨rfl, rfl⟩ := Prod.mk.inj (Option.some.inj hf)
        exact wd_iret X hP hS hr0 dX11_delta_17 ⟨rfl, rfl⟩

noncomputable def f_X11_weak (mm : Mm) (x1 : Int32) : Option (Int32 × Mm) :=
  if (f_X11_hasRiver mm) = 0 then
    some ((-1 : Int32), mm)
  else
    if x1 = 0 then
      bi2 (f_X3_weakRopes mm) fun r_5 mm_3 => some (r_5, mm_3)
    else if x1 = 1 then
      bi2 (f_X3_weakThings mm) fun r_9 mm_7 => some (r_9, mm_7)
    else
      some ((-1 : Int32), mm)
set_option maxHeartbeats 4000000 in
set_option maxRecDepth 100000 in
theorem c_X11_weak (l : Launch) (D : va_G) (dA : Nat → ClassId) (zz : (Nat → Nat) × (Nat → Nat)) (bs : Nat) (mm : Mm) (x1 : Int32) (out : Int32) (m1 : Mm) (hf : f_X11_weak mm x1 = some (out, m1)) : Mw l D dA zz bs LY yX11_weak cX11_weak 2 (some .int) 4 92 [.ref (bs + 0), .int x1] mm (some (.int out)) m1 := by
  refine Mw.of (own := RX11) (by decide) rfl (Nat.le_of_ble_eq_true rfl) ?_
  intro p e s m args below meth c X hr0 hP hS ls hl
  have hx := X.1
  have hb := X.2.1
  obtain ⟨H, hH⟩ : ∃ z : Heap, z = s.heap := ⟨_, rfl⟩
  obtain ⟨locs, hL⟩ : ∃ z : List Loc, z = [] := ⟨_, rfl⟩
  rw [← hH, ← hL]
  have hS : va_S (Aq bs) s.heap H locs := by rw [hH, hL]; exact hS
  have hP : Wd D dA bs LY mm H := by rw [hH]; exact hP
  have hl : lv_has ls 2 [(0, .ref (bs + 0)), (1, .int x1)] := hl
  unfold f_X11_weak at hf
  refine lv_aload_n hx hb dX11_weak_0 rfl (lv_at hl 0 rfl) ?_
  refine wd_cv X hP hS L0 ml_X11_200 ⟨_, _, rfl⟩ (c_X11_hasRiver l D dA zz bs mm (f_X11_hasRiver mm) rfl) rfl ⟨Nat.le_of_ble_eq_true rfl, Nat.le_of_ble_eq_true rfl⟩ hl.1 rfl (rest := []) (Nat.le_of_ble_eq_true rfl) ⟨Nat.zero_le _, Nat.zero_le _⟩ dX11_weak_1 (fun H locs hP hS => ?_)
  refine W.eq (g2 := F0 m 4 ls [.int (f_X11_hasRiver mm)]) rfl ?_
  refine lv_if_ne (tgt := 9) hx hb dX11_weak_4 (by decide) (fun c_1 => ?_) (fun c_1 => ?_)
  · have hf := itF hf c_1
    refine lv_iload_n hx hb dX11_weak_9 rfl (lv_at hl 1 rfl) ?_
    by_cases c_2 : x1 = 0
    · have hf := itT hf c_2
      refine lv_lookup (tgt := 36) (off := 26) hx hb dX11_weak_10 (by decide) (by rw [c_2]; decide) (by decide) ?_
      refine lv_aload_n hx hb dX11_weak_36 rfl (lv_at hl 0 rfl) ?_
      refine wd_getR (q := 232) X hP L0 fl_X11_65 rfl dX11_weak_37 ?_
      obtain ⟨r_5, mm_3, hc_4, hf⟩ := bi2S hf
      refine wd_cv X hP hS L232 ml_X11_326 ⟨_, _, rfl⟩ (c_X3_weakRopes l D dA zz bs mm r_5 mm_3 hc_4) rfl ⟨Nat.le_of_ble_eq_true rfl, Nat.le_of_ble_eq_true rfl⟩ hl.1 rfl (rest := []) (Nat.le_of_ble_eq_true rfl) ⟨Nat.zero_le _, Nat.zero_le _⟩ dX11_weak_40 (fun H locs hP hS => ?_)
      refine W.eq (g2 := F0 m 43 ls [.int r_5]) rfl ?_
      obtain ⟨rfl, rfl⟩ := Prod.mk.inj (Option.some.inj hf)
      exact wd_iret X hP hS hr0 dX11_weak_43 ⟨rfl, rfl⟩
    · have hf := itF hf c_2
      by_cases c_6 : x1 = 1
      · have hf := itT hf c_6
        refine lv_lookup (tgt := 44) (off := 34) hx hb dX11_weak_10 (by decide) (by rw [c_6]; decide) (by decide) ?_
        refine lv_aload_n hx hb dX11_weak_44 rfl (lv_at hl 0 rfl) ?_
        refine wd_getR (q := 232) X hP L0 fl_X11_65 rfl dX11_weak_45 ?_
        obtain ⟨r_9, mm_7, hc_8, hf⟩ := bi2S hf
        refine wd_cv X hP hS L232 ml_X11_329 ⟨_, _, rfl⟩ (c_X3_weakThings l D dA zz bs mm r_9 mm_7 hc_8) rfl ⟨Nat.le_of_ble_eq_true rfl, Nat.le_of_ble_eq_true rfl⟩ hl.1 rfl (rest := []) (Nat.le_of_ble_eq_true rfl) ⟨Nat.zero_le _, Nat.zero_le _⟩ dX11_weak_48 (fun H locs hP hS => ?_)
        refine W.eq (g2 := F0 m 51 ls [.int r_9]) rfl ?_
        obtain ⟨rfl, rfl⟩ := Prod.mk.inj (Option.some.inj hf)
        exact wd_iret X hP hS hr0 dX11_weak_51 ⟨rfl, rfl⟩
      · have hf := itF hf c_6
        refine lv_lookup (tgt := 52) (off := 42) hx hb dX11_weak_10 (by decide) (lk_out2 c_2 c_6) (by decide) ?_
        refine lv_iconst (v := -1) hx hb dX11_weak_52 (by decide) ?_
        obtain ⟨rfl, rfl⟩ := Prod.mk.inj (Option.some.inj hf)
        exact wd_iret X hP hS hr0 dX11_weak_53 ⟨rfl, rfl⟩
  · have hf := itT hf c_1
    refine lv_iconst (v := -1) hx hb dX11_weak_7 (by decide) ?_
    obtain ⟨rfl, rfl⟩ := Prod.mk.inj (Option.some.inj hf)
    exact wd_iret X hP hS hr0 dX11_weak_8 ⟨rfl, rfl⟩

noncomputable def f_X11_offer (mm : Mm) (x1 : Int32) (x2 : Int32) (x3 : Int32) : Option (Int32 × Mm) :=
  if x1 = (-1 : Int32) then
    vlet (wI mm 26 5 (0 : Int32)) fun mm_12 => some ((0 : Int32), mm_12)
  else
    if (f_X11_hasRiver mm) = 0 then
      some ((-2 : Int32), mm)
    else
      if (6 : Int32) ≤ (mm.1 26 5) then
        some ((-2 : Int32), mm)
      else
        if x1 < 0 then
          some ((-2 : Int32), mm)
        else
          if x1 ≤ (50 : Int32) then
            if x2 < 0 then
              some ((-2 : Int32), mm)
            else
              if (99 : Int32) < x2 then
                some ((-2 : Int32), mm)
              else
                if x3 < 0 then
                  some ((-2 : Int32), mm)
                else
                  if x3 ≤ (9 : Int32) then
                    bi1 (f_X9_addOffer mm x1 x2 x3) fun mm_10 => some ((mm_10.1 26 5), mm_10)
                  else
                    some ((-2 : Int32), mm)
          else
            some ((-2 : Int32), mm)
set_option maxHeartbeats 4000000 in
set_option maxRecDepth 100000 in
theorem c_X11_offer (l : Launch) (D : va_G) (dA : Nat → ClassId) (zz : (Nat → Nat) × (Nat → Nat)) (bs : Nat) (mm : Mm) (x1 : Int32) (x2 : Int32) (x3 : Int32) (out : Int32) (m1 : Mm) (hf : f_X11_offer mm x1 x2 x3 = some (out, m1)) : Mw l D dA zz bs LY yX11_offer cX11_offer 4 (some .int) 1 23 [.ref (bs + 0), .int x1, .int x2, .int x3] mm (some (.int out)) m1 := by
  refine Mw.of (own := RX11) (by decide) rfl (Nat.le_of_ble_eq_true rfl) ?_
  intro p e s m args below meth c X hr0 hP hS ls hl
  have hx := X.1
  have hb := X.2.1
  obtain ⟨H, hH⟩ : ∃ z : Heap, z = s.heap := ⟨_, rfl⟩
  obtain ⟨locs, hL⟩ : ∃ z : List Loc, z = [] := ⟨_, rfl⟩
  rw [← hH, ← hL]
  have hS : va_S (Aq bs) s.heap H locs := by rw [hH, hL]; exact hS
  have hP : Wd D dA bs LY mm H := by rw [hH]; exact hP
  have hl : lv_has ls 4 [(0, .ref (bs + 0)), (1, .int x1), (2, .int x2), (3, .int x3)] := hl
  unfold f_X11_offer at hf
  refine lv_iload_n hx hb dX11_offer_0 rfl (lv_at hl 1 rfl) ?_
  refine lv_iconst (v := -1) hx hb dX11_offer_1 (by decide) ?_
  refine lv_icmp_ne (tgt := 15) hx hb dX11_offer_2 (by decide) (fun c_1 => ?_) (fun c_1 => ?_)
  · have hf := itF hf c_1
    refine lv_aload_n hx hb dX11_offer_15 rfl (lv_at hl 0 rfl) ?_
    refine wd_cv X hP hS L0 ml_X11_200 ⟨_, _, rfl⟩ (c_X11_hasRiver l D dA zz bs mm (f_X11_hasRiver mm) rfl) rfl ⟨Nat.le_of_ble_eq_true rfl, Nat.le_of_ble_eq_true rfl⟩ hl.1 rfl (rest := []) (Nat.le_of_ble_eq_true rfl) ⟨Nat.zero_le _, Nat.zero_le _⟩ dX11_offer_16 (fun H locs hP hS => ?_)
    refine W.eq (g2 := F0 m 19 ls [.int (f_X11_hasRiver mm)]) rfl ?_
    refine lv_if_eq (tgt := 44) hx hb dX11_offer_19 (by decide) (fun c_2 => ?_) (fun c_2 => ?_)
    · have hf := itT hf c_2
      refine lv_bipush (v := -2) hx hb dX11_offer_44 (by decide) ?_
      obtain ⟨rfl, rfl⟩ := Prod.mk.inj (Option.some.inj hf)
      exact wd_iret X hP hS hr0 dX11_offer_46 ⟨rfl, rfl⟩
    · have hf := itF hf c_2
      refine lv_aload_n hx hb dX11_offer_22 rfl (lv_at hl 0 rfl) ?_
      refine wd_getR (q := 26) X hP L0 fl_X11_35 rfl dX11_offer_23 ?_
      refine wd_getI X hP (isState.a0 S26) fl_X11_332 rfl dX11_offer_26 ?_
      refine lv_bipush (v := 6) hx hb dX11_offer_29 (by decide) ?_
      refine lv_icmp_ge (tgt := 44) hx hb dX11_offer_31 (by decide) (fun c_3 => ?_) (fun c_3 => ?_)
      · have hf := itT hf c_3
        refine lv_bipush (v := -2) hx hb dX11_offer_44 (by decide) ?_
        obtain ⟨rfl, rfl⟩ := Prod.mk.inj (Option.some.inj hf)
        exact wd_iret X hP hS hr0 dX11_offer_46 ⟨rfl, rfl⟩
      · have hf := itF hf c_3
        refine lv_iload_n hx hb dX11_offer_34 rfl (lv_at hl 1 rfl) ?_
        refine lv_if_lt (tgt := 44) hx hb dX11_offer_35 (by decide) (fun c_4 => ?_) (fun c_4 => ?_)
        · have hf := itT hf c_4
          refine lv_bipush (v := -2) hx hb dX11_offer_44 (by decide) ?_
          obtain ⟨rfl, rfl⟩ := Prod.mk.inj (Option.some.inj hf)
          exact wd_iret X hP hS hr0 dX11_offer_46 ⟨rfl, rfl⟩
        · have hf := itF hf c_4
          refine lv_iload_n hx hb dX11_offer_38 rfl (lv_at hl 1 rfl) ?_
          refine lv_bipush (v := 50) hx hb dX11_offer_39 (by decide) ?_
          refine lv_icmp_le (tgt := 47) hx hb dX11_offer_41 (by decide) (fun c_5 => ?_) (fun c_5 => ?_)
          · have hf := itT hf c_5
            refine lv_iload_n hx hb dX11_offer_47 rfl (lv_at hl 2 rfl) ?_
            refine lv_if_lt (tgt := 67) hx hb dX11_offer_48 (by decide) (fun c_6 => ?_) (fun c_6 => ?_)
            · have hf := itT hf c_6
              refine lv_bipush (v := -2) hx hb dX11_offer_67 (by decide) ?_
              obtain ⟨rfl, rfl⟩ := Prod.mk.inj (Option.some.inj hf)
              exact wd_iret X hP hS hr0 dX11_offer_69 ⟨rfl, rfl⟩
            · have hf := itF hf c_6
              refine lv_iload_n hx hb dX11_offer_51 rfl (lv_at hl 2 rfl) ?_
              refine lv_bipush (v := 99) hx hb dX11_offer_52 (by decide) ?_
              refine lv_icmp_gt (tgt := 67) hx hb dX11_offer_54 (by decide) (fun c_7 => ?_) (fun c_7 => ?_)
              · have hf := itT hf c_7
                refine lv_bipush (v := -2) hx hb dX11_offer_67 (by decide) ?_
                obtain ⟨rfl, rfl⟩ := Prod.mk.inj (Option.some.inj hf)
                exact wd_iret X hP hS hr0 dX11_offer_69 ⟨rfl, rfl⟩
              · have hf := itF hf c_7
                refine lv_iload_n hx hb dX11_offer_57 rfl (lv_at hl 3 rfl) ?_
                refine lv_if_lt (tgt := 67) hx hb dX11_offer_58 (by decide) (fun c_8 => ?_) (fun c_8 => ?_)
                · have hf := itT hf c_8
                  refine lv_bipush (v := -2) hx hb dX11_offer_67 (by decide) ?_
                  obtain ⟨rfl, rfl⟩ := Prod.mk.inj (Option.some.inj hf)
                  exact wd_iret X hP hS hr0 dX11_offer_69 ⟨rfl, rfl⟩
                · have hf := itF hf c_8
                  refine lv_iload_n hx hb dX11_offer_61 rfl (lv_at hl 3 rfl) ?_
                  refine lv_bipush (v := 9) hx hb dX11_offer_62 (by decide) ?_
                  refine lv_icmp_le (tgt := 70) hx hb dX11_offer_64 (by decide) (fun c_9 => ?_) (fun c_9 => ?_)
                  · have hf := itT hf c_9
                    refine lv_aload_n hx hb dX11_offer_70 rfl (lv_at hl 0 rfl) ?_
                    refine wd_getR (q := 26) X hP L0 fl_X11_35 rfl dX11_offer_71 ?_
                    refine lv_iload_n hx hb dX11_offer_74 rfl (lv_at hl 1 rfl) ?_
                    refine lv_iload_n hx hb dX11_offer_75 rfl (lv_at hl 2 rfl) ?_
                    refine lv_iload_n hx hb dX11_offer_76 rfl (lv_at hl 3 rfl) ?_
                    obtain ⟨mm_10, hc_11, hf⟩ := bi1S hf
                    refine wd_cv X hP hS (isState.a0 S26) ml_X11_335 ⟨_, _, rfl⟩ (c_X9_addOffer l D dA zz bs mm x1 x2 x3 mm_10 hc_11) rfl ⟨Nat.le_of_ble_eq_true rfl, Nat.le_of_ble_eq_true rfl⟩ hl.1 rfl (rest := []) (Nat.le_of_ble_eq_true rfl) ⟨Nat.zero_le _, Nat.zero_le _⟩ dX11_offer_77 (fun H locs hP hS => ?_)
                    refine W.eq (g2 := F0 m 80 ls []) rfl ?_
                    refine lv_aload_n hx hb dX11_offer_80 rfl (lv_at hl 0 rfl) ?_
                    refine wd_getR (q := 26) X hP L0 fl_X11_35 rfl dX11_offer_81 ?_
                    refine wd_getI X hP (isState.a0 S26) fl_X11_332 rfl dX11_offer_84 ?_
                    obtain ⟨rfl, rfl⟩ := Prod.mk.inj (Option.some.inj hf)
                    exact wd_iret X hP hS hr0 dX11_offer_87 ⟨rfl, rfl⟩
                  · have hf := itF hf c_9
                    refine lv_bipush (v := -2) hx hb dX11_offer_67 (by decide) ?_
                    obtain ⟨rfl, rfl⟩ := Prod.mk.inj (Option.some.inj hf)
                    exact wd_iret X hP hS hr0 dX11_offer_69 ⟨rfl, rfl⟩
          · have hf := itF hf c_5
            refine lv_bipush (v := -2) hx hb dX11_offer_44 (by decide) ?_
            obtain ⟨rfl, rfl⟩ := Prod.mk.inj (Option.some.inj hf)
            exact wd_iret X hP hS hr0 dX11_offer_46 ⟨rfl, rfl⟩
  · have hf := itT hf c_1
    refine lv_aload_n hx hb dX11_offer_5 rfl (lv_at hl 0 rfl) ?_
    refine wd_getR (q := 26) X hP L0 fl_X11_35 rfl dX11_offer_6 ?_
    refine lv_iconst (v := 0) hx hb dX11_offer_9 (by decide) ?_
    refine wd_putI X hP hS (isState.a0 S26) fp_X11_332 rfl dX11_offer_10 (fun H locs mm_12 emm_12 hP hS => ?_)
    have hf := vl hf emm_12
    refine lv_iconst (v := 0) hx hb dX11_offer_13 (by decide) ?_
    obtain ⟨rfl, rfl⟩ := Prod.mk.inj (Option.some.inj hf)
    exact wd_iret X hP hS hr0 dX11_offer_14 ⟨rfl, rfl⟩

noncomputable def f_X11_take (mm : Mm) (x1 : Int32) (x2 : Int32) : Option (Int32 × Mm) :=
  bi1 (f_X11_isAfloat mm x1) fun r_2 =>
    if r_2 = 0 then
      some ((-1 : Int32), mm)
    else
      if x2 < 0 then
        some ((-1 : Int32), mm)
      else
        if x2 ≤ (1 : Int32) then
          bi1 (f_X3_findTake mm x1) fun mm_6 =>
            if x2 = (1 : Int32) then
              some ((mm_6.1 232 9), mm_6)
            else
              if (mm_6.1 232 8) = (-1 : Int32) then
                some ((-2 : Int32), mm_6)
              else
                some ((mm_6.1 232 8), mm_6)
        else
          some ((-1 : Int32), mm)
set_option maxHeartbeats 4000000 in
set_option maxRecDepth 100000 in
theorem c_X11_take (l : Launch) (D : va_G) (dA : Nat → ClassId) (zz : (Nat → Nat) × (Nat → Nat)) (bs : Nat) (mm : Mm) (x1 : Int32) (x2 : Int32) (out : Int32) (m1 : Mm) (hf : f_X11_take mm x1 x2 = some (out, m1)) : Mw l D dA zz bs LY yX11_take cX11_take 3 (some .int) 5 116 [.ref (bs + 0), .int x1, .int x2] mm (some (.int out)) m1 := by
  refine Mw.of (own := RX11) (by decide) rfl (Nat.le_of_ble_eq_true rfl) ?_
  intro p e s m args below meth c X hr0 hP hS ls hl
  have hx := X.1
  have hb := X.2.1
  obtain ⟨H, hH⟩ : ∃ z : Heap, z = s.heap := ⟨_, rfl⟩
  obtain ⟨locs, hL⟩ : ∃ z : List Loc, z = [] := ⟨_, rfl⟩
  rw [← hH, ← hL]
  have hS : va_S (Aq bs) s.heap H locs := by rw [hH, hL]; exact hS
  have hP : Wd D dA bs LY mm H := by rw [hH]; exact hP
  have hl : lv_has ls 3 [(0, .ref (bs + 0)), (1, .int x1), (2, .int x2)] := hl
  unfold f_X11_take at hf
  refine lv_aload_n hx hb dX11_take_0 rfl (lv_at hl 0 rfl) ?_
  refine lv_iload_n hx hb dX11_take_1 rfl (lv_at hl 1 rfl) ?_
  obtain ⟨r_2, hc_1, hf⟩ := bi1S hf
  refine wd_cv X hP hS L0 ml_X11_209 ⟨_, _, rfl⟩ (c_X11_isAfloat l D dA zz bs mm x1 r_2 hc_1) rfl ⟨Nat.le_of_ble_eq_true rfl, Nat.le_of_ble_eq_true rfl⟩ hl.1 rfl (rest := []) (Nat.le_of_ble_eq_true rfl) ⟨Nat.zero_le _, Nat.zero_le _⟩ dX11_take_2 (fun H locs hP hS => ?_)
  refine W.eq (g2 := F0 m 5 ls [.int r_2]) rfl ?_
  refine lv_if_eq (tgt := 17) hx hb dX11_take_5 (by decide) (fun c_3 => ?_) (fun c_3 => ?_)
  · have hf := itT hf c_3
    refine lv_iconst (v := -1) hx hb dX11_take_17 (by decide) ?_
    obtain ⟨rfl, rfl⟩ := Prod.mk.inj (Option.some.inj hf)
    exact wd_iret X hP hS hr0 dX11_take_18 ⟨rfl, rfl⟩
  · have hf := itF hf c_3
    refine lv_iload_n hx hb dX11_take_8 rfl (lv_at hl 2 rfl) ?_
    refine lv_if_lt (tgt := 17) hx hb dX11_take_9 (by decide) (fun c_4 => ?_) (fun c_4 => ?_)
    · have hf := itT hf c_4
      refine lv_iconst (v := -1) hx hb dX11_take_17 (by decide) ?_
      obtain ⟨rfl, rfl⟩ := Prod.mk.inj (Option.some.inj hf)
      exact wd_iret X hP hS hr0 dX11_take_18 ⟨rfl, rfl⟩
    · have hf := itF hf c_4
      refine lv_iload_n hx hb dX11_take_12 rfl (lv_at hl 2 rfl) ?_
      refine lv_iconst (v := 1) hx hb dX11_take_13 (by decide) ?_
      refine lv_icmp_le (tgt := 19) hx hb dX11_take_14 (by decide) (fun c_5 => ?_) (fun c_5 => ?_)
      · have hf := itT hf c_5
        refine lv_aload_n hx hb dX11_take_19 rfl (lv_at hl 0 rfl) ?_
        refine wd_getR (q := 232) X hP L0 fl_X11_65 rfl dX11_take_20 ?_
        refine lv_iload_n hx hb dX11_take_23 rfl (lv_at hl 1 rfl) ?_
        obtain ⟨mm_6, hc_7, hf⟩ := bi1S hf
        refine wd_cv X hP hS L232 ml_X11_338 ⟨_, _, rfl⟩ (c_X3_findTake l D dA zz bs mm x1 mm_6 hc_7) rfl ⟨Nat.le_of_ble_eq_true rfl, Nat.le_of_ble_eq_true rfl⟩ hl.1 rfl (rest := []) (Nat.le_of_ble_eq_true rfl) ⟨Nat.zero_le _, Nat.zero_le _⟩ dX11_take_24 (fun H locs hP hS => ?_)
        refine W.eq (g2 := F0 m 27 ls []) rfl ?_
        refine lv_iload_n hx hb dX11_take_27 rfl (lv_at hl 2 rfl) ?_
        refine lv_iconst (v := 1) hx hb dX11_take_28 (by decide) ?_
        refine lv_icmp_ne (tgt := 40) hx hb dX11_take_29 (by decide) (fun c_8 => ?_) (fun c_8 => ?_)
        · have hf := itF hf c_8
          refine lv_aload_n hx hb dX11_take_40 rfl (lv_at hl 0 rfl) ?_
          refine wd_getR (q := 232) X hP L0 fl_X11_65 rfl dX11_take_41 ?_
          refine wd_getI X hP L232 fl_X11_344 rfl dX11_take_44 ?_
          refine lv_iconst (v := -1) hx hb dX11_take_47 (by decide) ?_
          refine lv_icmp_ne (tgt := 56) hx hb dX11_take_48 (by decide) (fun c_9 => ?_) (fun c_9 => ?_)
          · have hf := itF hf c_9
            refine lv_aload_n hx hb dX11_take_56 rfl (lv_at hl 0 rfl) ?_
            refine wd_getR (q := 232) X hP L0 fl_X11_65 rfl dX11_take_57 ?_
            refine wd_getI X hP L232 fl_X11_344 rfl dX11_take_60 ?_
            obtain ⟨rfl, rfl⟩ := Prod.mk.inj (Option.some.inj hf)
            exact wd_iret X hP hS hr0 dX11_take_63 ⟨rfl, rfl⟩
          · have hf := itT hf c_9
            refine lv_bipush (v := -2) hx hb dX11_take_51 (by decide) ?_
            refine lv_goto (tgt := 63) hx hb dX11_take_53 (by decide) ?_
            obtain ⟨rfl, rfl⟩ := Prod.mk.inj (Option.some.inj hf)
            exact wd_iret X hP hS hr0 dX11_take_63 ⟨rfl, rfl⟩
        · have hf := itT hf c_8
          refine lv_aload_n hx hb dX11_take_32 rfl (lv_at hl 0 rfl) ?_
          refine wd_getR (q := 232) X hP L0 fl_X11_65 rfl dX11_take_33 ?_
          refine wd_getI X hP L232 fl_X11_341 rfl dX11_take_36 ?_
          obtain ⟨rfl, rfl⟩ := Prod.mk.inj (Option.some.inj hf)
          exact wd_iret X hP hS hr0 dX11_take_39 ⟨rfl, rfl⟩
      · have hf := itF hf c_5
        refine lv_iconst (v := -1) hx hb dX11_take_17 (by decide) ?_
        obtain ⟨rfl, rfl⟩ := Prod.mk.inj (Option.some.inj hf)
        exact wd_iret X hP hS hr0 dX11_take_18 ⟨rfl, rfl⟩

noncomputable def f_X11_game (mm : Mm) (x1 : Int32) (x2 : Int32) : Option (Int32 × Mm) :=
  bi1 (f_X11_isAfloat mm x1) fun r_2 =>
    if r_2 = 0 then
      some ((-1 : Int32), mm)
    else
      if x2 < 0 then
        some ((-1 : Int32), mm)
      else
        if x2 ≤ (1 : Int32) then
          bi2 (f_X3_winningMove mm x1) fun r_8 mm_6 =>
            if x2 = 0 then
              if r_8 = (-1 : Int32) then
                some ((0 : Int32), mm_6)
              else
                some ((1 : Int32), mm_6)
            else
              if r_8 = (-1 : Int32) then
                some ((-2 : Int32), mm_6)
              else
                some (r_8, mm_6)
        else
          some ((-1 : Int32), mm)
set_option maxHeartbeats 4000000 in
set_option maxRecDepth 100000 in
theorem c_X11_game (l : Launch) (D : va_G) (dA : Nat → ClassId) (zz : (Nat → Nat) × (Nat → Nat)) (bs : Nat) (mm : Mm) (x1 : Int32) (x2 : Int32) (out : Int32) (m1 : Mm) (hf : f_X11_game mm x1 x2 = some (out, m1)) : Mw l D dA zz bs LY yX11_game cX11_game 4 (some .int) 4 110 [.ref (bs + 0), .int x1, .int x2] mm (some (.int out)) m1 := by
  refine Mw.of (own := RX11) (by decide) rfl (Nat.le_of_ble_eq_true rfl) ?_
  intro p e s m args below meth c X hr0 hP hS ls hl
  have hx := X.1
  have hb := X.2.1
  obtain ⟨H, hH⟩ : ∃ z : Heap, z = s.heap := ⟨_, rfl⟩
  obtain ⟨locs, hL⟩ : ∃ z : List Loc, z = [] := ⟨_, rfl⟩
  rw [← hH, ← hL]
  have hS : va_S (Aq bs) s.heap H locs := by rw [hH, hL]; exact hS
  have hP : Wd D dA bs LY mm H := by rw [hH]; exact hP
  have hl : lv_has ls 4 [(0, .ref (bs + 0)), (1, .int x1), (2, .int x2)] := hl
  unfold f_X11_game at hf
  refine lv_aload_n hx hb dX11_game_0 rfl (lv_at hl 0 rfl) ?_
  refine lv_iload_n hx hb dX11_game_1 rfl (lv_at hl 1 rfl) ?_
  obtain ⟨r_2, hc_1, hf⟩ := bi1S hf
  refine wd_cv X hP hS L0 ml_X11_209 ⟨_, _, rfl⟩ (c_X11_isAfloat l D dA zz bs mm x1 r_2 hc_1) rfl ⟨Nat.le_of_ble_eq_true rfl, Nat.le_of_ble_eq_true rfl⟩ hl.1 rfl (rest := []) (Nat.le_of_ble_eq_true rfl) ⟨Nat.zero_le _, Nat.zero_le _⟩ dX11_game_2 (fun H locs hP hS => ?_)
  refine W.eq (g2 := F0 m 5 ls [.int r_2]) rfl ?_
  refine lv_if_eq (tgt := 17) hx hb dX11_game_5 (by decide) (fun c_3 => ?_) (fun c_3 => ?_)
  · have hf := itT hf c_3
    refine lv_iconst (v := -1) hx hb dX11_game_17 (by decide) ?_
    obtain ⟨rfl, rfl⟩ := Prod.mk.inj (Option.some.inj hf)
    exact wd_iret X hP hS hr0 dX11_game_18 ⟨rfl, rfl⟩
  · have hf := itF hf c_3
    refine lv_iload_n hx hb dX11_game_8 rfl (lv_at hl 2 rfl) ?_
    refine lv_if_lt (tgt := 17) hx hb dX11_game_9 (by decide) (fun c_4 => ?_) (fun c_4 => ?_)
    · have hf := itT hf c_4
      refine lv_iconst (v := -1) hx hb dX11_game_17 (by decide) ?_
      obtain ⟨rfl, rfl⟩ := Prod.mk.inj (Option.some.inj hf)
      exact wd_iret X hP hS hr0 dX11_game_18 ⟨rfl, rfl⟩
    · have hf := itF hf c_4
      refine lv_iload_n hx hb dX11_game_12 rfl (lv_at hl 2 rfl) ?_
      refine lv_iconst (v := 1) hx hb dX11_game_13 (by decide) ?_
      refine lv_icmp_le (tgt := 19) hx hb dX11_game_14 (by decide) (fun c_5 => ?_) (fun c_5 => ?_)
      · have hf := itT hf c_5
        refine lv_aload_n hx hb dX11_game_19 rfl (lv_at hl 0 rfl) ?_
        refine wd_getR (q := 232) X hP L0 fl_X11_65 rfl dX11_game_20 ?_
        refine lv_iload_n hx hb dX11_game_23 rfl (lv_at hl 1 rfl) ?_
        obtain ⟨r_8, mm_6, hc_7, hf⟩ := bi2S hf
        refine wd_cv X hP hS L232 ml_X11_347 ⟨_, _, rfl⟩ (c_X3_winningMove l D dA zz bs mm x1 r_8 mm_6 hc_7) rfl ⟨Nat.le_of_ble_eq_true rfl, Nat.le_of_ble_eq_true rfl⟩ hl.1 rfl (rest := []) (Nat.le_of_ble_eq_true rfl) ⟨Nat.zero_le _, Nat.zero_le _⟩ dX11_game_24 (fun H locs hP hS => ?_)
        refine W.eq (g2 := F0 m 27 ls [.int r_8]) rfl ?_
        refine lv_istore_n (lv' := [(3, .int r_8), (0, .ref (bs + 0)), (1, .int x1), (2, .int x2)]) hx hb dX11_game_27 rfl hl (by decide) rfl (fun ls hl => ?_)
        refine lv_iload_n hx hb dX11_game_28 rfl (lv_at hl 3 rfl) ?_
        refine lv_if_ne (tgt := 43) hx hb dX11_game_29 (by decide) (fun c_9 => ?_) (fun c_9 => ?_)
        · have hf := itF hf c_9
          refine lv_iload_n hx hb dX11_game_43 rfl (lv_at hl 0 rfl) ?_
          refine lv_iconst (v := -1) hx hb dX11_game_44 (by decide) ?_
          refine lv_icmp_ne (tgt := 53) hx hb dX11_game_45 (by decide) (fun c_10 => ?_) (fun c_10 => ?_)
          · have hf := itF hf c_10
            refine lv_iload_n hx hb dX11_game_53 rfl (lv_at hl 0 rfl) ?_
            obtain ⟨rfl, rfl⟩ := Prod.mk.inj (Option.some.inj hf)
            exact wd_iret X hP hS hr0 dX11_game_54 ⟨rfl, rfl⟩
          · have hf := itT hf c_10
            refine lv_bipush (v := -2) hx hb dX11_game_48 (by decide) ?_
            refine lv_goto (tgt := 54) hx hb dX11_game_50 (by decide) ?_
            obtain ⟨rfl, rfl⟩ := Prod.mk.inj (Option.some.inj hf)
            exact wd_iret X hP hS hr0 dX11_game_54 ⟨rfl, rfl⟩
        · have hf := itT hf c_9
          refine lv_iload_n hx hb dX11_game_32 rfl (lv_at hl 0 rfl) ?_
          refine lv_iconst (v := -1) hx hb dX11_game_33 (by decide) ?_
          refine lv_icmp_ne (tgt := 41) hx hb dX11_game_34 (by decide) (fun c_11 => ?_) (fun c_11 => ?_)
          · have hf := itF hf c_11
            refine lv_iconst (v := 1) hx hb dX11_game_41 (by decide) ?_
            obtain ⟨rfl, rfl⟩ := Prod.mk.inj (Option.some.inj hf)
            exact wd_iret X hP hS hr0 dX11_game_42 ⟨rfl, rfl⟩
          · have hf := itT hf c_11
            refine lv_iconst (v := 0) hx hb dX11_game_37 (by decide) ?_
            refine lv_goto (tgt := 42) hx hb dX11_game_38 (by decide) ?_
            obtain ⟨rfl, rfl⟩ := Prod.mk.inj (Option.some.inj hf)
            exact wd_iret X hP hS hr0 dX11_game_42 ⟨rfl, rfl⟩
      · have hf := itF hf c_5
        refine lv_iconst (v := -1) hx hb dX11_game_17 (by decide) ?_
        obtain ⟨rfl, rfl⟩ := Prod.mk.inj (Option.some.inj hf)
        exact wd_iret X hP hS hr0 dX11_game_18 ⟨rfl, rfl⟩

noncomputable def f_X11_seed (mm : Mm) (x1 : Int32) : Option (Int32 × Mm) :=
  if 0 ≤ x1 then
    vlet (wI mm 26 9 x1) fun mm_2 => some ((mm.1 26 9), mm_2)
  else
    some ((-1 : Int32), mm)
set_option maxHeartbeats 4000000 in
set_option maxRecDepth 100000 in
theorem c_X11_seed (l : Launch) (D : va_G) (dA : Nat → ClassId) (zz : (Nat → Nat) × (Nat → Nat)) (bs : Nat) (mm : Mm) (x1 : Int32) (out : Int32) (m1 : Mm) (hf : f_X11_seed mm x1 = some (out, m1)) : Mw l D dA zz bs LY yX11_seed cX11_seed 3 (some .int) 0 0 [.ref (bs + 0), .int x1] mm (some (.int out)) m1 := by
  refine Mw.of (own := RX11) (by decide) rfl (Nat.le_of_ble_eq_true rfl) ?_
  intro p e s m args below meth c X hr0 hP hS ls hl
  have hx := X.1
  have hb := X.2.1
  obtain ⟨H, hH⟩ : ∃ z : Heap, z = s.heap := ⟨_, rfl⟩
  obtain ⟨locs, hL⟩ : ∃ z : List Loc, z = [] := ⟨_, rfl⟩
  rw [← hH, ← hL]
  have hS : va_S (Aq bs) s.heap H locs := by rw [hH, hL]; exact hS
  have hP : Wd D dA bs LY mm H := by rw [hH]; exact hP
  have hl : lv_has ls 3 [(0, .ref (bs + 0)), (1, .int x1)] := hl
  unfold f_X11_seed at hf
  refine lv_iload_n hx hb dX11_seed_0 rfl (lv_at hl 1 rfl) ?_
  refine lv_if_ge (tgt := 6) hx hb dX11_seed_1 (by decide) (fun c_1 => ?_) (fun c_1 => ?_)
  · have hf := itT hf c_1
    refine lv_aload_n hx hb dX11_seed_6 rfl (lv_at hl 0 rfl) ?_
    refine wd_getR (q := 26) X hP L0 fl_X11_35 rfl dX11_seed_7 ?_
    refine wd_getI X hP (isState.a0 S26) fl_X11_350 rfl dX11_seed_10 ?_
    refine lv_istore_n (lv' := [(2, .int (mm.1 26 9)), (0, .ref (bs + 0)), (1, .int x1)]) hx hb dX11_seed_13 rfl hl (by decide) rfl (fun ls hl => ?_)
    refine lv_aload_n hx hb dX11_seed_14 rfl (lv_at hl 1 rfl) ?_
    refine wd_getR (q := 26) X hP L0 fl_X11_35 rfl dX11_seed_15 ?_
    refine lv_iload_n hx hb dX11_seed_18 rfl (lv_at hl 2 rfl) ?_
    refine wd_putI X hP hS (isState.a0 S26) fp_X11_350 rfl dX11_seed_19 (fun H locs mm_2 emm_2 hP hS => ?_)
    have hf := vl hf emm_2
    refine lv_iload_n hx hb dX11_seed_22 rfl (lv_at hl 0 rfl) ?_
    obtain ⟨rfl, rfl⟩ := Prod.mk.inj (Option.some.inj hf)
    exact wd_iret X hP hS hr0 dX11_seed_23 ⟨rfl, rfl⟩
  · have hf := itF hf c_1
    refine lv_iconst (v := -1) hx hb dX11_seed_4 (by decide) ?_
    obtain ⟨rfl, rfl⟩ := Prod.mk.inj (Option.some.inj hf)
    exact wd_iret X hP hS hr0 dX11_seed_5 ⟨rfl, rfl⟩

noncomputable def f_X11_nextDraw (x0 : Int32) : Int32 :=
  (((((x0.toInt64) * (1103515245 : Int64)) + (12345 : Int64)) - (((x0.toInt64) * (1103515245 : Int64)) + (12345 : Int64)) / (2147483648 : Int64) * (2147483648 : Int64)).toInt32)
set_option maxHeartbeats 4000000 in
set_option maxRecDepth 100000 in
theorem c_X11_nextDraw (l : Launch) (D : va_G) (dA : Nat → ClassId) (zz : (Nat → Nat) × (Nat → Nat)) (bs : Nat) (mm : Mm) (x0 : Int32) (out : Int32) (hf : f_X11_nextDraw x0 = out) : Mw l D dA zz bs LY yX11_nextDraw cX11_nextDraw 1 (some .int) 0 0 [.int x0] mm (some (.int out)) mm := by
  refine Mw.of (own := RX11) (by decide) rfl (Nat.le_of_ble_eq_true rfl) ?_
  intro p e s m args below meth c X hr0 hP hS ls hl
  have hx := X.1
  have hb := X.2.1
  obtain ⟨H, hH⟩ : ∃ z : Heap, z = s.heap := ⟨_, rfl⟩
  obtain ⟨locs, hL⟩ : ∃ z : List Loc, z = [] := ⟨_, rfl⟩
  rw [← hH, ← hL]
  have hS : va_S (Aq bs) s.heap H locs := by rw [hH, hL]; exact hS
  have hP : Wd D dA bs LY mm H := by rw [hH]; exact hP
  have hl : lv_has ls 1 [(0, .int x0)] := hl
  unfold f_X11_nextDraw at hf
  refine lv_iload_n hx hb dX11_nextDraw_0 rfl (lv_at hl 0 rfl) ?_
  refine lv_i2l hx hb dX11_nextDraw_1 rfl ?_
  refine lv_ldc2 (own := RX11) (v := 1103515245) hx hb X.2.2.2.1 (X.2.2.2.2.1 _ (tb_at 1115 (by decide +kernel) (by decide +kernel))) dX11_nextDraw_2 ?_
  refine lv_lmul hx hb dX11_nextDraw_5 ?_
  refine lv_ldc2 (own := RX11) (v := 12345) hx hb X.2.2.2.1 (X.2.2.2.2.1 _ (tb_at 1116 (by decide +kernel) (by decide +kernel))) dX11_nextDraw_6 ?_
  refine lv_ladd hx hb dX11_nextDraw_9 ?_
  refine lv_ldc2 (own := RX11) (v := 2147483648) hx hb X.2.2.2.1 (X.2.2.2.2.1 _ (tb_at 1117 (by decide +kernel) (by decide +kernel))) dX11_nextDraw_10 ?_
  refine lv_lrem hx hb dX11_nextDraw_13 (by decide) ?_
  refine lv_l2i hx hb dX11_nextDraw_14 rfl ?_
  subst hf
  exact wd_iret X hP hS hr0 dX11_nextDraw_15 ⟨rfl, rfl⟩

noncomputable def f_X11_drawn_s92 (y1 : Int32) (y2 : Int32) (y3 : Int32) (y5 : Int32) : (Int32 × Int32 × Mm) → Option ((Int32 × Int32 × Mm) ⊕ (Int32 × Mm)) :=
  fun q => match q with
  | (y4, y6, mm) =>
    if y2 ≤ y6 then
      some (.inr (y4, mm))
    else
      bi1 (f_X4_drift mm 242 27 (((f_X11_nextDraw y4) / (65536 : Int32)) - ((f_X11_nextDraw y4) / (65536 : Int32)) / (10 : Int32) * (10 : Int32))) fun mm_14 => some (.inl ((f_X11_nextDraw y4), (y6 + 1), mm_14))
noncomputable def f_X11_drawn_s69 (y1 : Int32) (y2 : Int32) (y3 : Int32) : (Int32 × Int32 × Mm) → Option ((Int32 × Int32 × Mm) ⊕ (Mm)) :=
  fun q => match q with
  | (y4, y5, mm) =>
    if y1 ≤ y5 then
      some (.inr mm)
    else
      bi1 (f_X4_copyFrom mm 242 27 33 27) fun mm_11 =>
        bi1 (lp (f_X11_drawn_s92 y1 y2 y3 y5) (y4, (0 : Int32), mm_11)) fun q => match q with
        | (w4_17, mm_18) =>
          some (.inl (w4_17, (y5 + 1), mm_18))
noncomputable def f_X11_drawn (mm : Mm) (x1 : Int32) (x2 : Int32) (x3 : Int32) : Option (Int32 × Mm) :=
  if x1 < (1 : Int32) then
    some ((-1 : Int32), mm)
  else
    if (20 : Int32) < x1 then
      some ((-1 : Int32), mm)
    else
      if x2 < (1 : Int32) then
        some ((-1 : Int32), mm)
      else
        if x2 ≤ (60 : Int32) then
          if (f_X4_milesLeft mm 33 27) < x2 then
            some ((-1 : Int32), mm)
          else
            if x3 < 0 then
              some ((-1 : Int32), mm)
            else
              if x3 ≤ (2 : Int32) then
                bi1 (f_J7_fill_53178 mm 251 3 (0 : Int32)) fun mm_8 =>
                  bi1 (lp (f_X11_drawn_s69 x1 x2 x3) ((mm_8.1 26 9), (0 : Int32), mm_8)) fun mm_22 =>
                    if x3 < 0 ∨ 3 ≤ x3.toNatClampNeg then none else some ((mm_22.1 251 x3.toNatClampNeg), mm_22)
              else
                some ((-1 : Int32), mm)
        else
          some ((-1 : Int32), mm)
set_option maxHeartbeats 4000000 in
set_option maxRecDepth 100000 in
theorem c_X11_drawn (l : Launch) (D : va_G) (dA : Nat → ClassId) (zz : (Nat → Nat) × (Nat → Nat)) (bs : Nat) (mm : Mm) (x1 : Int32) (x2 : Int32) (x3 : Int32) (out : Int32) (m1 : Mm) (hf : f_X11_drawn mm x1 x2 x3 = some (out, m1)) : Mw l D dA zz bs LY yX11_drawn cX11_drawn 7 (some .int) 6 156 [.ref (bs + 0), .int x1, .int x2, .int x3] mm (some (.int out)) m1 := by
  refine Mw.of (own := RX11) (by decide) rfl (Nat.le_of_ble_eq_true rfl) ?_
  intro p e s m args below meth c X hr0 hP hS ls hl
  have hx := X.1
  have hb := X.2.1
  obtain ⟨H, hH⟩ : ∃ z : Heap, z = s.heap := ⟨_, rfl⟩
  obtain ⟨locs, hL⟩ : ∃ z : List Loc, z = [] := ⟨_, rfl⟩
  rw [← hH, ← hL]
  have hS : va_S (Aq bs) s.heap H locs := by rw [hH, hL]; exact hS
  have hP : Wd D dA bs LY mm H := by rw [hH]; exact hP
  have hl : lv_has ls 7 [(0, .ref (bs + 0)), (1, .int x1), (2, .int x2), (3, .int x3)] := hl
  unfold f_X11_drawn at hf
  refine lv_iload_n hx hb dX11_drawn_0 rfl (lv_at hl 1 rfl) ?_
  refine lv_iconst (v := 1) hx hb dX11_drawn_1 (by decide) ?_
  refine lv_icmp_lt (tgt := 22) hx hb dX11_drawn_2 (by decide) (fun c_1 => ?_) (fun c_1 => ?_)
  · have hf := itT hf c_1
    refine lv_iconst (v := -1) hx hb dX11_drawn_22 (by decide) ?_
    obtain ⟨rfl, rfl⟩ := Prod.mk.inj (Option.some.inj hf)
    exact wd_iret X hP hS hr0 dX11_drawn_23 ⟨rfl, rfl⟩
  · have hf := itF hf c_1
    refine lv_iload_n hx hb dX11_drawn_5 rfl (lv_at hl 1 rfl) ?_
    refine lv_bipush (v := 20) hx hb dX11_drawn_6 (by decide) ?_
    refine lv_icmp_gt (tgt := 22) hx hb dX11_drawn_8 (by decide) (fun c_2 => ?_) (fun c_2 => ?_)
    · have hf := itT hf c_2
      refine lv_iconst (v := -1) hx hb dX11_drawn_22 (by decide) ?_
      obtain ⟨rfl, rfl⟩ := Prod.mk.inj (Option.some.inj hf)
      exact wd_iret X hP hS hr0 dX11_drawn_23 ⟨rfl, rfl⟩
    · have hf := itF hf c_2
      refine lv_iload_n hx hb dX11_drawn_11 rfl (lv_at hl 2 rfl) ?_
      refine lv_iconst (v := 1) hx hb dX11_drawn_12 (by decide) ?_
      refine lv_icmp_lt (tgt := 22) hx hb dX11_drawn_13 (by decide) (fun c_3 => ?_) (fun c_3 => ?_)
      · have hf := itT hf c_3
        refine lv_iconst (v := -1) hx hb dX11_drawn_22 (by decide) ?_
        obtain ⟨rfl, rfl⟩ := Prod.mk.inj (Option.some.inj hf)
        exact wd_iret X hP hS hr0 dX11_drawn_23 ⟨rfl, rfl⟩
      · have hf := itF hf c_3
        refine lv_iload_n hx hb dX11_drawn_16 rfl (lv_at hl 2 rfl) ?_
        refine lv_bipush (v := 60) hx hb dX11_drawn_17 (by decide) ?_
        refine lv_icmp_le (tgt := 24) hx hb dX11_drawn_19 (by decide) (fun c_4 => ?_) (fun c_4 => ?_)
        · have hf := itT hf c_4
          refine lv_iload_n hx hb dX11_drawn_24 rfl (lv_at hl 2 rfl) ?_
          refine lv_aload_n hx hb dX11_drawn_25 rfl (lv_at hl 0 rfl) ?_
          refine wd_getR (q := 26) X hP L0 fl_X11_35 rfl dX11_drawn_26 ?_
          refine wd_getR (q := 33) X hP (isState.a0 S26) fl_X11_71 rfl dX11_drawn_29 ?_
          refine wd_cv X hP hS (isRaft.a0 R33) ml_X11_217 ⟨_, _, rfl⟩ (c_X4_milesLeft l D dA zz bs mm 33 27 R33 (f_X4_milesLeft mm 33 27) rfl) rfl ⟨Nat.le_of_ble_eq_true rfl, Nat.le_of_ble_eq_true rfl⟩ hl.1 rfl (rest := [.int x2]) (Nat.le_of_ble_eq_true rfl) ⟨Nat.zero_le _, Nat.zero_le _⟩ dX11_drawn_32 (fun H locs hP hS => ?_)
          refine W.eq (g2 := F0 m 35 ls [.int (f_X4_milesLeft mm 33 27), .int x2]) rfl ?_
          refine lv_icmp_gt (tgt := 47) hx hb dX11_drawn_35 (by decide) (fun c_5 => ?_) (fun c_5 => ?_)
          · have hf := itT hf c_5
            refine lv_iconst (v := -1) hx hb dX11_drawn_47 (by decide) ?_
            obtain ⟨rfl, rfl⟩ := Prod.mk.inj (Option.some.inj hf)
            exact wd_iret X hP hS hr0 dX11_drawn_48 ⟨rfl, rfl⟩
          · have hf := itF hf c_5
            refine lv_iload_n hx hb dX11_drawn_38 rfl (lv_at hl 3 rfl) ?_
            refine lv_if_lt (tgt := 47) hx hb dX11_drawn_39 (by decide) (fun c_6 => ?_) (fun c_6 => ?_)
            · have hf := itT hf c_6
              refine lv_iconst (v := -1) hx hb dX11_drawn_47 (by decide) ?_
              obtain ⟨rfl, rfl⟩ := Prod.mk.inj (Option.some.inj hf)
              exact wd_iret X hP hS hr0 dX11_drawn_48 ⟨rfl, rfl⟩
            · have hf := itF hf c_6
              refine lv_iload_n hx hb dX11_drawn_42 rfl (lv_at hl 3 rfl) ?_
              refine lv_iconst (v := 2) hx hb dX11_drawn_43 (by decide) ?_
              refine lv_icmp_le (tgt := 49) hx hb dX11_drawn_44 (by decide) (fun c_7 => ?_) (fun c_7 => ?_)
              · have hf := itT hf c_7
                refine lv_aload_n hx hb dX11_drawn_49 rfl (lv_at hl 0 rfl) ?_
                refine wd_getR (q := 251) X hP L0 fl_X11_101 rfl dX11_drawn_50 ?_
                refine lv_iconst (v := 0) hx hb dX11_drawn_53 (by decide) ?_
                obtain ⟨mm_8, hc_9, hf⟩ := bi1S hf
                refine wd_cs X hP hS ml_X11_224 (c_J7_fill_53178 l D dA zz bs mm 251 3 L251 (0 : Int32) mm_8 hc_9) rfl ⟨Nat.le_of_ble_eq_true rfl, Nat.le_of_ble_eq_true rfl⟩ hl.1 rfl (rest := []) (Nat.le_of_ble_eq_true rfl) ⟨Nat.zero_le _, Nat.zero_le _⟩ dX11_drawn_54 (fun H locs hP hS => ?_)
                refine W.eq (g2 := F0 m 57 ls []) rfl ?_
                refine lv_aload_n hx hb dX11_drawn_57 rfl (lv_at hl 0 rfl) ?_
                refine wd_getR (q := 26) X hP L0 fl_X11_35 rfl dX11_drawn_58 ?_
                refine wd_getI X hP (isState.a0 S26) fl_X11_350 rfl dX11_drawn_61 ?_
                refine lv_istore (lv' := [(4, .int (mm_8.1 26 9)), (0, .ref (bs + 0)), (1, .int x1), (2, .int x2), (3, .int x3)]) hx hb dX11_drawn_64 hl (by decide) rfl (fun ls hl => ?_)
                refine lv_iconst (v := 0) hx hb dX11_drawn_66 (by decide) ?_
                refine lv_istore (lv' := [(5, .int (0 : Int32)), (4, .int (mm_8.1 26 9)), (0, .ref (bs + 0)), (1, .int x1), (2, .int x2), (3, .int x3)]) hx hb dX11_drawn_67 hl (by decide) rfl (fun ls hl => ?_)
                obtain ⟨q_24, hlp_25, hf⟩ := bi1S hf
                refine lp_walk (Wh := (fun z => match z with | (y4L_21, y5L_21, mmL_21) => ∀ (H : Heap) (locs : List Loc) (ls : Array Slot), Wd D dA bs LY mmL_21 H → va_S (Aq bs) s.heap H locs → lv_has ls 7 [(0, .ref (bs + 0)), (1, .int x1), (2, .int x2), (3, .int x3), (4, .int y4L_21), (5, .int y5L_21)] → Wz p l e s m args below meth c D dA bs (some (.int out)) m1 6 156 H locs 69 ls [])) (Ph := (fun mm_22 => ∀ (H : Heap) (locs : List Loc) (ls : Array Slot), Wd D dA bs LY mm_22 H → va_S (Aq bs) s.heap H locs → lv_has ls 7 [(0, .ref (bs + 0)), (3, .int x3)] → Wz p l e s m args below meth c D dA bs (some (.int out)) m1 6 156 H locs 141 ls [])) ?_ hlp_25 ?_ H locs ls hP hS (lv_sub hl [2, 3, 4, 5, 1, 0] rfl)
                · intro z o hf hB hE
                  obtain ⟨y4L_21, y5L_21, mmL_21⟩ := z
                  intro H locs ls hP hS hl
                  have hf : f_X11_drawn_s69 x1 x2 x3 (y4L_21, y5L_21, mmL_21) = some o := hf
                  unfold f_X11_drawn_s69 at hf
                  dsimp only at hf
                  refine lv_iload hx hb dX11_drawn_69 (lv_at hl 5 rfl) ?_
                  refine lv_iload_n hx hb dX11_drawn_71 rfl (lv_at hl 1 rfl) ?_
                  refine lv_icmp_ge (tgt := 141) hx hb dX11_drawn_72 (by decide) (fun c_10 => ?_) (fun c_10 => ?_)
                  · have hf := itT hf c_10
                    obtain rfl := Option.some.inj hf
                    exact hE _ rfl H locs ls hP hS (lv_sub hl [0, 3] rfl)
                  · have hf := itF hf c_10
                    refine lv_aload_n hx hb dX11_drawn_75 rfl (lv_at hl 0 rfl) ?_
                    refine wd_getR (q := 242) X hP L0 fl_X11_98 rfl dX11_drawn_76 ?_
                    refine lv_aload_n hx hb dX11_drawn_79 rfl (lv_at hl 0 rfl) ?_
                    refine wd_getR (q := 26) X hP L0 fl_X11_35 rfl dX11_drawn_80 ?_
                    refine wd_getR (q := 33) X hP (isState.a0 S26) fl_X11_71 rfl dX11_drawn_83 ?_
                    obtain ⟨mm_11, hc_12, hf⟩ := bi1S hf
                    refine wd_cv X hP hS (isRaft.a0 R242) ml_X11_353 ⟨_, _, rfl⟩ (c_X4_copyFrom l D dA zz bs mmL_21 242 27 33 27 R242 R33 mm_11 hc_12) rfl ⟨Nat.le_of_ble_eq_true rfl, Nat.le_of_ble_eq_true rfl⟩ hl.1 rfl (rest := []) (Nat.le_of_ble_eq_true rfl) ⟨Nat.zero_le _, Nat.zero_le _⟩ dX11_drawn_86 (fun H locs hP hS => ?_)
                    refine W.eq (g2 := F0 m 89 ls []) rfl ?_
                    refine lv_iconst (v := 0) hx hb dX11_drawn_89 (by decide) ?_
                    refine lv_istore (lv' := [(6, .int (0 : Int32)), (0, .ref (bs + 0)), (1, .int x1), (2, .int x2), (3, .int x3), (4, .int y4L_21), (5, .int y5L_21)]) hx hb dX11_drawn_90 hl (by decide) rfl (fun ls hl => ?_)
                    obtain ⟨q_19, hlp_20, hf⟩ := bi1S hf
                    refine lp_walk (Wh := (fun z => match z with | (y4L_16, y6L_16, mmL_16) => ∀ (H : Heap) (locs : List Loc) (ls : Array Slot), Wd D dA bs LY mmL_16 H → va_S (Aq bs) s.heap H locs → lv_has ls 7 [(0, .ref (bs + 0)), (1, .int x1), (2, .int x2), (3, .int x3), (4, .int y4L_16), (5, .int y5L_21), (6, .int y6L_16)] → Wz p l e s m args below meth c D dA bs (some (.int out)) m1 6 156 H locs 92 ls [])) (Ph := (fun z => match z with | (w4_17, mm_18) => ∀ (H : Heap) (locs : List Loc) (ls : Array Slot), Wd D dA bs LY mm_18 H → va_S (Aq bs) s.heap H locs → lv_has ls 7 [(0, .ref (bs + 0)), (1, .int x1), (2, .int x2), (3, .int x3), (4, .int w4_17), (5, .int y5L_21)] → Wz p l e s m args below meth c D dA bs (some (.int out)) m1 6 156 H locs 135 ls [])) ?_ hlp_20 ?_ H locs ls hP hS (lv_sub hl [1, 2, 3, 4, 5, 6, 0] rfl)
                    · intro z o hf hB hE
                      obtain ⟨y4L_16, y6L_16, mmL_16⟩ := z
                      intro H locs ls hP hS hl
                      have hf : f_X11_drawn_s92 x1 x2 x3 y5L_21 (y4L_16, y6L_16, mmL_16) = some o := hf
                      unfold f_X11_drawn_s92 at hf
                      dsimp only at hf
                      refine lv_iload hx hb dX11_drawn_92 (lv_at hl 6 rfl) ?_
                      refine lv_iload_n hx hb dX11_drawn_94 rfl (lv_at hl 2 rfl) ?_
                      refine lv_icmp_ge (tgt := 135) hx hb dX11_drawn_95 (by decide) (fun c_13 => ?_) (fun c_13 => ?_)
                      · have hf := itT hf c_13
                        obtain rfl := Option.some.inj hf
                        exact hE _ rfl H locs ls hP hS (lv_sub hl [0, 1, 2, 3, 4, 5] rfl)
                      · have hf := itF hf c_13
                        refine lv_iload hx hb dX11_drawn_98 (lv_at hl 4 rfl) ?_
                        refine wd_cs X hP hS ml_X11_355 (c_X11_nextDraw l D dA zz bs mmL_16 y4L_16 (f_X11_nextDraw y4L_16) rfl) rfl ⟨Nat.le_of_ble_eq_true rfl, Nat.le_of_ble_eq_true rfl⟩ hl.1 rfl (rest := []) (Nat.le_of_ble_eq_true rfl) ⟨Nat.zero_le _, Nat.zero_le _⟩ dX11_drawn_100 (fun H locs hP hS => ?_)
                        refine W.eq (g2 := F0 m 103 ls [.int (f_X11_nextDraw y4L_16)]) rfl ?_
                        refine lv_istore (lv' := [(4, .int (f_X11_nextDraw y4L_16)), (0, .ref (bs + 0)), (1, .int x1), (2, .int x2), (3, .int x3), (5, .int y5L_21), (6, .int y6L_16)]) hx hb dX11_drawn_103 hl (by decide) rfl (fun ls hl => ?_)
                        refine lv_aload_n hx hb dX11_drawn_105 rfl (lv_at hl 1 rfl) ?_
                        refine wd_getR (q := 242) X hP L0 fl_X11_98 rfl dX11_drawn_106 ?_
                        refine lv_iload hx hb dX11_drawn_109 (lv_at hl 0 rfl) ?_
                        refine lv_ldcw (own := RX11) (v := 65536) hx hb X.2.2.2.1 (X.2.2.2.2.1 _ (tb_at 1118 (by decide +kernel) (by decide +kernel))) dX11_drawn_111 ?_
                        refine lv_idiv hx hb dX11_drawn_114 (by decide) ?_
                        refine lv_bipush (v := 10) hx hb dX11_drawn_115 (by decide) ?_
                        refine lv_irem hx hb dX11_drawn_117 (by decide) ?_
                        refine lv_aload_n hx hb dX11_drawn_118 rfl (lv_at hl 1 rfl) ?_
                        refine wd_getR (q := 229) X hP L0 fl_X11_56 rfl dX11_drawn_119 ?_
                        refine lv_aload_n hx hb dX11_drawn_122 rfl (lv_at hl 1 rfl) ?_
                        refine wd_getR (q := 251) X hP L0 fl_X11_101 rfl dX11_drawn_123 ?_
                        obtain ⟨mm_14, hc_15, hf⟩ := bi1S hf
                        refine wd_cv X hP hS (isRaft.a0 R242) ml_X11_230 ⟨_, _, rfl⟩ (c_X4_drift l D dA zz bs mmL_16 242 27 R242 (((f_X11_nextDraw y4L_16) / (65536 : Int32)) - ((f_X11_nextDraw y4L_16) / (65536 : Int32)) / (10 : Int32) * (10 : Int32)) mm_14 hc_15) rfl ⟨Nat.le_of_ble_eq_true rfl, Nat.le_of_ble_eq_true rfl⟩ hl.1 rfl (rest := []) (Nat.le_of_ble_eq_true rfl) ⟨Nat.zero_le _, Nat.zero_le _⟩ dX11_drawn_126 (fun H locs hP hS => ?_)
                        refine W.eq (g2 := F0 m 129 ls []) rfl ?_
                        refine lv_iinc (v := (y6L_16 + 1)) (lv' := [(6, .int (y6L_16 + 1)), (4, .int (f_X11_nextDraw y4L_16)), (0, .ref (bs + 0)), (1, .int x1), (2, .int x2), (3, .int x3), (5, .int y5L_21)]) hx hb dX11_drawn_129 hl (k := 6) rfl rfl (by decide) rfl (fun ls hl => ?_)
                        refine lv_goto (tgt := 92) hx hb dX11_drawn_132 (by decide) ?_
                        obtain rfl := Option.some.inj hf
                        exact hB _ rfl H locs ls hP hS (lv_sub hl [2, 3, 4, 5, 1, 6, 0] rfl)
                    · obtain ⟨w4_17, mm_18⟩ := q_19
                      dsimp only at hf
                      intro H locs ls hP hS hl
                      refine lv_iinc (v := (y5L_21 + 1)) (lv' := [(5, .int (y5L_21 + 1)), (0, .ref (bs + 0)), (1, .int x1), (2, .int x2), (3, .int x3), (4, .int w4_17)]) hx hb dX11_drawn_135 hl (k := 5) rfl rfl (by decide) rfl (fun ls hl => ?_)
                      refine lv_goto (tgt := 69) hx hb dX11_drawn_138 (by decide) ?_
                      obtain rfl := Option.some.inj hf
                      exact hB _ rfl H locs ls hP hS (lv_sub hl [1, 2, 3, 4, 5, 0] rfl)
                · obtain ⟨mm_22, e_mm_22⟩ : ∃ z, z = q_24 := ⟨_, rfl⟩
                  subst e_mm_22
                  intro H locs ls hP hS hl
                  refine lv_aload_n hx hb dX11_drawn_141 rfl (lv_at hl 0 rfl) ?_
                  refine wd_getR (q := 251) X hP L0 fl_X11_101 rfl dX11_drawn_142 ?_
                  refine lv_iload_n hx hb dX11_drawn_145 rfl (lv_at hl 1 rfl) ?_
                  have g_23 := gdN hf
                  have hf := gdK hf
                  refine wd_iald X hP L251 g_23 dX11_drawn_146 ?_
                  obtain ⟨rfl, rfl⟩ := Prod.mk.inj (Option.some.inj hf)
                  exact wd_iret X hP hS hr0 dX11_drawn_147 ⟨rfl, rfl⟩
              · have hf := itF hf c_7
                refine lv_iconst (v := -1) hx hb dX11_drawn_47 (by decide) ?_
                obtain ⟨rfl, rfl⟩ := Prod.mk.inj (Option.some.inj hf)
                exact wd_iret X hP hS hr0 dX11_drawn_48 ⟨rfl, rfl⟩
        · have hf := itF hf c_4
          refine lv_iconst (v := -1) hx hb dX11_drawn_22 (by decide) ?_
          obtain ⟨rfl, rfl⟩ := Prod.mk.inj (Option.some.inj hf)
          exact wd_iret X hP hS hr0 dX11_drawn_23 ⟨rfl, rfl⟩

noncomputable def f_X11_count (mm : Mm) (x1 : Int32) : Option (Int32 × Mm) :=
  if x1 = 0 then
    some ((mm.1 27 0), mm)
  else if x1 = 1 then
    some ((mm.1 33 2), mm)
  else if x1 = 2 then
    some ((mm.1 27 1), mm)
  else if x1 = 3 then
    some ((mm.1 27 2), mm)
  else if x1 = 4 then
    some ((mm.1 33 3), mm)
  else if x1 = 5 then
    some ((mm.1 27 3), mm)
  else if x1 = 6 then
    some ((mm.1 0 7), mm)
  else if x1 = 7 then
    some ((mm.1 33 1), mm)
  else if x1 = 8 then
    bi1 (f_X2_join mm 33 27 (0 : Int32)) fun mm_10 => bi1 (f_X2_howMany mm_10) fun r_13 => some (r_13, mm_10)
  else if x1 = 9 then
    bi1 (f_X4_thingsAt mm 33 27 (0 : Int32)) fun r_16 => some (r_16, mm)
  else if x1 = 10 then
    some ((mm.1 26 5), mm)
  else if x1 = 11 then
    some ((mm.1 26 4), mm)
  else if x1 = 12 then
    some ((mm.1 26 9), mm)
  else if x1 = 13 then
    some ((mm.1 1 1), mm)
  else
    some ((-1 : Int32), mm)
set_option maxHeartbeats 4000000 in
set_option maxRecDepth 100000 in
theorem c_X11_count (l : Launch) (D : va_G) (dA : Nat → ClassId) (zz : (Nat → Nat) × (Nat → Nat)) (bs : Nat) (mm : Mm) (x1 : Int32) (out : Int32) (m1 : Mm) (hf : f_X11_count mm x1 = some (out, m1)) : Mw l D dA zz bs LY yX11_count cX11_count 2 (some .int) 3 68 [.ref (bs + 0), .int x1] mm (some (.int out)) m1 := by
  refine Mw.of (own := RX11) (by decide) rfl (Nat.le_of_ble_eq_true rfl) ?_
  intro p e s m args below meth c X hr0 hP hS ls hl
  have hx := X.1
  have hb := X.2.1
  obtain ⟨H, hH⟩ : ∃ z : Heap, z = s.heap := ⟨_, rfl⟩
  obtain ⟨locs, hL⟩ : ∃ z : List Loc, z = [] := ⟨_, rfl⟩
  rw [← hH, ← hL]
  have hS : va_S (Aq bs) s.heap H locs := by rw [hH, hL]; exact hS
  have hP : Wd D dA bs LY mm H := by rw [hH]; exact hP
  have hl : lv_has ls 2 [(0, .ref (bs + 0)), (1, .int x1)] := hl
  unfold f_X11_count at hf
  refine lv_iload_n hx hb dX11_count_0 rfl (lv_at hl 1 rfl) ?_
  by_cases c_1 : x1 = 0
  · have hf := itT hf c_1
    refine lv_tableIn (tgt := 72) (off := 71) hx hb dX11_count_1 (by rw [c_1]; decide) (by rw [c_1]; decide) (by rw [c_1]; decide) (by decide) ?_
    refine lv_aload_n hx hb dX11_count_72 rfl (lv_at hl 0 rfl) ?_
    refine wd_getR (q := 26) X hP L0 fl_X11_35 rfl dX11_count_73 ?_
    refine wd_getR (q := 27) X hP (isState.a0 S26) fl_X11_91 rfl dX11_count_76 ?_
    refine wd_getI X hP (isRiver.a0 V27) fl_X11_203 rfl dX11_count_79 ?_
    obtain ⟨rfl, rfl⟩ := Prod.mk.inj (Option.some.inj hf)
    exact wd_iret X hP hS hr0 dX11_count_82 ⟨rfl, rfl⟩
  · have hf := itF hf c_1
    by_cases c_2 : x1 = 1
    · have hf := itT hf c_2
      refine lv_tableIn (tgt := 83) (off := 82) hx hb dX11_count_1 (by rw [c_2]; decide) (by rw [c_2]; decide) (by rw [c_2]; decide) (by decide) ?_
      refine lv_aload_n hx hb dX11_count_83 rfl (lv_at hl 0 rfl) ?_
      refine wd_getR (q := 26) X hP L0 fl_X11_35 rfl dX11_count_84 ?_
      refine wd_getR (q := 33) X hP (isState.a0 S26) fl_X11_71 rfl dX11_count_87 ?_
      refine wd_getI X hP (isRaft.a0 R33) fl_X11_251 rfl dX11_count_90 ?_
      obtain ⟨rfl, rfl⟩ := Prod.mk.inj (Option.some.inj hf)
      exact wd_iret X hP hS hr0 dX11_count_93 ⟨rfl, rfl⟩
    · have hf := itF hf c_2
      by_cases c_3 : x1 = 2
      · have hf := itT hf c_3
        refine lv_tableIn (tgt := 94) (off := 93) hx hb dX11_count_1 (by rw [c_3]; decide) (by rw [c_3]; decide) (by rw [c_3]; decide) (by decide) ?_
        refine lv_aload_n hx hb dX11_count_94 rfl (lv_at hl 0 rfl) ?_
        refine wd_getR (q := 26) X hP L0 fl_X11_35 rfl dX11_count_95 ?_
        refine wd_getR (q := 27) X hP (isState.a0 S26) fl_X11_91 rfl dX11_count_98 ?_
        refine wd_getI X hP (isRiver.a0 V27) fl_X11_144 rfl dX11_count_101 ?_
        obtain ⟨rfl, rfl⟩ := Prod.mk.inj (Option.some.inj hf)
        exact wd_iret X hP hS hr0 dX11_count_104 ⟨rfl, rfl⟩
      · have hf := itF hf c_3
        by_cases c_4 : x1 = 3
        · have hf := itT hf c_4
          refine lv_tableIn (tgt := 105) (off := 104) hx hb dX11_count_1 (by rw [c_4]; decide) (by rw [c_4]; decide) (by rw [c_4]; decide) (by decide) ?_
          refine lv_aload_n hx hb dX11_count_105 rfl (lv_at hl 0 rfl) ?_
          refine wd_getR (q := 26) X hP L0 fl_X11_35 rfl dX11_count_106 ?_
          refine wd_getR (q := 27) X hP (isState.a0 S26) fl_X11_91 rfl dX11_count_109 ?_
          refine wd_getI X hP (isRiver.a0 V27) fl_X11_127 rfl dX11_count_112 ?_
          obtain ⟨rfl, rfl⟩ := Prod.mk.inj (Option.some.inj hf)
          exact wd_iret X hP hS hr0 dX11_count_115 ⟨rfl, rfl⟩
        · have hf := itF hf c_4
          by_cases c_5 : x1 = 4
          · have hf := itT hf c_5
            refine lv_tableIn (tgt := 116) (off := 115) hx hb dX11_count_1 (by rw [c_5]; decide) (by rw [c_5]; decide) (by rw [c_5]; decide) (by decide) ?_
            refine lv_aload_n hx hb dX11_count_116 rfl (lv_at hl 0 rfl) ?_
            refine wd_getR (q := 26) X hP L0 fl_X11_35 rfl dX11_count_117 ?_
            refine wd_getR (q := 33) X hP (isState.a0 S26) fl_X11_71 rfl dX11_count_120 ?_
            refine wd_getI X hP (isRaft.a0 R33) fl_X11_188 rfl dX11_count_123 ?_
            obtain ⟨rfl, rfl⟩ := Prod.mk.inj (Option.some.inj hf)
            exact wd_iret X hP hS hr0 dX11_count_126 ⟨rfl, rfl⟩
          · have hf := itF hf c_5
            by_cases c_6 : x1 = 5
            · have hf := itT hf c_6
              refine lv_tableIn (tgt := 127) (off := 126) hx hb dX11_count_1 (by rw [c_6]; decide) (by rw [c_6]; decide) (by rw [c_6]; decide) (by decide) ?_
              refine lv_aload_n hx hb dX11_count_127 rfl (lv_at hl 0 rfl) ?_
              refine wd_getR (q := 26) X hP L0 fl_X11_35 rfl dX11_count_128 ?_
              refine wd_getR (q := 27) X hP (isState.a0 S26) fl_X11_91 rfl dX11_count_131 ?_
              refine wd_getI X hP (isRiver.a0 V27) fl_X11_359 rfl dX11_count_134 ?_
              obtain ⟨rfl, rfl⟩ := Prod.mk.inj (Option.some.inj hf)
              exact wd_iret X hP hS hr0 dX11_count_137 ⟨rfl, rfl⟩
            · have hf := itF hf c_6
              by_cases c_7 : x1 = 6
              · have hf := itT hf c_7
                refine lv_tableIn (tgt := 138) (off := 137) hx hb dX11_count_1 (by rw [c_7]; decide) (by rw [c_7]; decide) (by rw [c_7]; decide) (by decide) ?_
                refine lv_aload_n hx hb dX11_count_138 rfl (lv_at hl 0 rfl) ?_
                refine wd_getI X hP L0 fl_X11_132 rfl dX11_count_139 ?_
                obtain ⟨rfl, rfl⟩ := Prod.mk.inj (Option.some.inj hf)
                exact wd_iret X hP hS hr0 dX11_count_142 ⟨rfl, rfl⟩
              · have hf := itF hf c_7
                by_cases c_8 : x1 = 7
                · have hf := itT hf c_8
                  refine lv_tableIn (tgt := 143) (off := 142) hx hb dX11_count_1 (by rw [c_8]; decide) (by rw [c_8]; decide) (by rw [c_8]; decide) (by decide) ?_
                  refine lv_aload_n hx hb dX11_count_143 rfl (lv_at hl 0 rfl) ?_
                  refine wd_getR (q := 26) X hP L0 fl_X11_35 rfl dX11_count_144 ?_
                  refine wd_getR (q := 33) X hP (isState.a0 S26) fl_X11_71 rfl dX11_count_147 ?_
                  refine wd_getI X hP (isRaft.a0 R33) fl_X11_362 rfl dX11_count_150 ?_
                  obtain ⟨rfl, rfl⟩ := Prod.mk.inj (Option.some.inj hf)
                  exact wd_iret X hP hS hr0 dX11_count_153 ⟨rfl, rfl⟩
                · have hf := itF hf c_8
                  by_cases c_9 : x1 = 8
                  · have hf := itT hf c_9
                    refine lv_tableIn (tgt := 154) (off := 153) hx hb dX11_count_1 (by rw [c_9]; decide) (by rw [c_9]; decide) (by rw [c_9]; decide) (by decide) ?_
                    refine lv_aload_n hx hb dX11_count_154 rfl (lv_at hl 0 rfl) ?_
                    refine wd_getR (q := 229) X hP L0 fl_X11_56 rfl dX11_count_155 ?_
                    refine lv_aload_n hx hb dX11_count_158 rfl (lv_at hl 0 rfl) ?_
                    refine wd_getR (q := 26) X hP L0 fl_X11_35 rfl dX11_count_159 ?_
                    refine wd_getR (q := 33) X hP (isState.a0 S26) fl_X11_71 rfl dX11_count_162 ?_
                    refine lv_iconst (v := 0) hx hb dX11_count_165 (by decide) ?_
                    obtain ⟨mm_10, hc_11, hf⟩ := bi1S hf
                    refine wd_cv X hP hS L229 ml_X11_182 ⟨_, _, rfl⟩ (c_X2_join l D dA zz bs mm 33 27 R33 (0 : Int32) mm_10 hc_11) rfl ⟨Nat.le_of_ble_eq_true rfl, Nat.le_of_ble_eq_true rfl⟩ hl.1 rfl (rest := []) (Nat.le_of_ble_eq_true rfl) ⟨Nat.zero_le _, Nat.zero_le _⟩ dX11_count_166 (fun H locs hP hS => ?_)
                    refine W.eq (g2 := F0 m 169 ls []) rfl ?_
                    refine lv_aload_n hx hb dX11_count_169 rfl (lv_at hl 0 rfl) ?_
                    refine wd_getR (q := 229) X hP L0 fl_X11_56 rfl dX11_count_170 ?_
                    obtain ⟨r_13, hc_12, hf⟩ := bi1S hf
                    refine wd_cv X hP hS L229 ml_X11_365 ⟨_, _, rfl⟩ (c_X2_howMany l D dA zz bs mm_10 r_13 hc_12) rfl ⟨Nat.le_of_ble_eq_true rfl, Nat.le_of_ble_eq_true rfl⟩ hl.1 rfl (rest := []) (Nat.le_of_ble_eq_true rfl) ⟨Nat.zero_le _, Nat.zero_le _⟩ dX11_count_173 (fun H locs hP hS => ?_)
                    refine W.eq (g2 := F0 m 176 ls [.int r_13]) rfl ?_
                    obtain ⟨rfl, rfl⟩ := Prod.mk.inj (Option.some.inj hf)
                    exact wd_iret X hP hS hr0 dX11_count_176 ⟨rfl, rfl⟩
                  · have hf := itF hf c_9
                    by_cases c_14 : x1 = 9
                    · have hf := itT hf c_14
                      refine lv_tableIn (tgt := 177) (off := 176) hx hb dX11_count_1 (by rw [c_14]; decide) (by rw [c_14]; decide) (by rw [c_14]; decide) (by decide) ?_
                      refine lv_aload_n hx hb dX11_count_177 rfl (lv_at hl 0 rfl) ?_
                      refine wd_getR (q := 26) X hP L0 fl_X11_35 rfl dX11_count_178 ?_
                      refine wd_getR (q := 33) X hP (isState.a0 S26) fl_X11_71 rfl dX11_count_181 ?_
                      refine lv_iconst (v := 0) hx hb dX11_count_184 (by decide) ?_
                      obtain ⟨r_16, hc_15, hf⟩ := bi1S hf
                      refine wd_cv X hP hS (isRaft.a0 R33) ml_X11_278 ⟨_, _, rfl⟩ (c_X4_thingsAt l D dA zz bs mm 33 27 R33 (0 : Int32) r_16 hc_15) rfl ⟨Nat.le_of_ble_eq_true rfl, Nat.le_of_ble_eq_true rfl⟩ hl.1 rfl (rest := []) (Nat.le_of_ble_eq_true rfl) ⟨Nat.zero_le _, Nat.zero_le _⟩ dX11_count_185 (fun H locs hP hS => ?_)
                      refine W.eq (g2 := F0 m 188 ls [.int r_16]) rfl ?_
                      obtain ⟨rfl, rfl⟩ := Prod.mk.inj (Option.some.inj hf)
                      exact wd_iret X hP hS hr0 dX11_count_188 ⟨rfl, rfl⟩
                    · have hf := itF hf c_14
                      by_cases c_17 : x1 = 10
                      · have hf := itT hf c_17
                        refine lv_tableIn (tgt := 189) (off := 188) hx hb dX11_count_1 (by rw [c_17]; decide) (by rw [c_17]; decide) (by rw [c_17]; decide) (by decide) ?_
                        refine lv_aload_n hx hb dX11_count_189 rfl (lv_at hl 0 rfl) ?_
                        refine wd_getR (q := 26) X hP L0 fl_X11_35 rfl dX11_count_190 ?_
                        refine wd_getI X hP (isState.a0 S26) fl_X11_332 rfl dX11_count_193 ?_
                        obtain ⟨rfl, rfl⟩ := Prod.mk.inj (Option.some.inj hf)
                        exact wd_iret X hP hS hr0 dX11_count_196 ⟨rfl, rfl⟩
                      · have hf := itF hf c_17
                        by_cases c_18 : x1 = 11
                        · have hf := itT hf c_18
                          refine lv_tableIn (tgt := 197) (off := 196) hx hb dX11_count_1 (by rw [c_18]; decide) (by rw [c_18]; decide) (by rw [c_18]; decide) (by decide) ?_
                          refine lv_aload_n hx hb dX11_count_197 rfl (lv_at hl 0 rfl) ?_
                          refine wd_getR (q := 26) X hP L0 fl_X11_35 rfl dX11_count_198 ?_
                          refine wd_getI X hP (isState.a0 S26) fl_X11_265 rfl dX11_count_201 ?_
                          obtain ⟨rfl, rfl⟩ := Prod.mk.inj (Option.some.inj hf)
                          exact wd_iret X hP hS hr0 dX11_count_204 ⟨rfl, rfl⟩
                        · have hf := itF hf c_18
                          by_cases c_19 : x1 = 12
                          · have hf := itT hf c_19
                            refine lv_tableIn (tgt := 205) (off := 204) hx hb dX11_count_1 (by rw [c_19]; decide) (by rw [c_19]; decide) (by rw [c_19]; decide) (by decide) ?_
                            refine lv_aload_n hx hb dX11_count_205 rfl (lv_at hl 0 rfl) ?_
                            refine wd_getR (q := 26) X hP L0 fl_X11_35 rfl dX11_count_206 ?_
                            refine wd_getI X hP (isState.a0 S26) fl_X11_350 rfl dX11_count_209 ?_
                            obtain ⟨rfl, rfl⟩ := Prod.mk.inj (Option.some.inj hf)
                            exact wd_iret X hP hS hr0 dX11_count_212 ⟨rfl, rfl⟩
                          · have hf := itF hf c_19
                            by_cases c_20 : x1 = 13
                            · have hf := itT hf c_20
                              refine lv_tableIn (tgt := 213) (off := 212) hx hb dX11_count_1 (by rw [c_20]; decide) (by rw [c_20]; decide) (by rw [c_20]; decide) (by decide) ?_
                              refine lv_aload_n hx hb dX11_count_213 rfl (lv_at hl 0 rfl) ?_
                              refine wd_getR (q := 1) X hP L0 fl_X11_12 rfl dX11_count_214 ?_
                              refine wd_getI X hP L1 fl_X11_106 rfl dX11_count_217 ?_
                              obtain ⟨rfl, rfl⟩ := Prod.mk.inj (Option.some.inj hf)
                              exact wd_iret X hP hS hr0 dX11_count_220 ⟨rfl, rfl⟩
                            · have hf := itF hf c_20
                              refine lv_tableOut (tgt := 221) hx hb dX11_count_1 (tb_out14 c_1 c_2 c_3 c_4 c_5 c_6 c_7 c_8 c_9 c_14 c_17 c_18 c_19 c_20) (by decide) ?_
                              refine lv_iconst (v := -1) hx hb dX11_count_221 (by decide) ?_
                              obtain ⟨rfl, rfl⟩ := Prod.mk.inj (Option.some.inj hf)
                              exact wd_iret X hP hS hr0 dX11_count_222 ⟨rfl, rfl⟩

noncomputable def f_X11_image (mm : Mm) (x1 : Int32) : Option (Int32 × Mm) :=
  if x1 < 0 then
    some ((-1 : Int32), mm)
  else
    if x1 < (4 : Int32) then
      if x1 < 0 ∨ 4 ≤ x1.toNatClampNeg then none else
        bi1 (f_X9_copyFrom mm (252 + 200 * x1.toNatClampNeg) 26) fun mm_4 =>
          if x1 < 0 ∨ 4 ≤ x1.toNatClampNeg then none else
            vlet (wI mm_4 227 x1.toNatClampNeg (vp_nar .boolean (1 : Int32))) fun mm_6 => some ((mm_6.1 33 1), mm_6)
    else
      some ((-1 : Int32), mm)
set_option maxHeartbeats 4000000 in
set_option maxRecDepth 100000 in
theorem c_X11_image (l : Launch) (D : va_G) (dA : Nat → ClassId) (zz : (Nat → Nat) × (Nat → Nat)) (bs : Nat) (mm : Mm) (x1 : Int32) (out : Int32) (m1 : Mm) (hf : f_X11_image mm x1 = some (out, m1)) : Mw l D dA zz bs LY yX11_image cX11_image 2 (some .int) 3 103 [.ref (bs + 0), .int x1] mm (some (.int out)) m1 := by
  refine Mw.of (own := RX11) (by decide) rfl (Nat.le_of_ble_eq_true rfl) ?_
  intro p e s m args below meth c X hr0 hP hS ls hl
  have hx := X.1
  have hb := X.2.1
  obtain ⟨H, hH⟩ : ∃ z : Heap, z = s.heap := ⟨_, rfl⟩
  obtain ⟨locs, hL⟩ : ∃ z : List Loc, z = [] := ⟨_, rfl⟩
  rw [← hH, ← hL]
  have hS : va_S (Aq bs) s.heap H locs := by rw [hH, hL]; exact hS
  have hP : Wd D dA bs LY mm H := by rw [hH]; exact hP
  have hl : lv_has ls 2 [(0, .ref (bs + 0)), (1, .int x1)] := hl
  unfold f_X11_image at hf
  refine lv_iload_n hx hb dX11_image_0 rfl (lv_at hl 1 rfl) ?_
  refine lv_if_lt (tgt := 9) hx hb dX11_image_1 (by decide) (fun c_1 => ?_) (fun c_1 => ?_)
  · have hf := itT hf c_1
    refine lv_iconst (v := -1) hx hb dX11_image_9 (by decide) ?_
    obtain ⟨rfl, rfl⟩ := Prod.mk.inj (Option.some.inj hf)
    exact wd_iret X hP hS hr0 dX11_image_10 ⟨rfl, rfl⟩
  · have hf := itF hf c_1
    refine lv_iload_n hx hb dX11_image_4 rfl (lv_at hl 1 rfl) ?_
    refine lv_iconst (v := 4) hx hb dX11_image_5 (by decide) ?_
    refine lv_icmp_lt (tgt := 11) hx hb dX11_image_6 (by decide) (fun c_2 => ?_) (fun c_2 => ?_)
    · have hf := itT hf c_2
      refine lv_aload_n hx hb dX11_image_11 rfl (lv_at hl 0 rfl) ?_
      refine wd_getR (q := 226) X hP L0 fl_X11_39 rfl dX11_image_12 ?_
      refine lv_iload_n hx hb dX11_image_15 rfl (lv_at hl 1 rfl) ?_
      have g_3 := gdN hf
      have hf := gdK hf
      refine wd_aald (q := 252 + 200 * x1.toNatClampNeg) X hP L226 rfl ⟨by decide, by decide⟩ g_3 (if_pos (Nat.not_le.mp (fun z => g_3 (Or.inr z)))) dX11_image_16 ?_
      refine lv_aload_n hx hb dX11_image_17 rfl (lv_at hl 0 rfl) ?_
      refine wd_getR (q := 26) X hP L0 fl_X11_35 rfl dX11_image_18 ?_
      obtain ⟨mm_4, hc_5, hf⟩ := bi1S hf
      refine wd_cv X hP hS (isState.a0 (isStates _ (Nat.not_le.mp (fun z => g_3 (Or.inr z))))) ml_X11_368 ⟨_, _, rfl⟩ (c_X9_copyFrom l D dA zz bs mm (252 + 200 * x1.toNatClampNeg) 26 (isStates _ (Nat.not_le.mp (fun z => g_3 (Or.inr z)))) S26 mm_4 hc_5) rfl ⟨Nat.le_of_ble_eq_true rfl, Nat.le_of_ble_eq_true rfl⟩ hl.1 rfl (rest := []) (Nat.le_of_ble_eq_true rfl) ⟨Nat.zero_le _, Nat.zero_le _⟩ dX11_image_21 (fun H locs hP hS => ?_)
      refine W.eq (g2 := F0 m 24 ls []) rfl ?_
      refine lv_aload_n hx hb dX11_image_24 rfl (lv_at hl 0 rfl) ?_
      refine wd_getR (q := 227) X hP L0 fl_X11_43 rfl dX11_image_25 ?_
      refine lv_iload_n hx hb dX11_image_28 rfl (lv_at hl 1 rfl) ?_
      refine lv_iconst (v := 1) hx hb dX11_image_29 (by decide) ?_
      have g_7 := gdN hf
      have hf := gdK hf
      refine wd_zast X hP hS L227 g_7 dX11_image_30 (fun H locs mm_6 emm_6 hP hS => ?_)
      have hf := vl hf emm_6
      refine lv_aload_n hx hb dX11_image_31 rfl (lv_at hl 0 rfl) ?_
      refine wd_getR (q := 26) X hP L0 fl_X11_35 rfl dX11_image_32 ?_
      refine wd_getR (q := 33) X hP (isState.a0 S26) fl_X11_71 rfl dX11_image_35 ?_
      refine wd_getI X hP (isRaft.a0 R33) fl_X11_362 rfl dX11_image_38 ?_
      obtain ⟨rfl, rfl⟩ := Prod.mk.inj (Option.some.inj hf)
      exact wd_iret X hP hS hr0 dX11_image_41 ⟨rfl, rfl⟩
    · have hf := itF hf c_2
      refine lv_iconst (v := -1) hx hb dX11_image_9 (by decide) ?_
      obtain ⟨rfl, rfl⟩ := Prod.mk.inj (Option.some.inj hf)
      exact wd_iret X hP hS hr0 dX11_image_10 ⟨rfl, rfl⟩

noncomputable def f_X11_back (mm : Mm) (x1 : Int32) : Option (Int32 × Mm) :=
  if x1 < 0 then
    some ((-1 : Int32), mm)
  else
    if (4 : Int32) ≤ x1 then
      some ((-1 : Int32), mm)
    else
      if x1 < 0 ∨ 4 ≤ x1.toNatClampNeg then none else
        if (mm.1 227 x1.toNatClampNeg) = 0 then
          some ((-1 : Int32), mm)
        else
          if x1 < 0 ∨ 4 ≤ x1.toNatClampNeg then none else
            bi1 (f_X9_copyFrom mm 26 (252 + 200 * x1.toNatClampNeg)) fun mm_6 => some ((mm_6.1 33 1), mm_6)
set_option maxHeartbeats 4000000 in
set_option maxRecDepth 100000 in
theorem c_X11_back (l : Launch) (D : va_G) (dA : Nat → ClassId) (zz : (Nat → Nat) × (Nat → Nat)) (bs : Nat) (mm : Mm) (x1 : Int32) (out : Int32) (m1 : Mm) (hf : f_X11_back mm x1 = some (out, m1)) : Mw l D dA zz bs LY yX11_back cX11_back 2 (some .int) 3 103 [.ref (bs + 0), .int x1] mm (some (.int out)) m1 := by
  refine Mw.of (own := RX11) (by decide) rfl (Nat.le_of_ble_eq_true rfl) ?_
  intro p e s m args below meth c X hr0 hP hS ls hl
  have hx := X.1
  have hb := X.2.1
  obtain ⟨H, hH⟩ : ∃ z : Heap, z = s.heap := ⟨_, rfl⟩
  obtain ⟨locs, hL⟩ : ∃ z : List Loc, z = [] := ⟨_, rfl⟩
  rw [← hH, ← hL]
  have hS : va_S (Aq bs) s.heap H locs := by rw [hH, hL]; exact hS
  have hP : Wd D dA bs LY mm H := by rw [hH]; exact hP
  have hl : lv_has ls 2 [(0, .ref (bs + 0)), (1, .int x1)] := hl
  unfold f_X11_back at hf
  refine lv_iload_n hx hb dX11_back_0 rfl (lv_at hl 1 rfl) ?_
  refine lv_if_lt (tgt := 18) hx hb dX11_back_1 (by decide) (fun c_1 => ?_) (fun c_1 => ?_)
  · have hf := itT hf c_1
    refine lv_iconst (v := -1) hx hb dX11_back_18 (by decide) ?_
    obtain ⟨rfl, rfl⟩ := Prod.mk.inj (Option.some.inj hf)
    exact wd_iret X hP hS hr0 dX11_back_19 ⟨rfl, rfl⟩
  · have hf := itF hf c_1
    refine lv_iload_n hx hb dX11_back_4 rfl (lv_at hl 1 rfl) ?_
    refine lv_iconst (v := 4) hx hb dX11_back_5 (by decide) ?_
    refine lv_icmp_ge (tgt := 18) hx hb dX11_back_6 (by decide) (fun c_2 => ?_) (fun c_2 => ?_)
    · have hf := itT hf c_2
      refine lv_iconst (v := -1) hx hb dX11_back_18 (by decide) ?_
      obtain ⟨rfl, rfl⟩ := Prod.mk.inj (Option.some.inj hf)
      exact wd_iret X hP hS hr0 dX11_back_19 ⟨rfl, rfl⟩
    · have hf := itF hf c_2
      refine lv_aload_n hx hb dX11_back_9 rfl (lv_at hl 0 rfl) ?_
      refine wd_getR (q := 227) X hP L0 fl_X11_43 rfl dX11_back_10 ?_
      refine lv_iload_n hx hb dX11_back_13 rfl (lv_at hl 1 rfl) ?_
      have g_3 := gdN hf
      have hf := gdK hf
      refine wd_zald X hP L227 g_3 dX11_back_14 ?_
      refine lv_if_ne (tgt := 20) hx hb dX11_back_15 (by decide) (fun c_4 => ?_) (fun c_4 => ?_)
      · have hf := itF hf c_4
        refine lv_aload_n hx hb dX11_back_20 rfl (lv_at hl 0 rfl) ?_
        refine wd_getR (q := 26) X hP L0 fl_X11_35 rfl dX11_back_21 ?_
        refine lv_aload_n hx hb dX11_back_24 rfl (lv_at hl 0 rfl) ?_
        refine wd_getR (q := 226) X hP L0 fl_X11_39 rfl dX11_back_25 ?_
        refine lv_iload_n hx hb dX11_back_28 rfl (lv_at hl 1 rfl) ?_
        have g_5 := gdN hf
        have hf := gdK hf
        refine wd_aald (q := 252 + 200 * x1.toNatClampNeg) X hP L226 rfl ⟨by decide, by decide⟩ g_5 (if_pos (Nat.not_le.mp (fun z => g_5 (Or.inr z)))) dX11_back_29 ?_
        obtain ⟨mm_6, hc_7, hf⟩ := bi1S hf
        refine wd_cv X hP hS (isState.a0 S26) ml_X11_368 ⟨_, _, rfl⟩ (c_X9_copyFrom l D dA zz bs mm 26 (252 + 200 * x1.toNatClampNeg) S26 (isStates _ (Nat.not_le.mp (fun z => g_5 (Or.inr z)))) mm_6 hc_7) rfl ⟨Nat.le_of_ble_eq_true rfl, Nat.le_of_ble_eq_true rfl⟩ hl.1 rfl (rest := []) (Nat.le_of_ble_eq_true rfl) ⟨Nat.zero_le _, Nat.zero_le _⟩ dX11_back_30 (fun H locs hP hS => ?_)
        refine W.eq (g2 := F0 m 33 ls []) rfl ?_
        refine lv_aload_n hx hb dX11_back_33 rfl (lv_at hl 0 rfl) ?_
        refine wd_getR (q := 26) X hP L0 fl_X11_35 rfl dX11_back_34 ?_
        refine wd_getR (q := 33) X hP (isState.a0 S26) fl_X11_71 rfl dX11_back_37 ?_
        refine wd_getI X hP (isRaft.a0 R33) fl_X11_362 rfl dX11_back_40 ?_
        obtain ⟨rfl, rfl⟩ := Prod.mk.inj (Option.some.inj hf)
        exact wd_iret X hP hS hr0 dX11_back_43 ⟨rfl, rfl⟩
      · have hf := itT hf c_4
        refine lv_iconst (v := -1) hx hb dX11_back_18 (by decide) ?_
        obtain ⟨rfl, rfl⟩ := Prod.mk.inj (Option.some.inj hf)
        exact wd_iret X hP hS hr0 dX11_back_19 ⟨rfl, rfl⟩
