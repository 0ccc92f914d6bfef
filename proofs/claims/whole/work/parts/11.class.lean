noncomputable def f_X6_readOwner (mm : Mm) : Option (Int32 × Mm) :=
  bi2 (f_X10_number mm (1 : Int32) (mm.1 4 0)) fun r_3 mm_1 =>
    if r_3 = (-1 : Int32) then
      some ((0 : Int32), mm_1)
    else
      bi2 (f_X10_number mm_1 (0 : Int32) (20 : Int32)) fun r_7 mm_5 =>
        if r_7 = (-1 : Int32) then
          some ((0 : Int32), mm_5)
        else
          if (mm_5.1 4 1) < 0 ∨ 6 ≤ (mm_5.1 4 1).toNatClampNeg then none else
            vlet (wI mm_5 5 (mm_5.1 4 1).toNatClampNeg r_3) fun mm_9 =>
              if (mm_9.1 4 1) < 0 ∨ 6 ≤ (mm_9.1 4 1).toNatClampNeg then none else
                vlet (wI mm_9 6 (mm_9.1 4 1).toNatClampNeg r_7) fun mm_11 =>
                  vlet (wI mm_11 4 1 ((mm_11.1 4 1) + (1 : Int32))) fun mm_13 => some ((1 : Int32), mm_13)
set_option maxHeartbeats 4000000 in
set_option maxRecDepth 100000 in
theorem c_X6_readOwner (l : Launch) (D : va_G) (dA : Nat → ClassId) (zz : (Nat → Nat) × (Nat → Nat)) (bs : Nat) (mm : Mm) (out : Int32) (m1 : Mm) (hf : f_X6_readOwner mm = some (out, m1)) : Mw l D dA zz bs LY yX6_readOwner cX6_readOwner 3 (some .boolean) 2 45 [.ref (bs + 3)] mm (some (.int out)) m1 := by
  refine Mw.of (own := RX6) (by decide) rfl (Nat.le_of_ble_eq_true rfl) ?_
  intro p e s m args below meth c X hr0 hP hS ls hl
  have hx := X.1
  have hb := X.2.1
  obtain ⟨H, hH⟩ : ∃ z : Heap, z = s.heap := ⟨_, rfl⟩
  obtain ⟨locs, hL⟩ : ∃ z : List Loc, z = [] := ⟨_, rfl⟩
  rw [← hH, ← hL]
  have hS : va_S (Aq bs) s.heap H locs := by rw [hH, hL]; exact hS
  have hP : Wd D dA bs LY mm H := by rw [hH]; exact hP
  have hl : lv_has ls 3 [(0, .ref (bs + 3))] := hl
  unfold f_X6_readOwner at hf
  refine lv_aload_n hx hb dX6_readOwner_0 rfl (lv_at hl 0 rfl) ?_
  refine wd_getR (q := 1) X hP L3 fl_X6_27 rfl dX6_readOwner_1 ?_
  refine lv_iconst (v := 1) hx hb dX6_readOwner_4 (by decide) ?_
  refine lv_aload_n hx hb dX6_readOwner_5 rfl (lv_at hl 0 rfl) ?_
  refine wd_getR (q := 4) X hP L3 fl_X6_12 rfl dX6_readOwner_6 ?_
  refine wd_getI X hP (isRiver.a0 V4) fl_X6_103 rfl dX6_readOwner_9 ?_
  obtain ⟨r_3, mm_1, hc_2, hf⟩ := bi2S hf
  refine wd_cv X hP hS L1 ml_X6_99 ⟨_, _, rfl⟩ (c_X10_number l D dA zz bs mm (1 : Int32) (mm.1 4 0) r_3 mm_1 hc_2) rfl ⟨Nat.le_of_ble_eq_true rfl, Nat.le_of_ble_eq_true rfl⟩ hl.1 rfl (rest := []) (Nat.le_of_ble_eq_true rfl) ⟨Nat.zero_le _, Nat.zero_le _⟩ dX6_readOwner_12 (fun H locs hP hS => ?_)
  refine W.eq (g2 := F0 m 15 ls [.int r_3]) rfl ?_
  refine lv_istore_n (lv' := [(1, .int r_3), (0, .ref (bs + 3))]) hx hb dX6_readOwner_15 rfl hl (by decide) rfl (fun ls hl => ?_)
  refine lv_iload_n hx hb dX6_readOwner_16 rfl (lv_at hl 0 rfl) ?_
  refine lv_iconst (v := -1) hx hb dX6_readOwner_17 (by decide) ?_
  refine lv_icmp_ne (tgt := 23) hx hb dX6_readOwner_18 (by decide) (fun c_4 => ?_) (fun c_4 => ?_)
  · have hf := itF hf c_4
    refine lv_aload_n hx hb dX6_readOwner_23 rfl (lv_at hl 1 rfl) ?_
    refine wd_getR (q := 1) X hP L3 fl_X6_27 rfl dX6_readOwner_24 ?_
    refine lv_iconst (v := 0) hx hb dX6_readOwner_27 (by decide) ?_
    refine lv_bipush (v := 20) hx hb dX6_readOwner_28 (by decide) ?_
    obtain ⟨r_7, mm_5, hc_6, hf⟩ := bi2S hf
    refine wd_cv X hP hS L1 ml_X6_99 ⟨_, _, rfl⟩ (c_X10_number l D dA zz bs mm_1 (0 : Int32) (20 : Int32) r_7 mm_5 hc_6) rfl ⟨Nat.le_of_ble_eq_true rfl, Nat.le_of_ble_eq_true rfl⟩ hl.1 rfl (rest := []) (Nat.le_of_ble_eq_true rfl) ⟨Nat.zero_le _, Nat.zero_le _⟩ dX6_readOwner_30 (fun H locs hP hS => ?_)
    refine W.eq (g2 := F0 m 33 ls [.int r_7]) rfl ?_
    refine lv_istore_n (lv' := [(2, .int r_7), (1, .int r_3), (0, .ref (bs + 3))]) hx hb dX6_readOwner_33 rfl hl (by decide) rfl (fun ls hl => ?_)
    refine lv_iload_n hx hb dX6_readOwner_34 rfl (lv_at hl 0 rfl) ?_
    refine lv_iconst (v := -1) hx hb dX6_readOwner_35 (by decide) ?_
    refine lv_icmp_ne (tgt := 41) hx hb dX6_readOwner_36 (by decide) (fun c_8 => ?_) (fun c_8 => ?_)
    · have hf := itF hf c_8
      refine lv_aload_n hx hb dX6_readOwner_41 rfl (lv_at hl 2 rfl) ?_
      refine wd_getR (q := 4) X hP L3 fl_X6_12 rfl dX6_readOwner_42 ?_
      refine wd_getR (q := 5) X hP (isRiver.a0 V4) fl_X6_109 rfl dX6_readOwner_45 ?_
      refine lv_aload_n hx hb dX6_readOwner_48 rfl (lv_at hl 2 rfl) ?_
      refine wd_getR (q := 4) X hP L3 fl_X6_12 rfl dX6_readOwner_49 ?_
      refine wd_getI X hP (isRiver.a0 V4) fl_X6_87 rfl dX6_readOwner_52 ?_
      refine lv_iload_n hx hb dX6_readOwner_55 rfl (lv_at hl 1 rfl) ?_
      have g_10 := gdN hf
      have hf := gdK hf
      refine wd_iast X hP hS (isRiver.a1 V4) g_10 dX6_readOwner_56 (fun H locs mm_9 emm_9 hP hS => ?_)
      have hf := vl hf emm_9
      refine lv_aload_n hx hb dX6_readOwner_57 rfl (lv_at hl 2 rfl) ?_
      refine wd_getR (q := 4) X hP L3 fl_X6_12 rfl dX6_readOwner_58 ?_
      refine wd_getR (q := 6) X hP (isRiver.a0 V4) fl_X6_113 rfl dX6_readOwner_61 ?_
      refine lv_aload_n hx hb dX6_readOwner_64 rfl (lv_at hl 2 rfl) ?_
      refine wd_getR (q := 4) X hP L3 fl_X6_12 rfl dX6_readOwner_65 ?_
      refine wd_getI X hP (isRiver.a0 V4) fl_X6_87 rfl dX6_readOwner_68 ?_
      refine lv_iload_n hx hb dX6_readOwner_71 rfl (lv_at hl 0 rfl) ?_
      have g_12 := gdN hf
      have hf := gdK hf
      refine wd_iast X hP hS (isRiver.a2 V4) g_12 dX6_readOwner_72 (fun H locs mm_11 emm_11 hP hS => ?_)
      have hf := vl hf emm_11
      refine lv_aload_n hx hb dX6_readOwner_73 rfl (lv_at hl 2 rfl) ?_
      refine wd_getR (q := 4) X hP L3 fl_X6_12 rfl dX6_readOwner_74 ?_
      refine lv_dup hx hb dX6_readOwner_77 rfl ?_
      refine wd_getI X hP (isRiver.a0 V4) fl_X6_87 rfl dX6_readOwner_78 ?_
      refine lv_iconst (v := 1) hx hb dX6_readOwner_81 (by decide) ?_
      refine lv_iadd hx hb dX6_readOwner_82 ?_
      refine wd_putI X hP hS (isRiver.a0 V4) fp_X6_87 rfl dX6_readOwner_83 (fun H locs mm_13 emm_13 hP hS => ?_)
      have hf := vl hf emm_13
      refine lv_iconst (v := 1) hx hb dX6_readOwner_86 (by decide) ?_
      obtain ⟨rfl, rfl⟩ := Prod.mk.inj (Option.some.inj hf)
      exact wd_zret X hP hS hr0 (by decide) dX6_readOwner_87 ⟨rfl, rfl⟩
    · have hf := itT hf c_8
      refine lv_iconst (v := 0) hx hb dX6_readOwner_39 (by decide) ?_
      obtain ⟨rfl, rfl⟩ := Prod.mk.inj (Option.some.inj hf)
      exact wd_zret X hP hS hr0 (by decide) dX6_readOwner_40 ⟨rfl, rfl⟩
  · have hf := itT hf c_4
    refine lv_iconst (v := 0) hx hb dX6_readOwner_21 (by decide) ?_
    obtain ⟨rfl, rfl⟩ := Prod.mk.inj (Option.some.inj hf)
    exact wd_zret X hP hS hr0 (by decide) dX6_readOwner_22 ⟨rfl, rfl⟩

noncomputable def f_X6_readThing (mm : Mm) : Option (Int32 × Mm) :=
  bi2 (f_X10_number mm (0 : Int32) ((mm.1 4 1) - (1 : Int32))) fun r_3 mm_1 =>
    if r_3 = (-1 : Int32) then
      some ((0 : Int32), mm_1)
    else
      bi2 (f_X10_number mm_1 (0 : Int32) (50 : Int32)) fun r_7 mm_5 =>
        if r_7 = (-1 : Int32) then
          some ((0 : Int32), mm_5)
        else
          bi2 (f_X10_number mm_5 (0 : Int32) (99 : Int32)) fun r_11 mm_9 =>
            if r_11 = (-1 : Int32) then
              some ((0 : Int32), mm_9)
            else
              bi2 (f_X10_number mm_9 (0 : Int32) (9 : Int32)) fun r_15 mm_13 =>
                if r_15 = (-1 : Int32) then
                  some ((0 : Int32), mm_13)
                else
                  if (mm_13.1 4 2) < 0 ∨ 8 ≤ (mm_13.1 4 2).toNatClampNeg then none else
                    vlet (wI mm_13 12 (mm_13.1 4 2).toNatClampNeg r_3) fun mm_17 =>
                      if (mm_17.1 4 2) < 0 ∨ 8 ≤ (mm_17.1 4 2).toNatClampNeg then none else
                        vlet (wI mm_17 13 (mm_17.1 4 2).toNatClampNeg r_11) fun mm_19 =>
                          if (mm_19.1 4 2) < 0 ∨ 8 ≤ (mm_19.1 4 2).toNatClampNeg then none else
                            vlet (wI mm_19 7 (mm_19.1 4 2).toNatClampNeg r_7) fun mm_21 =>
                              if (mm_21.1 4 2) < 0 ∨ 8 ≤ (mm_21.1 4 2).toNatClampNeg then none else
                                vlet (wI mm_21 8 (mm_21.1 4 2).toNatClampNeg r_15) fun mm_23 =>
                                  vlet (wI mm_23 4 2 ((mm_23.1 4 2) + (1 : Int32))) fun mm_25 => some ((1 : Int32), mm_25)
set_option maxHeartbeats 4000000 in
set_option maxRecDepth 100000 in
theorem c_X6_readThing (l : Launch) (D : va_G) (dA : Nat → ClassId) (zz : (Nat → Nat) × (Nat → Nat)) (bs : Nat) (mm : Mm) (out : Int32) (m1 : Mm) (hf : f_X6_readThing mm = some (out, m1)) : Mw l D dA zz bs LY yX6_readThing cX6_readThing 5 (some .boolean) 2 45 [.ref (bs + 3)] mm (some (.int out)) m1 := by
  refine Mw.of (own := RX6) (by decide) rfl (Nat.le_of_ble_eq_true rfl) ?_
  intro p e s m args below meth c X hr0 hP hS ls hl
  have hx := X.1
  have hb := X.2.1
  obtain ⟨H, hH⟩ : ∃ z : Heap, z = s.heap := ⟨_, rfl⟩
  obtain ⟨locs, hL⟩ : ∃ z : List Loc, z = [] := ⟨_, rfl⟩
  rw [← hH, ← hL]
  have hS : va_S (Aq bs) s.heap H locs := by rw [hH, hL]; exact hS
  have hP : Wd D dA bs LY mm H := by rw [hH]; exact hP
  have hl : lv_has ls 5 [(0, .ref (bs + 3))] := hl
  unfold f_X6_readThing at hf
  refine lv_aload_n hx hb dX6_readThing_0 rfl (lv_at hl 0 rfl) ?_
  refine wd_getR (q := 1) X hP L3 fl_X6_27 rfl dX6_readThing_1 ?_
  refine lv_iconst (v := 0) hx hb dX6_readThing_4 (by decide) ?_
  refine lv_aload_n hx hb dX6_readThing_5 rfl (lv_at hl 0 rfl) ?_
  refine wd_getR (q := 4) X hP L3 fl_X6_12 rfl dX6_readThing_6 ?_
  refine wd_getI X hP (isRiver.a0 V4) fl_X6_87 rfl dX6_readThing_9 ?_
  refine lv_iconst (v := 1) hx hb dX6_readThing_12 (by decide) ?_
  refine lv_isub hx hb dX6_readThing_13 ?_
  obtain ⟨r_3, mm_1, hc_2, hf⟩ := bi2S hf
  refine wd_cv X hP hS L1 ml_X6_99 ⟨_, _, rfl⟩ (c_X10_number l D dA zz bs mm (0 : Int32) ((mm.1 4 1) - (1 : Int32)) r_3 mm_1 hc_2) rfl ⟨Nat.le_of_ble_eq_true rfl, Nat.le_of_ble_eq_true rfl⟩ hl.1 rfl (rest := []) (Nat.le_of_ble_eq_true rfl) ⟨Nat.zero_le _, Nat.zero_le _⟩ dX6_readThing_14 (fun H locs hP hS => ?_)
  refine W.eq (g2 := F0 m 17 ls [.int r_3]) rfl ?_
  refine lv_istore_n (lv' := [(1, .int r_3), (0, .ref (bs + 3))]) hx hb dX6_readThing_17 rfl hl (by decide) rfl (fun ls hl => ?_)
  refine lv_iload_n hx hb dX6_readThing_18 rfl (lv_at hl 0 rfl) ?_
  refine lv_iconst (v := -1) hx hb dX6_readThing_19 (by decide) ?_
  refine lv_icmp_ne (tgt := 25) hx hb dX6_readThing_20 (by decide) (fun c_4 => ?_) (fun c_4 => ?_)
  · have hf := itF hf c_4
    refine lv_aload_n hx hb dX6_readThing_25 rfl (lv_at hl 1 rfl) ?_
    refine wd_getR (q := 1) X hP L3 fl_X6_27 rfl dX6_readThing_26 ?_
    refine lv_iconst (v := 0) hx hb dX6_readThing_29 (by decide) ?_
    refine lv_bipush (v := 50) hx hb dX6_readThing_30 (by decide) ?_
    obtain ⟨r_7, mm_5, hc_6, hf⟩ := bi2S hf
    refine wd_cv X hP hS L1 ml_X6_99 ⟨_, _, rfl⟩ (c_X10_number l D dA zz bs mm_1 (0 : Int32) (50 : Int32) r_7 mm_5 hc_6) rfl ⟨Nat.le_of_ble_eq_true rfl, Nat.le_of_ble_eq_true rfl⟩ hl.1 rfl (rest := []) (Nat.le_of_ble_eq_true rfl) ⟨Nat.zero_le _, Nat.zero_le _⟩ dX6_readThing_32 (fun H locs hP hS => ?_)
    refine W.eq (g2 := F0 m 35 ls [.int r_7]) rfl ?_
    refine lv_istore_n (lv' := [(2, .int r_7), (1, .int r_3), (0, .ref (bs + 3))]) hx hb dX6_readThing_35 rfl hl (by decide) rfl (fun ls hl => ?_)
    refine lv_iload_n hx hb dX6_readThing_36 rfl (lv_at hl 0 rfl) ?_
    refine lv_iconst (v := -1) hx hb dX6_readThing_37 (by decide) ?_
    refine lv_icmp_ne (tgt := 43) hx hb dX6_readThing_38 (by decide) (fun c_8 => ?_) (fun c_8 => ?_)
    · have hf := itF hf c_8
      refine lv_aload_n hx hb dX6_readThing_43 rfl (lv_at hl 2 rfl) ?_
      refine wd_getR (q := 1) X hP L3 fl_X6_27 rfl dX6_readThing_44 ?_
      refine lv_iconst (v := 0) hx hb dX6_readThing_47 (by decide) ?_
      refine lv_bipush (v := 99) hx hb dX6_readThing_48 (by decide) ?_
      obtain ⟨r_11, mm_9, hc_10, hf⟩ := bi2S hf
      refine wd_cv X hP hS L1 ml_X6_99 ⟨_, _, rfl⟩ (c_X10_number l D dA zz bs mm_5 (0 : Int32) (99 : Int32) r_11 mm_9 hc_10) rfl ⟨Nat.le_of_ble_eq_true rfl, Nat.le_of_ble_eq_true rfl⟩ hl.1 rfl (rest := []) (Nat.le_of_ble_eq_true rfl) ⟨Nat.zero_le _, Nat.zero_le _⟩ dX6_readThing_50 (fun H locs hP hS => ?_)
      refine W.eq (g2 := F0 m 53 ls [.int r_11]) rfl ?_
      refine lv_istore_n (lv' := [(3, .int r_11), (2, .int r_7), (1, .int r_3), (0, .ref (bs + 3))]) hx hb dX6_readThing_53 rfl hl (by decide) rfl (fun ls hl => ?_)
      refine lv_iload_n hx hb dX6_readThing_54 rfl (lv_at hl 0 rfl) ?_
      refine lv_iconst (v := -1) hx hb dX6_readThing_55 (by decide) ?_
      refine lv_icmp_ne (tgt := 61) hx hb dX6_readThing_56 (by decide) (fun c_12 => ?_) (fun c_12 => ?_)
      · have hf := itF hf c_12
        refine lv_aload_n hx hb dX6_readThing_61 rfl (lv_at hl 3 rfl) ?_
        refine wd_getR (q := 1) X hP L3 fl_X6_27 rfl dX6_readThing_62 ?_
        refine lv_iconst (v := 0) hx hb dX6_readThing_65 (by decide) ?_
        refine lv_bipush (v := 9) hx hb dX6_readThing_66 (by decide) ?_
        obtain ⟨r_15, mm_13, hc_14, hf⟩ := bi2S hf
        refine wd_cv X hP hS L1 ml_X6_99 ⟨_, _, rfl⟩ (c_X10_number l D dA zz bs mm_9 (0 : Int32) (9 : Int32) r_15 mm_13 hc_14) rfl ⟨Nat.le_of_ble_eq_true rfl, Nat.le_of_ble_eq_true rfl⟩ hl.1 rfl (rest := []) (Nat.le_of_ble_eq_true rfl) ⟨Nat.zero_le _, Nat.zero_le _⟩ dX6_readThing_68 (fun H locs hP hS => ?_)
        refine W.eq (g2 := F0 m 71 ls [.int r_15]) rfl ?_
        refine lv_istore (lv' := [(4, .int r_15), (3, .int r_11), (2, .int r_7), (1, .int r_3), (0, .ref (bs + 3))]) hx hb dX6_readThing_71 hl (by decide) rfl (fun ls hl => ?_)
        refine lv_iload hx hb dX6_readThing_73 (lv_at hl 0 rfl) ?_
        refine lv_iconst (v := -1) hx hb dX6_readThing_75 (by decide) ?_
        refine lv_icmp_ne (tgt := 81) hx hb dX6_readThing_76 (by decide) (fun c_16 => ?_) (fun c_16 => ?_)
        · have hf := itF hf c_16
          refine lv_aload_n hx hb dX6_readThing_81 rfl (lv_at hl 4 rfl) ?_
          refine wd_getR (q := 10) X hP L3 fl_X6_23 rfl dX6_readThing_82 ?_
          refine wd_getR (q := 12) X hP (isRaft.a0 R10) fl_X6_116 rfl dX6_readThing_85 ?_
          refine lv_aload_n hx hb dX6_readThing_88 rfl (lv_at hl 4 rfl) ?_
          refine wd_getR (q := 4) X hP L3 fl_X6_12 rfl dX6_readThing_89 ?_
          refine wd_getI X hP (isRiver.a0 V4) fl_X6_90 rfl dX6_readThing_92 ?_
          refine lv_iload_n hx hb dX6_readThing_95 rfl (lv_at hl 3 rfl) ?_
          have g_18 := gdN hf
          have hf := gdK hf
          refine wd_iast X hP hS (isRaft.a2 R10) g_18 dX6_readThing_96 (fun H locs mm_17 emm_17 hP hS => ?_)
          have hf := vl hf emm_17
          refine lv_aload_n hx hb dX6_readThing_97 rfl (lv_at hl 4 rfl) ?_
          refine wd_getR (q := 10) X hP L3 fl_X6_23 rfl dX6_readThing_98 ?_
          refine wd_getR (q := 13) X hP (isRaft.a0 R10) fl_X6_119 rfl dX6_readThing_101 ?_
          refine lv_aload_n hx hb dX6_readThing_104 rfl (lv_at hl 4 rfl) ?_
          refine wd_getR (q := 4) X hP L3 fl_X6_12 rfl dX6_readThing_105 ?_
          refine wd_getI X hP (isRiver.a0 V4) fl_X6_90 rfl dX6_readThing_108 ?_
          refine lv_iload_n hx hb dX6_readThing_111 rfl (lv_at hl 1 rfl) ?_
          have g_20 := gdN hf
          have hf := gdK hf
          refine wd_iast X hP hS (isRaft.a3 R10) g_20 dX6_readThing_112 (fun H locs mm_19 emm_19 hP hS => ?_)
          have hf := vl hf emm_19
          refine lv_aload_n hx hb dX6_readThing_113 rfl (lv_at hl 4 rfl) ?_
          refine wd_getR (q := 4) X hP L3 fl_X6_12 rfl dX6_readThing_114 ?_
          refine wd_getR (q := 7) X hP (isRiver.a0 V4) fl_X6_122 rfl dX6_readThing_117 ?_
          refine lv_aload_n hx hb dX6_readThing_120 rfl (lv_at hl 4 rfl) ?_
          refine wd_getR (q := 4) X hP L3 fl_X6_12 rfl dX6_readThing_121 ?_
          refine wd_getI X hP (isRiver.a0 V4) fl_X6_90 rfl dX6_readThing_124 ?_
          refine lv_iload_n hx hb dX6_readThing_127 rfl (lv_at hl 2 rfl) ?_
          have g_22 := gdN hf
          have hf := gdK hf
          refine wd_iast X hP hS (isRiver.a3 V4) g_22 dX6_readThing_128 (fun H locs mm_21 emm_21 hP hS => ?_)
          have hf := vl hf emm_21
          refine lv_aload_n hx hb dX6_readThing_129 rfl (lv_at hl 4 rfl) ?_
          refine wd_getR (q := 4) X hP L3 fl_X6_12 rfl dX6_readThing_130 ?_
          refine wd_getR (q := 8) X hP (isRiver.a0 V4) fl_X6_125 rfl dX6_readThing_133 ?_
          refine lv_aload_n hx hb dX6_readThing_136 rfl (lv_at hl 4 rfl) ?_
          refine wd_getR (q := 4) X hP L3 fl_X6_12 rfl dX6_readThing_137 ?_
          refine wd_getI X hP (isRiver.a0 V4) fl_X6_90 rfl dX6_readThing_140 ?_
          refine lv_iload hx hb dX6_readThing_143 (lv_at hl 0 rfl) ?_
          have g_24 := gdN hf
          have hf := gdK hf
          refine wd_iast X hP hS (isRiver.a4 V4) g_24 dX6_readThing_145 (fun H locs mm_23 emm_23 hP hS => ?_)
          have hf := vl hf emm_23
          refine lv_aload_n hx hb dX6_readThing_146 rfl (lv_at hl 4 rfl) ?_
          refine wd_getR (q := 4) X hP L3 fl_X6_12 rfl dX6_readThing_147 ?_
          refine lv_dup hx hb dX6_readThing_150 rfl ?_
          refine wd_getI X hP (isRiver.a0 V4) fl_X6_90 rfl dX6_readThing_151 ?_
          refine lv_iconst (v := 1) hx hb dX6_readThing_154 (by decide) ?_
          refine lv_iadd hx hb dX6_readThing_155 ?_
          refine wd_putI X hP hS (isRiver.a0 V4) fp_X6_90 rfl dX6_readThing_156 (fun H locs mm_25 emm_25 hP hS => ?_)
          have hf := vl hf emm_25
          refine lv_iconst (v := 1) hx hb dX6_readThing_159 (by decide) ?_
          obtain ⟨rfl, rfl⟩ := Prod.mk.inj (Option.some.inj hf)
          exact wd_zret X hP hS hr0 (by decide) dX6_readThing_160 ⟨rfl, rfl⟩
        · have hf := itT hf c_16
          refine lv_iconst (v := 0) hx hb dX6_readThing_79 (by decide) ?_
          obtain ⟨rfl, rfl⟩ := Prod.mk.inj (Option.some.inj hf)
          exact wd_zret X hP hS hr0 (by decide) dX6_readThing_80 ⟨rfl, rfl⟩
      · have hf := itT hf c_12
        refine lv_iconst (v := 0) hx hb dX6_readThing_59 (by decide) ?_
        obtain ⟨rfl, rfl⟩ := Prod.mk.inj (Option.some.inj hf)
        exact wd_zret X hP hS hr0 (by decide) dX6_readThing_60 ⟨rfl, rfl⟩
    · have hf := itT hf c_8
      refine lv_iconst (v := 0) hx hb dX6_readThing_41 (by decide) ?_
      obtain ⟨rfl, rfl⟩ := Prod.mk.inj (Option.some.inj hf)
      exact wd_zret X hP hS hr0 (by decide) dX6_readThing_42 ⟨rfl, rfl⟩
  · have hf := itT hf c_4
    refine lv_iconst (v := 0) hx hb dX6_readThing_23 (by decide) ?_
    obtain ⟨rfl, rfl⟩ := Prod.mk.inj (Option.some.inj hf)
    exact wd_zret X hP hS hr0 (by decide) dX6_readThing_24 ⟨rfl, rfl⟩

noncomputable def f_X6_readBound_j67 (mm : Mm) : Option (Int32 × Mm) :=
  bi2 (f_X10_wrong mm (mm.1 1 3) (1 : Int32)) fun r_3 mm_1 => if ¬ r_3 = 0 ∧ ¬ r_3 = 1 then none else some (r_3, mm_1)
noncomputable def f_X6_readBound (mm : Mm) : Option (Int32 × Mm) :=
  bi2 (f_X10_number mm (0 : Int32) ((mm.1 4 2) - (1 : Int32))) fun r_8 mm_6 =>
    if r_8 = (-1 : Int32) then
      some ((0 : Int32), mm_6)
    else
      bi2 (f_X10_number mm_6 (0 : Int32) ((mm_6.1 4 2) - (1 : Int32))) fun r_12 mm_10 =>
        if r_12 = (-1 : Int32) then
          some ((0 : Int32), mm_10)
        else
          if r_12 = r_8 then
            f_X6_readBound_j67 mm_10
          else
            bi1 (f_X4_areBound mm_10 10 4 r_8 r_12) fun r_16 =>
              if r_16 = 0 then
                bi2 (f_X10_number mm_10 (1 : Int32) (9 : Int32)) fun r_20 mm_18 =>
                  if r_20 = (-1 : Int32) then
                    some ((0 : Int32), mm_18)
                  else
                    bi1 (f_X4_tie mm_18 10 4 r_8 r_12 r_20) fun mm_22 => some ((1 : Int32), mm_22)
              else
                f_X6_readBound_j67 mm_10
set_option maxHeartbeats 4000000 in
set_option maxRecDepth 100000 in
theorem c_X6_readBound (l : Launch) (D : va_G) (dA : Nat → ClassId) (zz : (Nat → Nat) × (Nat → Nat)) (bs : Nat) (mm : Mm) (out : Int32) (m1 : Mm) (hf : f_X6_readBound mm = some (out, m1)) : Mw l D dA zz bs LY yX6_readBound cX6_readBound 4 (some .boolean) 2 63 [.ref (bs + 3)] mm (some (.int out)) m1 := by
  refine Mw.of (own := RX6) (by decide) rfl (Nat.le_of_ble_eq_true rfl) ?_
  intro p e s m args below meth c X hr0 hP hS ls hl
  have hx := X.1
  have hb := X.2.1
  obtain ⟨H, hH⟩ : ∃ z : Heap, z = s.heap := ⟨_, rfl⟩
  obtain ⟨locs, hL⟩ : ∃ z : List Loc, z = [] := ⟨_, rfl⟩
  rw [← hH, ← hL]
  have hS : va_S (Aq bs) s.heap H locs := by rw [hH, hL]; exact hS
  have hP : Wd D dA bs LY mm H := by rw [hH]; exact hP
  have hl : lv_has ls 4 [(0, .ref (bs + 3))] := hl
  have hJ67 : ∀ (mmJ_5 : Mm) (H : Heap) (locs : List Loc) (ls : Array Slot), f_X6_readBound_j67 mmJ_5 = some (out, m1) → Wd D dA bs LY mmJ_5 H → va_S (Aq bs) s.heap H locs → lv_has ls 4 [(0, .ref (bs + 3))] → Wz p l e s m args below meth c D dA bs (some (.int out)) m1 2 63 H locs 67 ls [] := by
    intro mmJ_5 H locs ls hf hP hS hl
    unfold f_X6_readBound_j67 at hf
    refine lv_aload_n hx hb dX6_readBound_67 rfl (lv_at hl 0 rfl) ?_
    refine wd_getR (q := 1) X hP L3 fl_X6_27 rfl dX6_readBound_68 ?_
    refine lv_aload_n hx hb dX6_readBound_71 rfl (lv_at hl 0 rfl) ?_
    refine wd_getR (q := 1) X hP L3 fl_X6_27 rfl dX6_readBound_72 ?_
    refine wd_getI X hP L1 fl_X6_68 rfl dX6_readBound_75 ?_
    refine lv_iconst (v := 1) hx hb dX6_readBound_78 (by decide) ?_
    obtain ⟨r_3, mm_1, hc_2, hf⟩ := bi2S hf
    refine wd_cv X hP hS L1 ml_X6_55 ⟨_, _, rfl⟩ (c_X10_wrong l D dA zz bs mmJ_5 (mmJ_5.1 1 3) (1 : Int32) r_3 mm_1 hc_2) rfl ⟨Nat.le_of_ble_eq_true rfl, Nat.le_of_ble_eq_true rfl⟩ hl.1 rfl (rest := []) (Nat.le_of_ble_eq_true rfl) ⟨Nat.zero_le _, Nat.zero_le _⟩ dX6_readBound_79 (fun H locs hP hS => ?_)
    refine W.eq (g2 := F0 m 82 ls [.int r_3]) rfl ?_
    have g_4 := gdN hf
    have hf := gdK hf
    obtain ⟨rfl, rfl⟩ := Prod.mk.inj (Option.some.inj hf)
    exact wd_zret X hP hS hr0 g_4 dX6_readBound_82 ⟨rfl, rfl⟩
  unfold f_X6_readBound at hf
  refine lv_aload_n hx hb dX6_readBound_0 rfl (lv_at hl 0 rfl) ?_
  refine wd_getR (q := 1) X hP L3 fl_X6_27 rfl dX6_readBound_1 ?_
  refine lv_iconst (v := 0) hx hb dX6_readBound_4 (by decide) ?_
  refine lv_aload_n hx hb dX6_readBound_5 rfl (lv_at hl 0 rfl) ?_
  refine wd_getR (q := 4) X hP L3 fl_X6_12 rfl dX6_readBound_6 ?_
  refine wd_getI X hP (isRiver.a0 V4) fl_X6_90 rfl dX6_readBound_9 ?_
  refine lv_iconst (v := 1) hx hb dX6_readBound_12 (by decide) ?_
  refine lv_isub hx hb dX6_readBound_13 ?_
  obtain ⟨r_8, mm_6, hc_7, hf⟩ := bi2S hf
  refine wd_cv X hP hS L1 ml_X6_99 ⟨_, _, rfl⟩ (c_X10_number l D dA zz bs mm (0 : Int32) ((mm.1 4 2) - (1 : Int32)) r_8 mm_6 hc_7) rfl ⟨Nat.le_of_ble_eq_true rfl, Nat.le_of_ble_eq_true rfl⟩ hl.1 rfl (rest := []) (Nat.le_of_ble_eq_true rfl) ⟨Nat.zero_le _, Nat.zero_le _⟩ dX6_readBound_14 (fun H locs hP hS => ?_)
  refine W.eq (g2 := F0 m 17 ls [.int r_8]) rfl ?_
  refine lv_istore_n (lv' := [(1, .int r_8), (0, .ref (bs + 3))]) hx hb dX6_readBound_17 rfl hl (by decide) rfl (fun ls hl => ?_)
  refine lv_iload_n hx hb dX6_readBound_18 rfl (lv_at hl 0 rfl) ?_
  refine lv_iconst (v := -1) hx hb dX6_readBound_19 (by decide) ?_
  refine lv_icmp_ne (tgt := 25) hx hb dX6_readBound_20 (by decide) (fun c_9 => ?_) (fun c_9 => ?_)
  · have hf := itF hf c_9
    refine lv_aload_n hx hb dX6_readBound_25 rfl (lv_at hl 1 rfl) ?_
    refine wd_getR (q := 1) X hP L3 fl_X6_27 rfl dX6_readBound_26 ?_
    refine lv_iconst (v := 0) hx hb dX6_readBound_29 (by decide) ?_
    refine lv_aload_n hx hb dX6_readBound_30 rfl (lv_at hl 1 rfl) ?_
    refine wd_getR (q := 4) X hP L3 fl_X6_12 rfl dX6_readBound_31 ?_
    refine wd_getI X hP (isRiver.a0 V4) fl_X6_90 rfl dX6_readBound_34 ?_
    refine lv_iconst (v := 1) hx hb dX6_readBound_37 (by decide) ?_
    refine lv_isub hx hb dX6_readBound_38 ?_
    obtain ⟨r_12, mm_10, hc_11, hf⟩ := bi2S hf
    refine wd_cv X hP hS L1 ml_X6_99 ⟨_, _, rfl⟩ (c_X10_number l D dA zz bs mm_6 (0 : Int32) ((mm_6.1 4 2) - (1 : Int32)) r_12 mm_10 hc_11) rfl ⟨Nat.le_of_ble_eq_true rfl, Nat.le_of_ble_eq_true rfl⟩ hl.1 rfl (rest := []) (Nat.le_of_ble_eq_true rfl) ⟨Nat.zero_le _, Nat.zero_le _⟩ dX6_readBound_39 (fun H locs hP hS => ?_)
    refine W.eq (g2 := F0 m 42 ls [.int r_12]) rfl ?_
    refine lv_istore_n (lv' := [(2, .int r_12), (1, .int r_8), (0, .ref (bs + 3))]) hx hb dX6_readBound_42 rfl hl (by decide) rfl (fun ls hl => ?_)
    refine lv_iload_n hx hb dX6_readBound_43 rfl (lv_at hl 0 rfl) ?_
    refine lv_iconst (v := -1) hx hb dX6_readBound_44 (by decide) ?_
    refine lv_icmp_ne (tgt := 50) hx hb dX6_readBound_45 (by decide) (fun c_13 => ?_) (fun c_13 => ?_)
    · have hf := itF hf c_13
      refine lv_iload_n hx hb dX6_readBound_50 rfl (lv_at hl 0 rfl) ?_
      refine lv_iload_n hx hb dX6_readBound_51 rfl (lv_at hl 1 rfl) ?_
      refine lv_icmp_eq (tgt := 67) hx hb dX6_readBound_52 (by decide) (fun c_14 => ?_) (fun c_14 => ?_)
      · have hf := itT hf c_14
        exact hJ67 mm_10 H locs ls hf hP hS (lv_sub hl [2] rfl)
      · have hf := itF hf c_14
        refine lv_aload_n hx hb dX6_readBound_55 rfl (lv_at hl 2 rfl) ?_
        refine wd_getR (q := 10) X hP L3 fl_X6_23 rfl dX6_readBound_56 ?_
        refine lv_iload_n hx hb dX6_readBound_59 rfl (lv_at hl 1 rfl) ?_
        refine lv_iload_n hx hb dX6_readBound_60 rfl (lv_at hl 0 rfl) ?_
        obtain ⟨r_16, hc_15, hf⟩ := bi1S hf
        refine wd_cv X hP hS (isRaft.a0 R10) ml_X6_128 ⟨_, _, rfl⟩ (c_X4_areBound l D dA zz bs mm_10 10 4 R10 r_8 r_12 r_16 hc_15) rfl ⟨Nat.le_of_ble_eq_true rfl, Nat.le_of_ble_eq_true rfl⟩ hl.1 rfl (rest := []) (Nat.le_of_ble_eq_true rfl) ⟨Nat.zero_le _, Nat.zero_le _⟩ dX6_readBound_61 (fun H locs hP hS => ?_)
        refine W.eq (g2 := F0 m 64 ls [.int r_16]) rfl ?_
        refine lv_if_eq (tgt := 83) hx hb dX6_readBound_64 (by decide) (fun c_17 => ?_) (fun c_17 => ?_)
        · have hf := itT hf c_17
          refine lv_aload_n hx hb dX6_readBound_83 rfl (lv_at hl 2 rfl) ?_
          refine wd_getR (q := 1) X hP L3 fl_X6_27 rfl dX6_readBound_84 ?_
          refine lv_iconst (v := 1) hx hb dX6_readBound_87 (by decide) ?_
          refine lv_bipush (v := 9) hx hb dX6_readBound_88 (by decide) ?_
          obtain ⟨r_20, mm_18, hc_19, hf⟩ := bi2S hf
          refine wd_cv X hP hS L1 ml_X6_99 ⟨_, _, rfl⟩ (c_X10_number l D dA zz bs mm_10 (1 : Int32) (9 : Int32) r_20 mm_18 hc_19) rfl ⟨Nat.le_of_ble_eq_true rfl, Nat.le_of_ble_eq_true rfl⟩ hl.1 rfl (rest := []) (Nat.le_of_ble_eq_true rfl) ⟨Nat.zero_le _, Nat.zero_le _⟩ dX6_readBound_90 (fun H locs hP hS => ?_)
          refine W.eq (g2 := F0 m 93 ls [.int r_20]) rfl ?_
          refine lv_istore_n (lv' := [(3, .int r_20), (2, .int r_12), (1, .int r_8), (0, .ref (bs + 3))]) hx hb dX6_readBound_93 rfl hl (by decide) rfl (fun ls hl => ?_)
          refine lv_iload_n hx hb dX6_readBound_94 rfl (lv_at hl 0 rfl) ?_
          refine lv_iconst (v := -1) hx hb dX6_readBound_95 (by decide) ?_
          refine lv_icmp_ne (tgt := 101) hx hb dX6_readBound_96 (by decide) (fun c_21 => ?_) (fun c_21 => ?_)
          · have hf := itF hf c_21
            refine lv_aload_n hx hb dX6_readBound_101 rfl (lv_at hl 3 rfl) ?_
            refine wd_getR (q := 10) X hP L3 fl_X6_23 rfl dX6_readBound_102 ?_
            refine lv_iload_n hx hb dX6_readBound_105 rfl (lv_at hl 2 rfl) ?_
            refine lv_iload_n hx hb dX6_readBound_106 rfl (lv_at hl 1 rfl) ?_
            refine lv_iload_n hx hb dX6_readBound_107 rfl (lv_at hl 0 rfl) ?_
            obtain ⟨mm_22, hc_23, hf⟩ := bi1S hf
            refine wd_cv X hP hS (isRaft.a0 R10) ml_X6_131 ⟨_, _, rfl⟩ (c_X4_tie l D dA zz bs mm_18 10 4 R10 r_8 r_12 r_20 mm_22 hc_23) rfl ⟨Nat.le_of_ble_eq_true rfl, Nat.le_of_ble_eq_true rfl⟩ hl.1 rfl (rest := []) (Nat.le_of_ble_eq_true rfl) ⟨Nat.zero_le _, Nat.zero_le _⟩ dX6_readBound_108 (fun H locs hP hS => ?_)
            refine W.eq (g2 := F0 m 111 ls []) rfl ?_
            refine lv_iconst (v := 1) hx hb dX6_readBound_111 (by decide) ?_
            obtain ⟨rfl, rfl⟩ := Prod.mk.inj (Option.some.inj hf)
            exact wd_zret X hP hS hr0 (by decide) dX6_readBound_112 ⟨rfl, rfl⟩
          · have hf := itT hf c_21
            refine lv_iconst (v := 0) hx hb dX6_readBound_99 (by decide) ?_
            obtain ⟨rfl, rfl⟩ := Prod.mk.inj (Option.some.inj hf)
            exact wd_zret X hP hS hr0 (by decide) dX6_readBound_100 ⟨rfl, rfl⟩
        · have hf := itF hf c_17
          exact hJ67 mm_10 H locs ls hf hP hS (lv_sub hl [2] rfl)
    · have hf := itT hf c_13
      refine lv_iconst (v := 0) hx hb dX6_readBound_48 (by decide) ?_
      obtain ⟨rfl, rfl⟩ := Prod.mk.inj (Option.some.inj hf)
      exact wd_zret X hP hS hr0 (by decide) dX6_readBound_49 ⟨rfl, rfl⟩
  · have hf := itT hf c_9
    refine lv_iconst (v := 0) hx hb dX6_readBound_23 (by decide) ?_
    obtain ⟨rfl, rfl⟩ := Prod.mk.inj (Option.some.inj hf)
    exact wd_zret X hP hS hr0 (by decide) dX6_readBound_24 ⟨rfl, rfl⟩

noncomputable def f_X6_readRapid (mm : Mm) : Option (Int32 × Mm) :=
  bi2 (f_X10_number mm (1 : Int32) (mm.1 4 0)) fun r_3 mm_1 =>
    if r_3 = (-1 : Int32) then
      some ((0 : Int32), mm_1)
    else
      if r_3 < 0 ∨ 100 ≤ r_3.toNatClampNeg then none else
        if (mm_1.1 9 r_3.toNatClampNeg) = 0 then
          bi2 (f_X10_number mm_1 (1 : Int32) (9 : Int32)) fun r_9 mm_7 =>
            if r_9 = (-1 : Int32) then
              some ((0 : Int32), mm_7)
            else
              if r_3 < 0 ∨ 100 ≤ r_3.toNatClampNeg then none else
                vlet (wI mm_7 9 r_3.toNatClampNeg r_9) fun mm_11 =>
                  vlet (wI mm_11 4 3 ((mm_11.1 4 3) + (1 : Int32))) fun mm_13 => some ((1 : Int32), mm_13)
        else
          bi2 (f_X10_wrong mm_1 (mm_1.1 1 3) (1 : Int32)) fun r_16 mm_14 =>
            if ¬ r_16 = 0 ∧ ¬ r_16 = 1 then none else some (r_16, mm_14)
set_option maxHeartbeats 4000000 in
set_option maxRecDepth 100000 in
theorem c_X6_readRapid (l : Launch) (D : va_G) (dA : Nat → ClassId) (zz : (Nat → Nat) × (Nat → Nat)) (bs : Nat) (mm : Mm) (out : Int32) (m1 : Mm) (hf : f_X6_readRapid mm = some (out, m1)) : Mw l D dA zz bs LY yX6_readRapid cX6_readRapid 3 (some .boolean) 2 45 [.ref (bs + 3)] mm (some (.int out)) m1 := by
  refine Mw.of (own := RX6) (by decide) rfl (Nat.le_of_ble_eq_true rfl) ?_
  intro p e s m args below meth c X hr0 hP hS ls hl
  have hx := X.1
  have hb := X.2.1
  obtain ⟨H, hH⟩ : ∃ z : Heap, z = s.heap := ⟨_, rfl⟩
  obtain ⟨locs, hL⟩ : ∃ z : List Loc, z = [] := ⟨_, rfl⟩
  rw [← hH, ← hL]
  have hS : va_S (Aq bs) s.heap H locs := by rw [hH, hL]; exact hS
  have hP : Wd D dA bs LY mm H := by rw [hH]; exact hP
  have hl : lv_has ls 3 [(0, .ref (bs + 3))] := hl
  unfold f_X6_readRapid at hf
  refine lv_aload_n hx hb dX6_readRapid_0 rfl (lv_at hl 0 rfl) ?_
  refine wd_getR (q := 1) X hP L3 fl_X6_27 rfl dX6_readRapid_1 ?_
  refine lv_iconst (v := 1) hx hb dX6_readRapid_4 (by decide) ?_
  refine lv_aload_n hx hb dX6_readRapid_5 rfl (lv_at hl 0 rfl) ?_
  refine wd_getR (q := 4) X hP L3 fl_X6_12 rfl dX6_readRapid_6 ?_
  refine wd_getI X hP (isRiver.a0 V4) fl_X6_103 rfl dX6_readRapid_9 ?_
  obtain ⟨r_3, mm_1, hc_2, hf⟩ := bi2S hf
  refine wd_cv X hP hS L1 ml_X6_99 ⟨_, _, rfl⟩ (c_X10_number l D dA zz bs mm (1 : Int32) (mm.1 4 0) r_3 mm_1 hc_2) rfl ⟨Nat.le_of_ble_eq_true rfl, Nat.le_of_ble_eq_true rfl⟩ hl.1 rfl (rest := []) (Nat.le_of_ble_eq_true rfl) ⟨Nat.zero_le _, Nat.zero_le _⟩ dX6_readRapid_12 (fun H locs hP hS => ?_)
  refine W.eq (g2 := F0 m 15 ls [.int r_3]) rfl ?_
  refine lv_istore_n (lv' := [(1, .int r_3), (0, .ref (bs + 3))]) hx hb dX6_readRapid_15 rfl hl (by decide) rfl (fun ls hl => ?_)
  refine lv_iload_n hx hb dX6_readRapid_16 rfl (lv_at hl 0 rfl) ?_
  refine lv_iconst (v := -1) hx hb dX6_readRapid_17 (by decide) ?_
  refine lv_icmp_ne (tgt := 23) hx hb dX6_readRapid_18 (by decide) (fun c_4 => ?_) (fun c_4 => ?_)
  · have hf := itF hf c_4
    refine lv_aload_n hx hb dX6_readRapid_23 rfl (lv_at hl 1 rfl) ?_
    refine wd_getR (q := 4) X hP L3 fl_X6_12 rfl dX6_readRapid_24 ?_
    refine wd_getR (q := 9) X hP (isRiver.a0 V4) fl_X6_135 rfl dX6_readRapid_27 ?_
    refine lv_iload_n hx hb dX6_readRapid_30 rfl (lv_at hl 0 rfl) ?_
    have g_5 := gdN hf
    have hf := gdK hf
    refine wd_iald X hP (isRiver.a5 V4) g_5 dX6_readRapid_31 ?_
    refine lv_if_eq (tgt := 51) hx hb dX6_readRapid_32 (by decide) (fun c_6 => ?_) (fun c_6 => ?_)
    · have hf := itT hf c_6
      refine lv_aload_n hx hb dX6_readRapid_51 rfl (lv_at hl 1 rfl) ?_
      refine wd_getR (q := 1) X hP L3 fl_X6_27 rfl dX6_readRapid_52 ?_
      refine lv_iconst (v := 1) hx hb dX6_readRapid_55 (by decide) ?_
      refine lv_bipush (v := 9) hx hb dX6_readRapid_56 (by decide) ?_
      obtain ⟨r_9, mm_7, hc_8, hf⟩ := bi2S hf
      refine wd_cv X hP hS L1 ml_X6_99 ⟨_, _, rfl⟩ (c_X10_number l D dA zz bs mm_1 (1 : Int32) (9 : Int32) r_9 mm_7 hc_8) rfl ⟨Nat.le_of_ble_eq_true rfl, Nat.le_of_ble_eq_true rfl⟩ hl.1 rfl (rest := []) (Nat.le_of_ble_eq_true rfl) ⟨Nat.zero_le _, Nat.zero_le _⟩ dX6_readRapid_58 (fun H locs hP hS => ?_)
      refine W.eq (g2 := F0 m 61 ls [.int r_9]) rfl ?_
      refine lv_istore_n (lv' := [(2, .int r_9), (1, .int r_3), (0, .ref (bs + 3))]) hx hb dX6_readRapid_61 rfl hl (by decide) rfl (fun ls hl => ?_)
      refine lv_iload_n hx hb dX6_readRapid_62 rfl (lv_at hl 0 rfl) ?_
      refine lv_iconst (v := -1) hx hb dX6_readRapid_63 (by decide) ?_
      refine lv_icmp_ne (tgt := 69) hx hb dX6_readRapid_64 (by decide) (fun c_10 => ?_) (fun c_10 => ?_)
      · have hf := itF hf c_10
        refine lv_aload_n hx hb dX6_readRapid_69 rfl (lv_at hl 2 rfl) ?_
        refine wd_getR (q := 4) X hP L3 fl_X6_12 rfl dX6_readRapid_70 ?_
        refine wd_getR (q := 9) X hP (isRiver.a0 V4) fl_X6_135 rfl dX6_readRapid_73 ?_
        refine lv_iload_n hx hb dX6_readRapid_76 rfl (lv_at hl 1 rfl) ?_
        refine lv_iload_n hx hb dX6_readRapid_77 rfl (lv_at hl 0 rfl) ?_
        have g_12 := gdN hf
        have hf := gdK hf
        refine wd_iast X hP hS (isRiver.a5 V4) g_12 dX6_readRapid_78 (fun H locs mm_11 emm_11 hP hS => ?_)
        have hf := vl hf emm_11
        refine lv_aload_n hx hb dX6_readRapid_79 rfl (lv_at hl 2 rfl) ?_
        refine wd_getR (q := 4) X hP L3 fl_X6_12 rfl dX6_readRapid_80 ?_
        refine lv_dup hx hb dX6_readRapid_83 rfl ?_
        refine wd_getI X hP (isRiver.a0 V4) fl_X6_96 rfl dX6_readRapid_84 ?_
        refine lv_iconst (v := 1) hx hb dX6_readRapid_87 (by decide) ?_
        refine lv_iadd hx hb dX6_readRapid_88 ?_
        refine wd_putI X hP hS (isRiver.a0 V4) fp_X6_96 rfl dX6_readRapid_89 (fun H locs mm_13 emm_13 hP hS => ?_)
        have hf := vl hf emm_13
        refine lv_iconst (v := 1) hx hb dX6_readRapid_92 (by decide) ?_
        obtain ⟨rfl, rfl⟩ := Prod.mk.inj (Option.some.inj hf)
        exact wd_zret X hP hS hr0 (by decide) dX6_readRapid_93 ⟨rfl, rfl⟩
      · have hf := itT hf c_10
        refine lv_iconst (v := 0) hx hb dX6_readRapid_67 (by decide) ?_
        obtain ⟨rfl, rfl⟩ := Prod.mk.inj (Option.some.inj hf)
        exact wd_zret X hP hS hr0 (by decide) dX6_readRapid_68 ⟨rfl, rfl⟩
    · have hf := itF hf c_6
      refine lv_aload_n hx hb dX6_readRapid_35 rfl (lv_at hl 1 rfl) ?_
      refine wd_getR (q := 1) X hP L3 fl_X6_27 rfl dX6_readRapid_36 ?_
      refine lv_aload_n hx hb dX6_readRapid_39 rfl (lv_at hl 1 rfl) ?_
      refine wd_getR (q := 1) X hP L3 fl_X6_27 rfl dX6_readRapid_40 ?_
      refine wd_getI X hP L1 fl_X6_68 rfl dX6_readRapid_43 ?_
      refine lv_iconst (v := 1) hx hb dX6_readRapid_46 (by decide) ?_
      obtain ⟨r_16, mm_14, hc_15, hf⟩ := bi2S hf
      refine wd_cv X hP hS L1 ml_X6_55 ⟨_, _, rfl⟩ (c_X10_wrong l D dA zz bs mm_1 (mm_1.1 1 3) (1 : Int32) r_16 mm_14 hc_15) rfl ⟨Nat.le_of_ble_eq_true rfl, Nat.le_of_ble_eq_true rfl⟩ hl.1 rfl (rest := []) (Nat.le_of_ble_eq_true rfl) ⟨Nat.zero_le _, Nat.zero_le _⟩ dX6_readRapid_47 (fun H locs hP hS => ?_)
      refine W.eq (g2 := F0 m 50 ls [.int r_16]) rfl ?_
      have g_17 := gdN hf
      have hf := gdK hf
      obtain ⟨rfl, rfl⟩ := Prod.mk.inj (Option.some.inj hf)
      exact wd_zret X hP hS hr0 g_17 dX6_readRapid_50 ⟨rfl, rfl⟩
  · have hf := itT hf c_4
    refine lv_iconst (v := 0) hx hb dX6_readRapid_21 (by decide) ?_
    obtain ⟨rfl, rfl⟩ := Prod.mk.inj (Option.some.inj hf)
    exact wd_zret X hP hS hr0 (by decide) dX6_readRapid_22 ⟨rfl, rfl⟩

noncomputable def f_X6_readMilesAndStore (mm : Mm) : Option (Int32 × Mm) :=
  bi2 (f_X10_number mm (2 : Int32) (99 : Int32)) fun r_3 mm_1 =>
    if r_3 = (-1 : Int32) then
      some ((0 : Int32), mm_1)
    else
      bi2 (f_X10_number mm_1 (0 : Int32) (99 : Int32)) fun r_7 mm_5 =>
        if r_7 = (-1 : Int32) then
          some ((0 : Int32), mm_5)
        else
          vlet (wI mm_5 4 0 r_3) fun mm_9 =>
            vlet (wI mm_9 10 2 r_7) fun mm_10 => some ((1 : Int32), mm_10)
set_option maxHeartbeats 4000000 in
set_option maxRecDepth 100000 in
theorem c_X6_readMilesAndStore (l : Launch) (D : va_G) (dA : Nat → ClassId) (zz : (Nat → Nat) × (Nat → Nat)) (bs : Nat) (mm : Mm) (out : Int32) (m1 : Mm) (hf : f_X6_readMilesAndStore mm = some (out, m1)) : Mw l D dA zz bs LY yX6_readMilesAndStore cX6_readMilesAndStore 3 (some .boolean) 2 45 [.ref (bs + 3)] mm (some (.int out)) m1 := by
  refine Mw.of (own := RX6) (by decide) rfl (Nat.le_of_ble_eq_true rfl) ?_
  intro p e s m args below meth c X hr0 hP hS ls hl
  have hx := X.1
  have hb := X.2.1
  obtain ⟨H, hH⟩ : ∃ z : Heap, z = s.heap := ⟨_, rfl⟩
  obtain ⟨locs, hL⟩ : ∃ z : List Loc, z = [] := ⟨_, rfl⟩
  rw [← hH, ← hL]
  have hS : va_S (Aq bs) s.heap H locs := by rw [hH, hL]; exact hS
  have hP : Wd D dA bs LY mm H := by rw [hH]; exact hP
  have hl : lv_has ls 3 [(0, .ref (bs + 3))] := hl
  unfold f_X6_readMilesAndStore at hf
  refine lv_aload_n hx hb dX6_readMilesAndStore_0 rfl (lv_at hl 0 rfl) ?_
  refine wd_getR (q := 1) X hP L3 fl_X6_27 rfl dX6_readMilesAndStore_1 ?_
  refine lv_iconst (v := 2) hx hb dX6_readMilesAndStore_4 (by decide) ?_
  refine lv_bipush (v := 99) hx hb dX6_readMilesAndStore_5 (by decide) ?_
  obtain ⟨r_3, mm_1, hc_2, hf⟩ := bi2S hf
  refine wd_cv X hP hS L1 ml_X6_99 ⟨_, _, rfl⟩ (c_X10_number l D dA zz bs mm (2 : Int32) (99 : Int32) r_3 mm_1 hc_2) rfl ⟨Nat.le_of_ble_eq_true rfl, Nat.le_of_ble_eq_true rfl⟩ hl.1 rfl (rest := []) (Nat.le_of_ble_eq_true rfl) ⟨Nat.zero_le _, Nat.zero_le _⟩ dX6_readMilesAndStore_7 (fun H locs hP hS => ?_)
  refine W.eq (g2 := F0 m 10 ls [.int r_3]) rfl ?_
  refine lv_istore_n (lv' := [(1, .int r_3), (0, .ref (bs + 3))]) hx hb dX6_readMilesAndStore_10 rfl hl (by decide) rfl (fun ls hl => ?_)
  refine lv_iload_n hx hb dX6_readMilesAndStore_11 rfl (lv_at hl 0 rfl) ?_
  refine lv_iconst (v := -1) hx hb dX6_readMilesAndStore_12 (by decide) ?_
  refine lv_icmp_ne (tgt := 18) hx hb dX6_readMilesAndStore_13 (by decide) (fun c_4 => ?_) (fun c_4 => ?_)
  · have hf := itF hf c_4
    refine lv_aload_n hx hb dX6_readMilesAndStore_18 rfl (lv_at hl 1 rfl) ?_
    refine wd_getR (q := 1) X hP L3 fl_X6_27 rfl dX6_readMilesAndStore_19 ?_
    refine lv_iconst (v := 0) hx hb dX6_readMilesAndStore_22 (by decide) ?_
    refine lv_bipush (v := 99) hx hb dX6_readMilesAndStore_23 (by decide) ?_
    obtain ⟨r_7, mm_5, hc_6, hf⟩ := bi2S hf
    refine wd_cv X hP hS L1 ml_X6_99 ⟨_, _, rfl⟩ (c_X10_number l D dA zz bs mm_1 (0 : Int32) (99 : Int32) r_7 mm_5 hc_6) rfl ⟨Nat.le_of_ble_eq_true rfl, Nat.le_of_ble_eq_true rfl⟩ hl.1 rfl (rest := []) (Nat.le_of_ble_eq_true rfl) ⟨Nat.zero_le _, Nat.zero_le _⟩ dX6_readMilesAndStore_25 (fun H locs hP hS => ?_)
    refine W.eq (g2 := F0 m 28 ls [.int r_7]) rfl ?_
    refine lv_istore_n (lv' := [(2, .int r_7), (1, .int r_3), (0, .ref (bs + 3))]) hx hb dX6_readMilesAndStore_28 rfl hl (by decide) rfl (fun ls hl => ?_)
    refine lv_iload_n hx hb dX6_readMilesAndStore_29 rfl (lv_at hl 0 rfl) ?_
    refine lv_iconst (v := -1) hx hb dX6_readMilesAndStore_30 (by decide) ?_
    refine lv_icmp_ne (tgt := 36) hx hb dX6_readMilesAndStore_31 (by decide) (fun c_8 => ?_) (fun c_8 => ?_)
    · have hf := itF hf c_8
      refine lv_aload_n hx hb dX6_readMilesAndStore_36 rfl (lv_at hl 2 rfl) ?_
      refine wd_getR (q := 4) X hP L3 fl_X6_12 rfl dX6_readMilesAndStore_37 ?_
      refine lv_iload_n hx hb dX6_readMilesAndStore_40 rfl (lv_at hl 1 rfl) ?_
      refine wd_putI X hP hS (isRiver.a0 V4) fp_X6_103 rfl dX6_readMilesAndStore_41 (fun H locs mm_9 emm_9 hP hS => ?_)
      have hf := vl hf emm_9
      refine lv_aload_n hx hb dX6_readMilesAndStore_44 rfl (lv_at hl 2 rfl) ?_
      refine wd_getR (q := 10) X hP L3 fl_X6_23 rfl dX6_readMilesAndStore_45 ?_
      refine lv_iload_n hx hb dX6_readMilesAndStore_48 rfl (lv_at hl 0 rfl) ?_
      refine wd_putI X hP hS (isRaft.a0 R10) fp_X6_106 rfl dX6_readMilesAndStore_49 (fun H locs mm_10 emm_10 hP hS => ?_)
      have hf := vl hf emm_10
      refine lv_iconst (v := 1) hx hb dX6_readMilesAndStore_52 (by decide) ?_
      obtain ⟨rfl, rfl⟩ := Prod.mk.inj (Option.some.inj hf)
      exact wd_zret X hP hS hr0 (by decide) dX6_readMilesAndStore_53 ⟨rfl, rfl⟩
    · have hf := itT hf c_8
      refine lv_iconst (v := 0) hx hb dX6_readMilesAndStore_34 (by decide) ?_
      obtain ⟨rfl, rfl⟩ := Prod.mk.inj (Option.some.inj hf)
      exact wd_zret X hP hS hr0 (by decide) dX6_readMilesAndStore_35 ⟨rfl, rfl⟩
  · have hf := itT hf c_4
    refine lv_iconst (v := 0) hx hb dX6_readMilesAndStore_16 (by decide) ?_
    obtain ⟨rfl, rfl⟩ := Prod.mk.inj (Option.some.inj hf)
    exact wd_zret X hP hS hr0 (by decide) dX6_readMilesAndStore_17 ⟨rfl, rfl⟩

noncomputable def f_X6_readClause_j76 (mm : Mm) : Option (Int32 × Mm) :=
  bi2 (f_X10_wrong mm (mm.1 1 3) (4 : Int32)) fun r_3 mm_1 => if ¬ r_3 = 0 ∧ ¬ r_3 = 1 then none else some (r_3, mm_1)
noncomputable def f_X6_readClause_j57 (mm : Mm) (y1 : Int32) (y2 : Int32) (z0 : Int32) : Option (Int32 × Mm) :=
  if y1 = (40 : Int32) then
    f_X6_readClause_j76 mm
  else
    if z0 = 0 then
      if (f_X6_isFull mm y2) = 0 then
        if y2 = 1 then
          bi2 (f_X6_readOwner mm) fun r_12 mm_10 =>
            if ¬ r_12 = 0 ∧ ¬ r_12 = 1 then none else some (r_12, mm_10)
        else if y2 = 2 then
          bi2 (f_X6_readThing mm) fun r_17 mm_15 =>
            if ¬ r_17 = 0 ∧ ¬ r_17 = 1 then none else some (r_17, mm_15)
        else if y2 = 3 then
          bi2 (f_X6_readBound mm) fun r_22 mm_20 =>
            if ¬ r_22 = 0 ∧ ¬ r_22 = 1 then none else some (r_22, mm_20)
        else if y2 = 4 then
          bi2 (f_X6_readRapid mm) fun r_27 mm_25 =>
            if ¬ r_27 = 0 ∧ ¬ r_27 = 1 then none else some (r_27, mm_25)
        else
          bi2 (f_X6_readMilesAndStore mm) fun r_31 mm_29 =>
            if ¬ r_31 = 0 ∧ ¬ r_31 = 1 then none else some (r_31, mm_29)
      else
        f_X6_readClause_j76 mm
    else
      f_X6_readClause_j76 mm
noncomputable def f_X6_readClause_j49 (mm : Mm) (y1 : Int32) (y2 : Int32) (z0 : Int32) (z1 : Int32) : Option (Int32 × Mm) :=
  if z1 = z0 then
    f_X6_readClause_j57 mm y1 y2 (0 : Int32)
  else
    f_X6_readClause_j57 mm y1 y2 (1 : Int32)
noncomputable def f_X6_readClause_j40 (mm : Mm) (y1 : Int32) (y2 : Int32) (z0 : Int32) : Option (Int32 × Mm) :=
  if y1 = 0 then
    f_X6_readClause_j49 mm y1 y2 (1 : Int32) z0
  else
    f_X6_readClause_j49 mm y1 y2 (0 : Int32) z0
noncomputable def f_X6_readClause (mm : Mm) (x1 : Int32) : Option (Int32 × Mm) :=
  bi2 (f_X10_wordAmong mm 0) fun r_40 mm_38 =>
    if r_40 = (-1 : Int32) then
      bi2 (f_X10_wrong mm_38 (mm_38.1 1 2) (0 : Int32)) fun r_45 mm_43 =>
        if ¬ r_45 = 0 ∧ ¬ r_45 = 1 then none else some (r_45, mm_43)
    else
      if r_40 = 0 then
        f_X6_readClause_j40 mm_38 x1 r_40 (1 : Int32)
      else
        f_X6_readClause_j40 mm_38 x1 r_40 (0 : Int32)
set_option maxHeartbeats 4000000 in
set_option maxRecDepth 100000 in
theorem c_X6_readClause (l : Launch) (D : va_G) (dA : Nat → ClassId) (zz : (Nat → Nat) × (Nat → Nat)) (bs : Nat) (mm : Mm) (x1 : Int32) (out : Int32) (m1 : Mm) (hf : f_X6_readClause mm x1 = some (out, m1)) : Mw l D dA zz bs LY yX6_readClause cX6_readClause 4 (some .boolean) 6 135 [.ref (bs + 3), .int x1] mm (some (.int out)) m1 := by
  refine Mw.of (own := RX6) (by decide) rfl (Nat.le_of_ble_eq_true rfl) ?_
  intro p e s m args below meth c X hr0 hP hS ls hl
  have hx := X.1
  have hb := X.2.1
  obtain ⟨H, hH⟩ : ∃ z : Heap, z = s.heap := ⟨_, rfl⟩
  obtain ⟨locs, hL⟩ : ∃ z : List Loc, z = [] := ⟨_, rfl⟩
  rw [← hH, ← hL]
  have hS : va_S (Aq bs) s.heap H locs := by rw [hH, hL]; exact hS
  have hP : Wd D dA bs LY mm H := by rw [hH]; exact hP
  have hl : lv_has ls 4 [(0, .ref (bs + 3)), (1, .int x1)] := hl
  have hJ76 : ∀ (mmJ_5 : Mm) (H : Heap) (locs : List Loc) (ls : Array Slot), f_X6_readClause_j76 mmJ_5 = some (out, m1) → Wd D dA bs LY mmJ_5 H → va_S (Aq bs) s.heap H locs → lv_has ls 4 [(0, .ref (bs + 3))] → Wz p l e s m args below meth c D dA bs (some (.int out)) m1 6 135 H locs 76 ls [] := by
    intro mmJ_5 H locs ls hf hP hS hl
    unfold f_X6_readClause_j76 at hf
    refine lv_aload_n hx hb dX6_readClause_76 rfl (lv_at hl 0 rfl) ?_
    refine wd_getR (q := 1) X hP L3 fl_X6_27 rfl dX6_readClause_77 ?_
    refine lv_aload_n hx hb dX6_readClause_80 rfl (lv_at hl 0 rfl) ?_
    refine wd_getR (q := 1) X hP L3 fl_X6_27 rfl dX6_readClause_81 ?_
    refine wd_getI X hP L1 fl_X6_68 rfl dX6_readClause_84 ?_
    refine lv_iconst (v := 4) hx hb dX6_readClause_87 (by decide) ?_
    obtain ⟨r_3, mm_1, hc_2, hf⟩ := bi2S hf
    refine wd_cv X hP hS L1 ml_X6_55 ⟨_, _, rfl⟩ (c_X10_wrong l D dA zz bs mmJ_5 (mmJ_5.1 1 3) (4 : Int32) r_3 mm_1 hc_2) rfl ⟨Nat.le_of_ble_eq_true rfl, Nat.le_of_ble_eq_true rfl⟩ hl.1 rfl (rest := []) (Nat.le_of_ble_eq_true rfl) ⟨Nat.zero_le _, Nat.zero_le _⟩ dX6_readClause_88 (fun H locs hP hS => ?_)
    refine W.eq (g2 := F0 m 91 ls [.int r_3]) rfl ?_
    have g_4 := gdN hf
    have hf := gdK hf
    obtain ⟨rfl, rfl⟩ := Prod.mk.inj (Option.some.inj hf)
    exact wd_zret X hP hS hr0 g_4 dX6_readClause_91 ⟨rfl, rfl⟩
  have hJ57 : ∀ (mmJ_33 : Mm) (y1J_33 : Int32) (y2J_33 : Int32) (z0J_33 : Int32) (H : Heap) (locs : List Loc) (ls : Array Slot), f_X6_readClause_j57 mmJ_33 y1J_33 y2J_33 z0J_33 = some (out, m1) → Wd D dA bs LY mmJ_33 H → va_S (Aq bs) s.heap H locs → lv_has ls 4 [(0, .ref (bs + 3)), (1, .int y1J_33), (2, .int y2J_33)] → Wz p l e s m args below meth c D dA bs (some (.int out)) m1 6 135 H locs 57 ls [.int z0J_33] := by
    intro mmJ_33 y1J_33 y2J_33 z0J_33 H locs ls hf hP hS hl
    unfold f_X6_readClause_j57 at hf
    refine lv_istore_n (lv' := [(3, .int z0J_33), (0, .ref (bs + 3)), (1, .int y1J_33), (2, .int y2J_33)]) hx hb dX6_readClause_57 rfl hl (by decide) rfl (fun ls hl => ?_)
    refine lv_iload_n hx hb dX6_readClause_58 rfl (lv_at hl 2 rfl) ?_
    refine lv_bipush (v := 40) hx hb dX6_readClause_59 (by decide) ?_
    refine lv_icmp_eq (tgt := 76) hx hb dX6_readClause_61 (by decide) (fun c_6 => ?_) (fun c_6 => ?_)
    · have hf := itT hf c_6
      exact hJ76 mmJ_33 H locs ls hf hP hS (lv_sub hl [1] rfl)
    · have hf := itF hf c_6
      refine lv_iload_n hx hb dX6_readClause_64 rfl (lv_at hl 0 rfl) ?_
      refine lv_if_ne (tgt := 76) hx hb dX6_readClause_65 (by decide) (fun c_7 => ?_) (fun c_7 => ?_)
      · have hf := itF hf c_7
        exact hJ76 mmJ_33 H locs ls hf hP hS (lv_sub hl [1] rfl)
      · have hf := itT hf c_7
        refine lv_aload_n hx hb dX6_readClause_68 rfl (lv_at hl 1 rfl) ?_
        refine lv_iload_n hx hb dX6_readClause_69 rfl (lv_at hl 3 rfl) ?_
        refine wd_cv X hP hS L3 ml_X6_65 ⟨_, _, rfl⟩ (c_X6_isFull l D dA zz bs mmJ_33 y2J_33 (f_X6_isFull mmJ_33 y2J_33) rfl) rfl ⟨Nat.le_of_ble_eq_true rfl, Nat.le_of_ble_eq_true rfl⟩ hl.1 rfl (rest := []) (Nat.le_of_ble_eq_true rfl) ⟨Nat.zero_le _, Nat.zero_le _⟩ dX6_readClause_70 (fun H locs hP hS => ?_)
        refine W.eq (g2 := F0 m 73 ls [.int (f_X6_isFull mmJ_33 y2J_33)]) rfl ?_
        refine lv_if_eq (tgt := 92) hx hb dX6_readClause_73 (by decide) (fun c_8 => ?_) (fun c_8 => ?_)
        · have hf := itT hf c_8
          refine lv_iload_n hx hb dX6_readClause_92 rfl (lv_at hl 3 rfl) ?_
          by_cases c_9 : y2J_33 = 1
          · have hf := itT hf c_9
            refine lv_tableIn (tgt := 124) (off := 31) hx hb dX6_readClause_93 (by rw [c_9]; decide) (by rw [c_9]; decide) (by rw [c_9]; decide) (by decide) ?_
            refine lv_aload_n hx hb dX6_readClause_124 rfl (lv_at hl 1 rfl) ?_
            obtain ⟨r_12, mm_10, hc_11, hf⟩ := bi2S hf
            refine wd_cv X hP hS L3 ml_X6_71 ⟨_, _, rfl⟩ (c_X6_readOwner l D dA zz bs mmJ_33 r_12 mm_10 hc_11) rfl ⟨Nat.le_of_ble_eq_true rfl, Nat.le_of_ble_eq_true rfl⟩ hl.1 rfl (rest := []) (Nat.le_of_ble_eq_true rfl) ⟨Nat.zero_le _, Nat.zero_le _⟩ dX6_readClause_125 (fun H locs hP hS => ?_)
            refine W.eq (g2 := F0 m 128 ls [.int r_12]) rfl ?_
            have g_13 := gdN hf
            have hf := gdK hf
            obtain ⟨rfl, rfl⟩ := Prod.mk.inj (Option.some.inj hf)
            exact wd_zret X hP hS hr0 g_13 dX6_readClause_128 ⟨rfl, rfl⟩
          · have hf := itF hf c_9
            by_cases c_14 : y2J_33 = 2
            · have hf := itT hf c_14
              refine lv_tableIn (tgt := 129) (off := 36) hx hb dX6_readClause_93 (by rw [c_14]; decide) (by rw [c_14]; decide) (by rw [c_14]; decide) (by decide) ?_
              refine lv_aload_n hx hb dX6_readClause_129 rfl (lv_at hl 1 rfl) ?_
              obtain ⟨r_17, mm_15, hc_16, hf⟩ := bi2S hf
              refine wd_cv X hP hS L3 ml_X6_75 ⟨_, _, rfl⟩ (c_X6_readThing l D dA zz bs mmJ_33 r_17 mm_15 hc_16) rfl ⟨Nat.le_of_ble_eq_true rfl, Nat.le_of_ble_eq_true rfl⟩ hl.1 rfl (rest := []) (Nat.le_of_ble_eq_true rfl) ⟨Nat.zero_le _, Nat.zero_le _⟩ dX6_readClause_130 (fun H locs hP hS => ?_)
              refine W.eq (g2 := F0 m 133 ls [.int r_17]) rfl ?_
              have g_18 := gdN hf
              have hf := gdK hf
              obtain ⟨rfl, rfl⟩ := Prod.mk.inj (Option.some.inj hf)
              exact wd_zret X hP hS hr0 g_18 dX6_readClause_133 ⟨rfl, rfl⟩
            · have hf := itF hf c_14
              by_cases c_19 : y2J_33 = 3
              · have hf := itT hf c_19
                refine lv_tableIn (tgt := 134) (off := 41) hx hb dX6_readClause_93 (by rw [c_19]; decide) (by rw [c_19]; decide) (by rw [c_19]; decide) (by decide) ?_
                refine lv_aload_n hx hb dX6_readClause_134 rfl (lv_at hl 1 rfl) ?_
                obtain ⟨r_22, mm_20, hc_21, hf⟩ := bi2S hf
                refine wd_cv X hP hS L3 ml_X6_78 ⟨_, _, rfl⟩ (c_X6_readBound l D dA zz bs mmJ_33 r_22 mm_20 hc_21) rfl ⟨Nat.le_of_ble_eq_true rfl, Nat.le_of_ble_eq_true rfl⟩ hl.1 rfl (rest := []) (Nat.le_of_ble_eq_true rfl) ⟨Nat.zero_le _, Nat.zero_le _⟩ dX6_readClause_135 (fun H locs hP hS => ?_)
                refine W.eq (g2 := F0 m 138 ls [.int r_22]) rfl ?_
                have g_23 := gdN hf
                have hf := gdK hf
                obtain ⟨rfl, rfl⟩ := Prod.mk.inj (Option.some.inj hf)
                exact wd_zret X hP hS hr0 g_23 dX6_readClause_138 ⟨rfl, rfl⟩
              · have hf := itF hf c_19
                by_cases c_24 : y2J_33 = 4
                · have hf := itT hf c_24
                  refine lv_tableIn (tgt := 139) (off := 46) hx hb dX6_readClause_93 (by rw [c_24]; decide) (by rw [c_24]; decide) (by rw [c_24]; decide) (by decide) ?_
                  refine lv_aload_n hx hb dX6_readClause_139 rfl (lv_at hl 1 rfl) ?_
                  obtain ⟨r_27, mm_25, hc_26, hf⟩ := bi2S hf
                  refine wd_cv X hP hS L3 ml_X6_81 ⟨_, _, rfl⟩ (c_X6_readRapid l D dA zz bs mmJ_33 r_27 mm_25 hc_26) rfl ⟨Nat.le_of_ble_eq_true rfl, Nat.le_of_ble_eq_true rfl⟩ hl.1 rfl (rest := []) (Nat.le_of_ble_eq_true rfl) ⟨Nat.zero_le _, Nat.zero_le _⟩ dX6_readClause_140 (fun H locs hP hS => ?_)
                  refine W.eq (g2 := F0 m 143 ls [.int r_27]) rfl ?_
                  have g_28 := gdN hf
                  have hf := gdK hf
                  obtain ⟨rfl, rfl⟩ := Prod.mk.inj (Option.some.inj hf)
                  exact wd_zret X hP hS hr0 g_28 dX6_readClause_143 ⟨rfl, rfl⟩
                · have hf := itF hf c_24
                  refine lv_tableOut (tgt := 144) hx hb dX6_readClause_93 (tb_out1_4 c_9 c_14 c_19 c_24) (by decide) ?_
                  refine lv_aload_n hx hb dX6_readClause_144 rfl (lv_at hl 1 rfl) ?_
                  obtain ⟨r_31, mm_29, hc_30, hf⟩ := bi2S hf
                  refine wd_cv X hP hS L3 ml_X6_84 ⟨_, _, rfl⟩ (c_X6_readMilesAndStore l D dA zz bs mmJ_33 r_31 mm_29 hc_30) rfl ⟨Nat.le_of_ble_eq_true rfl, Nat.le_of_ble_eq_true rfl⟩ hl.1 rfl (rest := []) (Nat.le_of_ble_eq_true rfl) ⟨Nat.zero_le _, Nat.zero_le _⟩ dX6_readClause_145 (fun H locs hP hS => ?_)
                  refine W.eq (g2 := F0 m 148 ls [.int r_31]) rfl ?_
                  have g_32 := gdN hf
                  have hf := gdK hf
                  obtain ⟨rfl, rfl⟩ := Prod.mk.inj (Option.some.inj hf)
                  exact wd_zret X hP hS hr0 g_32 dX6_readClause_148 ⟨rfl, rfl⟩
        · have hf := itF hf c_8
          exact hJ76 mmJ_33 H locs ls hf hP hS (lv_sub hl [1] rfl)
  have hJ49 : ∀ (mmJ_35 : Mm) (y1J_35 : Int32) (y2J_35 : Int32) (z0J_35 : Int32) (z1J_35 : Int32) (H : Heap) (locs : List Loc) (ls : Array Slot), f_X6_readClause_j49 mmJ_35 y1J_35 y2J_35 z0J_35 z1J_35 = some (out, m1) → Wd D dA bs LY mmJ_35 H → va_S (Aq bs) s.heap H locs → lv_has ls 4 [(0, .ref (bs + 3)), (1, .int y1J_35), (2, .int y2J_35)] → Wz p l e s m args below meth c D dA bs (some (.int out)) m1 6 135 H locs 49 ls [.int z0J_35, .int z1J_35] := by
    intro mmJ_35 y1J_35 y2J_35 z0J_35 z1J_35 H locs ls hf hP hS hl
    unfold f_X6_readClause_j49 at hf
    refine lv_icmp_eq (tgt := 56) hx hb dX6_readClause_49 (by decide) (fun c_34 => ?_) (fun c_34 => ?_)
    · have hf := itT hf c_34
      refine lv_iconst (v := 0) hx hb dX6_readClause_56 (by decide) ?_
      exact hJ57 mmJ_35 y1J_35 y2J_35 (0 : Int32) H locs ls hf hP hS (lv_sub hl [0, 1, 2] rfl)
    · have hf := itF hf c_34
      refine lv_iconst (v := 1) hx hb dX6_readClause_52 (by decide) ?_
      refine lv_goto (tgt := 57) hx hb dX6_readClause_53 (by decide) ?_
      exact hJ57 mmJ_35 y1J_35 y2J_35 (1 : Int32) H locs ls hf hP hS (lv_sub hl [0, 1, 2] rfl)
  have hJ40 : ∀ (mmJ_37 : Mm) (y1J_37 : Int32) (y2J_37 : Int32) (z0J_37 : Int32) (H : Heap) (locs : List Loc) (ls : Array Slot), f_X6_readClause_j40 mmJ_37 y1J_37 y2J_37 z0J_37 = some (out, m1) → Wd D dA bs LY mmJ_37 H → va_S (Aq bs) s.heap H locs → lv_has ls 4 [(0, .ref (bs + 3)), (1, .int y1J_37), (2, .int y2J_37)] → Wz p l e s m args below meth c D dA bs (some (.int out)) m1 6 135 H locs 40 ls [.int z0J_37] := by
    intro mmJ_37 y1J_37 y2J_37 z0J_37 H locs ls hf hP hS hl
    unfold f_X6_readClause_j40 at hf
    refine lv_iload_n hx hb dX6_readClause_40 rfl (lv_at hl 1 rfl) ?_
    refine lv_if_ne (tgt := 48) hx hb dX6_readClause_41 (by decide) (fun c_36 => ?_) (fun c_36 => ?_)
    · have hf := itF hf c_36
      refine lv_iconst (v := 0) hx hb dX6_readClause_48 (by decide) ?_
      exact hJ49 mmJ_37 y1J_37 y2J_37 (0 : Int32) z0J_37 H locs ls hf hP hS (lv_sub hl [0, 1, 2] rfl)
    · have hf := itT hf c_36
      refine lv_iconst (v := 1) hx hb dX6_readClause_44 (by decide) ?_
      refine lv_goto (tgt := 49) hx hb dX6_readClause_45 (by decide) ?_
      exact hJ49 mmJ_37 y1J_37 y2J_37 (1 : Int32) z0J_37 H locs ls hf hP hS (lv_sub hl [0, 1, 2] rfl)
  unfold f_X6_readClause at hf
  refine lv_aload_n hx hb dX6_readClause_0 rfl (lv_at hl 0 rfl) ?_
  refine wd_getR (q := 1) X hP L3 fl_X6_27 rfl dX6_readClause_1 ?_
  refine va_ldcS (own := RX6) (q := zz.1 0) hx hb X.2.2.2.1 (X.2.2.2.2.2.2.1.2.1 ("PartyRaft$RiverReader", 59, "river owner thing bound rapid", 0) (by decide)) dX6_readClause_4 ?_
  obtain ⟨r_40, mm_38, hc_39, hf⟩ := bi2S hf
  refine wd_cv X hP hS L1 ml_X6_61 ⟨_, _, rfl⟩ (c_X10_wordAmong l D dA zz bs mm 0 (by decide) r_40 mm_38 hc_39) rfl ⟨Nat.le_of_ble_eq_true rfl, Nat.le_of_ble_eq_true rfl⟩ hl.1 rfl (rest := []) (Nat.le_of_ble_eq_true rfl) ⟨Nat.zero_le _, Nat.zero_le _⟩ dX6_readClause_6 (fun H locs hP hS => ?_)
  refine W.eq (g2 := F0 m 9 ls [.int r_40]) rfl ?_
  refine lv_istore_n (lv' := [(2, .int r_40), (0, .ref (bs + 3)), (1, .int x1)]) hx hb dX6_readClause_9 rfl hl (by decide) rfl (fun ls hl => ?_)
  refine lv_iload_n hx hb dX6_readClause_10 rfl (lv_at hl 0 rfl) ?_
  refine lv_iconst (v := -1) hx hb dX6_readClause_11 (by decide) ?_
  refine lv_icmp_ne (tgt := 31) hx hb dX6_readClause_12 (by decide) (fun c_41 => ?_) (fun c_41 => ?_)
  · have hf := itF hf c_41
    refine lv_iload_n hx hb dX6_readClause_31 rfl (lv_at hl 0 rfl) ?_
    refine lv_if_ne (tgt := 39) hx hb dX6_readClause_32 (by decide) (fun c_42 => ?_) (fun c_42 => ?_)
    · have hf := itF hf c_42
      refine lv_iconst (v := 0) hx hb dX6_readClause_39 (by decide) ?_
      exact hJ40 mm_38 x1 r_40 (0 : Int32) H locs ls hf hP hS (lv_sub hl [1, 2, 0] rfl)
    · have hf := itT hf c_42
      refine lv_iconst (v := 1) hx hb dX6_readClause_35 (by decide) ?_
      refine lv_goto (tgt := 40) hx hb dX6_readClause_36 (by decide) ?_
      exact hJ40 mm_38 x1 r_40 (1 : Int32) H locs ls hf hP hS (lv_sub hl [1, 2, 0] rfl)
  · have hf := itT hf c_41
    refine lv_aload_n hx hb dX6_readClause_15 rfl (lv_at hl 1 rfl) ?_
    refine wd_getR (q := 1) X hP L3 fl_X6_27 rfl dX6_readClause_16 ?_
    refine lv_aload_n hx hb dX6_readClause_19 rfl (lv_at hl 1 rfl) ?_
    refine wd_getR (q := 1) X hP L3 fl_X6_27 rfl dX6_readClause_20 ?_
    refine wd_getI X hP L1 fl_X6_51 rfl dX6_readClause_23 ?_
    refine lv_iconst (v := 0) hx hb dX6_readClause_26 (by decide) ?_
    obtain ⟨r_45, mm_43, hc_44, hf⟩ := bi2S hf
    refine wd_cv X hP hS L1 ml_X6_55 ⟨_, _, rfl⟩ (c_X10_wrong l D dA zz bs mm_38 (mm_38.1 1 2) (0 : Int32) r_45 mm_43 hc_44) rfl ⟨Nat.le_of_ble_eq_true rfl, Nat.le_of_ble_eq_true rfl⟩ hl.1 rfl (rest := []) (Nat.le_of_ble_eq_true rfl) ⟨Nat.zero_le _, Nat.zero_le _⟩ dX6_readClause_27 (fun H locs hP hS => ?_)
    refine W.eq (g2 := F0 m 30 ls [.int r_45]) rfl ?_
    have g_46 := gdN hf
    have hf := gdK hf
    obtain ⟨rfl, rfl⟩ := Prod.mk.inj (Option.some.inj hf)
    exact wd_zret X hP hS hr0 g_46 dX6_readClause_30 ⟨rfl, rfl⟩

noncomputable def f_X10_accept (mm : Mm) (x1 : Int32) : Option (Int32 × Mm) :=
  bi2 (f_X10_next mm) fun r_3 mm_1 =>
    if r_3 = x1 then
      vlet (wI mm_1 1 3 (mm_1.1 1 2)) fun mm_5 =>
        vlet (wI mm_5 1 2 ((mm_5.1 1 2) + (1 : Int32))) fun mm_6 => some ((1 : Int32), mm_6)
    else
      some ((0 : Int32), mm_1)
set_option maxHeartbeats 4000000 in
set_option maxRecDepth 100000 in
theorem c_X10_accept (l : Launch) (D : va_G) (dA : Nat → ClassId) (zz : (Nat → Nat) × (Nat → Nat)) (bs : Nat) (mm : Mm) (x1 : Int32) (out : Int32) (m1 : Mm) (hf : f_X10_accept mm x1 = some (out, m1)) : Mw l D dA zz bs LY yX10_accept cX10_accept 2 (some .boolean) 1 20 [.ref (bs + 1), .int x1] mm (some (.int out)) m1 := by
  refine Mw.of (own := RX10) (by decide) rfl (Nat.le_of_ble_eq_true rfl) ?_
  intro p e s m args below meth c X hr0 hP hS ls hl
  have hx := X.1
  have hb := X.2.1
  obtain ⟨H, hH⟩ : ∃ z : Heap, z = s.heap := ⟨_, rfl⟩
  obtain ⟨locs, hL⟩ : ∃ z : List Loc, z = [] := ⟨_, rfl⟩
  rw [← hH, ← hL]
  have hS : va_S (Aq bs) s.heap H locs := by rw [hH, hL]; exact hS
  have hP : Wd D dA bs LY mm H := by rw [hH]; exact hP
  have hl : lv_has ls 2 [(0, .ref (bs + 1)), (1, .int x1)] := hl
  unfold f_X10_accept at hf
  refine lv_aload_n hx hb dX10_accept_0 rfl (lv_at hl 0 rfl) ?_
  obtain ⟨r_3, mm_1, hc_2, hf⟩ := bi2S hf
  refine wd_cv X hP hS L1 ml_X10_28 ⟨_, _, rfl⟩ (c_X10_next l D dA zz bs mm r_3 mm_1 hc_2) rfl ⟨Nat.le_of_ble_eq_true rfl, Nat.le_of_ble_eq_true rfl⟩ hl.1 rfl (rest := []) (Nat.le_of_ble_eq_true rfl) ⟨Nat.zero_le _, Nat.zero_le _⟩ dX10_accept_1 (fun H locs hP hS => ?_)
  refine W.eq (g2 := F0 m 4 ls [.int r_3]) rfl ?_
  refine lv_iload_n hx hb dX10_accept_4 rfl (lv_at hl 1 rfl) ?_
  refine lv_icmp_eq (tgt := 10) hx hb dX10_accept_5 (by decide) (fun c_4 => ?_) (fun c_4 => ?_)
  · have hf := itT hf c_4
    refine lv_aload_n hx hb dX10_accept_10 rfl (lv_at hl 0 rfl) ?_
    refine lv_aload_n hx hb dX10_accept_11 rfl (lv_at hl 0 rfl) ?_
    refine wd_getI X hP L1 fl_X10_19 rfl dX10_accept_12 ?_
    refine wd_putI X hP hS L1 fp_X10_22 rfl dX10_accept_15 (fun H locs mm_5 emm_5 hP hS => ?_)
    have hf := vl hf emm_5
    refine lv_aload_n hx hb dX10_accept_18 rfl (lv_at hl 0 rfl) ?_
    refine lv_dup hx hb dX10_accept_19 rfl ?_
    refine wd_getI X hP L1 fl_X10_19 rfl dX10_accept_20 ?_
    refine lv_iconst (v := 1) hx hb dX10_accept_23 (by decide) ?_
    refine lv_iadd hx hb dX10_accept_24 ?_
    refine wd_putI X hP hS L1 fp_X10_19 rfl dX10_accept_25 (fun H locs mm_6 emm_6 hP hS => ?_)
    have hf := vl hf emm_6
    refine lv_iconst (v := 1) hx hb dX10_accept_28 (by decide) ?_
    obtain ⟨rfl, rfl⟩ := Prod.mk.inj (Option.some.inj hf)
    exact wd_zret X hP hS hr0 (by decide) dX10_accept_29 ⟨rfl, rfl⟩
  · have hf := itF hf c_4
    refine lv_iconst (v := 0) hx hb dX10_accept_8 (by decide) ?_
    obtain ⟨rfl, rfl⟩ := Prod.mk.inj (Option.some.inj hf)
    exact wd_zret X hP hS hr0 (by decide) dX10_accept_9 ⟨rfl, rfl⟩

noncomputable def f_X6_read_s23  : (Int32 × Mm) → Option ((Int32 × Mm) ⊕ ((Mm) ⊕ ((Mm) ⊕ ((Mm) ⊕ (Mm))))) :=
  fun q => match q with
  | (y1, mm) =>
    if (40 : Int32) < y1 then
      some (.inr (.inr (.inr (.inr (mm)))))
    else
      bi2 (f_X6_readClause mm y1) fun r_10 mm_8 =>
        if r_10 = 0 then
          some (.inr (.inl mm_8))
        else
          bi2 (f_X10_next mm_8) fun r_14 mm_12 =>
            if r_14 = (-1 : Int32) then
              some (.inr (.inr (.inl mm_12)))
            else
              bi2 (f_X10_accept mm_12 (59 : Int32)) fun r_18 mm_16 =>
                if r_18 = 0 then
                  some (.inr (.inr (.inr (.inl mm_16))))
                else
                  some (.inl ((y1 + 1), mm_16))
noncomputable def f_X6_read (mm : Mm) : Option (Int32 × Mm) :=
  bi1 (f_X10_open mm) fun mm_1 =>
    bi1 (f_X5_clear mm_1 4) fun mm_3 =>
      bi1 (f_X4_clear mm_3 10 4) fun mm_5 =>
        bi1 (lp (f_X6_read_s23) ((0 : Int32), mm_5)) fun q => match q with
        | .inl mm_21 =>
          some ((0 : Int32), mm_21)
        | .inr (.inl mm_22) =>
          some ((1 : Int32), mm_22)
        | .inr (.inr (.inl mm_23)) =>
          bi2 (f_X10_wrong mm_23 (mm_23.1 1 2) (0 : Int32)) fun r_26 mm_24 =>
            if ¬ r_26 = 0 ∧ ¬ r_26 = 1 then none else some (r_26, mm_24)
        | .inr (.inr (.inr (mm_28))) =>
          some ((0 : Int32), mm_28)
set_option maxHeartbeats 4000000 in
set_option maxRecDepth 100000 in
theorem c_X6_read (l : Launch) (D : va_G) (dA : Nat → ClassId) (zz : (Nat → Nat) × (Nat → Nat)) (bs : Nat) (mm : Mm) (out : Int32) (m1 : Mm) (hf : f_X6_read mm = some (out, m1)) : Mw l D dA zz bs LY yX6_read cX6_read 2 (some .boolean) 7 158 [.ref (bs + 3)] mm (some (.int out)) m1 := by
  refine Mw.of (own := RX6) (by decide) rfl (Nat.le_of_ble_eq_true rfl) ?_
  intro p e s m args below meth c X hr0 hP hS ls hl
  have hx := X.1
  have hb := X.2.1
  obtain ⟨H, hH⟩ : ∃ z : Heap, z = s.heap := ⟨_, rfl⟩
  obtain ⟨locs, hL⟩ : ∃ z : List Loc, z = [] := ⟨_, rfl⟩
  rw [← hH, ← hL]
  have hS : va_S (Aq bs) s.heap H locs := by rw [hH, hL]; exact hS
  have hP : Wd D dA bs LY mm H := by rw [hH]; exact hP
  have hl : lv_has ls 2 [(0, .ref (bs + 3))] := hl
  unfold f_X6_read at hf
  refine lv_aload_n hx hb dX6_read_0 rfl (lv_at hl 0 rfl) ?_
  refine wd_getR (q := 1) X hP L3 fl_X6_27 rfl dX6_read_1 ?_
  obtain ⟨mm_1, hc_2, hf⟩ := bi1S hf
  refine wd_cv X hP hS L1 ml_X6_31 ⟨_, _, rfl⟩ (c_X10_open l D dA zz bs mm mm_1 hc_2) rfl ⟨Nat.le_of_ble_eq_true rfl, Nat.le_of_ble_eq_true rfl⟩ hl.1 rfl (rest := []) (Nat.le_of_ble_eq_true rfl) ⟨Nat.zero_le _, Nat.zero_le _⟩ dX6_read_4 (fun H locs hP hS => ?_)
  refine W.eq (g2 := F0 m 7 ls []) rfl ?_
  refine lv_aload_n hx hb dX6_read_7 rfl (lv_at hl 0 rfl) ?_
  refine wd_getR (q := 4) X hP L3 fl_X6_12 rfl dX6_read_8 ?_
  obtain ⟨mm_3, hc_4, hf⟩ := bi1S hf
  refine wd_cv X hP hS (isRiver.a0 V4) ml_X6_36 ⟨_, _, rfl⟩ (c_X5_clear l D dA zz bs mm_1 4 V4 mm_3 hc_4) rfl ⟨Nat.le_of_ble_eq_true rfl, Nat.le_of_ble_eq_true rfl⟩ hl.1 rfl (rest := []) (Nat.le_of_ble_eq_true rfl) ⟨Nat.zero_le _, Nat.zero_le _⟩ dX6_read_11 (fun H locs hP hS => ?_)
  refine W.eq (g2 := F0 m 14 ls []) rfl ?_
  refine lv_aload_n hx hb dX6_read_14 rfl (lv_at hl 0 rfl) ?_
  refine wd_getR (q := 10) X hP L3 fl_X6_23 rfl dX6_read_15 ?_
  obtain ⟨mm_5, hc_6, hf⟩ := bi1S hf
  refine wd_cv X hP hS (isRaft.a0 R10) ml_X6_39 ⟨_, _, rfl⟩ (c_X4_clear l D dA zz bs mm_3 10 4 R10 mm_5 hc_6) rfl ⟨Nat.le_of_ble_eq_true rfl, Nat.le_of_ble_eq_true rfl⟩ hl.1 rfl (rest := []) (Nat.le_of_ble_eq_true rfl) ⟨Nat.zero_le _, Nat.zero_le _⟩ dX6_read_18 (fun H locs hP hS => ?_)
  refine W.eq (g2 := F0 m 21 ls []) rfl ?_
  refine lv_iconst (v := 0) hx hb dX6_read_21 (by decide) ?_
  refine lv_istore_n (lv' := [(1, .int (0 : Int32)), (0, .ref (bs + 3))]) hx hb dX6_read_22 rfl hl (by decide) rfl (fun ls hl => ?_)
  obtain ⟨q_29, hlp_30, hf⟩ := bi1S hf
  refine lp_walk (Wh := (fun z => match z with | (y1L_20, mmL_20) => ∀ (H : Heap) (locs : List Loc) (ls : Array Slot), Wd D dA bs LY mmL_20 H → va_S (Aq bs) s.heap H locs → lv_has ls 2 [(0, .ref (bs + 3)), (1, .int y1L_20)] → Wz p l e s m args below meth c D dA bs (some (.int out)) m1 7 158 H locs 23 ls [])) (Ph := (fun z => match z with | .inl mm_21 => ∀ (H : Heap) (locs : List Loc) (ls : Array Slot), Wd D dA bs LY mm_21 H → va_S (Aq bs) s.heap H locs → lv_has ls 2 [] → Wz p l e s m args below meth c D dA bs (some (.int out)) m1 7 158 H locs 37 ls [] | .inr (.inl mm_22) => ∀ (H : Heap) (locs : List Loc) (ls : Array Slot), Wd D dA bs LY mm_22 H → va_S (Aq bs) s.heap H locs → lv_has ls 2 [] → Wz p l e s m args below meth c D dA bs (some (.int out)) m1 7 158 H locs 50 ls [] | .inr (.inr (.inl mm_23)) => ∀ (H : Heap) (locs : List Loc) (ls : Array Slot), Wd D dA bs LY mm_23 H → va_S (Aq bs) s.heap H locs → lv_has ls 2 [(0, .ref (bs + 3))] → Wz p l e s m args below meth c D dA bs (some (.int out)) m1 7 158 H locs 64 ls [] | .inr (.inr (.inr (mm_28))) => ∀ (H : Heap) (locs : List Loc) (ls : Array Slot), Wd D dA bs LY mm_28 H → va_S (Aq bs) s.heap H locs → lv_has ls 2 [] → Wz p l e s m args below meth c D dA bs (some (.int out)) m1 7 158 H locs 86 ls [])) ?_ hlp_30 ?_ H locs ls hP hS (lv_sub hl [1, 0] rfl)
  · intro z o hf hB hE
    obtain ⟨y1L_20, mmL_20⟩ := z
    intro H locs ls hP hS hl
    have hf : f_X6_read_s23 (y1L_20, mmL_20) = some o := hf
    unfold f_X6_read_s23 at hf
    dsimp only at hf
    refine lv_iload_n hx hb dX6_read_23 rfl (lv_at hl 1 rfl) ?_
    refine lv_bipush (v := 40) hx hb dX6_read_24 (by decide) ?_
    refine lv_icmp_gt (tgt := 86) hx hb dX6_read_26 (by decide) (fun c_7 => ?_) (fun c_7 => ?_)
    · have hf := itT hf c_7
      obtain rfl := Option.some.inj hf
      exact hE _ rfl H locs ls hP hS (lv_sub hl [] rfl)
    · have hf := itF hf c_7
      refine lv_aload_n hx hb dX6_read_29 rfl (lv_at hl 0 rfl) ?_
      refine lv_iload_n hx hb dX6_read_30 rfl (lv_at hl 1 rfl) ?_
      obtain ⟨r_10, mm_8, hc_9, hf⟩ := bi2S hf
      refine wd_cv X hP hS L3 ml_X6_40 ⟨_, _, rfl⟩ (c_X6_readClause l D dA zz bs mmL_20 y1L_20 r_10 mm_8 hc_9) rfl ⟨Nat.le_of_ble_eq_true rfl, Nat.le_of_ble_eq_true rfl⟩ hl.1 rfl (rest := []) (Nat.le_of_ble_eq_true rfl) ⟨Nat.zero_le _, Nat.zero_le _⟩ dX6_read_31 (fun H locs hP hS => ?_)
      refine W.eq (g2 := F0 m 34 ls [.int r_10]) rfl ?_
      refine lv_if_ne (tgt := 39) hx hb dX6_read_34 (by decide) (fun c_11 => ?_) (fun c_11 => ?_)
      · have hf := itF hf c_11
        refine lv_aload_n hx hb dX6_read_39 rfl (lv_at hl 0 rfl) ?_
        refine wd_getR (q := 1) X hP L3 fl_X6_27 rfl dX6_read_40 ?_
        obtain ⟨r_14, mm_12, hc_13, hf⟩ := bi2S hf
        refine wd_cv X hP hS L1 ml_X6_44 ⟨_, _, rfl⟩ (c_X10_next l D dA zz bs mm_8 r_14 mm_12 hc_13) rfl ⟨Nat.le_of_ble_eq_true rfl, Nat.le_of_ble_eq_true rfl⟩ hl.1 rfl (rest := []) (Nat.le_of_ble_eq_true rfl) ⟨Nat.zero_le _, Nat.zero_le _⟩ dX6_read_43 (fun H locs hP hS => ?_)
        refine W.eq (g2 := F0 m 46 ls [.int r_14]) rfl ?_
        refine lv_iconst (v := -1) hx hb dX6_read_46 (by decide) ?_
        refine lv_icmp_ne (tgt := 52) hx hb dX6_read_47 (by decide) (fun c_15 => ?_) (fun c_15 => ?_)
        · have hf := itF hf c_15
          refine lv_aload_n hx hb dX6_read_52 rfl (lv_at hl 0 rfl) ?_
          refine wd_getR (q := 1) X hP L3 fl_X6_27 rfl dX6_read_53 ?_
          refine lv_bipush (v := 59) hx hb dX6_read_56 (by decide) ?_
          obtain ⟨r_18, mm_16, hc_17, hf⟩ := bi2S hf
          refine wd_cv X hP hS L1 ml_X6_48 ⟨_, _, rfl⟩ (c_X10_accept l D dA zz bs mm_12 (59 : Int32) r_18 mm_16 hc_17) rfl ⟨Nat.le_of_ble_eq_true rfl, Nat.le_of_ble_eq_true rfl⟩ hl.1 rfl (rest := []) (Nat.le_of_ble_eq_true rfl) ⟨Nat.zero_le _, Nat.zero_le _⟩ dX6_read_58 (fun H locs hP hS => ?_)
          refine W.eq (g2 := F0 m 61 ls [.int r_18]) rfl ?_
          refine lv_if_ne (tgt := 80) hx hb dX6_read_61 (by decide) (fun c_19 => ?_) (fun c_19 => ?_)
          · have hf := itF hf c_19
            refine lv_iinc (v := (y1L_20 + 1)) (lv' := [(1, .int (y1L_20 + 1)), (0, .ref (bs + 3))]) hx hb dX6_read_80 hl (k := 1) rfl rfl (by decide) rfl (fun ls hl => ?_)
            refine lv_goto (tgt := 23) hx hb dX6_read_83 (by decide) ?_
            obtain rfl := Option.some.inj hf
            exact hB _ rfl H locs ls hP hS (lv_sub hl [1, 0] rfl)
          · have hf := itT hf c_19
            obtain rfl := Option.some.inj hf
            exact hE _ rfl H locs ls hP hS (lv_sub hl [0] rfl)
        · have hf := itT hf c_15
          obtain rfl := Option.some.inj hf
          exact hE _ rfl H locs ls hP hS (lv_sub hl [] rfl)
      · have hf := itT hf c_11
        obtain rfl := Option.some.inj hf
        exact hE _ rfl H locs ls hP hS (lv_sub hl [] rfl)
  · rcases q_29 with mm_21 | mm_22 | mm_23 | mm_28
    · dsimp only at hf
      intro H locs ls hP hS hl
      refine lv_iconst (v := 0) hx hb dX6_read_37 (by decide) ?_
      obtain ⟨rfl, rfl⟩ := Prod.mk.inj (Option.some.inj hf)
      exact wd_zret X hP hS hr0 (by decide) dX6_read_38 ⟨rfl, rfl⟩
    · dsimp only at hf
      intro H locs ls hP hS hl
      refine lv_iconst (v := 1) hx hb dX6_read_50 (by decide) ?_
      obtain ⟨rfl, rfl⟩ := Prod.mk.inj (Option.some.inj hf)
      exact wd_zret X hP hS hr0 (by decide) dX6_read_51 ⟨rfl, rfl⟩
    · dsimp only at hf
      intro H locs ls hP hS hl
      refine lv_aload_n hx hb dX6_read_64 rfl (lv_at hl 0 rfl) ?_
      refine wd_getR (q := 1) X hP L3 fl_X6_27 rfl dX6_read_65 ?_
      refine lv_aload_n hx hb dX6_read_68 rfl (lv_at hl 0 rfl) ?_
      refine wd_getR (q := 1) X hP L3 fl_X6_27 rfl dX6_read_69 ?_
      refine wd_getI X hP L1 fl_X6_51 rfl dX6_read_72 ?_
      refine lv_iconst (v := 0) hx hb dX6_read_75 (by decide) ?_
      obtain ⟨r_26, mm_24, hc_25, hf⟩ := bi2S hf
      refine wd_cv X hP hS L1 ml_X6_55 ⟨_, _, rfl⟩ (c_X10_wrong l D dA zz bs mm_23 (mm_23.1 1 2) (0 : Int32) r_26 mm_24 hc_25) rfl ⟨Nat.le_of_ble_eq_true rfl, Nat.le_of_ble_eq_true rfl⟩ hl.1 rfl (rest := []) (Nat.le_of_ble_eq_true rfl) ⟨Nat.zero_le _, Nat.zero_le _⟩ dX6_read_76 (fun H locs hP hS => ?_)
      refine W.eq (g2 := F0 m 79 ls [.int r_26]) rfl ?_
      have g_27 := gdN hf
      have hf := gdK hf
      obtain ⟨rfl, rfl⟩ := Prod.mk.inj (Option.some.inj hf)
      exact wd_zret X hP hS hr0 g_27 dX6_read_79 ⟨rfl, rfl⟩
    · dsimp only at hf
      intro H locs ls hP hS hl
      refine lv_iconst (v := 0) hx hb dX6_read_86 (by decide) ?_
      obtain ⟨rfl, rfl⟩ := Prod.mk.inj (Option.some.inj hf)
      exact wd_zret X hP hS hr0 (by decide) dX6_read_87 ⟨rfl, rfl⟩

noncomputable def f_X7_clear (mm : Mm) (u : Nat) : Option (Mm) :=
  vlet (wI mm u 1 (0 : Int32)) fun mm_1 => vlet (wI mm_1 u 5 (0 : Int32)) fun mm_2 => some mm_2
set_option maxHeartbeats 4000000 in
set_option maxRecDepth 100000 in
theorem c_X7_clear (l : Launch) (D : va_G) (dA : Nat → ClassId) (zz : (Nat → Nat) × (Nat → Nat)) (bs : Nat) (mm : Mm) (u : Nat) (hu : isRule u) (m1 : Mm) (hf : f_X7_clear mm u = some m1) : Mw l D dA zz bs LY yX7_clear cX7_clear 1 none 0 0 [.ref (bs + u)] mm none m1 := by
  refine Mw.of (own := RX7) (by decide) rfl (Nat.le_of_ble_eq_true rfl) ?_
  intro p e s m args below meth c X hr0 hP hS ls hl
  have hx := X.1
  have hb := X.2.1
  obtain ⟨H, hH⟩ : ∃ z : Heap, z = s.heap := ⟨_, rfl⟩
  obtain ⟨locs, hL⟩ : ∃ z : List Loc, z = [] := ⟨_, rfl⟩
  rw [← hH, ← hL]
  have hS : va_S (Aq bs) s.heap H locs := by rw [hH, hL]; exact hS
  have hP : Wd D dA bs LY mm H := by rw [hH]; exact hP
  have hl : lv_has ls 1 [(0, .ref (bs + u))] := hl
  unfold f_X7_clear at hf
  refine lv_aload_n hx hb dX7_clear_0 rfl (lv_at hl 0 rfl) ?_
  refine lv_iconst (v := 0) hx hb dX7_clear_1 (by decide) ?_
  refine wd_putI X hP hS (isRule.a0 hu) fp_X7_28 rfl dX7_clear_2 (fun H locs mm_1 emm_1 hP hS => ?_)
  have hf := vl hf emm_1
  refine lv_aload_n hx hb dX7_clear_5 rfl (lv_at hl 0 rfl) ?_
  refine lv_iconst (v := 0) hx hb dX7_clear_6 (by decide) ?_
  refine wd_putI X hP hS (isRule.a0 hu) fp_X7_32 rfl dX7_clear_7 (fun H locs mm_2 emm_2 hP hS => ?_)
  have hf := vl hf emm_2
  obtain rfl := Option.some.inj hf
  exact wd_vret X hP hS hr0 dX7_clear_10 ⟨rfl, rfl⟩

noncomputable def f_X7_copyFrom (mm : Mm) (u : Nat) : Option (Mm) :=
  vlet (wI mm u 1 (mm.1 20 1)) fun mm_1 =>
    vlet (wI mm_1 u 5 (mm_1.1 20 5)) fun mm_2 =>
      vlet (wA mm_2 (u + 1) (va_cpy (mm_2.1 21) (mm_2.1 (u + 1)) 0 0 400)) fun mm_3 =>
        vlet (wA mm_3 (u + 2) (va_cpy (mm_3.1 22) (mm_3.1 (u + 2)) 0 0 12)) fun mm_4 =>
          vlet (wA mm_4 (u + 3) (va_cpy (mm_4.1 23) (mm_4.1 (u + 3)) 0 0 12)) fun mm_5 =>
            vlet (wA mm_5 (u + 4) (va_cpy (mm_5.1 24) (mm_5.1 (u + 4)) 0 0 12)) fun mm_6 => some mm_6
set_option maxHeartbeats 4000000 in
set_option maxRecDepth 100000 in
theorem c_X7_copyFrom (l : Launch) (D : va_G) (dA : Nat → ClassId) (zz : (Nat → Nat) × (Nat → Nat)) (bs : Nat) (mm : Mm) (u : Nat) (hu : isRule u) (m1 : Mm) (hf : f_X7_copyFrom mm u = some m1) : Mw l D dA zz bs LY yX7_copyFrom cX7_copyFrom 2 none 1 60 [.ref (bs + u), .ref (bs + 20)] mm none m1 := by
  refine Mw.of (own := RX7) (by decide) rfl (Nat.le_of_ble_eq_true rfl) ?_
  intro p e s m args below meth c X hr0 hP hS ls hl
  have hx := X.1
  have hb := X.2.1
  obtain ⟨H, hH⟩ : ∃ z : Heap, z = s.heap := ⟨_, rfl⟩
  obtain ⟨locs, hL⟩ : ∃ z : List Loc, z = [] := ⟨_, rfl⟩
  rw [← hH, ← hL]
  have hS : va_S (Aq bs) s.heap H locs := by rw [hH, hL]; exact hS
  have hP : Wd D dA bs LY mm H := by rw [hH]; exact hP
  have hl : lv_has ls 2 [(0, .ref (bs + u)), (1, .ref (bs + 20))] := hl
  unfold f_X7_copyFrom at hf
  refine lv_aload_n hx hb dX7_copyFrom_0 rfl (lv_at hl 0 rfl) ?_
  refine lv_aload_n hx hb dX7_copyFrom_1 rfl (lv_at hl 1 rfl) ?_
  refine wd_getI X hP (isRule.a0 U20) fl_X7_28 rfl dX7_copyFrom_2 ?_
  refine wd_putI X hP hS (isRule.a0 hu) fp_X7_28 rfl dX7_copyFrom_5 (fun H locs mm_1 emm_1 hP hS => ?_)
  have hf := vl hf emm_1
  refine lv_aload_n hx hb dX7_copyFrom_8 rfl (lv_at hl 0 rfl) ?_
  refine lv_aload_n hx hb dX7_copyFrom_9 rfl (lv_at hl 1 rfl) ?_
  refine wd_getI X hP (isRule.a0 U20) fl_X7_32 rfl dX7_copyFrom_10 ?_
  refine wd_putI X hP hS (isRule.a0 hu) fp_X7_32 rfl dX7_copyFrom_13 (fun H locs mm_2 emm_2 hP hS => ?_)
  have hf := vl hf emm_2
  refine lv_aload_n hx hb dX7_copyFrom_16 rfl (lv_at hl 1 rfl) ?_
  refine wd_getR (q := 21) X hP (isRule.a0 U20) fl_X7_9 rfl dX7_copyFrom_17 ?_
  refine lv_iconst (v := 0) hx hb dX7_copyFrom_20 (by decide) ?_
  refine lv_aload_n hx hb dX7_copyFrom_21 rfl (lv_at hl 0 rfl) ?_
  refine wd_getR (q := u + 1) X hP (isRule.a0 hu) fl_X7_9 rfl dX7_copyFrom_22 ?_
  refine lv_iconst (v := 0) hx hb dX7_copyFrom_25 (by decide) ?_
  refine lv_sipush (v := 400) hx hb dX7_copyFrom_26 (by decide) ?_
  refine wd_copy (k := 400) X hP hS (isRule.a1 U20) (isRule.a1 hu) ⟨(tb_at 743 (by decide +kernel) (by decide +kernel)), ac_n, ac_s, ac_i⟩ (by decide) (by decide) (by decide) hl.1 (by decide) (Nat.le_of_ble_eq_true rfl) dX7_copyFrom_29 (fun H locs mm_3 emm_3 hP hS => ?_)
  have hf := vl hf emm_3
  refine lv_aload_n hx hb dX7_copyFrom_32 rfl (lv_at hl 1 rfl) ?_
  refine wd_getR (q := 22) X hP (isRule.a0 U20) fl_X7_15 rfl dX7_copyFrom_33 ?_
  refine lv_iconst (v := 0) hx hb dX7_copyFrom_36 (by decide) ?_
  refine lv_aload_n hx hb dX7_copyFrom_37 rfl (lv_at hl 0 rfl) ?_
  refine wd_getR (q := u + 2) X hP (isRule.a0 hu) fl_X7_15 rfl dX7_copyFrom_38 ?_
  refine lv_iconst (v := 0) hx hb dX7_copyFrom_41 (by decide) ?_
  refine lv_bipush (v := 12) hx hb dX7_copyFrom_42 (by decide) ?_
  refine wd_copy (k := 12) X hP hS (isRule.a2 U20) (isRule.a2 hu) ⟨(tb_at 743 (by decide +kernel) (by decide +kernel)), ac_n, ac_s, ac_i⟩ (by decide) (by decide) (by decide) hl.1 (by decide) (Nat.le_of_ble_eq_true rfl) dX7_copyFrom_44 (fun H locs mm_4 emm_4 hP hS => ?_)
  have hf := vl hf emm_4
  refine lv_aload_n hx hb dX7_copyFrom_47 rfl (lv_at hl 1 rfl) ?_
  refine wd_getR (q := 23) X hP (isRule.a0 U20) fl_X7_18 rfl dX7_copyFrom_48 ?_
  refine lv_iconst (v := 0) hx hb dX7_copyFrom_51 (by decide) ?_
  refine lv_aload_n hx hb dX7_copyFrom_52 rfl (lv_at hl 0 rfl) ?_
  refine wd_getR (q := u + 3) X hP (isRule.a0 hu) fl_X7_18 rfl dX7_copyFrom_53 ?_
  refine lv_iconst (v := 0) hx hb dX7_copyFrom_56 (by decide) ?_
  refine lv_bipush (v := 12) hx hb dX7_copyFrom_57 (by decide) ?_
  refine wd_copy (k := 12) X hP hS (isRule.a3 U20) (isRule.a3 hu) ⟨(tb_at 743 (by decide +kernel) (by decide +kernel)), ac_n, ac_s, ac_i⟩ (by decide) (by decide) (by decide) hl.1 (by decide) (Nat.le_of_ble_eq_true rfl) dX7_copyFrom_59 (fun H locs mm_5 emm_5 hP hS => ?_)
  have hf := vl hf emm_5
  refine lv_aload_n hx hb dX7_copyFrom_62 rfl (lv_at hl 1 rfl) ?_
  refine wd_getR (q := 24) X hP (isRule.a0 U20) fl_X7_21 rfl dX7_copyFrom_63 ?_
  refine lv_iconst (v := 0) hx hb dX7_copyFrom_66 (by decide) ?_
  refine lv_aload_n hx hb dX7_copyFrom_67 rfl (lv_at hl 0 rfl) ?_
  refine wd_getR (q := u + 4) X hP (isRule.a0 hu) fl_X7_21 rfl dX7_copyFrom_68 ?_
  refine lv_iconst (v := 0) hx hb dX7_copyFrom_71 (by decide) ?_
  refine lv_bipush (v := 12) hx hb dX7_copyFrom_72 (by decide) ?_
  refine wd_copy (k := 12) X hP hS (isRule.a4 U20) (isRule.a4 hu) ⟨(tb_at 743 (by decide +kernel) (by decide +kernel)), ac_n, ac_s, ac_i⟩ (by decide) (by decide) (by decide) hl.1 (by decide) (Nat.le_of_ble_eq_true rfl) dX7_copyFrom_74 (fun H locs mm_6 emm_6 hP hS => ?_)
  have hf := vl hf emm_6
  obtain rfl := Option.some.inj hf
  exact wd_vret X hP hS hr0 dX7_copyFrom_77 ⟨rfl, rfl⟩

noncomputable def f_X7_add (mm : Mm) (u : Nat) (x1 : Int32) (x2 : Int32) : Option (Mm) :=
  if (400 : Int32) ≤ (mm.1 u 1) then
    some mm
  else
    if (mm.1 u 1) < 0 ∨ 400 ≤ (mm.1 u 1).toNatClampNeg then none else
      vlet (wI mm (u + 1) (mm.1 u 1).toNatClampNeg ((x2 <<< ((4 : Int32) &&& 31)) + x1)) fun mm_2 =>
        vlet (wI mm_2 u 1 ((mm_2.1 u 1) + (1 : Int32))) fun mm_4 => some mm_4
set_option maxHeartbeats 4000000 in
set_option maxRecDepth 100000 in
theorem c_X7_add (l : Launch) (D : va_G) (dA : Nat → ClassId) (zz : (Nat → Nat) × (Nat → Nat)) (bs : Nat) (mm : Mm) (u : Nat) (hu : isRule u) (x1 : Int32) (x2 : Int32) (m1 : Mm) (hf : f_X7_add mm u x1 x2 = some m1) : Mw l D dA zz bs LY yX7_add cX7_add 3 none 0 0 [.ref (bs + u), .int x1, .int x2] mm none m1 := by
  refine Mw.of (own := RX7) (by decide) rfl (Nat.le_of_ble_eq_true rfl) ?_
  intro p e s m args below meth c X hr0 hP hS ls hl
  have hx := X.1
  have hb := X.2.1
  obtain ⟨H, hH⟩ : ∃ z : Heap, z = s.heap := ⟨_, rfl⟩
  obtain ⟨locs, hL⟩ : ∃ z : List Loc, z = [] := ⟨_, rfl⟩
  rw [← hH, ← hL]
  have hS : va_S (Aq bs) s.heap H locs := by rw [hH, hL]; exact hS
  have hP : Wd D dA bs LY mm H := by rw [hH]; exact hP
  have hl : lv_has ls 3 [(0, .ref (bs + u)), (1, .int x1), (2, .int x2)] := hl
  unfold f_X7_add at hf
  refine lv_aload_n hx hb dX7_add_0 rfl (lv_at hl 0 rfl) ?_
  refine wd_getI X hP (isRule.a0 hu) fl_X7_28 rfl dX7_add_1 ?_
  refine lv_sipush (v := 400) hx hb dX7_add_4 (by decide) ?_
  refine lv_icmp_ge (tgt := 34) hx hb dX7_add_7 (by decide) (fun c_1 => ?_) (fun c_1 => ?_)
  · have hf := itT hf c_1
    obtain rfl := Option.some.inj hf
    exact wd_vret X hP hS hr0 dX7_add_34 ⟨rfl, rfl⟩
  · have hf := itF hf c_1
    refine lv_aload_n hx hb dX7_add_10 rfl (lv_at hl 0 rfl) ?_
    refine wd_getR (q := u + 1) X hP (isRule.a0 hu) fl_X7_9 rfl dX7_add_11 ?_
    refine lv_aload_n hx hb dX7_add_14 rfl (lv_at hl 0 rfl) ?_
    refine wd_getI X hP (isRule.a0 hu) fl_X7_28 rfl dX7_add_15 ?_
    refine lv_iload_n hx hb dX7_add_18 rfl (lv_at hl 2 rfl) ?_
    refine lv_iconst (v := 4) hx hb dX7_add_19 (by decide) ?_
    refine lv_ishl hx hb dX7_add_20 ?_
    refine lv_iload_n hx hb dX7_add_21 rfl (lv_at hl 1 rfl) ?_
    refine lv_iadd hx hb dX7_add_22 ?_
    have g_3 := gdN hf
    have hf := gdK hf
    refine wd_iast X hP hS (isRule.a1 hu) g_3 dX7_add_23 (fun H locs mm_2 emm_2 hP hS => ?_)
    have hf := vl hf emm_2
    refine lv_aload_n hx hb dX7_add_24 rfl (lv_at hl 0 rfl) ?_
    refine lv_dup hx hb dX7_add_25 rfl ?_
    refine wd_getI X hP (isRule.a0 hu) fl_X7_28 rfl dX7_add_26 ?_
    refine lv_iconst (v := 1) hx hb dX7_add_29 (by decide) ?_
    refine lv_iadd hx hb dX7_add_30 ?_
    refine wd_putI X hP hS (isRule.a0 hu) fp_X7_28 rfl dX7_add_31 (fun H locs mm_4 emm_4 hP hS => ?_)
    have hf := vl hf emm_4
    obtain rfl := Option.some.inj hf
    exact wd_vret X hP hS hr0 dX7_add_34 ⟨rfl, rfl⟩

noncomputable def f_X7_wordOf (mm : Mm) (x0 : Int32) (x3 : Int32) (x4 : Int32) : Option (Int64) :=
  if x0 = 0 then
    some (x3.toInt64)
  else if x0 = 1 then
    some (x4.toInt64)
  else if x0 = 2 then
    if x3 < 0 ∨ 8 ≤ x3.toNatClampNeg then none else
      if x4 < 0 ∨ 8 ≤ x4.toNatClampNeg then none else
        some (((mm.1 36 x3.toNatClampNeg) + (mm.1 36 x4.toNatClampNeg)).toInt64)
  else if x0 = 3 then
    if x3 < 0 ∨ 8 ≤ x3.toNatClampNeg then none else
      if x4 < 0 ∨ 8 ≤ x4.toNatClampNeg then none else
        some (((mm.1 30 x3.toNatClampNeg) + (mm.1 30 x4.toNatClampNeg)).toInt64)
  else if x0 = 4 then
    if x3 < 0 ∨ 8 ≤ x3.toNatClampNeg then none else
      if x4 < 0 ∨ 8 ≤ x4.toNatClampNeg then none else
        some (((mm.1 31 x3.toNatClampNeg) + (mm.1 31 x4.toNatClampNeg)).toInt64)
  else if x0 = 5 then
    if x3 < 0 ∨ 8 ≤ x3.toNatClampNeg then none else
      if x4 < 0 ∨ 8 ≤ x4.toNatClampNeg then none else
        if (mm.1 35 x3.toNatClampNeg) = (mm.1 35 x4.toNatClampNeg) then
          some (1 : Int64)
        else
          some (0 : Int64)
  else if x0 = 6 then
    if x3 < 0 ∨ 8 ≤ x3.toNatClampNeg then none else
      if (f_X11_contains (mm.1 230 x3.toNatClampNeg) x4) = 0 then
        some (1 : Int64)
      else
        some (0 : Int64)
  else if x0 = 7 then
    bi1 (f_X4_ropesOf mm 33 27 (((1 : Int32) <<< (x3 &&& 31)) ||| ((1 : Int32) <<< (x4 &&& 31)))) fun r_21 => some ((f_J6_bitCount_0f7a4 r_21).toInt64)
  else if x0 = 8 then
    some ((mm.1 33 2).toInt64)
  else if x0 = 9 then
    some ((mm.1 33 1).toInt64)
  else if x0 = 10 then
    bi1 (f_X4_landingOf mm 33 27 x3) fun r_26 =>
      bi1 (f_X4_landingOf mm 33 27 x4) fun r_28 => some ((if r_28 < r_26 then r_28 else r_26).toInt64)
  else
    bi1 (f_X4_thingsAt mm 33 27 (0 : Int32)) fun r_30 => some ((f_J6_bitCount_0f7a4 r_30).toInt64)
set_option maxHeartbeats 4000000 in
set_option maxRecDepth 100000 in
theorem c_X7_wordOf (l : Launch) (D : va_G) (dA : Nat → ClassId) (zz : (Nat → Nat) × (Nat → Nat)) (bs : Nat) (mm : Mm) (x0 : Int32) (x3 : Int32) (x4 : Int32) (out : Int64) (hf : f_X7_wordOf mm x0 x3 x4 = some out) : Mw l D dA zz bs LY yX7_wordOf cX7_wordOf 6 (some .long) 2 44 [.int x0, .ref (bs + 33), .ref (bs + 229), .int x3, .int x4] mm (some (.long out)) mm := by
  refine Mw.of (own := RX7) (by decide) rfl (Nat.le_of_ble_eq_true rfl) ?_
  intro p e s m args below meth c X hr0 hP hS ls hl
  have hx := X.1
  have hb := X.2.1
  obtain ⟨H, hH⟩ : ∃ z : Heap, z = s.heap := ⟨_, rfl⟩
  obtain ⟨locs, hL⟩ : ∃ z : List Loc, z = [] := ⟨_, rfl⟩
  rw [← hH, ← hL]
  have hS : va_S (Aq bs) s.heap H locs := by rw [hH, hL]; exact hS
  have hP : Wd D dA bs LY mm H := by rw [hH]; exact hP
  have hl : lv_has ls 6 [(0, .int x0), (1, .ref (bs + 33)), (2, .ref (bs + 229)), (3, .int x3), (4, .int x4)] := hl
  unfold f_X7_wordOf at hf
  refine lv_aload_n hx hb dX7_wordOf_0 rfl (lv_at hl 1 rfl) ?_
  refine wd_getR (q := 27) X hP (isRaft.a0 R33) fl_X7_53 rfl dX7_wordOf_1 ?_
  refine lv_astore (lv' := [(5, .ref (bs + 27)), (0, .int x0), (1, .ref (bs + 33)), (2, .ref (bs + 229)), (3, .int x3), (4, .int x4)]) hx hb dX7_wordOf_4 hl (by decide) rfl (fun ls hl => ?_)
  refine lv_iload_n hx hb dX7_wordOf_6 rfl (lv_at hl 1 rfl) ?_
  by_cases c_1 : x0 = 0
  · have hf := itT hf c_1
    refine lv_tableIn (tgt := 64) (off := 57) hx hb dX7_wordOf_7 (by rw [c_1]; decide) (by rw [c_1]; decide) (by rw [c_1]; decide) (by decide) ?_
    refine lv_iload_n hx hb dX7_wordOf_64 rfl (lv_at hl 4 rfl) ?_
    refine lv_i2l hx hb dX7_wordOf_65 rfl ?_
    obtain rfl := Option.some.inj hf
    exact wd_lret X hP hS hr0 dX7_wordOf_66 ⟨rfl, rfl⟩
  · have hf := itF hf c_1
    by_cases c_2 : x0 = 1
    · have hf := itT hf c_2
      refine lv_tableIn (tgt := 67) (off := 60) hx hb dX7_wordOf_7 (by rw [c_2]; decide) (by rw [c_2]; decide) (by rw [c_2]; decide) (by decide) ?_
      refine lv_iload hx hb dX7_wordOf_67 (lv_at hl 5 rfl) ?_
      refine lv_i2l hx hb dX7_wordOf_69 rfl ?_
      obtain rfl := Option.some.inj hf
      exact wd_lret X hP hS hr0 dX7_wordOf_70 ⟨rfl, rfl⟩
    · have hf := itF hf c_2
      by_cases c_3 : x0 = 2
      · have hf := itT hf c_3
        refine lv_tableIn (tgt := 71) (off := 64) hx hb dX7_wordOf_7 (by rw [c_3]; decide) (by rw [c_3]; decide) (by rw [c_3]; decide) (by decide) ?_
        refine lv_aload_n hx hb dX7_wordOf_71 rfl (lv_at hl 2 rfl) ?_
        refine wd_getR (q := 36) X hP (isRaft.a0 R33) fl_X7_59 rfl dX7_wordOf_72 ?_
        refine lv_iload_n hx hb dX7_wordOf_75 rfl (lv_at hl 4 rfl) ?_
        have g_4 := gdN hf
        have hf := gdK hf
        refine wd_iald X hP (isRaft.a3 R33) g_4 dX7_wordOf_76 ?_
        refine lv_aload_n hx hb dX7_wordOf_77 rfl (lv_at hl 2 rfl) ?_
        refine wd_getR (q := 36) X hP (isRaft.a0 R33) fl_X7_59 rfl dX7_wordOf_78 ?_
        refine lv_iload hx hb dX7_wordOf_81 (lv_at hl 5 rfl) ?_
        have g_5 := gdN hf
        have hf := gdK hf
        refine wd_iald X hP (isRaft.a3 R33) g_5 dX7_wordOf_83 ?_
        refine lv_iadd hx hb dX7_wordOf_84 ?_
        refine lv_i2l hx hb dX7_wordOf_85 rfl ?_
        obtain rfl := Option.some.inj hf
        exact wd_lret X hP hS hr0 dX7_wordOf_86 ⟨rfl, rfl⟩
      · have hf := itF hf c_3
        by_cases c_6 : x0 = 3
        · have hf := itT hf c_6
          refine lv_tableIn (tgt := 87) (off := 80) hx hb dX7_wordOf_7 (by rw [c_6]; decide) (by rw [c_6]; decide) (by rw [c_6]; decide) (by decide) ?_
          refine lv_aload hx hb dX7_wordOf_87 (lv_at hl 0 rfl) ?_
          refine wd_getR (q := 30) X hP (isRiver.a0 V27) fl_X7_62 rfl dX7_wordOf_89 ?_
          refine lv_iload_n hx hb dX7_wordOf_92 rfl (lv_at hl 4 rfl) ?_
          have g_7 := gdN hf
          have hf := gdK hf
          refine wd_iald X hP (isRiver.a3 V27) g_7 dX7_wordOf_93 ?_
          refine lv_aload hx hb dX7_wordOf_94 (lv_at hl 0 rfl) ?_
          refine wd_getR (q := 30) X hP (isRiver.a0 V27) fl_X7_62 rfl dX7_wordOf_96 ?_
          refine lv_iload hx hb dX7_wordOf_99 (lv_at hl 5 rfl) ?_
          have g_8 := gdN hf
          have hf := gdK hf
          refine wd_iald X hP (isRiver.a3 V27) g_8 dX7_wordOf_101 ?_
          refine lv_iadd hx hb dX7_wordOf_102 ?_
          refine lv_i2l hx hb dX7_wordOf_103 rfl ?_
          obtain rfl := Option.some.inj hf
          exact wd_lret X hP hS hr0 dX7_wordOf_104 ⟨rfl, rfl⟩
        · have hf := itF hf c_6
          by_cases c_9 : x0 = 4
          · have hf := itT hf c_9
            refine lv_tableIn (tgt := 105) (off := 98) hx hb dX7_wordOf_7 (by rw [c_9]; decide) (by rw [c_9]; decide) (by rw [c_9]; decide) (by decide) ?_
            refine lv_aload hx hb dX7_wordOf_105 (lv_at hl 0 rfl) ?_
            refine wd_getR (q := 31) X hP (isRiver.a0 V27) fl_X7_67 rfl dX7_wordOf_107 ?_
            refine lv_iload_n hx hb dX7_wordOf_110 rfl (lv_at hl 4 rfl) ?_
            have g_10 := gdN hf
            have hf := gdK hf
            refine wd_iald X hP (isRiver.a4 V27) g_10 dX7_wordOf_111 ?_
            refine lv_aload hx hb dX7_wordOf_112 (lv_at hl 0 rfl) ?_
            refine wd_getR (q := 31) X hP (isRiver.a0 V27) fl_X7_67 rfl dX7_wordOf_114 ?_
            refine lv_iload hx hb dX7_wordOf_117 (lv_at hl 5 rfl) ?_
            have g_11 := gdN hf
            have hf := gdK hf
            refine wd_iald X hP (isRiver.a4 V27) g_11 dX7_wordOf_119 ?_
            refine lv_iadd hx hb dX7_wordOf_120 ?_
            refine lv_i2l hx hb dX7_wordOf_121 rfl ?_
            obtain rfl := Option.some.inj hf
            exact wd_lret X hP hS hr0 dX7_wordOf_122 ⟨rfl, rfl⟩
          · have hf := itF hf c_9
            by_cases c_12 : x0 = 5
            · have hf := itT hf c_12
              refine lv_tableIn (tgt := 123) (off := 116) hx hb dX7_wordOf_7 (by rw [c_12]; decide) (by rw [c_12]; decide) (by rw [c_12]; decide) (by decide) ?_
              refine lv_aload_n hx hb dX7_wordOf_123 rfl (lv_at hl 2 rfl) ?_
              refine wd_getR (q := 35) X hP (isRaft.a0 R33) fl_X7_70 rfl dX7_wordOf_124 ?_
              refine lv_iload_n hx hb dX7_wordOf_127 rfl (lv_at hl 4 rfl) ?_
              have g_13 := gdN hf
              have hf := gdK hf
              refine wd_iald X hP (isRaft.a2 R33) g_13 dX7_wordOf_128 ?_
              refine lv_aload_n hx hb dX7_wordOf_129 rfl (lv_at hl 2 rfl) ?_
              refine wd_getR (q := 35) X hP (isRaft.a0 R33) fl_X7_70 rfl dX7_wordOf_130 ?_
              refine lv_iload hx hb dX7_wordOf_133 (lv_at hl 5 rfl) ?_
              have g_14 := gdN hf
              have hf := gdK hf
              refine wd_iald X hP (isRaft.a2 R33) g_14 dX7_wordOf_135 ?_
              refine lv_icmp_ne (tgt := 143) hx hb dX7_wordOf_136 (by decide) (fun c_15 => ?_) (fun c_15 => ?_)
              · have hf := itF hf c_15
                refine lv_lconst (v := 0) hx hb dX7_wordOf_143 (by decide) ?_
                obtain rfl := Option.some.inj hf
                exact wd_lret X hP hS hr0 dX7_wordOf_144 ⟨rfl, rfl⟩
              · have hf := itT hf c_15
                refine lv_lconst (v := 1) hx hb dX7_wordOf_139 (by decide) ?_
                refine lv_goto (tgt := 144) hx hb dX7_wordOf_140 (by decide) ?_
                obtain rfl := Option.some.inj hf
                exact wd_lret X hP hS hr0 dX7_wordOf_144 ⟨rfl, rfl⟩
            · have hf := itF hf c_12
              by_cases c_16 : x0 = 6
              · have hf := itT hf c_16
                refine lv_tableIn (tgt := 145) (off := 138) hx hb dX7_wordOf_7 (by rw [c_16]; decide) (by rw [c_16]; decide) (by rw [c_16]; decide) (by decide) ?_
                refine lv_aload_n hx hb dX7_wordOf_145 rfl (lv_at hl 3 rfl) ?_
                refine wd_getR (q := 230) X hP L229 fl_X7_73 rfl dX7_wordOf_146 ?_
                refine lv_iload_n hx hb dX7_wordOf_149 rfl (lv_at hl 4 rfl) ?_
                have g_17 := gdN hf
                have hf := gdK hf
                refine wd_iald X hP L230 g_17 dX7_wordOf_150 ?_
                refine lv_iload hx hb dX7_wordOf_151 (lv_at hl 5 rfl) ?_
                refine wd_cn X hP hS ml_X7_78 (c_X11_contains l D dA zz bs mm (mm.1 230 x3.toNatClampNeg) x4 (f_X11_contains (mm.1 230 x3.toNatClampNeg) x4) rfl) rfl ⟨Nat.le_of_ble_eq_true rfl, Nat.le_of_ble_eq_true rfl⟩ hl.1 rfl (rest := []) (Nat.le_of_ble_eq_true rfl) ⟨Nat.zero_le _, Nat.zero_le _⟩ dX7_wordOf_153 (fun H locs hP hS => ?_)
                refine W.eq (g2 := F0 m 156 ls [.int (f_X11_contains (mm.1 230 x3.toNatClampNeg) x4)]) rfl ?_
                refine lv_if_eq (tgt := 163) hx hb dX7_wordOf_156 (by decide) (fun c_18 => ?_) (fun c_18 => ?_)
                · have hf := itT hf c_18
                  refine lv_lconst (v := 1) hx hb dX7_wordOf_163 (by decide) ?_
                  obtain rfl := Option.some.inj hf
                  exact wd_lret X hP hS hr0 dX7_wordOf_164 ⟨rfl, rfl⟩
                · have hf := itF hf c_18
                  refine lv_lconst (v := 0) hx hb dX7_wordOf_159 (by decide) ?_
                  refine lv_goto (tgt := 164) hx hb dX7_wordOf_160 (by decide) ?_
                  obtain rfl := Option.some.inj hf
                  exact wd_lret X hP hS hr0 dX7_wordOf_164 ⟨rfl, rfl⟩
              · have hf := itF hf c_16
                by_cases c_19 : x0 = 7
                · have hf := itT hf c_19
                  refine lv_tableIn (tgt := 165) (off := 158) hx hb dX7_wordOf_7 (by rw [c_19]; decide) (by rw [c_19]; decide) (by rw [c_19]; decide) (by decide) ?_
                  refine lv_aload_n hx hb dX7_wordOf_165 rfl (lv_at hl 2 rfl) ?_
                  refine lv_iconst (v := 1) hx hb dX7_wordOf_166 (by decide) ?_
                  refine lv_iload_n hx hb dX7_wordOf_167 rfl (lv_at hl 4 rfl) ?_
                  refine lv_ishl hx hb dX7_wordOf_168 ?_
                  refine lv_iconst (v := 1) hx hb dX7_wordOf_169 (by decide) ?_
                  refine lv_iload hx hb dX7_wordOf_170 (lv_at hl 5 rfl) ?_
                  refine lv_ishl hx hb dX7_wordOf_172 ?_
                  refine lv_ior hx hb dX7_wordOf_173 ?_
                  obtain ⟨r_21, hc_20, hf⟩ := bi1S hf
                  refine wd_cv X hP hS (isRaft.a0 R33) ml_X7_82 ⟨_, _, rfl⟩ (c_X4_ropesOf l D dA zz bs mm 33 27 R33 (((1 : Int32) <<< (x3 &&& 31)) ||| ((1 : Int32) <<< (x4 &&& 31))) r_21 hc_20) rfl ⟨Nat.le_of_ble_eq_true rfl, Nat.le_of_ble_eq_true rfl⟩ hl.1 rfl (rest := []) (Nat.le_of_ble_eq_true rfl) ⟨Nat.zero_le _, Nat.zero_le _⟩ dX7_wordOf_174 (fun H locs hP hS => ?_)
                  refine W.eq (g2 := F0 m 177 ls [.int r_21]) rfl ?_
                  refine wd_cs X hP hS ml_X7_86 (c_J6_bitCount_0f7a4 l D dA zz bs mm r_21 (f_J6_bitCount_0f7a4 r_21) rfl) rfl ⟨Nat.le_of_ble_eq_true rfl, Nat.le_of_ble_eq_true rfl⟩ hl.1 rfl (rest := []) (Nat.le_of_ble_eq_true rfl) ⟨Nat.zero_le _, Nat.zero_le _⟩ dX7_wordOf_177 (fun H locs hP hS => ?_)
                  refine W.eq (g2 := F0 m 180 ls [.int (f_J6_bitCount_0f7a4 r_21)]) rfl ?_
                  refine lv_i2l hx hb dX7_wordOf_180 rfl ?_
                  obtain rfl := Option.some.inj hf
                  exact wd_lret X hP hS hr0 dX7_wordOf_181 ⟨rfl, rfl⟩
                · have hf := itF hf c_19
                  by_cases c_22 : x0 = 8
                  · have hf := itT hf c_22
                    refine lv_tableIn (tgt := 182) (off := 175) hx hb dX7_wordOf_7 (by rw [c_22]; decide) (by rw [c_22]; decide) (by rw [c_22]; decide) (by decide) ?_
                    refine lv_aload_n hx hb dX7_wordOf_182 rfl (lv_at hl 2 rfl) ?_
                    refine wd_getI X hP (isRaft.a0 R33) fl_X7_91 rfl dX7_wordOf_183 ?_
                    refine lv_i2l hx hb dX7_wordOf_186 rfl ?_
                    obtain rfl := Option.some.inj hf
                    exact wd_lret X hP hS hr0 dX7_wordOf_187 ⟨rfl, rfl⟩
                  · have hf := itF hf c_22
                    by_cases c_23 : x0 = 9
                    · have hf := itT hf c_23
                      refine lv_tableIn (tgt := 188) (off := 181) hx hb dX7_wordOf_7 (by rw [c_23]; decide) (by rw [c_23]; decide) (by rw [c_23]; decide) (by decide) ?_
                      refine lv_aload_n hx hb dX7_wordOf_188 rfl (lv_at hl 2 rfl) ?_
                      refine wd_getI X hP (isRaft.a0 R33) fl_X7_94 rfl dX7_wordOf_189 ?_
                      refine lv_i2l hx hb dX7_wordOf_192 rfl ?_
                      obtain rfl := Option.some.inj hf
                      exact wd_lret X hP hS hr0 dX7_wordOf_193 ⟨rfl, rfl⟩
                    · have hf := itF hf c_23
                      by_cases c_24 : x0 = 10
                      · have hf := itT hf c_24
                        refine lv_tableIn (tgt := 194) (off := 187) hx hb dX7_wordOf_7 (by rw [c_24]; decide) (by rw [c_24]; decide) (by rw [c_24]; decide) (by decide) ?_
                        refine lv_aload_n hx hb dX7_wordOf_194 rfl (lv_at hl 2 rfl) ?_
                        refine lv_iload_n hx hb dX7_wordOf_195 rfl (lv_at hl 4 rfl) ?_
                        obtain ⟨r_26, hc_25, hf⟩ := bi1S hf
                        refine wd_cv X hP hS (isRaft.a0 R33) ml_X7_97 ⟨_, _, rfl⟩ (c_X4_landingOf l D dA zz bs mm 33 27 R33 x3 r_26 hc_25) rfl ⟨Nat.le_of_ble_eq_true rfl, Nat.le_of_ble_eq_true rfl⟩ hl.1 rfl (rest := []) (Nat.le_of_ble_eq_true rfl) ⟨Nat.zero_le _, Nat.zero_le _⟩ dX7_wordOf_196 (fun H locs hP hS => ?_)
                        refine W.eq (g2 := F0 m 199 ls [.int r_26]) rfl ?_
                        refine lv_aload_n hx hb dX7_wordOf_199 rfl (lv_at hl 2 rfl) ?_
                        refine lv_iload hx hb dX7_wordOf_200 (lv_at hl 5 rfl) ?_
                        obtain ⟨r_28, hc_27, hf⟩ := bi1S hf
                        refine wd_cv X hP hS (isRaft.a0 R33) ml_X7_97 ⟨_, _, rfl⟩ (c_X4_landingOf l D dA zz bs mm 33 27 R33 x4 r_28 hc_27) rfl ⟨Nat.le_of_ble_eq_true rfl, Nat.le_of_ble_eq_true rfl⟩ hl.1 rfl (rest := [.int r_26]) (Nat.le_of_ble_eq_true rfl) ⟨Nat.zero_le _, Nat.zero_le _⟩ dX7_wordOf_202 (fun H locs hP hS => ?_)
                        refine W.eq (g2 := F0 m 205 ls [.int r_28, .int r_26]) rfl ?_
                        refine va_mmin (own := RX7) hx hb (X.2.2.1.trans hl.1.symm) X.2.2.2.1 (X.2.2.2.2.1 _ (tb_at 940 (by decide +kernel) (by decide +kernel))) (X.2.2.2.2.1 _ (tb_at 634 (by decide +kernel) (by decide +kernel))) (X.2.2.2.2.1 _ (tb_at 19 (by decide +kernel) (by decide +kernel))) (X.2.2.2.2.1 _ (tb_at 635 (by decide +kernel) (by decide +kernel))) (by decide) (Nat.le_of_ble_eq_true rfl) (Nat.zero_le _) (Nat.zero_le _) dX7_wordOf_205 ?_
                        refine lv_i2l hx hb dX7_wordOf_208 rfl ?_
                        obtain rfl := Option.some.inj hf
                        exact wd_lret X hP hS hr0 dX7_wordOf_209 ⟨rfl, rfl⟩
                      · have hf := itF hf c_24
                        refine lv_tableOut (tgt := 210) hx hb dX7_wordOf_7 (tb_out11 c_1 c_2 c_3 c_6 c_9 c_12 c_16 c_19 c_22 c_23 c_24) (by decide) ?_
                        refine lv_aload_n hx hb dX7_wordOf_210 rfl (lv_at hl 2 rfl) ?_
                        refine lv_iconst (v := 0) hx hb dX7_wordOf_211 (by decide) ?_
                        obtain ⟨r_30, hc_29, hf⟩ := bi1S hf
                        refine wd_cv X hP hS (isRaft.a0 R33) ml_X7_106 ⟨_, _, rfl⟩ (c_X4_thingsAt l D dA zz bs mm 33 27 R33 (0 : Int32) r_30 hc_29) rfl ⟨Nat.le_of_ble_eq_true rfl, Nat.le_of_ble_eq_true rfl⟩ hl.1 rfl (rest := []) (Nat.le_of_ble_eq_true rfl) ⟨Nat.zero_le _, Nat.zero_le _⟩ dX7_wordOf_212 (fun H locs hP hS => ?_)
                        refine W.eq (g2 := F0 m 215 ls [.int r_30]) rfl ?_
                        refine wd_cs X hP hS ml_X7_86 (c_J6_bitCount_0f7a4 l D dA zz bs mm r_30 (f_J6_bitCount_0f7a4 r_30) rfl) rfl ⟨Nat.le_of_ble_eq_true rfl, Nat.le_of_ble_eq_true rfl⟩ hl.1 rfl (rest := []) (Nat.le_of_ble_eq_true rfl) ⟨Nat.zero_le _, Nat.zero_le _⟩ dX7_wordOf_215 (fun H locs hP hS => ?_)
                        refine W.eq (g2 := F0 m 218 ls [.int (f_J6_bitCount_0f7a4 r_30)]) rfl ?_
                        refine lv_i2l hx hb dX7_wordOf_218 rfl ?_
                        obtain rfl := Option.some.inj hf
                        exact wd_lret X hP hS hr0 dX7_wordOf_219 ⟨rfl, rfl⟩

noncomputable def f_X7_join (x0 : Int32) (x1 : Int64) (x3 : Int64) : Option (Int64) :=
  if x0 = 3 then
    some (x1 + x3)
  else if x0 = 4 then
    some (x1 - x3)
  else if x0 = 5 then
    some (x1 * x3)
  else if x0 = 6 then
    if (lg_cmp x3 (0 : Int64)) = 0 then
      some (0 : Int64)
    else
      if x3 = 0 then none else some (x1 / x3)
  else if x0 = 7 then
    if (lg_cmp x3 (0 : Int64)) = 0 then
      some (0 : Int64)
    else
      if x3 = 0 then none else some (x1 - x1 / x3 * x3)
  else if x0 = 8 then
    if 0 ≤ (lg_cmp x1 x3) then
      some (0 : Int64)
    else
      some (1 : Int64)
  else if x0 = 9 then
    if 0 < (lg_cmp x1 x3) then
      some (0 : Int64)
    else
      some (1 : Int64)
  else if x0 = 10 then
    if (lg_cmp x1 x3) = 0 then
      some (1 : Int64)
    else
      some (0 : Int64)
  else if x0 = 11 then
    if (lg_cmp x1 x3) < 0 then
      some (0 : Int64)
    else
      some (1 : Int64)
  else if x0 = 12 then
    if (lg_cmp x1 x3) ≤ 0 then
      some (0 : Int64)
    else
      some (1 : Int64)
  else if x0 = 13 then
    some (x1 &&& x3)
  else
    some (x1 ||| x3)
set_option maxHeartbeats 4000000 in
set_option maxRecDepth 100000 in
theorem c_X7_join (l : Launch) (D : va_G) (dA : Nat → ClassId) (zz : (Nat → Nat) × (Nat → Nat)) (bs : Nat) (mm : Mm) (x0 : Int32) (x1 : Int64) (x3 : Int64) (out : Int64) (hf : f_X7_join x0 x1 x3 = some out) : Mw l D dA zz bs LY yX7_join cX7_join 5 (some .long) 0 0 [.int x0, .long x1, .long x3] mm (some (.long out)) mm := by
  refine Mw.of (own := RX7) (by decide) rfl (Nat.le_of_ble_eq_true rfl) ?_
  intro p e s m args below meth c X hr0 hP hS ls hl
  have hx := X.1
  have hb := X.2.1
  obtain ⟨H, hH⟩ : ∃ z : Heap, z = s.heap := ⟨_, rfl⟩
  obtain ⟨locs, hL⟩ : ∃ z : List Loc, z = [] := ⟨_, rfl⟩
  rw [← hH, ← hL]
  have hS : va_S (Aq bs) s.heap H locs := by rw [hH, hL]; exact hS
  have hP : Wd D dA bs LY mm H := by rw [hH]; exact hP
  have hl : lv_has ls 5 [(0, .int x0), (1, .long x1), (3, .long x3)] := hl
  unfold f_X7_join at hf
  refine lv_iload_n hx hb dX7_join_0 rfl (lv_at hl 0 rfl) ?_
  by_cases c_1 : x0 = 3
  · have hf := itT hf c_1
    refine lv_tableIn (tgt := 60) (off := 59) hx hb dX7_join_1 (by rw [c_1]; decide) (by rw [c_1]; decide) (by rw [c_1]; decide) (by decide) ?_
    refine lv_lload_n hx hb dX7_join_60 rfl (lv_at hl 1 rfl) ?_
    refine lv_lload_n hx hb dX7_join_61 rfl (lv_at hl 2 rfl) ?_
    refine lv_ladd hx hb dX7_join_62 ?_
    obtain rfl := Option.some.inj hf
    exact wd_lret X hP hS hr0 dX7_join_63 ⟨rfl, rfl⟩
  · have hf := itF hf c_1
    by_cases c_2 : x0 = 4
    · have hf := itT hf c_2
      refine lv_tableIn (tgt := 64) (off := 63) hx hb dX7_join_1 (by rw [c_2]; decide) (by rw [c_2]; decide) (by rw [c_2]; decide) (by decide) ?_
      refine lv_lload_n hx hb dX7_join_64 rfl (lv_at hl 1 rfl) ?_
      refine lv_lload_n hx hb dX7_join_65 rfl (lv_at hl 2 rfl) ?_
      refine lv_lsub hx hb dX7_join_66 ?_
      obtain rfl := Option.some.inj hf
      exact wd_lret X hP hS hr0 dX7_join_67 ⟨rfl, rfl⟩
    · have hf := itF hf c_2
      by_cases c_3 : x0 = 5
      · have hf := itT hf c_3
        refine lv_tableIn (tgt := 68) (off := 67) hx hb dX7_join_1 (by rw [c_3]; decide) (by rw [c_3]; decide) (by rw [c_3]; decide) (by decide) ?_
        refine lv_lload_n hx hb dX7_join_68 rfl (lv_at hl 1 rfl) ?_
        refine lv_lload_n hx hb dX7_join_69 rfl (lv_at hl 2 rfl) ?_
        refine lv_lmul hx hb dX7_join_70 ?_
        obtain rfl := Option.some.inj hf
        exact wd_lret X hP hS hr0 dX7_join_71 ⟨rfl, rfl⟩
      · have hf := itF hf c_3
        by_cases c_4 : x0 = 6
        · have hf := itT hf c_4
          refine lv_tableIn (tgt := 72) (off := 71) hx hb dX7_join_1 (by rw [c_4]; decide) (by rw [c_4]; decide) (by rw [c_4]; decide) (by decide) ?_
          refine lv_lload_n hx hb dX7_join_72 rfl (lv_at hl 2 rfl) ?_
          refine lv_lconst (v := 0) hx hb dX7_join_73 (by decide) ?_
          refine W.lcmp hx hb dX7_join_74 ?_
          refine lv_if_ne (tgt := 82) hx hb dX7_join_75 (by decide) (fun c_5 => ?_) (fun c_5 => ?_)
          · have hf := itF hf c_5
            refine lv_lload_n hx hb dX7_join_82 rfl (lv_at hl 1 rfl) ?_
            refine lv_lload_n hx hb dX7_join_83 rfl (lv_at hl 2 rfl) ?_
            have g_6 := gdN hf
            have hf := gdK hf
            refine lv_ldiv hx hb dX7_join_84 g_6 ?_
            obtain rfl := Option.some.inj hf
            exact wd_lret X hP hS hr0 dX7_join_85 ⟨rfl, rfl⟩
          · have hf := itT hf c_5
            refine lv_lconst (v := 0) hx hb dX7_join_78 (by decide) ?_
            refine lv_goto (tgt := 85) hx hb dX7_join_79 (by decide) ?_
            obtain rfl := Option.some.inj hf
            exact wd_lret X hP hS hr0 dX7_join_85 ⟨rfl, rfl⟩
        · have hf := itF hf c_4
          by_cases c_7 : x0 = 7
          · have hf := itT hf c_7
            refine lv_tableIn (tgt := 86) (off := 85) hx hb dX7_join_1 (by rw [c_7]; decide) (by rw [c_7]; decide) (by rw [c_7]; decide) (by decide) ?_
            refine lv_lload_n hx hb dX7_join_86 rfl (lv_at hl 2 rfl) ?_
            refine lv_lconst (v := 0) hx hb dX7_join_87 (by decide) ?_
            refine W.lcmp hx hb dX7_join_88 ?_
            refine lv_if_ne (tgt := 96) hx hb dX7_join_89 (by decide) (fun c_8 => ?_) (fun c_8 => ?_)
            · have hf := itF hf c_8
              refine lv_lload_n hx hb dX7_join_96 rfl (lv_at hl 1 rfl) ?_
              refine lv_lload_n hx hb dX7_join_97 rfl (lv_at hl 2 rfl) ?_
              have g_9 := gdN hf
              have hf := gdK hf
              refine lv_lrem hx hb dX7_join_98 g_9 ?_
              obtain rfl := Option.some.inj hf
              exact wd_lret X hP hS hr0 dX7_join_99 ⟨rfl, rfl⟩
            · have hf := itT hf c_8
              refine lv_lconst (v := 0) hx hb dX7_join_92 (by decide) ?_
              refine lv_goto (tgt := 99) hx hb dX7_join_93 (by decide) ?_
              obtain rfl := Option.some.inj hf
              exact wd_lret X hP hS hr0 dX7_join_99 ⟨rfl, rfl⟩
          · have hf := itF hf c_7
            by_cases c_10 : x0 = 8
            · have hf := itT hf c_10
              refine lv_tableIn (tgt := 100) (off := 99) hx hb dX7_join_1 (by rw [c_10]; decide) (by rw [c_10]; decide) (by rw [c_10]; decide) (by decide) ?_
              refine lv_lload_n hx hb dX7_join_100 rfl (lv_at hl 1 rfl) ?_
              refine lv_lload_n hx hb dX7_join_101 rfl (lv_at hl 2 rfl) ?_
              refine W.lcmp hx hb dX7_join_102 ?_
              refine lv_if_ge (tgt := 110) hx hb dX7_join_103 (by decide) (fun c_11 => ?_) (fun c_11 => ?_)
              · have hf := itT hf c_11
                refine lv_lconst (v := 0) hx hb dX7_join_110 (by decide) ?_
                obtain rfl := Option.some.inj hf
                exact wd_lret X hP hS hr0 dX7_join_111 ⟨rfl, rfl⟩
              · have hf := itF hf c_11
                refine lv_lconst (v := 1) hx hb dX7_join_106 (by decide) ?_
                refine lv_goto (tgt := 111) hx hb dX7_join_107 (by decide) ?_
                obtain rfl := Option.some.inj hf
                exact wd_lret X hP hS hr0 dX7_join_111 ⟨rfl, rfl⟩
            · have hf := itF hf c_10
              by_cases c_12 : x0 = 9
              · have hf := itT hf c_12
                refine lv_tableIn (tgt := 112) (off := 111) hx hb dX7_join_1 (by rw [c_12]; decide) (by rw [c_12]; decide) (by rw [c_12]; decide) (by decide) ?_
                refine lv_lload_n hx hb dX7_join_112 rfl (lv_at hl 1 rfl) ?_
                refine lv_lload_n hx hb dX7_join_113 rfl (lv_at hl 2 rfl) ?_
                refine W.lcmp hx hb dX7_join_114 ?_
                refine lv_if_gt (tgt := 122) hx hb dX7_join_115 (by decide) (fun c_13 => ?_) (fun c_13 => ?_)
                · have hf := itT hf c_13
                  refine lv_lconst (v := 0) hx hb dX7_join_122 (by decide) ?_
                  obtain rfl := Option.some.inj hf
                  exact wd_lret X hP hS hr0 dX7_join_123 ⟨rfl, rfl⟩
                · have hf := itF hf c_13
                  refine lv_lconst (v := 1) hx hb dX7_join_118 (by decide) ?_
                  refine lv_goto (tgt := 123) hx hb dX7_join_119 (by decide) ?_
                  obtain rfl := Option.some.inj hf
                  exact wd_lret X hP hS hr0 dX7_join_123 ⟨rfl, rfl⟩
              · have hf := itF hf c_12
                by_cases c_14 : x0 = 10
                · have hf := itT hf c_14
                  refine lv_tableIn (tgt := 124) (off := 123) hx hb dX7_join_1 (by rw [c_14]; decide) (by rw [c_14]; decide) (by rw [c_14]; decide) (by decide) ?_
                  refine lv_lload_n hx hb dX7_join_124 rfl (lv_at hl 1 rfl) ?_
                  refine lv_lload_n hx hb dX7_join_125 rfl (lv_at hl 2 rfl) ?_
                  refine W.lcmp hx hb dX7_join_126 ?_
                  refine lv_if_ne (tgt := 134) hx hb dX7_join_127 (by decide) (fun c_15 => ?_) (fun c_15 => ?_)
                  · have hf := itF hf c_15
                    refine lv_lconst (v := 0) hx hb dX7_join_134 (by decide) ?_
                    obtain rfl := Option.some.inj hf
                    exact wd_lret X hP hS hr0 dX7_join_135 ⟨rfl, rfl⟩
                  · have hf := itT hf c_15
                    refine lv_lconst (v := 1) hx hb dX7_join_130 (by decide) ?_
                    refine lv_goto (tgt := 135) hx hb dX7_join_131 (by decide) ?_
                    obtain rfl := Option.some.inj hf
                    exact wd_lret X hP hS hr0 dX7_join_135 ⟨rfl, rfl⟩
                · have hf := itF hf c_14
                  by_cases c_16 : x0 = 11
                  · have hf := itT hf c_16
                    refine lv_tableIn (tgt := 136) (off := 135) hx hb dX7_join_1 (by rw [c_16]; decide) (by rw [c_16]; decide) (by rw [c_16]; decide) (by decide) ?_
                    refine lv_lload_n hx hb dX7_join_136 rfl (lv_at hl 1 rfl) ?_
                    refine lv_lload_n hx hb dX7_join_137 rfl (lv_at hl 2 rfl) ?_
                    refine W.lcmp hx hb dX7_join_138 ?_
                    refine lv_if_lt (tgt := 146) hx hb dX7_join_139 (by decide) (fun c_17 => ?_) (fun c_17 => ?_)
                    · have hf := itT hf c_17
                      refine lv_lconst (v := 0) hx hb dX7_join_146 (by decide) ?_
                      obtain rfl := Option.some.inj hf
                      exact wd_lret X hP hS hr0 dX7_join_147 ⟨rfl, rfl⟩
                    · have hf := itF hf c_17
                      refine lv_lconst (v := 1) hx hb dX7_join_142 (by decide) ?_
                      refine lv_goto (tgt := 147) hx hb dX7_join_143 (by decide) ?_
                      obtain rfl := Option.some.inj hf
                      exact wd_lret X hP hS hr0 dX7_join_147 ⟨rfl, rfl⟩
                  · have hf := itF hf c_16
                    by_cases c_18 : x0 = 12
                    · have hf := itT hf c_18
                      refine lv_tableIn (tgt := 148) (off := 147) hx hb dX7_join_1 (by rw [c_18]; decide) (by rw [c_18]; decide) (by rw [c_18]; decide) (by decide) ?_
                      refine lv_lload_n hx hb dX7_join_148 rfl (lv_at hl 1 rfl) ?_
                      refine lv_lload_n hx hb dX7_join_149 rfl (lv_at hl 2 rfl) ?_
                      refine W.lcmp hx hb dX7_join_150 ?_
                      refine lv_if_le (tgt := 158) hx hb dX7_join_151 (by decide) (fun c_19 => ?_) (fun c_19 => ?_)
                      · have hf := itT hf c_19
                        refine lv_lconst (v := 0) hx hb dX7_join_158 (by decide) ?_
                        obtain rfl := Option.some.inj hf
                        exact wd_lret X hP hS hr0 dX7_join_159 ⟨rfl, rfl⟩
                      · have hf := itF hf c_19
                        refine lv_lconst (v := 1) hx hb dX7_join_154 (by decide) ?_
                        refine lv_goto (tgt := 159) hx hb dX7_join_155 (by decide) ?_
                        obtain rfl := Option.some.inj hf
                        exact wd_lret X hP hS hr0 dX7_join_159 ⟨rfl, rfl⟩
                    · have hf := itF hf c_18
                      by_cases c_20 : x0 = 13
                      · have hf := itT hf c_20
                        refine lv_tableIn (tgt := 160) (off := 159) hx hb dX7_join_1 (by rw [c_20]; decide) (by rw [c_20]; decide) (by rw [c_20]; decide) (by decide) ?_
                        refine lv_lload_n hx hb dX7_join_160 rfl (lv_at hl 1 rfl) ?_
                        refine lv_lload_n hx hb dX7_join_161 rfl (lv_at hl 2 rfl) ?_
                        refine lv_land hx hb dX7_join_162 ?_
                        obtain rfl := Option.some.inj hf
                        exact wd_lret X hP hS hr0 dX7_join_163 ⟨rfl, rfl⟩
                      · have hf := itF hf c_20
                        refine lv_tableOut (tgt := 164) hx hb dX7_join_1 (tb_out3_11 c_1 c_2 c_3 c_4 c_7 c_10 c_12 c_14 c_16 c_18 c_20) (by decide) ?_
                        refine lv_lload_n hx hb dX7_join_164 rfl (lv_at hl 1 rfl) ?_
                        refine lv_lload_n hx hb dX7_join_165 rfl (lv_at hl 2 rfl) ?_
                        refine lv_lor hx hb dX7_join_166 ?_
                        obtain rfl := Option.some.inj hf
                        exact wd_lret X hP hS hr0 dX7_join_167 ⟨rfl, rfl⟩

noncomputable def f_X7_valueOf_j56 (u : Nat) (mm : Mm) (y2 : Int32) (y5 : Int32) (y6 : Int32) (y7 : Int32) (y8 : Int32) (y9 : Int32) (y10 : Int32) (z0 : Int32) : Option ((Int32 × Int32 × Mm) ⊕ ((Mm) ⊕ (Mm))) :=
  if y7 < z0 then
    some (.inr (.inl mm))
  else
    if (y7 - z0) < (64 : Int32) then
      if y9 = 0 then
        if (y7 - z0) < 0 ∨ 64 ≤ (y7 - z0).toNatClampNeg then none else
          vlet (wL mm (u + 5) (y7 - z0).toNatClampNeg (y10.toInt64)) fun mm_19 => some (.inl (((y7 - z0) + 1), (y8 + 1), mm_19))
      else
        if y9 = (1 : Int32) then
          bi1 (f_X7_wordOf mm y10 y5 y6) fun r_16 =>
            if (y7 - z0) < 0 ∨ 64 ≤ (y7 - z0).toNatClampNeg then none else
              vlet (wL mm (u + 5) (y7 - z0).toNatClampNeg r_16) fun mm_17 => some (.inl (((y7 - z0) + 1), (y8 + 1), mm_17))
        else
          if y9 = (2 : Int32) then
            if (y7 - z0) < 0 ∨ 64 ≤ (y7 - z0).toNatClampNeg then none else
              if (y7 - z0) < 0 ∨ 64 ≤ (y7 - z0).toNatClampNeg then none else
                vlet (wL mm (u + 5) (y7 - z0).toNatClampNeg ((1 : Int64) - (mm.2 (u + 5) (y7 - z0).toNatClampNeg))) fun mm_13 => some (.inl (((y7 - z0) + 1), (y8 + 1), mm_13))
          else
            if (y7 - z0) < 0 ∨ 64 ≤ (y7 - z0).toNatClampNeg then none else
              if ((y7 - z0) + (1 : Int32)) < 0 ∨ 64 ≤ ((y7 - z0) + (1 : Int32)).toNatClampNeg then none else
                bi1 (f_X7_join y9 (mm.2 (u + 5) (y7 - z0).toNatClampNeg) (mm.2 (u + 5) ((y7 - z0) + (1 : Int32)).toNatClampNeg)) fun r_9 =>
                  if (y7 - z0) < 0 ∨ 64 ≤ (y7 - z0).toNatClampNeg then none else
                    vlet (wL mm (u + 5) (y7 - z0).toNatClampNeg r_9) fun mm_10 => some (.inl (((y7 - z0) + 1), (y8 + 1), mm_10))
    else
      some (.inr (.inl mm))
noncomputable def f_X7_valueOf_s6 (u : Nat) (y2 : Int32) (y5 : Int32) (y6 : Int32) : (Int32 × Int32 × Mm) → Option ((Int32 × Int32 × Mm) ⊕ ((Mm) ⊕ (Mm))) :=
  fun q => match q with
  | (y7, y8, mm) =>
    if y2 ≤ y8 then
      some (.inr (.inr (mm)))
    else
      if y8 < 0 ∨ 400 ≤ y8.toNatClampNeg then none else
        vlet ((mm.1 (u + 1) y8.toNatClampNeg) &&& (15 : Int32)) fun (x9_24 : Int32) =>
          if y8 < 0 ∨ 400 ≤ y8.toNatClampNeg then none else
            vlet ((mm.1 (u + 1) y8.toNatClampNeg) >>> ((4 : Int32) &&& 31)) fun (x10_26 : Int32) =>
              if (1 : Int32) < x9_24 then
                if x9_24 = (2 : Int32) then
                  f_X7_valueOf_j56 u mm y2 y5 y6 y7 y8 x9_24 x10_26 (1 : Int32)
                else
                  f_X7_valueOf_j56 u mm y2 y5 y6 y7 y8 x9_24 x10_26 (2 : Int32)
              else
                f_X7_valueOf_j56 u mm y2 y5 y6 y7 y8 x9_24 x10_26 (0 : Int32)
noncomputable def f_X7_valueOf (mm : Mm) (u : Nat) (x1 : Int32) (x2 : Int32) (x5 : Int32) (x6 : Int32) : Option (Int64 × Mm) :=
  bi1 (lp (f_X7_valueOf_s6 u x2 x5 x6) ((0 : Int32), x1, mm)) fun q => match q with
  | .inl mm_30 =>
    some ((0 : Int64), mm_30)
  | .inr (mm_31) =>
    some ((mm_31.2 (u + 5) 0), mm_31)
set_option maxHeartbeats 4000000 in
set_option maxRecDepth 100000 in
theorem c_X7_valueOf (l : Launch) (D : va_G) (dA : Nat → ClassId) (zz : (Nat → Nat) × (Nat → Nat)) (bs : Nat) (mm : Mm) (u : Nat) (hu : isRule u) (x1 : Int32) (x2 : Int32) (x5 : Int32) (x6 : Int32) (out : Int64) (m1 : Mm) (hf : f_X7_valueOf mm u x1 x2 x5 x6 = some (out, m1)) : Mw l D dA zz bs LY yX7_valueOf cX7_valueOf 12 (some .long) 3 69 [.ref (bs + u), .int x1, .int x2, .ref (bs + 33), .ref (bs + 229), .int x5, .int x6] mm (some (.long out)) m1 := by
  refine Mw.of (own := RX7) (by decide) rfl (Nat.le_of_ble_eq_true rfl) ?_
  intro p e s m args below meth c X hr0 hP hS ls hl
  have hx := X.1
  have hb := X.2.1
  obtain ⟨H, hH⟩ : ∃ z : Heap, z = s.heap := ⟨_, rfl⟩
  obtain ⟨locs, hL⟩ : ∃ z : List Loc, z = [] := ⟨_, rfl⟩
  rw [← hH, ← hL]
  have hS : va_S (Aq bs) s.heap H locs := by rw [hH, hL]; exact hS
  have hP : Wd D dA bs LY mm H := by rw [hH]; exact hP
  have hl : lv_has ls 12 [(0, .ref (bs + u)), (1, .int x1), (2, .int x2), (3, .ref (bs + 33)), (4, .ref (bs + 229)), (5, .int x5), (6, .int x6)] := hl
  unfold f_X7_valueOf at hf
  refine lv_iconst (v := 0) hx hb dX7_valueOf_0 (by decide) ?_
  refine lv_istore (lv' := [(7, .int (0 : Int32)), (0, .ref (bs + u)), (1, .int x1), (2, .int x2), (3, .ref (bs + 33)), (4, .ref (bs + 229)), (5, .int x5), (6, .int x6)]) hx hb dX7_valueOf_1 hl (by decide) rfl (fun ls hl => ?_)
  refine lv_iload_n hx hb dX7_valueOf_3 rfl (lv_at hl 2 rfl) ?_
  refine lv_istore (lv' := [(8, .int x1), (7, .int (0 : Int32)), (0, .ref (bs + u)), (1, .int x1), (2, .int x2), (3, .ref (bs + 33)), (4, .ref (bs + 229)), (5, .int x5), (6, .int x6)]) hx hb dX7_valueOf_4 hl (by decide) rfl (fun ls hl => ?_)
  obtain ⟨q_32, hlp_33, hf⟩ := bi1S hf
  refine lp_walk (Wh := (fun z => match z with | (y7L_29, y8L_29, mmL_29) => ∀ (H : Heap) (locs : List Loc) (ls : Array Slot), Wd D dA bs LY mmL_29 H → va_S (Aq bs) s.heap H locs → lv_has ls 12 [(0, .ref (bs + u)), (2, .int x2), (3, .ref (bs + 33)), (4, .ref (bs + 229)), (5, .int x5), (6, .int x6), (7, .int y7L_29), (8, .int y8L_29)] → Wz p l e s m args below meth c D dA bs (some (.long out)) m1 3 69 H locs 6 ls [])) (Ph := (fun z => match z with | .inl mm_30 => ∀ (H : Heap) (locs : List Loc) (ls : Array Slot), Wd D dA bs LY mm_30 H → va_S (Aq bs) s.heap H locs → lv_has ls 12 [] → Wz p l e s m args below meth c D dA bs (some (.long out)) m1 3 69 H locs 75 ls [] | .inr (mm_31) => ∀ (H : Heap) (locs : List Loc) (ls : Array Slot), Wd D dA bs LY mm_31 H → va_S (Aq bs) s.heap H locs → lv_has ls 12 [(0, .ref (bs + u))] → Wz p l e s m args below meth c D dA bs (some (.long out)) m1 3 69 H locs 192 ls [])) ?_ hlp_33 ?_ H locs ls hP hS (lv_sub hl [2, 4, 5, 6, 7, 8, 1, 0] rfl)
  · intro z o hf hB hE
    obtain ⟨y7L_29, y8L_29, mmL_29⟩ := z
    intro H locs ls hP hS hl
    have hf : f_X7_valueOf_s6 u x2 x5 x6 (y7L_29, y8L_29, mmL_29) = some o := hf
    unfold f_X7_valueOf_s6 at hf
    dsimp only at hf
    have hJ56 : ∀ (mmJ_21 : Mm) (y7J_21 : Int32) (y8J_21 : Int32) (y9J_21 : Int32) (y10J_21 : Int32) (z0J_21 : Int32) (H : Heap) (locs : List Loc) (ls : Array Slot), f_X7_valueOf_j56 u mmJ_21 x2 x5 x6 y7J_21 y8J_21 y9J_21 y10J_21 z0J_21 = some o → Wd D dA bs LY mmJ_21 H → va_S (Aq bs) s.heap H locs → lv_has ls 12 [(0, .ref (bs + u)), (2, .int x2), (3, .ref (bs + 33)), (4, .ref (bs + 229)), (5, .int x5), (6, .int x6), (7, .int y7J_21), (8, .int y8J_21), (9, .int y9J_21), (10, .int y10J_21)] → Wz p l e s m args below meth c D dA bs (some (.long out)) m1 3 69 H locs 56 ls [.int z0J_21] := by
      intro mmJ_21 y7J_21 y8J_21 y9J_21 y10J_21 z0J_21 H locs ls hf hP hS hl
      unfold f_X7_valueOf_j56 at hf
      refine lv_istore (lv' := [(11, .int z0J_21), (0, .ref (bs + u)), (2, .int x2), (3, .ref (bs + 33)), (4, .ref (bs + 229)), (5, .int x5), (6, .int x6), (7, .int y7J_21), (8, .int y8J_21), (9, .int y9J_21), (10, .int y10J_21)]) hx hb dX7_valueOf_56 hl (by decide) rfl (fun ls hl => ?_)
      refine lv_iload hx hb dX7_valueOf_58 (lv_at hl 7 rfl) ?_
      refine lv_iload hx hb dX7_valueOf_60 (lv_at hl 0 rfl) ?_
      refine lv_icmp_lt (tgt := 75) hx hb dX7_valueOf_62 (by decide) (fun c_1 => ?_) (fun c_1 => ?_)
      · have hf := itT hf c_1
        obtain rfl := Option.some.inj hf
        exact hE _ rfl H locs ls hP hS (lv_sub hl [] rfl)
      · have hf := itF hf c_1
        refine lv_iload hx hb dX7_valueOf_65 (lv_at hl 7 rfl) ?_
        refine lv_iload hx hb dX7_valueOf_67 (lv_at hl 0 rfl) ?_
        refine lv_isub hx hb dX7_valueOf_69 ?_
        refine lv_bipush (v := 64) hx hb dX7_valueOf_70 (by decide) ?_
        refine lv_icmp_lt (tgt := 77) hx hb dX7_valueOf_72 (by decide) (fun c_2 => ?_) (fun c_2 => ?_)
        · have hf := itT hf c_2
          refine lv_iload hx hb dX7_valueOf_77 (lv_at hl 7 rfl) ?_
          refine lv_iload hx hb dX7_valueOf_79 (lv_at hl 0 rfl) ?_
          refine lv_isub hx hb dX7_valueOf_81 ?_
          refine lv_istore (lv' := [(7, .int (y7J_21 - z0J_21)), (11, .int z0J_21), (0, .ref (bs + u)), (2, .int x2), (3, .ref (bs + 33)), (4, .ref (bs + 229)), (5, .int x5), (6, .int x6), (8, .int y8J_21), (9, .int y9J_21), (10, .int y10J_21)]) hx hb dX7_valueOf_82 hl (by decide) rfl (fun ls hl => ?_)
          refine lv_iload hx hb dX7_valueOf_84 (lv_at hl 9 rfl) ?_
          refine lv_if_ne (tgt := 102) hx hb dX7_valueOf_86 (by decide) (fun c_3 => ?_) (fun c_3 => ?_)
          · have hf := itF hf c_3
            refine lv_iload hx hb dX7_valueOf_102 (lv_at hl 9 rfl) ?_
            refine lv_iconst (v := 1) hx hb dX7_valueOf_104 (by decide) ?_
            refine lv_icmp_ne (tgt := 130) hx hb dX7_valueOf_105 (by decide) (fun c_4 => ?_) (fun c_4 => ?_)
            · have hf := itF hf c_4
              refine lv_iload hx hb dX7_valueOf_130 (lv_at hl 9 rfl) ?_
              refine lv_iconst (v := 2) hx hb dX7_valueOf_132 (by decide) ?_
              refine lv_icmp_ne (tgt := 155) hx hb dX7_valueOf_133 (by decide) (fun c_5 => ?_) (fun c_5 => ?_)
              · have hf := itF hf c_5
                refine lv_aload_n hx hb dX7_valueOf_155 rfl (lv_at hl 2 rfl) ?_
                refine wd_getR (q := u + 5) X hP (isRule.a0 hu) fl_X7_24 rfl dX7_valueOf_156 ?_
                refine lv_iload hx hb dX7_valueOf_159 (lv_at hl 0 rfl) ?_
                refine lv_iload hx hb dX7_valueOf_161 (lv_at hl 9 rfl) ?_
                refine lv_aload_n hx hb dX7_valueOf_163 rfl (lv_at hl 2 rfl) ?_
                refine wd_getR (q := u + 5) X hP (isRule.a0 hu) fl_X7_24 rfl dX7_valueOf_164 ?_
                refine lv_iload hx hb dX7_valueOf_167 (lv_at hl 0 rfl) ?_
                have g_6 := gdN hf
                have hf := gdK hf
                refine wd_lald X hP (isRule.a5 hu) g_6 dX7_valueOf_169 ?_
                refine lv_aload_n hx hb dX7_valueOf_170 rfl (lv_at hl 2 rfl) ?_
                refine wd_getR (q := u + 5) X hP (isRule.a0 hu) fl_X7_24 rfl dX7_valueOf_171 ?_
                refine lv_iload hx hb dX7_valueOf_174 (lv_at hl 0 rfl) ?_
                refine lv_iconst (v := 1) hx hb dX7_valueOf_176 (by decide) ?_
                refine lv_iadd hx hb dX7_valueOf_177 ?_
                have g_7 := gdN hf
                have hf := gdK hf
                refine wd_lald X hP (isRule.a5 hu) g_7 dX7_valueOf_178 ?_
                obtain ⟨r_9, hc_8, hf⟩ := bi1S hf
                refine wd_cs X hP hS ml_X7_49 (c_X7_join l D dA zz bs mmJ_21 y9J_21 (mmJ_21.2 (u + 5) (y7J_21 - z0J_21).toNatClampNeg) (mmJ_21.2 (u + 5) ((y7J_21 - z0J_21) + (1 : Int32)).toNatClampNeg) r_9 hc_8) rfl ⟨Nat.le_of_ble_eq_true rfl, Nat.le_of_ble_eq_true rfl⟩ hl.1 rfl (rest := [.int (y7J_21 - z0J_21), .ref (bs + (u + 5))]) (Nat.le_of_ble_eq_true rfl) ⟨Nat.zero_le _, Nat.zero_le _⟩ dX7_valueOf_179 (fun H locs hP hS => ?_)
                refine W.eq (g2 := F0 m 182 ls [.long r_9, .int (y7J_21 - z0J_21), .ref (bs + (u + 5))]) rfl ?_
                have g_11 := gdN hf
                have hf := gdK hf
                refine wd_last X hP hS (isRule.a5 hu) g_11 dX7_valueOf_182 (fun H locs mm_10 emm_10 hP hS => ?_)
                have hf := vl hf emm_10
                refine lv_iinc (v := ((y7J_21 - z0J_21) + 1)) (lv' := [(7, .int ((y7J_21 - z0J_21) + 1)), (11, .int z0J_21), (0, .ref (bs + u)), (2, .int x2), (3, .ref (bs + 33)), (4, .ref (bs + 229)), (5, .int x5), (6, .int x6), (8, .int y8J_21), (9, .int y9J_21), (10, .int y10J_21)]) hx hb dX7_valueOf_183 hl (k := 0) rfl rfl (by decide) rfl (fun ls hl => ?_)
                refine lv_iinc (v := (y8J_21 + 1)) (lv' := [(8, .int (y8J_21 + 1)), (7, .int ((y7J_21 - z0J_21) + 1)), (11, .int z0J_21), (0, .ref (bs + u)), (2, .int x2), (3, .ref (bs + 33)), (4, .ref (bs + 229)), (5, .int x5), (6, .int x6), (9, .int y9J_21), (10, .int y10J_21)]) hx hb dX7_valueOf_186 hl (k := 8) rfl rfl (by decide) rfl (fun ls hl => ?_)
                refine lv_goto (tgt := 6) hx hb dX7_valueOf_189 (by decide) ?_
                obtain rfl := Option.some.inj hf
                exact hB _ rfl H locs ls hP hS (lv_sub hl [3, 4, 5, 6, 7, 8, 1, 0] rfl)
              · have hf := itT hf c_5
                refine lv_aload_n hx hb dX7_valueOf_136 rfl (lv_at hl 2 rfl) ?_
                refine wd_getR (q := u + 5) X hP (isRule.a0 hu) fl_X7_24 rfl dX7_valueOf_137 ?_
                refine lv_iload hx hb dX7_valueOf_140 (lv_at hl 0 rfl) ?_
                refine lv_lconst (v := 1) hx hb dX7_valueOf_142 (by decide) ?_
                refine lv_aload_n hx hb dX7_valueOf_143 rfl (lv_at hl 2 rfl) ?_
                refine wd_getR (q := u + 5) X hP (isRule.a0 hu) fl_X7_24 rfl dX7_valueOf_144 ?_
                refine lv_iload hx hb dX7_valueOf_147 (lv_at hl 0 rfl) ?_
                have g_12 := gdN hf
                have hf := gdK hf
                refine wd_lald X hP (isRule.a5 hu) g_12 dX7_valueOf_149 ?_
                refine lv_lsub hx hb dX7_valueOf_150 ?_
                have g_14 := gdN hf
                have hf := gdK hf
                refine wd_last X hP hS (isRule.a5 hu) g_14 dX7_valueOf_151 (fun H locs mm_13 emm_13 hP hS => ?_)
                have hf := vl hf emm_13
                refine lv_goto (tgt := 183) hx hb dX7_valueOf_152 (by decide) ?_
                refine lv_iinc (v := ((y7J_21 - z0J_21) + 1)) (lv' := [(7, .int ((y7J_21 - z0J_21) + 1)), (11, .int z0J_21), (0, .ref (bs + u)), (2, .int x2), (3, .ref (bs + 33)), (4, .ref (bs + 229)), (5, .int x5), (6, .int x6), (8, .int y8J_21), (9, .int y9J_21), (10, .int y10J_21)]) hx hb dX7_valueOf_183 hl (k := 0) rfl rfl (by decide) rfl (fun ls hl => ?_)
                refine lv_iinc (v := (y8J_21 + 1)) (lv' := [(8, .int (y8J_21 + 1)), (7, .int ((y7J_21 - z0J_21) + 1)), (11, .int z0J_21), (0, .ref (bs + u)), (2, .int x2), (3, .ref (bs + 33)), (4, .ref (bs + 229)), (5, .int x5), (6, .int x6), (9, .int y9J_21), (10, .int y10J_21)]) hx hb dX7_valueOf_186 hl (k := 8) rfl rfl (by decide) rfl (fun ls hl => ?_)
                refine lv_goto (tgt := 6) hx hb dX7_valueOf_189 (by decide) ?_
                obtain rfl := Option.some.inj hf
                exact hB _ rfl H locs ls hP hS (lv_sub hl [3, 4, 5, 6, 7, 8, 1, 0] rfl)
            · have hf := itT hf c_4
              refine lv_aload_n hx hb dX7_valueOf_108 rfl (lv_at hl 2 rfl) ?_
              refine wd_getR (q := u + 5) X hP (isRule.a0 hu) fl_X7_24 rfl dX7_valueOf_109 ?_
              refine lv_iload hx hb dX7_valueOf_112 (lv_at hl 0 rfl) ?_
              refine lv_iload hx hb dX7_valueOf_114 (lv_at hl 10 rfl) ?_
              refine lv_aload_n hx hb dX7_valueOf_116 rfl (lv_at hl 4 rfl) ?_
              refine lv_aload hx hb dX7_valueOf_117 (lv_at hl 5 rfl) ?_
              refine lv_iload hx hb dX7_valueOf_119 (lv_at hl 6 rfl) ?_
              refine lv_iload hx hb dX7_valueOf_121 (lv_at hl 7 rfl) ?_
              obtain ⟨r_16, hc_15, hf⟩ := bi1S hf
              refine wd_cs X hP hS ml_X7_45 (c_X7_wordOf l D dA zz bs mmJ_21 y10J_21 x5 x6 r_16 hc_15) rfl ⟨Nat.le_of_ble_eq_true rfl, Nat.le_of_ble_eq_true rfl⟩ hl.1 rfl (rest := [.int (y7J_21 - z0J_21), .ref (bs + (u + 5))]) (Nat.le_of_ble_eq_true rfl) ⟨Nat.zero_le _, Nat.zero_le _⟩ dX7_valueOf_123 (fun H locs hP hS => ?_)
              refine W.eq (g2 := F0 m 126 ls [.long r_16, .int (y7J_21 - z0J_21), .ref (bs + (u + 5))]) rfl ?_
              have g_18 := gdN hf
              have hf := gdK hf
              refine wd_last X hP hS (isRule.a5 hu) g_18 dX7_valueOf_126 (fun H locs mm_17 emm_17 hP hS => ?_)
              have hf := vl hf emm_17
              refine lv_goto (tgt := 183) hx hb dX7_valueOf_127 (by decide) ?_
              refine lv_iinc (v := ((y7J_21 - z0J_21) + 1)) (lv' := [(7, .int ((y7J_21 - z0J_21) + 1)), (11, .int z0J_21), (0, .ref (bs + u)), (2, .int x2), (3, .ref (bs + 33)), (4, .ref (bs + 229)), (5, .int x5), (6, .int x6), (8, .int y8J_21), (9, .int y9J_21), (10, .int y10J_21)]) hx hb dX7_valueOf_183 hl (k := 0) rfl rfl (by decide) rfl (fun ls hl => ?_)
              refine lv_iinc (v := (y8J_21 + 1)) (lv' := [(8, .int (y8J_21 + 1)), (7, .int ((y7J_21 - z0J_21) + 1)), (11, .int z0J_21), (0, .ref (bs + u)), (2, .int x2), (3, .ref (bs + 33)), (4, .ref (bs + 229)), (5, .int x5), (6, .int x6), (9, .int y9J_21), (10, .int y10J_21)]) hx hb dX7_valueOf_186 hl (k := 8) rfl rfl (by decide) rfl (fun ls hl => ?_)
              refine lv_goto (tgt := 6) hx hb dX7_valueOf_189 (by decide) ?_
              obtain rfl := Option.some.inj hf
              exact hB _ rfl H locs ls hP hS (lv_sub hl [3, 4, 5, 6, 7, 8, 1, 0] rfl)
          · have hf := itT hf c_3
            refine lv_aload_n hx hb dX7_valueOf_89 rfl (lv_at hl 2 rfl) ?_
            refine wd_getR (q := u + 5) X hP (isRule.a0 hu) fl_X7_24 rfl dX7_valueOf_90 ?_
            refine lv_iload hx hb dX7_valueOf_93 (lv_at hl 0 rfl) ?_
            refine lv_iload hx hb dX7_valueOf_95 (lv_at hl 10 rfl) ?_
            refine lv_i2l hx hb dX7_valueOf_97 rfl ?_
            have g_20 := gdN hf
            have hf := gdK hf
            refine wd_last X hP hS (isRule.a5 hu) g_20 dX7_valueOf_98 (fun H locs mm_19 emm_19 hP hS => ?_)
            have hf := vl hf emm_19
            refine lv_goto (tgt := 183) hx hb dX7_valueOf_99 (by decide) ?_
            refine lv_iinc (v := ((y7J_21 - z0J_21) + 1)) (lv' := [(7, .int ((y7J_21 - z0J_21) + 1)), (11, .int z0J_21), (0, .ref (bs + u)), (2, .int x2), (3, .ref (bs + 33)), (4, .ref (bs + 229)), (5, .int x5), (6, .int x6), (8, .int y8J_21), (9, .int y9J_21), (10, .int y10J_21)]) hx hb dX7_valueOf_183 hl (k := 0) rfl rfl (by decide) rfl (fun ls hl => ?_)
            refine lv_iinc (v := (y8J_21 + 1)) (lv' := [(8, .int (y8J_21 + 1)), (7, .int ((y7J_21 - z0J_21) + 1)), (11, .int z0J_21), (0, .ref (bs + u)), (2, .int x2), (3, .ref (bs + 33)), (4, .ref (bs + 229)), (5, .int x5), (6, .int x6), (9, .int y9J_21), (10, .int y10J_21)]) hx hb dX7_valueOf_186 hl (k := 8) rfl rfl (by decide) rfl (fun ls hl => ?_)
            refine lv_goto (tgt := 6) hx hb dX7_valueOf_189 (by decide) ?_
            obtain rfl := Option.some.inj hf
            exact hB _ rfl H locs ls hP hS (lv_sub hl [3, 4, 5, 6, 7, 8, 1, 0] rfl)
        · have hf := itF hf c_2
          obtain rfl := Option.some.inj hf
          exact hE _ rfl H locs ls hP hS (lv_sub hl [] rfl)
    refine lv_iload hx hb dX7_valueOf_6 (lv_at hl 7 rfl) ?_
    refine lv_iload_n hx hb dX7_valueOf_8 rfl (lv_at hl 1 rfl) ?_
    refine lv_icmp_ge (tgt := 192) hx hb dX7_valueOf_9 (by decide) (fun c_22 => ?_) (fun c_22 => ?_)
    · have hf := itT hf c_22
      obtain rfl := Option.some.inj hf
      exact hE _ rfl H locs ls hP hS (lv_sub hl [0] rfl)
    · have hf := itF hf c_22
      refine lv_aload_n hx hb dX7_valueOf_12 rfl (lv_at hl 0 rfl) ?_
      refine wd_getR (q := u + 1) X hP (isRule.a0 hu) fl_X7_9 rfl dX7_valueOf_13 ?_
      refine lv_iload hx hb dX7_valueOf_16 (lv_at hl 7 rfl) ?_
      have g_23 := gdN hf
      have hf := gdK hf
      refine wd_iald X hP (isRule.a1 hu) g_23 dX7_valueOf_18 ?_
      refine lv_bipush (v := 15) hx hb dX7_valueOf_19 (by decide) ?_
      refine lv_iand hx hb dX7_valueOf_21 ?_
      refine lv_topi (fun x9_24 ex9_24 => ?_)
      have hf := vl hf ex9_24
      refine lv_istore (lv' := [(9, .int x9_24), (0, .ref (bs + u)), (2, .int x2), (3, .ref (bs + 33)), (4, .ref (bs + 229)), (5, .int x5), (6, .int x6), (7, .int y7L_29), (8, .int y8L_29)]) hx hb dX7_valueOf_22 hl (by decide) rfl (fun ls hl => ?_)
      refine lv_aload_n hx hb dX7_valueOf_24 rfl (lv_at hl 1 rfl) ?_
      refine wd_getR (q := u + 1) X hP (isRule.a0 hu) fl_X7_9 rfl dX7_valueOf_25 ?_
      refine lv_iload hx hb dX7_valueOf_28 (lv_at hl 8 rfl) ?_
      have g_25 := gdN hf
      have hf := gdK hf
      refine wd_iald X hP (isRule.a1 hu) g_25 dX7_valueOf_30 ?_
      refine lv_iconst (v := 4) hx hb dX7_valueOf_31 (by decide) ?_
      refine lv_ishr hx hb dX7_valueOf_32 ?_
      refine lv_topi (fun x10_26 ex10_26 => ?_)
      have hf := vl hf ex10_26
      refine lv_istore (lv' := [(10, .int x10_26), (9, .int x9_24), (0, .ref (bs + u)), (2, .int x2), (3, .ref (bs + 33)), (4, .ref (bs + 229)), (5, .int x5), (6, .int x6), (7, .int y7L_29), (8, .int y8L_29)]) hx hb dX7_valueOf_33 hl (by decide) rfl (fun ls hl => ?_)
      refine lv_iload hx hb dX7_valueOf_35 (lv_at hl 1 rfl) ?_
      refine lv_iconst (v := 1) hx hb dX7_valueOf_37 (by decide) ?_
      refine lv_icmp_gt (tgt := 45) hx hb dX7_valueOf_38 (by decide) (fun c_27 => ?_) (fun c_27 => ?_)
      · have hf := itT hf c_27
        refine lv_iload hx hb dX7_valueOf_45 (lv_at hl 1 rfl) ?_
        refine lv_iconst (v := 2) hx hb dX7_valueOf_47 (by decide) ?_
        refine lv_icmp_ne (tgt := 55) hx hb dX7_valueOf_48 (by decide) (fun c_28 => ?_) (fun c_28 => ?_)
        · have hf := itF hf c_28
          refine lv_iconst (v := 2) hx hb dX7_valueOf_55 (by decide) ?_
          exact hJ56 mmL_29 y7L_29 y8L_29 x9_24 x10_26 (2 : Int32) H locs ls hf hP hS (lv_sub hl [2, 3, 4, 5, 6, 7, 8, 9, 1, 0] rfl)
        · have hf := itT hf c_28
          refine lv_iconst (v := 1) hx hb dX7_valueOf_51 (by decide) ?_
          refine lv_goto (tgt := 56) hx hb dX7_valueOf_52 (by decide) ?_
          exact hJ56 mmL_29 y7L_29 y8L_29 x9_24 x10_26 (1 : Int32) H locs ls hf hP hS (lv_sub hl [2, 3, 4, 5, 6, 7, 8, 9, 1, 0] rfl)
      · have hf := itF hf c_27
        refine lv_iconst (v := 0) hx hb dX7_valueOf_41 (by decide) ?_
        refine lv_goto (tgt := 56) hx hb dX7_valueOf_42 (by decide) ?_
        exact hJ56 mmL_29 y7L_29 y8L_29 x9_24 x10_26 (0 : Int32) H locs ls hf hP hS (lv_sub hl [2, 3, 4, 5, 6, 7, 8, 9, 1, 0] rfl)
  · rcases q_32 with mm_30 | mm_31
    · dsimp only at hf
      intro H locs ls hP hS hl
      refine lv_lconst (v := 0) hx hb dX7_valueOf_75 (by decide) ?_
      obtain ⟨rfl, rfl⟩ := Prod.mk.inj (Option.some.inj hf)
      exact wd_lret X hP hS hr0 dX7_valueOf_76 ⟨rfl, rfl⟩
    · dsimp only at hf
      intro H locs ls hP hS hl
      refine lv_aload_n hx hb dX7_valueOf_192 rfl (lv_at hl 0 rfl) ?_
      refine wd_getR (q := u + 5) X hP (isRule.a0 hu) fl_X7_24 rfl dX7_valueOf_193 ?_
      refine lv_iconst (v := 0) hx hb dX7_valueOf_196 (by decide) ?_
      refine wd_laldK (k := 0) X hP (isRule.a5 hu) (by decide) (by decide) dX7_valueOf_197 ?_
      obtain ⟨rfl, rfl⟩ := Prod.mk.inj (Option.some.inj hf)
      exact wd_lret X hP hS hr0 dX7_valueOf_198 ⟨rfl, rfl⟩

noncomputable def f_X7_worth_j62 (u : Nat) (mm : Mm) (y3 : Int32) (y4 : Int32) (y5 : Int32) (z0 : Int32) : Option ((Int32 × Mm) ⊕ ((Int32 × Mm) ⊕ (Mm))) :=
  if z0 = 0 then
    some (.inl ((y5 + 1), mm))
  else
    some (.inr (.inl (y5, mm)))
noncomputable def f_X7_worth_j57 (u : Nat) (mm : Mm) (y3 : Int32) (y4 : Int32) (y5 : Int32) : Option ((Int32 × Mm) ⊕ ((Int32 × Mm) ⊕ (Mm))) :=
  f_X7_worth_j62 u mm y3 y4 y5 (1 : Int32)
noncomputable def f_X7_worth_s3 (u : Nat) (y3 : Int32) (y4 : Int32) : (Int32 × Mm) → Option ((Int32 × Mm) ⊕ ((Int32 × Mm) ⊕ (Mm))) :=
  fun q => match q with
  | (y5, mm) =>
    if (mm.1 u 5) ≤ y5 then
      some (.inr (.inr (mm)))
    else
      if y5 < 0 ∨ 12 ≤ y5.toNatClampNeg then none else
        if y5 < 0 ∨ 12 ≤ y5.toNatClampNeg then none else
          if (mm.1 (u + 3) y5.toNatClampNeg) = (mm.1 (u + 4) y5.toNatClampNeg) then
            f_X7_worth_j57 u mm y3 y4 y5
          else
            if y5 < 0 ∨ 12 ≤ y5.toNatClampNeg then none else
              if y5 < 0 ∨ 12 ≤ y5.toNatClampNeg then none else
                bi2 (f_X7_valueOf mm u (mm.1 (u + 3) y5.toNatClampNeg) (mm.1 (u + 4) y5.toNatClampNeg) y3 y4) fun r_12 mm_10 =>
                  if (lg_cmp r_12 (0 : Int64)) = 0 then
                    f_X7_worth_j62 u mm_10 y3 y4 y5 (0 : Int32)
                  else
                    f_X7_worth_j57 u mm_10 y3 y4 y5
noncomputable def f_X7_worth (mm : Mm) (u : Nat) (x3 : Int32) (x4 : Int32) : Option (Int64 × Mm) :=
  bi1 (lp (f_X7_worth_s3 u x3 x4) ((0 : Int32), mm)) fun q => match q with
  | .inl (w5_15, mm_16) =>
    if w5_15 < 0 ∨ 12 ≤ w5_15.toNatClampNeg then none else
      if w5_15 < 0 ∨ 12 ≤ w5_15.toNatClampNeg then none else
        bi2 (f_X7_valueOf mm_16 u (mm_16.1 (u + 2) w5_15.toNatClampNeg) (mm_16.1 (u + 3) w5_15.toNatClampNeg) x3 x4) fun r_21 mm_19 => some (r_21, mm_19)
  | .inr (mm_22) =>
    some ((0 : Int64), mm_22)
set_option maxHeartbeats 4000000 in
set_option maxRecDepth 100000 in
theorem c_X7_worth (l : Launch) (D : va_G) (dA : Nat → ClassId) (zz : (Nat → Nat) × (Nat → Nat)) (bs : Nat) (mm : Mm) (u : Nat) (hu : isRule u) (x3 : Int32) (x4 : Int32) (out : Int64) (m1 : Mm) (hf : f_X7_worth mm u x3 x4 = some (out, m1)) : Mw l D dA zz bs LY yX7_worth cX7_worth 7 (some .long) 4 100 [.ref (bs + u), .ref (bs + 33), .ref (bs + 229), .int x3, .int x4] mm (some (.long out)) m1 := by
  refine Mw.of (own := RX7) (by decide) rfl (Nat.le_of_ble_eq_true rfl) ?_
  intro p e s m args below meth c X hr0 hP hS ls hl
  have hx := X.1
  have hb := X.2.1
  obtain ⟨H, hH⟩ : ∃ z : Heap, z = s.heap := ⟨_, rfl⟩
  obtain ⟨locs, hL⟩ : ∃ z : List Loc, z = [] := ⟨_, rfl⟩
  rw [← hH, ← hL]
  have hS : va_S (Aq bs) s.heap H locs := by rw [hH, hL]; exact hS
  have hP : Wd D dA bs LY mm H := by rw [hH]; exact hP
  have hl : lv_has ls 7 [(0, .ref (bs + u)), (1, .ref (bs + 33)), (2, .ref (bs + 229)), (3, .int x3), (4, .int x4)] := hl
  unfold f_X7_worth at hf
  refine lv_iconst (v := 0) hx hb dX7_worth_0 (by decide) ?_
  refine lv_istore (lv' := [(5, .int (0 : Int32)), (0, .ref (bs + u)), (1, .ref (bs + 33)), (2, .ref (bs + 229)), (3, .int x3), (4, .int x4)]) hx hb dX7_worth_1 hl (by decide) rfl (fun ls hl => ?_)
  obtain ⟨q_23, hlp_24, hf⟩ := bi1S hf
  refine lp_walk (Wh := (fun z => match z with | (y5L_14, mmL_14) => ∀ (H : Heap) (locs : List Loc) (ls : Array Slot), Wd D dA bs LY mmL_14 H → va_S (Aq bs) s.heap H locs → lv_has ls 7 [(0, .ref (bs + u)), (1, .ref (bs + 33)), (2, .ref (bs + 229)), (3, .int x3), (4, .int x4), (5, .int y5L_14)] → Wz p l e s m args below meth c D dA bs (some (.long out)) m1 4 100 H locs 3 ls [])) (Ph := (fun z => match z with | .inl (w5_15, mm_16) => ∀ (H : Heap) (locs : List Loc) (ls : Array Slot), Wd D dA bs LY mm_16 H → va_S (Aq bs) s.heap H locs → lv_has ls 7 [(0, .ref (bs + u)), (1, .ref (bs + 33)), (2, .ref (bs + 229)), (3, .int x3), (4, .int x4), (5, .int w5_15)] → Wz p l e s m args below meth c D dA bs (some (.long out)) m1 4 100 H locs 69 ls [] | .inr (mm_22) => ∀ (H : Heap) (locs : List Loc) (ls : Array Slot), Wd D dA bs LY mm_22 H → va_S (Aq bs) s.heap H locs → lv_has ls 7 [] → Wz p l e s m args below meth c D dA bs (some (.long out)) m1 4 100 H locs 99 ls [])) ?_ hlp_24 ?_ H locs ls hP hS (lv_sub hl [1, 2, 3, 4, 5, 0] rfl)
  · intro z o hf hB hE
    obtain ⟨y5L_14, mmL_14⟩ := z
    intro H locs ls hP hS hl
    have hf : f_X7_worth_s3 u x3 x4 (y5L_14, mmL_14) = some o := hf
    unfold f_X7_worth_s3 at hf
    dsimp only at hf
    have hJ62 : ∀ (mmJ_2 : Mm) (y5J_2 : Int32) (z0J_2 : Int32) (H : Heap) (locs : List Loc) (ls : Array Slot), f_X7_worth_j62 u mmJ_2 x3 x4 y5J_2 z0J_2 = some o → Wd D dA bs LY mmJ_2 H → va_S (Aq bs) s.heap H locs → lv_has ls 7 [(0, .ref (bs + u)), (1, .ref (bs + 33)), (2, .ref (bs + 229)), (3, .int x3), (4, .int x4), (5, .int y5J_2)] → Wz p l e s m args below meth c D dA bs (some (.long out)) m1 4 100 H locs 62 ls [.int z0J_2] := by
      intro mmJ_2 y5J_2 z0J_2 H locs ls hf hP hS hl
      unfold f_X7_worth_j62 at hf
      refine lv_istore (lv' := [(6, .int z0J_2), (0, .ref (bs + u)), (1, .ref (bs + 33)), (2, .ref (bs + 229)), (3, .int x3), (4, .int x4), (5, .int y5J_2)]) hx hb dX7_worth_62 hl (by decide) rfl (fun ls hl => ?_)
      refine lv_iload hx hb dX7_worth_64 (lv_at hl 0 rfl) ?_
      refine lv_if_eq (tgt := 93) hx hb dX7_worth_66 (by decide) (fun c_1 => ?_) (fun c_1 => ?_)
      · have hf := itT hf c_1
        refine lv_iinc (v := (y5J_2 + 1)) (lv' := [(5, .int (y5J_2 + 1)), (6, .int z0J_2), (0, .ref (bs + u)), (1, .ref (bs + 33)), (2, .ref (bs + 229)), (3, .int x3), (4, .int x4)]) hx hb dX7_worth_93 hl (k := 6) rfl rfl (by decide) rfl (fun ls hl => ?_)
        refine lv_goto (tgt := 3) hx hb dX7_worth_96 (by decide) ?_
        obtain rfl := Option.some.inj hf
        exact hB _ rfl H locs ls hP hS (lv_sub hl [2, 3, 4, 5, 6, 0] rfl)
      · have hf := itF hf c_1
        obtain rfl := Option.some.inj hf
        exact hE _ rfl H locs ls hP hS (lv_sub hl [1, 2, 3, 4, 5, 6] rfl)
    have hJ57 : ∀ (mmJ_3 : Mm) (y5J_3 : Int32) (H : Heap) (locs : List Loc) (ls : Array Slot), f_X7_worth_j57 u mmJ_3 x3 x4 y5J_3 = some o → Wd D dA bs LY mmJ_3 H → va_S (Aq bs) s.heap H locs → lv_has ls 7 [(0, .ref (bs + u)), (1, .ref (bs + 33)), (2, .ref (bs + 229)), (3, .int x3), (4, .int x4), (5, .int y5J_3)] → Wz p l e s m args below meth c D dA bs (some (.long out)) m1 4 100 H locs 57 ls [] := by
      intro mmJ_3 y5J_3 H locs ls hf hP hS hl
      unfold f_X7_worth_j57 at hf
      refine lv_iconst (v := 1) hx hb dX7_worth_57 (by decide) ?_
      refine lv_goto (tgt := 62) hx hb dX7_worth_58 (by decide) ?_
      exact hJ62 mmJ_3 y5J_3 (1 : Int32) H locs ls hf hP hS (lv_sub hl [0, 1, 2, 3, 4, 5] rfl)
    refine lv_iload hx hb dX7_worth_3 (lv_at hl 5 rfl) ?_
    refine lv_aload_n hx hb dX7_worth_5 rfl (lv_at hl 0 rfl) ?_
    refine wd_getI X hP (isRule.a0 hu) fl_X7_32 rfl dX7_worth_6 ?_
    refine lv_icmp_ge (tgt := 99) hx hb dX7_worth_9 (by decide) (fun c_4 => ?_) (fun c_4 => ?_)
    · have hf := itT hf c_4
      obtain rfl := Option.some.inj hf
      exact hE _ rfl H locs ls hP hS (lv_sub hl [] rfl)
    · have hf := itF hf c_4
      refine lv_aload_n hx hb dX7_worth_12 rfl (lv_at hl 0 rfl) ?_
      refine wd_getR (q := u + 3) X hP (isRule.a0 hu) fl_X7_18 rfl dX7_worth_13 ?_
      refine lv_iload hx hb dX7_worth_16 (lv_at hl 5 rfl) ?_
      have g_5 := gdN hf
      have hf := gdK hf
      refine wd_iald X hP (isRule.a3 hu) g_5 dX7_worth_18 ?_
      refine lv_aload_n hx hb dX7_worth_19 rfl (lv_at hl 0 rfl) ?_
      refine wd_getR (q := u + 4) X hP (isRule.a0 hu) fl_X7_21 rfl dX7_worth_20 ?_
      refine lv_iload hx hb dX7_worth_23 (lv_at hl 5 rfl) ?_
      have g_6 := gdN hf
      have hf := gdK hf
      refine wd_iald X hP (isRule.a4 hu) g_6 dX7_worth_25 ?_
      refine lv_icmp_eq (tgt := 57) hx hb dX7_worth_26 (by decide) (fun c_7 => ?_) (fun c_7 => ?_)
      · have hf := itT hf c_7
        exact hJ57 mmL_14 y5L_14 H locs ls hf hP hS (lv_sub hl [0, 1, 2, 3, 4, 5] rfl)
      · have hf := itF hf c_7
        refine lv_aload_n hx hb dX7_worth_29 rfl (lv_at hl 0 rfl) ?_
        refine lv_aload_n hx hb dX7_worth_30 rfl (lv_at hl 0 rfl) ?_
        refine wd_getR (q := u + 3) X hP (isRule.a0 hu) fl_X7_18 rfl dX7_worth_31 ?_
        refine lv_iload hx hb dX7_worth_34 (lv_at hl 5 rfl) ?_
        have g_8 := gdN hf
        have hf := gdK hf
        refine wd_iald X hP (isRule.a3 hu) g_8 dX7_worth_36 ?_
        refine lv_aload_n hx hb dX7_worth_37 rfl (lv_at hl 0 rfl) ?_
        refine wd_getR (q := u + 4) X hP (isRule.a0 hu) fl_X7_21 rfl dX7_worth_38 ?_
        refine lv_iload hx hb dX7_worth_41 (lv_at hl 5 rfl) ?_
        have g_9 := gdN hf
        have hf := gdK hf
        refine wd_iald X hP (isRule.a4 hu) g_9 dX7_worth_43 ?_
        refine lv_aload_n hx hb dX7_worth_44 rfl (lv_at hl 1 rfl) ?_
        refine lv_aload_n hx hb dX7_worth_45 rfl (lv_at hl 2 rfl) ?_
        refine lv_iload_n hx hb dX7_worth_46 rfl (lv_at hl 3 rfl) ?_
        refine lv_iload hx hb dX7_worth_47 (lv_at hl 4 rfl) ?_
        obtain ⟨r_12, mm_10, hc_11, hf⟩ := bi2S hf
        refine wd_cv X hP hS (isRule.a0 hu) ml_X7_41 ⟨_, _, rfl⟩ (c_X7_valueOf l D dA zz bs mmL_14 u hu (mmL_14.1 (u + 3) y5L_14.toNatClampNeg) (mmL_14.1 (u + 4) y5L_14.toNatClampNeg) x3 x4 r_12 mm_10 hc_11) rfl ⟨Nat.le_of_ble_eq_true rfl, Nat.le_of_ble_eq_true rfl⟩ hl.1 rfl (rest := []) (Nat.le_of_ble_eq_true rfl) ⟨Nat.zero_le _, Nat.zero_le _⟩ dX7_worth_49 (fun H locs hP hS => ?_)
        refine W.eq (g2 := F0 m 52 ls [.long r_12]) rfl ?_
        refine lv_lconst (v := 0) hx hb dX7_worth_52 (by decide) ?_
        refine W.lcmp hx hb dX7_worth_53 ?_
        refine lv_if_eq (tgt := 61) hx hb dX7_worth_54 (by decide) (fun c_13 => ?_) (fun c_13 => ?_)
        · have hf := itT hf c_13
          refine lv_iconst (v := 0) hx hb dX7_worth_61 (by decide) ?_
          exact hJ62 mm_10 y5L_14 (0 : Int32) H locs ls hf hP hS (lv_sub hl [0, 1, 2, 3, 4, 5] rfl)
        · have hf := itF hf c_13
          exact hJ57 mm_10 y5L_14 H locs ls hf hP hS (lv_sub hl [0, 1, 2, 3, 4, 5] rfl)
  · rcases q_23 with ⟨w5_15, mm_16⟩ | mm_22
    · dsimp only at hf
      intro H locs ls hP hS hl
      refine lv_aload_n hx hb dX7_worth_69 rfl (lv_at hl 0 rfl) ?_
      refine lv_aload_n hx hb dX7_worth_70 rfl (lv_at hl 0 rfl) ?_
      refine wd_getR (q := u + 2) X hP (isRule.a0 hu) fl_X7_15 rfl dX7_worth_71 ?_
      refine lv_iload hx hb dX7_worth_74 (lv_at hl 5 rfl) ?_
      have g_17 := gdN hf
      have hf := gdK hf
      refine wd_iald X hP (isRule.a2 hu) g_17 dX7_worth_76 ?_
      refine lv_aload_n hx hb dX7_worth_77 rfl (lv_at hl 0 rfl) ?_
      refine wd_getR (q := u + 3) X hP (isRule.a0 hu) fl_X7_18 rfl dX7_worth_78 ?_
      refine lv_iload hx hb dX7_worth_81 (lv_at hl 5 rfl) ?_
      have g_18 := gdN hf
      have hf := gdK hf
      refine wd_iald X hP (isRule.a3 hu) g_18 dX7_worth_83 ?_
      refine lv_aload_n hx hb dX7_worth_84 rfl (lv_at hl 1 rfl) ?_
      refine lv_aload_n hx hb dX7_worth_85 rfl (lv_at hl 2 rfl) ?_
      refine lv_iload_n hx hb dX7_worth_86 rfl (lv_at hl 3 rfl) ?_
      refine lv_iload hx hb dX7_worth_87 (lv_at hl 4 rfl) ?_
      obtain ⟨r_21, mm_19, hc_20, hf⟩ := bi2S hf
      refine wd_cv X hP hS (isRule.a0 hu) ml_X7_41 ⟨_, _, rfl⟩ (c_X7_valueOf l D dA zz bs mm_16 u hu (mm_16.1 (u + 2) w5_15.toNatClampNeg) (mm_16.1 (u + 3) w5_15.toNatClampNeg) x3 x4 r_21 mm_19 hc_20) rfl ⟨Nat.le_of_ble_eq_true rfl, Nat.le_of_ble_eq_true rfl⟩ hl.1 rfl (rest := []) (Nat.le_of_ble_eq_true rfl) ⟨Nat.zero_le _, Nat.zero_le _⟩ dX7_worth_89 (fun H locs hP hS => ?_)
      refine W.eq (g2 := F0 m 92 ls [.long r_21]) rfl ?_
      obtain ⟨rfl, rfl⟩ := Prod.mk.inj (Option.some.inj hf)
      exact wd_lret X hP hS hr0 dX7_worth_92 ⟨rfl, rfl⟩
    · dsimp only at hf
      intro H locs ls hP hS hl
      refine lv_lconst (v := 0) hx hb dX7_worth_99 (by decide) ?_
      obtain ⟨rfl, rfl⟩ := Prod.mk.inj (Option.some.inj hf)
      exact wd_lret X hP hS hr0 dX7_worth_100 ⟨rfl, rfl⟩

noncomputable def f_X10_acceptWord (mm : Mm) (k1 : Nat) : Option (Int32 × Mm) :=
  bi2 (f_X10_wordAmong mm k1) fun r_3 mm_1 =>
    if r_3 = 0 then
      some ((1 : Int32), mm_1)
    else
      some ((0 : Int32), mm_1)
set_option maxHeartbeats 4000000 in
set_option maxRecDepth 100000 in
theorem c_X10_acceptWord (l : Launch) (D : va_G) (dA : Nat → ClassId) (zz : (Nat → Nat) × (Nat → Nat)) (bs : Nat) (mm : Mm) (k1 : Nat) (hk1 : k1 < 24) (out : Int32) (m1 : Mm) (hf : f_X10_acceptWord mm k1 = some (out, m1)) : Mw l D dA zz bs LY yX10_acceptWord cX10_acceptWord 2 (some .boolean) 6 135 [.ref (bs + 1), .ref (zz.1 k1)] mm (some (.int out)) m1 := by
  refine Mw.of (own := RX10) (by decide) rfl (Nat.le_of_ble_eq_true rfl) ?_
  intro p e s m args below meth c X hr0 hP hS ls hl
  have hx := X.1
  have hb := X.2.1
  obtain ⟨H, hH⟩ : ∃ z : Heap, z = s.heap := ⟨_, rfl⟩
  obtain ⟨locs, hL⟩ : ∃ z : List Loc, z = [] := ⟨_, rfl⟩
  rw [← hH, ← hL]
  have hS : va_S (Aq bs) s.heap H locs := by rw [hH, hL]; exact hS
  have hP : Wd D dA bs LY mm H := by rw [hH]; exact hP
  have hl : lv_has ls 2 [(0, .ref (bs + 1)), (1, .ref (zz.1 k1))] := hl
  unfold f_X10_acceptWord at hf
  refine lv_aload_n hx hb dX10_acceptWord_0 rfl (lv_at hl 0 rfl) ?_
  refine lv_aload_n hx hb dX10_acceptWord_1 rfl (lv_at hl 1 rfl) ?_
  obtain ⟨r_3, mm_1, hc_2, hf⟩ := bi2S hf
  refine wd_cv X hP hS L1 ml_X10_55 ⟨_, _, rfl⟩ (c_X10_wordAmong l D dA zz bs mm k1 hk1 r_3 mm_1 hc_2) rfl ⟨Nat.le_of_ble_eq_true rfl, Nat.le_of_ble_eq_true rfl⟩ hl.1 rfl (rest := []) (Nat.le_of_ble_eq_true rfl) ⟨Nat.zero_le _, Nat.zero_le _⟩ dX10_acceptWord_2 (fun H locs hP hS => ?_)
  refine W.eq (g2 := F0 m 5 ls [.int r_3]) rfl ?_
  refine lv_if_ne (tgt := 12) hx hb dX10_acceptWord_5 (by decide) (fun c_4 => ?_) (fun c_4 => ?_)
  · have hf := itF hf c_4
    refine lv_iconst (v := 0) hx hb dX10_acceptWord_12 (by decide) ?_
    obtain ⟨rfl, rfl⟩ := Prod.mk.inj (Option.some.inj hf)
    exact wd_zret X hP hS hr0 (by decide) dX10_acceptWord_13 ⟨rfl, rfl⟩
  · have hf := itT hf c_4
    refine lv_iconst (v := 1) hx hb dX10_acceptWord_8 (by decide) ?_
    refine lv_goto (tgt := 13) hx hb dX10_acceptWord_9 (by decide) ?_
    obtain ⟨rfl, rfl⟩ := Prod.mk.inj (Option.some.inj hf)
    exact wd_zret X hP hS hr0 (by decide) dX10_acceptWord_13 ⟨rfl, rfl⟩

noncomputable def f_X8_isOnePartMore (mm : Mm) (x1 : Int32) : Option (Int32 × Mm) :=
  vlet (wI mm 19 2 ((mm.1 19 2) + (1 : Int32))) fun mm_1 =>
    if (mm_1.1 19 2) ≤ (60 : Int32) then
      some ((1 : Int32), mm_1)
    else
      bi2 (f_X10_wrong mm_1 x1 (3 : Int32)) fun r_5 mm_3 =>
        if r_5 = 0 then
          some ((0 : Int32), mm_3)
        else
          some ((1 : Int32), mm_3)
set_option maxHeartbeats 4000000 in
set_option maxRecDepth 100000 in
theorem c_X8_isOnePartMore (l : Launch) (D : va_G) (dA : Nat → ClassId) (zz : (Nat → Nat) × (Nat → Nat)) (bs : Nat) (mm : Mm) (x1 : Int32) (out : Int32) (m1 : Mm) (hf : f_X8_isOnePartMore mm x1 = some (out, m1)) : Mw l D dA zz bs LY yX8_isOnePartMore cX8_isOnePartMore 2 (some .boolean) 1 22 [.ref (bs + 19), .int x1] mm (some (.int out)) m1 := by
  refine Mw.of (own := RX8) (by decide) rfl (Nat.le_of_ble_eq_true rfl) ?_
  intro p e s m args below meth c X hr0 hP hS ls hl
  have hx := X.1
  have hb := X.2.1
  obtain ⟨H, hH⟩ : ∃ z : Heap, z = s.heap := ⟨_, rfl⟩
  obtain ⟨locs, hL⟩ : ∃ z : List Loc, z = [] := ⟨_, rfl⟩
  rw [← hH, ← hL]
  have hS : va_S (Aq bs) s.heap H locs := by rw [hH, hL]; exact hS
  have hP : Wd D dA bs LY mm H := by rw [hH]; exact hP
  have hl : lv_has ls 2 [(0, .ref (bs + 19)), (1, .int x1)] := hl
  unfold f_X8_isOnePartMore at hf
  refine lv_aload_n hx hb dX8_isOnePartMore_0 rfl (lv_at hl 0 rfl) ?_
  refine lv_dup hx hb dX8_isOnePartMore_1 rfl ?_
  refine wd_getI X hP L19 fl_X8_30 rfl dX8_isOnePartMore_2 ?_
  refine lv_iconst (v := 1) hx hb dX8_isOnePartMore_5 (by decide) ?_
  refine lv_iadd hx hb dX8_isOnePartMore_6 ?_
  refine wd_putI X hP hS L19 fp_X8_30 rfl dX8_isOnePartMore_7 (fun H locs mm_1 emm_1 hP hS => ?_)
  have hf := vl hf emm_1
  refine lv_aload_n hx hb dX8_isOnePartMore_10 rfl (lv_at hl 0 rfl) ?_
  refine wd_getI X hP L19 fl_X8_30 rfl dX8_isOnePartMore_11 ?_
  refine lv_bipush (v := 60) hx hb dX8_isOnePartMore_14 (by decide) ?_
  refine lv_icmp_le (tgt := 31) hx hb dX8_isOnePartMore_16 (by decide) (fun c_2 => ?_) (fun c_2 => ?_)
  · have hf := itT hf c_2
    refine lv_iconst (v := 1) hx hb dX8_isOnePartMore_31 (by decide) ?_
    refine lv_goto (tgt := 36) hx hb dX8_isOnePartMore_32 (by decide) ?_
    obtain ⟨rfl, rfl⟩ := Prod.mk.inj (Option.some.inj hf)
    exact wd_zret X hP hS hr0 (by decide) dX8_isOnePartMore_36 ⟨rfl, rfl⟩
  · have hf := itF hf c_2
    refine lv_aload_n hx hb dX8_isOnePartMore_19 rfl (lv_at hl 0 rfl) ?_
    refine wd_getR (q := 1) X hP L19 fl_X8_18 rfl dX8_isOnePartMore_20 ?_
    refine lv_iload_n hx hb dX8_isOnePartMore_23 rfl (lv_at hl 1 rfl) ?_
    refine lv_iconst (v := 3) hx hb dX8_isOnePartMore_24 (by decide) ?_
    obtain ⟨r_5, mm_3, hc_4, hf⟩ := bi2S hf
    refine wd_cv X hP hS L1 ml_X8_43 ⟨_, _, rfl⟩ (c_X10_wrong l D dA zz bs mm_1 x1 (3 : Int32) r_5 mm_3 hc_4) rfl ⟨Nat.le_of_ble_eq_true rfl, Nat.le_of_ble_eq_true rfl⟩ hl.1 rfl (rest := []) (Nat.le_of_ble_eq_true rfl) ⟨Nat.zero_le _, Nat.zero_le _⟩ dX8_isOnePartMore_25 (fun H locs hP hS => ?_)
    refine W.eq (g2 := F0 m 28 ls [.int r_5]) rfl ?_
    refine lv_if_eq (tgt := 35) hx hb dX8_isOnePartMore_28 (by decide) (fun c_6 => ?_) (fun c_6 => ?_)
    · have hf := itT hf c_6
      refine lv_iconst (v := 0) hx hb dX8_isOnePartMore_35 (by decide) ?_
      obtain ⟨rfl, rfl⟩ := Prod.mk.inj (Option.some.inj hf)
      exact wd_zret X hP hS hr0 (by decide) dX8_isOnePartMore_36 ⟨rfl, rfl⟩
    · have hf := itF hf c_6
      refine lv_iconst (v := 1) hx hb dX8_isOnePartMore_31 (by decide) ?_
      refine lv_goto (tgt := 36) hx hb dX8_isOnePartMore_32 (by decide) ?_
      obtain ⟨rfl, rfl⟩ := Prod.mk.inj (Option.some.inj hf)
      exact wd_zret X hP hS hr0 (by decide) dX8_isOnePartMore_36 ⟨rfl, rfl⟩

noncomputable def f_X8_readValue_j83 (mm : Mm) : Option (Int32 × Mm) :=
  bi2 (f_X8_isOnePartMore mm (mm.1 1 3)) fun r_3 mm_1 => if ¬ r_3 = 0 ∧ ¬ r_3 = 1 then none else some (r_3, mm_1)
noncomputable def f_X8_readValue (mm : Mm) : Option (Int32 × Mm) :=
  bi2 (f_X10_next mm) fun r_8 mm_6 =>
    if (f_X10_isDigit r_8) = 0 then
      bi2 (f_X10_wordAmong mm_6 2) fun r_12 mm_10 =>
        if r_12 = (-1 : Int32) then
          bi2 (f_X10_wrong mm_10 (mm_10.1 1 2) (0 : Int32)) fun r_18 mm_16 =>
            if ¬ r_18 = 0 ∧ ¬ r_18 = 1 then none else some (r_18, mm_16)
        else
          bi1 (f_X7_add mm_10 20 (1 : Int32) r_12) fun mm_14 => f_X8_readValue_j83 mm_14
    else
      bi2 (f_X10_number mm_6 (0 : Int32) (99999 : Int32)) fun r_22 mm_20 =>
        if r_22 = (-1 : Int32) then
          some ((0 : Int32), mm_20)
        else
          bi1 (f_X7_add mm_20 20 (0 : Int32) r_22) fun mm_24 => f_X8_readValue_j83 mm_24
set_option maxHeartbeats 4000000 in
set_option maxRecDepth 100000 in
theorem c_X8_readValue (l : Launch) (D : va_G) (dA : Nat → ClassId) (zz : (Nat → Nat) × (Nat → Nat)) (bs : Nat) (mm : Mm) (out : Int32) (m1 : Mm) (hf : f_X8_readValue mm = some (out, m1)) : Mw l D dA zz bs LY yX8_readValue cX8_readValue 2 (some .boolean) 6 135 [.ref (bs + 19)] mm (some (.int out)) m1 := by
  refine Mw.of (own := RX8) (by decide) rfl (Nat.le_of_ble_eq_true rfl) ?_
  intro p e s m args below meth c X hr0 hP hS ls hl
  have hx := X.1
  have hb := X.2.1
  obtain ⟨H, hH⟩ : ∃ z : Heap, z = s.heap := ⟨_, rfl⟩
  obtain ⟨locs, hL⟩ : ∃ z : List Loc, z = [] := ⟨_, rfl⟩
  rw [← hH, ← hL]
  have hS : va_S (Aq bs) s.heap H locs := by rw [hH, hL]; exact hS
  have hP : Wd D dA bs LY mm H := by rw [hH]; exact hP
  have hl : lv_has ls 2 [(0, .ref (bs + 19))] := hl
  have hJ83 : ∀ (mmJ_5 : Mm) (H : Heap) (locs : List Loc) (ls : Array Slot), f_X8_readValue_j83 mmJ_5 = some (out, m1) → Wd D dA bs LY mmJ_5 H → va_S (Aq bs) s.heap H locs → lv_has ls 2 [(0, .ref (bs + 19))] → Wz p l e s m args below meth c D dA bs (some (.int out)) m1 6 135 H locs 83 ls [] := by
    intro mmJ_5 H locs ls hf hP hS hl
    unfold f_X8_readValue_j83 at hf
    refine lv_aload_n hx hb dX8_readValue_83 rfl (lv_at hl 0 rfl) ?_
    refine lv_aload_n hx hb dX8_readValue_84 rfl (lv_at hl 0 rfl) ?_
    refine wd_getR (q := 1) X hP L19 fl_X8_18 rfl dX8_readValue_85 ?_
    refine wd_getI X hP L1 fl_X8_47 rfl dX8_readValue_88 ?_
    obtain ⟨r_3, mm_1, hc_2, hf⟩ := bi2S hf
    refine wd_cv X hP hS L19 ml_X8_99 ⟨_, _, rfl⟩ (c_X8_isOnePartMore l D dA zz bs mmJ_5 (mmJ_5.1 1 3) r_3 mm_1 hc_2) rfl ⟨Nat.le_of_ble_eq_true rfl, Nat.le_of_ble_eq_true rfl⟩ hl.1 rfl (rest := []) (Nat.le_of_ble_eq_true rfl) ⟨Nat.zero_le _, Nat.zero_le _⟩ dX8_readValue_91 (fun H locs hP hS => ?_)
    refine W.eq (g2 := F0 m 94 ls [.int r_3]) rfl ?_
    have g_4 := gdN hf
    have hf := gdK hf
    obtain ⟨rfl, rfl⟩ := Prod.mk.inj (Option.some.inj hf)
    exact wd_zret X hP hS hr0 g_4 dX8_readValue_94 ⟨rfl, rfl⟩
  unfold f_X8_readValue at hf
  refine lv_aload_n hx hb dX8_readValue_0 rfl (lv_at hl 0 rfl) ?_
  refine wd_getR (q := 1) X hP L19 fl_X8_18 rfl dX8_readValue_1 ?_
  obtain ⟨r_8, mm_6, hc_7, hf⟩ := bi2S hf
  refine wd_cv X hP hS L1 ml_X8_76 ⟨_, _, rfl⟩ (c_X10_next l D dA zz bs mm r_8 mm_6 hc_7) rfl ⟨Nat.le_of_ble_eq_true rfl, Nat.le_of_ble_eq_true rfl⟩ hl.1 rfl (rest := []) (Nat.le_of_ble_eq_true rfl) ⟨Nat.zero_le _, Nat.zero_le _⟩ dX8_readValue_4 (fun H locs hP hS => ?_)
  refine W.eq (g2 := F0 m 7 ls [.int r_8]) rfl ?_
  refine wd_cs X hP hS ml_X8_111 (c_X10_isDigit l D dA zz bs mm_6 r_8 (f_X10_isDigit r_8) rfl) rfl ⟨Nat.le_of_ble_eq_true rfl, Nat.le_of_ble_eq_true rfl⟩ hl.1 rfl (rest := []) (Nat.le_of_ble_eq_true rfl) ⟨Nat.zero_le _, Nat.zero_le _⟩ dX8_readValue_7 (fun H locs hP hS => ?_)
  refine W.eq (g2 := F0 m 10 ls [.int (f_X10_isDigit r_8)]) rfl ?_
  refine lv_if_eq (tgt := 43) hx hb dX8_readValue_10 (by decide) (fun c_9 => ?_) (fun c_9 => ?_)
  · have hf := itT hf c_9
    refine lv_aload_n hx hb dX8_readValue_43 rfl (lv_at hl 0 rfl) ?_
    refine wd_getR (q := 1) X hP L19 fl_X8_18 rfl dX8_readValue_44 ?_
    refine va_ldcS (own := RX8) (q := zz.1 2) hx hb X.2.2.2.1 (X.2.2.2.2.2.2.1.2.1 ("PartyRaft$RuleReader", 119, "one other float weight soak same apart ropes store mile landing left", 2) (by decide)) dX8_readValue_47 ?_
    obtain ⟨r_12, mm_10, hc_11, hf⟩ := bi2S hf
    refine wd_cv X hP hS L1 ml_X8_121 ⟨_, _, rfl⟩ (c_X10_wordAmong l D dA zz bs mm_6 2 (by decide) r_12 mm_10 hc_11) rfl ⟨Nat.le_of_ble_eq_true rfl, Nat.le_of_ble_eq_true rfl⟩ hl.1 rfl (rest := []) (Nat.le_of_ble_eq_true rfl) ⟨Nat.zero_le _, Nat.zero_le _⟩ dX8_readValue_49 (fun H locs hP hS => ?_)
    refine W.eq (g2 := F0 m 52 ls [.int r_12]) rfl ?_
    refine lv_istore_n (lv' := [(1, .int r_12), (0, .ref (bs + 19))]) hx hb dX8_readValue_52 rfl hl (by decide) rfl (fun ls hl => ?_)
    refine lv_iload_n hx hb dX8_readValue_53 rfl (lv_at hl 0 rfl) ?_
    refine lv_iconst (v := -1) hx hb dX8_readValue_54 (by decide) ?_
    refine lv_icmp_ne (tgt := 74) hx hb dX8_readValue_55 (by decide) (fun c_13 => ?_) (fun c_13 => ?_)
    · have hf := itF hf c_13
      refine lv_aload_n hx hb dX8_readValue_74 rfl (lv_at hl 1 rfl) ?_
      refine wd_getR (q := 20) X hP L19 fl_X8_12 rfl dX8_readValue_75 ?_
      refine lv_iconst (v := 1) hx hb dX8_readValue_78 (by decide) ?_
      refine lv_iload_n hx hb dX8_readValue_79 rfl (lv_at hl 0 rfl) ?_
      obtain ⟨mm_14, hc_15, hf⟩ := bi1S hf
      refine wd_cv X hP hS (isRule.a0 U20) ml_X8_90 ⟨_, _, rfl⟩ (c_X7_add l D dA zz bs mm_10 20 U20 (1 : Int32) r_12 mm_14 hc_15) rfl ⟨Nat.le_of_ble_eq_true rfl, Nat.le_of_ble_eq_true rfl⟩ hl.1 rfl (rest := []) (Nat.le_of_ble_eq_true rfl) ⟨Nat.zero_le _, Nat.zero_le _⟩ dX8_readValue_80 (fun H locs hP hS => ?_)
      refine W.eq (g2 := F0 m 83 ls []) rfl ?_
      exact hJ83 mm_14 H locs ls hf hP hS (lv_sub hl [1] rfl)
    · have hf := itT hf c_13
      refine lv_aload_n hx hb dX8_readValue_58 rfl (lv_at hl 1 rfl) ?_
      refine wd_getR (q := 1) X hP L19 fl_X8_18 rfl dX8_readValue_59 ?_
      refine lv_aload_n hx hb dX8_readValue_62 rfl (lv_at hl 1 rfl) ?_
      refine wd_getR (q := 1) X hP L19 fl_X8_18 rfl dX8_readValue_63 ?_
      refine wd_getI X hP L1 fl_X8_40 rfl dX8_readValue_66 ?_
      refine lv_iconst (v := 0) hx hb dX8_readValue_69 (by decide) ?_
      obtain ⟨r_18, mm_16, hc_17, hf⟩ := bi2S hf
      refine wd_cv X hP hS L1 ml_X8_43 ⟨_, _, rfl⟩ (c_X10_wrong l D dA zz bs mm_10 (mm_10.1 1 2) (0 : Int32) r_18 mm_16 hc_17) rfl ⟨Nat.le_of_ble_eq_true rfl, Nat.le_of_ble_eq_true rfl⟩ hl.1 rfl (rest := []) (Nat.le_of_ble_eq_true rfl) ⟨Nat.zero_le _, Nat.zero_le _⟩ dX8_readValue_70 (fun H locs hP hS => ?_)
      refine W.eq (g2 := F0 m 73 ls [.int r_18]) rfl ?_
      have g_19 := gdN hf
      have hf := gdK hf
      obtain ⟨rfl, rfl⟩ := Prod.mk.inj (Option.some.inj hf)
      exact wd_zret X hP hS hr0 g_19 dX8_readValue_73 ⟨rfl, rfl⟩
  · have hf := itF hf c_9
    refine lv_aload_n hx hb dX8_readValue_13 rfl (lv_at hl 0 rfl) ?_
    refine wd_getR (q := 1) X hP L19 fl_X8_18 rfl dX8_readValue_14 ?_
    refine lv_iconst (v := 0) hx hb dX8_readValue_17 (by decide) ?_
    refine lv_ldc (own := RX8) (v := 99999) hx hb X.2.2.2.1 (X.2.2.2.2.1 _ (tb_at 702 (by decide +kernel) (by decide +kernel))) dX8_readValue_18 ?_
    obtain ⟨r_22, mm_20, hc_21, hf⟩ := bi2S hf
    refine wd_cv X hP hS L1 ml_X8_115 ⟨_, _, rfl⟩ (c_X10_number l D dA zz bs mm_6 (0 : Int32) (99999 : Int32) r_22 mm_20 hc_21) rfl ⟨Nat.le_of_ble_eq_true rfl, Nat.le_of_ble_eq_true rfl⟩ hl.1 rfl (rest := []) (Nat.le_of_ble_eq_true rfl) ⟨Nat.zero_le _, Nat.zero_le _⟩ dX8_readValue_20 (fun H locs hP hS => ?_)
    refine W.eq (g2 := F0 m 23 ls [.int r_22]) rfl ?_
    refine lv_istore_n (lv' := [(1, .int r_22), (0, .ref (bs + 19))]) hx hb dX8_readValue_23 rfl hl (by decide) rfl (fun ls hl => ?_)
    refine lv_iload_n hx hb dX8_readValue_24 rfl (lv_at hl 0 rfl) ?_
    refine lv_iconst (v := -1) hx hb dX8_readValue_25 (by decide) ?_
    refine lv_icmp_ne (tgt := 31) hx hb dX8_readValue_26 (by decide) (fun c_23 => ?_) (fun c_23 => ?_)
    · have hf := itF hf c_23
      refine lv_aload_n hx hb dX8_readValue_31 rfl (lv_at hl 1 rfl) ?_
      refine wd_getR (q := 20) X hP L19 fl_X8_12 rfl dX8_readValue_32 ?_
      refine lv_iconst (v := 0) hx hb dX8_readValue_35 (by decide) ?_
      refine lv_iload_n hx hb dX8_readValue_36 rfl (lv_at hl 0 rfl) ?_
      obtain ⟨mm_24, hc_25, hf⟩ := bi1S hf
      refine wd_cv X hP hS (isRule.a0 U20) ml_X8_90 ⟨_, _, rfl⟩ (c_X7_add l D dA zz bs mm_20 20 U20 (0 : Int32) r_22 mm_24 hc_25) rfl ⟨Nat.le_of_ble_eq_true rfl, Nat.le_of_ble_eq_true rfl⟩ hl.1 rfl (rest := []) (Nat.le_of_ble_eq_true rfl) ⟨Nat.zero_le _, Nat.zero_le _⟩ dX8_readValue_37 (fun H locs hP hS => ?_)
      refine W.eq (g2 := F0 m 40 ls []) rfl ?_
      refine lv_goto (tgt := 83) hx hb dX8_readValue_40 (by decide) ?_
      exact hJ83 mm_24 H locs ls hf hP hS (lv_sub hl [1] rfl)
    · have hf := itT hf c_23
      refine lv_iconst (v := 0) hx hb dX8_readValue_29 (by decide) ?_
      obtain ⟨rfl, rfl⟩ := Prod.mk.inj (Option.some.inj hf)
      exact wd_zret X hP hS hr0 (by decide) dX8_readValue_30 ⟨rfl, rfl⟩

noncomputable def f_X8_acceptOperator (mm : Mm) : Option (Int32 × Mm) :=
  bi2 (f_X10_accept mm (43 : Int32)) fun r_3 mm_1 =>
    if r_3 = 0 then
      bi2 (f_X10_accept mm_1 (45 : Int32)) fun r_7 mm_5 =>
        if r_7 = 0 then
          bi2 (f_X10_accept mm_5 (42 : Int32)) fun r_11 mm_9 =>
            if r_11 = 0 then
              bi2 (f_X10_accept mm_9 (47 : Int32)) fun r_15 mm_13 =>
                if r_15 = 0 then
                  bi2 (f_X10_accept mm_13 (37 : Int32)) fun r_19 mm_17 =>
                    if r_19 = 0 then
                      some ((-1 : Int32), mm_17)
                    else
                      some ((7 : Int32), mm_17)
                else
                  some ((6 : Int32), mm_13)
            else
              some ((5 : Int32), mm_9)
        else
          some ((4 : Int32), mm_5)
    else
      some ((3 : Int32), mm_1)
set_option maxHeartbeats 4000000 in
set_option maxRecDepth 100000 in
theorem c_X8_acceptOperator (l : Launch) (D : va_G) (dA : Nat → ClassId) (zz : (Nat → Nat) × (Nat → Nat)) (bs : Nat) (mm : Mm) (out : Int32) (m1 : Mm) (hf : f_X8_acceptOperator mm = some (out, m1)) : Mw l D dA zz bs LY yX8_acceptOperator cX8_acceptOperator 1 (some .int) 2 41 [.ref (bs + 19)] mm (some (.int out)) m1 := by
  refine Mw.of (own := RX8) (by decide) rfl (Nat.le_of_ble_eq_true rfl) ?_
  intro p e s m args below meth c X hr0 hP hS ls hl
  have hx := X.1
  have hb := X.2.1
  obtain ⟨H, hH⟩ : ∃ z : Heap, z = s.heap := ⟨_, rfl⟩
  obtain ⟨locs, hL⟩ : ∃ z : List Loc, z = [] := ⟨_, rfl⟩
  rw [← hH, ← hL]
  have hS : va_S (Aq bs) s.heap H locs := by rw [hH, hL]; exact hS
  have hP : Wd D dA bs LY mm H := by rw [hH]; exact hP
  have hl : lv_has ls 1 [(0, .ref (bs + 19))] := hl
  unfold f_X8_acceptOperator at hf
  refine lv_aload_n hx hb dX8_acceptOperator_0 rfl (lv_at hl 0 rfl) ?_
  refine wd_getR (q := 1) X hP L19 fl_X8_18 rfl dX8_acceptOperator_1 ?_
  refine lv_bipush (v := 43) hx hb dX8_acceptOperator_4 (by decide) ?_
  obtain ⟨r_3, mm_1, hc_2, hf⟩ := bi2S hf
  refine wd_cv X hP hS L1 ml_X8_80 ⟨_, _, rfl⟩ (c_X10_accept l D dA zz bs mm (43 : Int32) r_3 mm_1 hc_2) rfl ⟨Nat.le_of_ble_eq_true rfl, Nat.le_of_ble_eq_true rfl⟩ hl.1 rfl (rest := []) (Nat.le_of_ble_eq_true rfl) ⟨Nat.zero_le _, Nat.zero_le _⟩ dX8_acceptOperator_6 (fun H locs hP hS => ?_)
  refine W.eq (g2 := F0 m 9 ls [.int r_3]) rfl ?_
  refine lv_if_eq (tgt := 14) hx hb dX8_acceptOperator_9 (by decide) (fun c_4 => ?_) (fun c_4 => ?_)
  · have hf := itT hf c_4
    refine lv_aload_n hx hb dX8_acceptOperator_14 rfl (lv_at hl 0 rfl) ?_
    refine wd_getR (q := 1) X hP L19 fl_X8_18 rfl dX8_acceptOperator_15 ?_
    refine lv_bipush (v := 45) hx hb dX8_acceptOperator_18 (by decide) ?_
    obtain ⟨r_7, mm_5, hc_6, hf⟩ := bi2S hf
    refine wd_cv X hP hS L1 ml_X8_80 ⟨_, _, rfl⟩ (c_X10_accept l D dA zz bs mm_1 (45 : Int32) r_7 mm_5 hc_6) rfl ⟨Nat.le_of_ble_eq_true rfl, Nat.le_of_ble_eq_true rfl⟩ hl.1 rfl (rest := []) (Nat.le_of_ble_eq_true rfl) ⟨Nat.zero_le _, Nat.zero_le _⟩ dX8_acceptOperator_20 (fun H locs hP hS => ?_)
    refine W.eq (g2 := F0 m 23 ls [.int r_7]) rfl ?_
    refine lv_if_eq (tgt := 28) hx hb dX8_acceptOperator_23 (by decide) (fun c_8 => ?_) (fun c_8 => ?_)
    · have hf := itT hf c_8
      refine lv_aload_n hx hb dX8_acceptOperator_28 rfl (lv_at hl 0 rfl) ?_
      refine wd_getR (q := 1) X hP L19 fl_X8_18 rfl dX8_acceptOperator_29 ?_
      refine lv_bipush (v := 42) hx hb dX8_acceptOperator_32 (by decide) ?_
      obtain ⟨r_11, mm_9, hc_10, hf⟩ := bi2S hf
      refine wd_cv X hP hS L1 ml_X8_80 ⟨_, _, rfl⟩ (c_X10_accept l D dA zz bs mm_5 (42 : Int32) r_11 mm_9 hc_10) rfl ⟨Nat.le_of_ble_eq_true rfl, Nat.le_of_ble_eq_true rfl⟩ hl.1 rfl (rest := []) (Nat.le_of_ble_eq_true rfl) ⟨Nat.zero_le _, Nat.zero_le _⟩ dX8_acceptOperator_34 (fun H locs hP hS => ?_)
      refine W.eq (g2 := F0 m 37 ls [.int r_11]) rfl ?_
      refine lv_if_eq (tgt := 42) hx hb dX8_acceptOperator_37 (by decide) (fun c_12 => ?_) (fun c_12 => ?_)
      · have hf := itT hf c_12
        refine lv_aload_n hx hb dX8_acceptOperator_42 rfl (lv_at hl 0 rfl) ?_
        refine wd_getR (q := 1) X hP L19 fl_X8_18 rfl dX8_acceptOperator_43 ?_
        refine lv_bipush (v := 47) hx hb dX8_acceptOperator_46 (by decide) ?_
        obtain ⟨r_15, mm_13, hc_14, hf⟩ := bi2S hf
        refine wd_cv X hP hS L1 ml_X8_80 ⟨_, _, rfl⟩ (c_X10_accept l D dA zz bs mm_9 (47 : Int32) r_15 mm_13 hc_14) rfl ⟨Nat.le_of_ble_eq_true rfl, Nat.le_of_ble_eq_true rfl⟩ hl.1 rfl (rest := []) (Nat.le_of_ble_eq_true rfl) ⟨Nat.zero_le _, Nat.zero_le _⟩ dX8_acceptOperator_48 (fun H locs hP hS => ?_)
        refine W.eq (g2 := F0 m 51 ls [.int r_15]) rfl ?_
        refine lv_if_eq (tgt := 57) hx hb dX8_acceptOperator_51 (by decide) (fun c_16 => ?_) (fun c_16 => ?_)
        · have hf := itT hf c_16
          refine lv_aload_n hx hb dX8_acceptOperator_57 rfl (lv_at hl 0 rfl) ?_
          refine wd_getR (q := 1) X hP L19 fl_X8_18 rfl dX8_acceptOperator_58 ?_
          refine lv_bipush (v := 37) hx hb dX8_acceptOperator_61 (by decide) ?_
          obtain ⟨r_19, mm_17, hc_18, hf⟩ := bi2S hf
          refine wd_cv X hP hS L1 ml_X8_80 ⟨_, _, rfl⟩ (c_X10_accept l D dA zz bs mm_13 (37 : Int32) r_19 mm_17 hc_18) rfl ⟨Nat.le_of_ble_eq_true rfl, Nat.le_of_ble_eq_true rfl⟩ hl.1 rfl (rest := []) (Nat.le_of_ble_eq_true rfl) ⟨Nat.zero_le _, Nat.zero_le _⟩ dX8_acceptOperator_63 (fun H locs hP hS => ?_)
          refine W.eq (g2 := F0 m 66 ls [.int r_19]) rfl ?_
          refine lv_if_eq (tgt := 74) hx hb dX8_acceptOperator_66 (by decide) (fun c_20 => ?_) (fun c_20 => ?_)
          · have hf := itT hf c_20
            refine lv_iconst (v := -1) hx hb dX8_acceptOperator_74 (by decide) ?_
            obtain ⟨rfl, rfl⟩ := Prod.mk.inj (Option.some.inj hf)
            exact wd_iret X hP hS hr0 dX8_acceptOperator_75 ⟨rfl, rfl⟩
          · have hf := itF hf c_20
            refine lv_bipush (v := 7) hx hb dX8_acceptOperator_69 (by decide) ?_
            refine lv_goto (tgt := 75) hx hb dX8_acceptOperator_71 (by decide) ?_
            obtain ⟨rfl, rfl⟩ := Prod.mk.inj (Option.some.inj hf)
            exact wd_iret X hP hS hr0 dX8_acceptOperator_75 ⟨rfl, rfl⟩
        · have hf := itF hf c_16
          refine lv_bipush (v := 6) hx hb dX8_acceptOperator_54 (by decide) ?_
          obtain ⟨rfl, rfl⟩ := Prod.mk.inj (Option.some.inj hf)
          exact wd_iret X hP hS hr0 dX8_acceptOperator_56 ⟨rfl, rfl⟩
      · have hf := itF hf c_12
        refine lv_iconst (v := 5) hx hb dX8_acceptOperator_40 (by decide) ?_
        obtain ⟨rfl, rfl⟩ := Prod.mk.inj (Option.some.inj hf)
        exact wd_iret X hP hS hr0 dX8_acceptOperator_41 ⟨rfl, rfl⟩
    · have hf := itF hf c_8
      refine lv_iconst (v := 4) hx hb dX8_acceptOperator_26 (by decide) ?_
      obtain ⟨rfl, rfl⟩ := Prod.mk.inj (Option.some.inj hf)
      exact wd_iret X hP hS hr0 dX8_acceptOperator_27 ⟨rfl, rfl⟩
  · have hf := itF hf c_4
    refine lv_iconst (v := 3) hx hb dX8_acceptOperator_12 (by decide) ?_
    obtain ⟨rfl, rfl⟩ := Prod.mk.inj (Option.some.inj hf)
    exact wd_iret X hP hS hr0 dX8_acceptOperator_13 ⟨rfl, rfl⟩

noncomputable def f_X8_readSum_j103 (mm : Mm) (y1 : Int32) : Option (Int32 × Mm) :=
  if y1 = (-1 : Int32) then
    some ((1 : Int32), mm)
  else
    bi1 (f_X7_add mm 20 y1 (0 : Int32)) fun mm_2 => some ((1 : Int32), mm_2)
noncomputable def f_X8_readSum_j69 (mm : Mm) (y1 : Int32) (y2 : Int32) (y3 : Int32) (y4 : Int32) : Option ((Int32 × Int32 × Mm) ⊕ ((Int32 × Mm) ⊕ ((Mm) ⊕ (Int32 × Mm)))) :=
  bi2 (f_X8_readValue mm) fun r_11 mm_9 =>
    if r_11 = 0 then
      some (.inr (.inr (.inl mm_9)))
    else
      if y4 = 0 then
        bi1 (f_X7_add mm_9 20 y3 (0 : Int32)) fun mm_14 => some (.inl (y1, (y2 + 1), mm_14))
      else
        some (.inl (y3, (y2 + 1), mm_9))
noncomputable def f_X8_readSum_j48 (mm : Mm) (y1 : Int32) (y2 : Int32) (y3 : Int32) (z0 : Int32) : Option ((Int32 × Int32 × Mm) ⊕ ((Int32 × Mm) ⊕ ((Mm) ⊕ (Int32 × Mm)))) :=
  if z0 = 0 then
    f_X8_readSum_j69 mm y1 y2 y3 z0
  else
    if y1 = (-1 : Int32) then
      f_X8_readSum_j69 mm y1 y2 y3 z0
    else
      bi1 (f_X7_add mm 20 y1 (0 : Int32)) fun mm_19 => f_X8_readSum_j69 mm_19 y1 y2 y3 z0
noncomputable def f_X8_readSum_j43 (mm : Mm) (y1 : Int32) (y2 : Int32) (y3 : Int32) : Option ((Int32 × Int32 × Mm) ⊕ ((Int32 × Mm) ⊕ ((Mm) ⊕ (Int32 × Mm)))) :=
  f_X8_readSum_j48 mm y1 y2 y3 (1 : Int32)
noncomputable def f_X8_readSum_s13  : (Int32 × Int32 × Mm) → Option ((Int32 × Int32 × Mm) ⊕ ((Int32 × Mm) ⊕ ((Mm) ⊕ (Int32 × Mm)))) :=
  fun q => match q with
  | (y1, y2, mm) =>
    if (400 : Int32) ≤ y2 then
      some (.inr (.inr (.inr ((y1, mm)))))
    else
      bi2 (f_X8_acceptOperator mm) fun r_26 mm_24 =>
        if r_26 = (-1 : Int32) then
          some (.inr (.inl (y1, mm_24)))
        else
          if r_26 = (3 : Int32) then
            f_X8_readSum_j43 mm_24 y1 y2 r_26
          else
            if r_26 = (4 : Int32) then
              f_X8_readSum_j43 mm_24 y1 y2 r_26
            else
              f_X8_readSum_j48 mm_24 y1 y2 r_26 (0 : Int32)
noncomputable def f_X8_readSum (mm : Mm) : Option (Int32 × Mm) :=
  bi2 (f_X8_readValue mm) fun r_7 mm_5 =>
    if r_7 = 0 then
      some ((0 : Int32), mm_5)
    else
      bi1 (lp (f_X8_readSum_s13) ((-1 : Int32), (0 : Int32), mm_5)) fun q => match q with
      | .inl (w1_31, mm_32) =>
        f_X8_readSum_j103 mm_32 w1_31
      | .inr (.inl mm_33) =>
        some ((0 : Int32), mm_33)
      | .inr (.inr ((w1_34, mm_35))) =>
        f_X8_readSum_j103 mm_35 w1_34
set_option maxHeartbeats 4000000 in
set_option maxRecDepth 100000 in
theorem c_X8_readSum (l : Launch) (D : va_G) (dA : Nat → ClassId) (zz : (Nat → Nat) × (Nat → Nat)) (bs : Nat) (mm : Mm) (out : Int32) (m1 : Mm) (hf : f_X8_readSum mm = some (out, m1)) : Mw l D dA zz bs LY yX8_readSum cX8_readSum 5 (some .boolean) 7 156 [.ref (bs + 19)] mm (some (.int out)) m1 := by
  refine Mw.of (own := RX8) (by decide) rfl (Nat.le_of_ble_eq_true rfl) ?_
  intro p e s m args below meth c X hr0 hP hS ls hl
  have hx := X.1
  have hb := X.2.1
  obtain ⟨H, hH⟩ : ∃ z : Heap, z = s.heap := ⟨_, rfl⟩
  obtain ⟨locs, hL⟩ : ∃ z : List Loc, z = [] := ⟨_, rfl⟩
  rw [← hH, ← hL]
  have hS : va_S (Aq bs) s.heap H locs := by rw [hH, hL]; exact hS
  have hP : Wd D dA bs LY mm H := by rw [hH]; exact hP
  have hl : lv_has ls 5 [(0, .ref (bs + 19))] := hl
  have hJ103 : ∀ (mmJ_4 : Mm) (y1J_4 : Int32) (H : Heap) (locs : List Loc) (ls : Array Slot), f_X8_readSum_j103 mmJ_4 y1J_4 = some (out, m1) → Wd D dA bs LY mmJ_4 H → va_S (Aq bs) s.heap H locs → lv_has ls 5 [(0, .ref (bs + 19)), (1, .int y1J_4)] → Wz p l e s m args below meth c D dA bs (some (.int out)) m1 7 156 H locs 103 ls [] := by
    intro mmJ_4 y1J_4 H locs ls hf hP hS hl
    unfold f_X8_readSum_j103 at hf
    refine lv_iload_n hx hb dX8_readSum_103 rfl (lv_at hl 1 rfl) ?_
    refine lv_iconst (v := -1) hx hb dX8_readSum_104 (by decide) ?_
    refine lv_icmp_eq (tgt := 117) hx hb dX8_readSum_105 (by decide) (fun c_1 => ?_) (fun c_1 => ?_)
    · have hf := itT hf c_1
      refine lv_iconst (v := 1) hx hb dX8_readSum_117 (by decide) ?_
      obtain ⟨rfl, rfl⟩ := Prod.mk.inj (Option.some.inj hf)
      exact wd_zret X hP hS hr0 (by decide) dX8_readSum_118 ⟨rfl, rfl⟩
    · have hf := itF hf c_1
      refine lv_aload_n hx hb dX8_readSum_108 rfl (lv_at hl 0 rfl) ?_
      refine wd_getR (q := 20) X hP L19 fl_X8_12 rfl dX8_readSum_109 ?_
      refine lv_iload_n hx hb dX8_readSum_112 rfl (lv_at hl 1 rfl) ?_
      refine lv_iconst (v := 0) hx hb dX8_readSum_113 (by decide) ?_
      obtain ⟨mm_2, hc_3, hf⟩ := bi1S hf
      refine wd_cv X hP hS (isRule.a0 U20) ml_X8_90 ⟨_, _, rfl⟩ (c_X7_add l D dA zz bs mmJ_4 20 U20 y1J_4 (0 : Int32) mm_2 hc_3) rfl ⟨Nat.le_of_ble_eq_true rfl, Nat.le_of_ble_eq_true rfl⟩ hl.1 rfl (rest := []) (Nat.le_of_ble_eq_true rfl) ⟨Nat.zero_le _, Nat.zero_le _⟩ dX8_readSum_114 (fun H locs hP hS => ?_)
      refine W.eq (g2 := F0 m 117 ls []) rfl ?_
      refine lv_iconst (v := 1) hx hb dX8_readSum_117 (by decide) ?_
      obtain ⟨rfl, rfl⟩ := Prod.mk.inj (Option.some.inj hf)
      exact wd_zret X hP hS hr0 (by decide) dX8_readSum_118 ⟨rfl, rfl⟩
  unfold f_X8_readSum at hf
  refine lv_aload_n hx hb dX8_readSum_0 rfl (lv_at hl 0 rfl) ?_
  obtain ⟨r_7, mm_5, hc_6, hf⟩ := bi2S hf
  refine wd_cv X hP hS L19 ml_X8_105 ⟨_, _, rfl⟩ (c_X8_readValue l D dA zz bs mm r_7 mm_5 hc_6) rfl ⟨Nat.le_of_ble_eq_true rfl, Nat.le_of_ble_eq_true rfl⟩ hl.1 rfl (rest := []) (Nat.le_of_ble_eq_true rfl) ⟨Nat.zero_le _, Nat.zero_le _⟩ dX8_readSum_1 (fun H locs hP hS => ?_)
  refine W.eq (g2 := F0 m 4 ls [.int r_7]) rfl ?_
  refine lv_if_ne (tgt := 9) hx hb dX8_readSum_4 (by decide) (fun c_8 => ?_) (fun c_8 => ?_)
  · have hf := itF hf c_8
    refine lv_iconst (v := -1) hx hb dX8_readSum_9 (by decide) ?_
    refine lv_istore_n (lv' := [(1, .int (-1 : Int32)), (0, .ref (bs + 19))]) hx hb dX8_readSum_10 rfl hl (by decide) rfl (fun ls hl => ?_)
    refine lv_iconst (v := 0) hx hb dX8_readSum_11 (by decide) ?_
    refine lv_istore_n (lv' := [(2, .int (0 : Int32)), (1, .int (-1 : Int32)), (0, .ref (bs + 19))]) hx hb dX8_readSum_12 rfl hl (by decide) rfl (fun ls hl => ?_)
    obtain ⟨q_36, hlp_37, hf⟩ := bi1S hf
    refine lp_walk (Wh := (fun z => match z with | (y1L_30, y2L_30, mmL_30) => ∀ (H : Heap) (locs : List Loc) (ls : Array Slot), Wd D dA bs LY mmL_30 H → va_S (Aq bs) s.heap H locs → lv_has ls 5 [(0, .ref (bs + 19)), (1, .int y1L_30), (2, .int y2L_30)] → Wz p l e s m args below meth c D dA bs (some (.int out)) m1 7 156 H locs 13 ls [])) (Ph := (fun z => match z with | .inl (w1_31, mm_32) => ∀ (H : Heap) (locs : List Loc) (ls : Array Slot), Wd D dA bs LY mm_32 H → va_S (Aq bs) s.heap H locs → lv_has ls 5 [(0, .ref (bs + 19)), (1, .int w1_31)] → Wz p l e s m args below meth c D dA bs (some (.int out)) m1 7 156 H locs 30 ls [] | .inr (.inl mm_33) => ∀ (H : Heap) (locs : List Loc) (ls : Array Slot), Wd D dA bs LY mm_33 H → va_S (Aq bs) s.heap H locs → lv_has ls 5 [] → Wz p l e s m args below meth c D dA bs (some (.int out)) m1 7 156 H locs 76 ls [] | .inr (.inr ((w1_34, mm_35))) => ∀ (H : Heap) (locs : List Loc) (ls : Array Slot), Wd D dA bs LY mm_35 H → va_S (Aq bs) s.heap H locs → lv_has ls 5 [(0, .ref (bs + 19)), (1, .int w1_34)] → Wz p l e s m args below meth c D dA bs (some (.int out)) m1 7 156 H locs 103 ls [])) ?_ hlp_37 ?_ H locs ls hP hS (lv_sub hl [2, 1, 0] rfl)
    · intro z o hf hB hE
      obtain ⟨y1L_30, y2L_30, mmL_30⟩ := z
      intro H locs ls hP hS hl
      have hf : f_X8_readSum_s13 (y1L_30, y2L_30, mmL_30) = some o := hf
      unfold f_X8_readSum_s13 at hf
      dsimp only at hf
      have hJ69 : ∀ (mmJ_16 : Mm) (y1J_16 : Int32) (y2J_16 : Int32) (y3J_16 : Int32) (y4J_16 : Int32) (H : Heap) (locs : List Loc) (ls : Array Slot), f_X8_readSum_j69 mmJ_16 y1J_16 y2J_16 y3J_16 y4J_16 = some o → Wd D dA bs LY mmJ_16 H → va_S (Aq bs) s.heap H locs → lv_has ls 5 [(0, .ref (bs + 19)), (1, .int y1J_16), (2, .int y2J_16), (3, .int y3J_16), (4, .int y4J_16)] → Wz p l e s m args below meth c D dA bs (some (.int out)) m1 7 156 H locs 69 ls [] := by
        intro mmJ_16 y1J_16 y2J_16 y3J_16 y4J_16 H locs ls hf hP hS hl
        unfold f_X8_readSum_j69 at hf
        refine lv_aload_n hx hb dX8_readSum_69 rfl (lv_at hl 0 rfl) ?_
        obtain ⟨r_11, mm_9, hc_10, hf⟩ := bi2S hf
        refine wd_cv X hP hS L19 ml_X8_105 ⟨_, _, rfl⟩ (c_X8_readValue l D dA zz bs mmJ_16 r_11 mm_9 hc_10) rfl ⟨Nat.le_of_ble_eq_true rfl, Nat.le_of_ble_eq_true rfl⟩ hl.1 rfl (rest := []) (Nat.le_of_ble_eq_true rfl) ⟨Nat.zero_le _, Nat.zero_le _⟩ dX8_readSum_70 (fun H locs hP hS => ?_)
        refine W.eq (g2 := F0 m 73 ls [.int r_11]) rfl ?_
        refine lv_if_ne (tgt := 78) hx hb dX8_readSum_73 (by decide) (fun c_12 => ?_) (fun c_12 => ?_)
        · have hf := itF hf c_12
          refine lv_iload hx hb dX8_readSum_78 (lv_at hl 4 rfl) ?_
          refine lv_if_eq (tgt := 88) hx hb dX8_readSum_80 (by decide) (fun c_13 => ?_) (fun c_13 => ?_)
          · have hf := itT hf c_13
            refine lv_aload_n hx hb dX8_readSum_88 rfl (lv_at hl 0 rfl) ?_
            refine wd_getR (q := 20) X hP L19 fl_X8_12 rfl dX8_readSum_89 ?_
            refine lv_iload_n hx hb dX8_readSum_92 rfl (lv_at hl 3 rfl) ?_
            refine lv_iconst (v := 0) hx hb dX8_readSum_93 (by decide) ?_
            obtain ⟨mm_14, hc_15, hf⟩ := bi1S hf
            refine wd_cv X hP hS (isRule.a0 U20) ml_X8_90 ⟨_, _, rfl⟩ (c_X7_add l D dA zz bs mm_9 20 U20 y3J_16 (0 : Int32) mm_14 hc_15) rfl ⟨Nat.le_of_ble_eq_true rfl, Nat.le_of_ble_eq_true rfl⟩ hl.1 rfl (rest := []) (Nat.le_of_ble_eq_true rfl) ⟨Nat.zero_le _, Nat.zero_le _⟩ dX8_readSum_94 (fun H locs hP hS => ?_)
            refine W.eq (g2 := F0 m 97 ls []) rfl ?_
            refine lv_iinc (v := (y2J_16 + 1)) (lv' := [(2, .int (y2J_16 + 1)), (0, .ref (bs + 19)), (1, .int y1J_16), (3, .int y3J_16), (4, .int y4J_16)]) hx hb dX8_readSum_97 hl (k := 2) rfl rfl (by decide) rfl (fun ls hl => ?_)
            refine lv_goto (tgt := 13) hx hb dX8_readSum_100 (by decide) ?_
            obtain rfl := Option.some.inj hf
            exact hB _ rfl H locs ls hP hS (lv_sub hl [1, 2, 0] rfl)
          · have hf := itF hf c_13
            refine lv_iload_n hx hb dX8_readSum_83 rfl (lv_at hl 3 rfl) ?_
            refine lv_istore_n (lv' := [(1, .int y3J_16), (0, .ref (bs + 19)), (2, .int y2J_16), (3, .int y3J_16), (4, .int y4J_16)]) hx hb dX8_readSum_84 rfl hl (by decide) rfl (fun ls hl => ?_)
            refine lv_goto (tgt := 97) hx hb dX8_readSum_85 (by decide) ?_
            refine lv_iinc (v := (y2J_16 + 1)) (lv' := [(2, .int (y2J_16 + 1)), (1, .int y3J_16), (0, .ref (bs + 19)), (3, .int y3J_16), (4, .int y4J_16)]) hx hb dX8_readSum_97 hl (k := 2) rfl rfl (by decide) rfl (fun ls hl => ?_)
            refine lv_goto (tgt := 13) hx hb dX8_readSum_100 (by decide) ?_
            obtain rfl := Option.some.inj hf
            exact hB _ rfl H locs ls hP hS (lv_sub hl [2, 1, 0] rfl)
        · have hf := itT hf c_12
          obtain rfl := Option.some.inj hf
          exact hE _ rfl H locs ls hP hS (lv_sub hl [] rfl)
      have hJ48 : ∀ (mmJ_21 : Mm) (y1J_21 : Int32) (y2J_21 : Int32) (y3J_21 : Int32) (z0J_21 : Int32) (H : Heap) (locs : List Loc) (ls : Array Slot), f_X8_readSum_j48 mmJ_21 y1J_21 y2J_21 y3J_21 z0J_21 = some o → Wd D dA bs LY mmJ_21 H → va_S (Aq bs) s.heap H locs → lv_has ls 5 [(0, .ref (bs + 19)), (1, .int y1J_21), (2, .int y2J_21), (3, .int y3J_21)] → Wz p l e s m args below meth c D dA bs (some (.int out)) m1 7 156 H locs 48 ls [.int z0J_21] := by
        intro mmJ_21 y1J_21 y2J_21 y3J_21 z0J_21 H locs ls hf hP hS hl
        unfold f_X8_readSum_j48 at hf
        refine lv_istore (lv' := [(4, .int z0J_21), (0, .ref (bs + 19)), (1, .int y1J_21), (2, .int y2J_21), (3, .int y3J_21)]) hx hb dX8_readSum_48 hl (by decide) rfl (fun ls hl => ?_)
        refine lv_iload hx hb dX8_readSum_50 (lv_at hl 0 rfl) ?_
        refine lv_if_eq (tgt := 69) hx hb dX8_readSum_52 (by decide) (fun c_17 => ?_) (fun c_17 => ?_)
        · have hf := itT hf c_17
          exact hJ69 mmJ_21 y1J_21 y2J_21 y3J_21 z0J_21 H locs ls hf hP hS (lv_sub hl [1, 2, 3, 4, 0] rfl)
        · have hf := itF hf c_17
          refine lv_iload_n hx hb dX8_readSum_55 rfl (lv_at hl 2 rfl) ?_
          refine lv_iconst (v := -1) hx hb dX8_readSum_56 (by decide) ?_
          refine lv_icmp_eq (tgt := 69) hx hb dX8_readSum_57 (by decide) (fun c_18 => ?_) (fun c_18 => ?_)
          · have hf := itT hf c_18
            exact hJ69 mmJ_21 y1J_21 y2J_21 y3J_21 z0J_21 H locs ls hf hP hS (lv_sub hl [1, 2, 3, 4, 0] rfl)
          · have hf := itF hf c_18
            refine lv_aload_n hx hb dX8_readSum_60 rfl (lv_at hl 1 rfl) ?_
            refine wd_getR (q := 20) X hP L19 fl_X8_12 rfl dX8_readSum_61 ?_
            refine lv_iload_n hx hb dX8_readSum_64 rfl (lv_at hl 2 rfl) ?_
            refine lv_iconst (v := 0) hx hb dX8_readSum_65 (by decide) ?_
            obtain ⟨mm_19, hc_20, hf⟩ := bi1S hf
            refine wd_cv X hP hS (isRule.a0 U20) ml_X8_90 ⟨_, _, rfl⟩ (c_X7_add l D dA zz bs mmJ_21 20 U20 y1J_21 (0 : Int32) mm_19 hc_20) rfl ⟨Nat.le_of_ble_eq_true rfl, Nat.le_of_ble_eq_true rfl⟩ hl.1 rfl (rest := []) (Nat.le_of_ble_eq_true rfl) ⟨Nat.zero_le _, Nat.zero_le _⟩ dX8_readSum_66 (fun H locs hP hS => ?_)
            refine W.eq (g2 := F0 m 69 ls []) rfl ?_
            exact hJ69 mm_19 y1J_21 y2J_21 y3J_21 z0J_21 H locs ls hf hP hS (lv_sub hl [1, 2, 3, 4, 0] rfl)
      have hJ43 : ∀ (mmJ_22 : Mm) (y1J_22 : Int32) (y2J_22 : Int32) (y3J_22 : Int32) (H : Heap) (locs : List Loc) (ls : Array Slot), f_X8_readSum_j43 mmJ_22 y1J_22 y2J_22 y3J_22 = some o → Wd D dA bs LY mmJ_22 H → va_S (Aq bs) s.heap H locs → lv_has ls 5 [(0, .ref (bs + 19)), (1, .int y1J_22), (2, .int y2J_22), (3, .int y3J_22)] → Wz p l e s m args below meth c D dA bs (some (.int out)) m1 7 156 H locs 43 ls [] := by
        intro mmJ_22 y1J_22 y2J_22 y3J_22 H locs ls hf hP hS hl
        unfold f_X8_readSum_j43 at hf
        refine lv_iconst (v := 1) hx hb dX8_readSum_43 (by decide) ?_
        refine lv_goto (tgt := 48) hx hb dX8_readSum_44 (by decide) ?_
        exact hJ48 mmJ_22 y1J_22 y2J_22 y3J_22 (1 : Int32) H locs ls hf hP hS (lv_sub hl [0, 1, 2, 3] rfl)
      refine lv_iload_n hx hb dX8_readSum_13 rfl (lv_at hl 2 rfl) ?_
      refine lv_sipush (v := 400) hx hb dX8_readSum_14 (by decide) ?_
      refine lv_icmp_ge (tgt := 103) hx hb dX8_readSum_17 (by decide) (fun c_23 => ?_) (fun c_23 => ?_)
      · have hf := itT hf c_23
        obtain rfl := Option.some.inj hf
        exact hE _ rfl H locs ls hP hS (lv_sub hl [0, 1] rfl)
      · have hf := itF hf c_23
        refine lv_aload_n hx hb dX8_readSum_20 rfl (lv_at hl 0 rfl) ?_
        obtain ⟨r_26, mm_24, hc_25, hf⟩ := bi2S hf
        refine wd_cv X hP hS L19 ml_X8_108 ⟨_, _, rfl⟩ (c_X8_acceptOperator l D dA zz bs mmL_30 r_26 mm_24 hc_25) rfl ⟨Nat.le_of_ble_eq_true rfl, Nat.le_of_ble_eq_true rfl⟩ hl.1 rfl (rest := []) (Nat.le_of_ble_eq_true rfl) ⟨Nat.zero_le _, Nat.zero_le _⟩ dX8_readSum_21 (fun H locs hP hS => ?_)
        refine W.eq (g2 := F0 m 24 ls [.int r_26]) rfl ?_
        refine lv_istore_n (lv' := [(3, .int r_26), (0, .ref (bs + 19)), (1, .int y1L_30), (2, .int y2L_30)]) hx hb dX8_readSum_24 rfl hl (by decide) rfl (fun ls hl => ?_)
        refine lv_iload_n hx hb dX8_readSum_25 rfl (lv_at hl 0 rfl) ?_
        refine lv_iconst (v := -1) hx hb dX8_readSum_26 (by decide) ?_
        refine lv_icmp_ne (tgt := 33) hx hb dX8_readSum_27 (by decide) (fun c_27 => ?_) (fun c_27 => ?_)
        · have hf := itF hf c_27
          refine lv_iload_n hx hb dX8_readSum_33 rfl (lv_at hl 0 rfl) ?_
          refine lv_iconst (v := 3) hx hb dX8_readSum_34 (by decide) ?_
          refine lv_icmp_eq (tgt := 43) hx hb dX8_readSum_35 (by decide) (fun c_28 => ?_) (fun c_28 => ?_)
          · have hf := itT hf c_28
            exact hJ43 mm_24 y1L_30 y2L_30 r_26 H locs ls hf hP hS (lv_sub hl [1, 2, 3, 0] rfl)
          · have hf := itF hf c_28
            refine lv_iload_n hx hb dX8_readSum_38 rfl (lv_at hl 0 rfl) ?_
            refine lv_iconst (v := 4) hx hb dX8_readSum_39 (by decide) ?_
            refine lv_icmp_ne (tgt := 47) hx hb dX8_readSum_40 (by decide) (fun c_29 => ?_) (fun c_29 => ?_)
            · have hf := itF hf c_29
              refine lv_iconst (v := 0) hx hb dX8_readSum_47 (by decide) ?_
              exact hJ48 mm_24 y1L_30 y2L_30 r_26 (0 : Int32) H locs ls hf hP hS (lv_sub hl [1, 2, 3, 0] rfl)
            · have hf := itT hf c_29
              exact hJ43 mm_24 y1L_30 y2L_30 r_26 H locs ls hf hP hS (lv_sub hl [1, 2, 3, 0] rfl)
        · have hf := itT hf c_27
          obtain rfl := Option.some.inj hf
          exact hE _ rfl H locs ls hP hS (lv_sub hl [1, 2] rfl)
    · rcases q_36 with ⟨w1_31, mm_32⟩ | mm_33 | ⟨w1_34, mm_35⟩
      · dsimp only at hf
        intro H locs ls hP hS hl
        refine lv_goto (tgt := 103) hx hb dX8_readSum_30 (by decide) ?_
        exact hJ103 mm_32 w1_31 H locs ls hf hP hS (lv_sub hl [0, 1] rfl)
      · dsimp only at hf
        intro H locs ls hP hS hl
        refine lv_iconst (v := 0) hx hb dX8_readSum_76 (by decide) ?_
        obtain ⟨rfl, rfl⟩ := Prod.mk.inj (Option.some.inj hf)
        exact wd_zret X hP hS hr0 (by decide) dX8_readSum_77 ⟨rfl, rfl⟩
      · dsimp only at hf
        intro H locs ls hP hS hl
        exact hJ103 mm_35 w1_34 H locs ls hf hP hS (lv_sub hl [0, 1] rfl)
  · have hf := itT hf c_8
    refine lv_iconst (v := 0) hx hb dX8_readSum_7 (by decide) ?_
    obtain ⟨rfl, rfl⟩ := Prod.mk.inj (Option.some.inj hf)
    exact wd_zret X hP hS hr0 (by decide) dX8_readSum_8 ⟨rfl, rfl⟩

noncomputable def f_X10_acceptAtOnce (mm : Mm) (x1 : Int32) : Option (Int32 × Mm) :=
  if (mm.1 1 1) ≤ (mm.1 1 2) then
    some ((0 : Int32), mm)
  else
    if (mm.1 1 2) < 0 ∨ 400 ≤ (mm.1 1 2).toNatClampNeg then none else
      if (mm.1 2 (mm.1 1 2).toNatClampNeg) = x1 then
        vlet (wI mm 1 2 ((mm.1 1 2) + (1 : Int32))) fun mm_4 => some ((1 : Int32), mm_4)
      else
        some ((0 : Int32), mm)
set_option maxHeartbeats 4000000 in
set_option maxRecDepth 100000 in
theorem c_X10_acceptAtOnce (l : Launch) (D : va_G) (dA : Nat → ClassId) (zz : (Nat → Nat) × (Nat → Nat)) (bs : Nat) (mm : Mm) (x1 : Int32) (out : Int32) (m1 : Mm) (hf : f_X10_acceptAtOnce mm x1 = some (out, m1)) : Mw l D dA zz bs LY yX10_acceptAtOnce cX10_acceptAtOnce 2 (some .boolean) 0 0 [.ref (bs + 1), .int x1] mm (some (.int out)) m1 := by
  refine Mw.of (own := RX10) (by decide) rfl (Nat.le_of_ble_eq_true rfl) ?_
  intro p e s m args below meth c X hr0 hP hS ls hl
  have hx := X.1
  have hb := X.2.1
  obtain ⟨H, hH⟩ : ∃ z : Heap, z = s.heap := ⟨_, rfl⟩
  obtain ⟨locs, hL⟩ : ∃ z : List Loc, z = [] := ⟨_, rfl⟩
  rw [← hH, ← hL]
  have hS : va_S (Aq bs) s.heap H locs := by rw [hH, hL]; exact hS
  have hP : Wd D dA bs LY mm H := by rw [hH]; exact hP
  have hl : lv_has ls 2 [(0, .ref (bs + 1)), (1, .int x1)] := hl
  unfold f_X10_acceptAtOnce at hf
  refine lv_aload_n hx hb dX10_acceptAtOnce_0 rfl (lv_at hl 0 rfl) ?_
  refine wd_getI X hP L1 fl_X10_19 rfl dX10_acceptAtOnce_1 ?_
  refine lv_aload_n hx hb dX10_acceptAtOnce_4 rfl (lv_at hl 0 rfl) ?_
  refine wd_getI X hP L1 fl_X10_15 rfl dX10_acceptAtOnce_5 ?_
  refine lv_icmp_ge (tgt := 24) hx hb dX10_acceptAtOnce_8 (by decide) (fun c_1 => ?_) (fun c_1 => ?_)
  · have hf := itT hf c_1
    refine lv_iconst (v := 0) hx hb dX10_acceptAtOnce_24 (by decide) ?_
    obtain ⟨rfl, rfl⟩ := Prod.mk.inj (Option.some.inj hf)
    exact wd_zret X hP hS hr0 (by decide) dX10_acceptAtOnce_25 ⟨rfl, rfl⟩
  · have hf := itF hf c_1
    refine lv_aload_n hx hb dX10_acceptAtOnce_11 rfl (lv_at hl 0 rfl) ?_
    refine wd_getR (q := 2) X hP L1 fl_X10_9 rfl dX10_acceptAtOnce_12 ?_
    refine lv_aload_n hx hb dX10_acceptAtOnce_15 rfl (lv_at hl 0 rfl) ?_
    refine wd_getI X hP L1 fl_X10_19 rfl dX10_acceptAtOnce_16 ?_
    have g_2 := gdN hf
    have hf := gdK hf
    refine wd_bald X hP L2 g_2 dX10_acceptAtOnce_19 ?_
    refine lv_iload_n hx hb dX10_acceptAtOnce_20 rfl (lv_at hl 1 rfl) ?_
    refine lv_icmp_eq (tgt := 26) hx hb dX10_acceptAtOnce_21 (by decide) (fun c_3 => ?_) (fun c_3 => ?_)
    · have hf := itT hf c_3
      refine lv_aload_n hx hb dX10_acceptAtOnce_26 rfl (lv_at hl 0 rfl) ?_
      refine lv_dup hx hb dX10_acceptAtOnce_27 rfl ?_
      refine wd_getI X hP L1 fl_X10_19 rfl dX10_acceptAtOnce_28 ?_
      refine lv_iconst (v := 1) hx hb dX10_acceptAtOnce_31 (by decide) ?_
      refine lv_iadd hx hb dX10_acceptAtOnce_32 ?_
      refine wd_putI X hP hS L1 fp_X10_19 rfl dX10_acceptAtOnce_33 (fun H locs mm_4 emm_4 hP hS => ?_)
      have hf := vl hf emm_4
      refine lv_iconst (v := 1) hx hb dX10_acceptAtOnce_36 (by decide) ?_
      obtain ⟨rfl, rfl⟩ := Prod.mk.inj (Option.some.inj hf)
      exact wd_zret X hP hS hr0 (by decide) dX10_acceptAtOnce_37 ⟨rfl, rfl⟩
    · have hf := itF hf c_3
      refine lv_iconst (v := 0) hx hb dX10_acceptAtOnce_24 (by decide) ?_
      obtain ⟨rfl, rfl⟩ := Prod.mk.inj (Option.some.inj hf)
      exact wd_zret X hP hS hr0 (by decide) dX10_acceptAtOnce_25 ⟨rfl, rfl⟩

noncomputable def f_X8_acceptComparing_j43 (mm : Mm) (y1 : Int32) : Option (Int32 × Mm) :=
  bi2 (f_X10_acceptAtOnce mm (61 : Int32)) fun r_3 mm_1 =>
    if r_3 = 0 then
      if y1 = 0 then
        some ((12 : Int32), mm_1)
      else
        some ((8 : Int32), mm_1)
    else
      if y1 = 0 then
        some ((11 : Int32), mm_1)
      else
        some ((9 : Int32), mm_1)
noncomputable def f_X8_acceptComparing (mm : Mm) : Option (Int32 × Mm) :=
  bi2 (f_X10_accept mm (61 : Int32)) fun r_10 mm_8 =>
    if r_10 = 0 then
      bi2 (f_X10_accept mm_8 (60 : Int32)) fun r_14 mm_12 =>
        if r_14 = 0 then
          bi2 (f_X10_accept mm_12 (62 : Int32)) fun r_18 mm_16 =>
            if r_18 = 0 then
              some ((-1 : Int32), mm_16)
            else
              f_X8_acceptComparing_j43 mm_16 r_14
        else
          f_X8_acceptComparing_j43 mm_12 r_14
    else
      some ((10 : Int32), mm_8)
set_option maxHeartbeats 4000000 in
set_option maxRecDepth 100000 in
theorem c_X8_acceptComparing (l : Launch) (D : va_G) (dA : Nat → ClassId) (zz : (Nat → Nat) × (Nat → Nat)) (bs : Nat) (mm : Mm) (out : Int32) (m1 : Mm) (hf : f_X8_acceptComparing mm = some (out, m1)) : Mw l D dA zz bs LY yX8_acceptComparing cX8_acceptComparing 2 (some .int) 2 41 [.ref (bs + 19)] mm (some (.int out)) m1 := by
  refine Mw.of (own := RX8) (by decide) rfl (Nat.le_of_ble_eq_true rfl) ?_
  intro p e s m args below meth c X hr0 hP hS ls hl
  have hx := X.1
  have hb := X.2.1
  obtain ⟨H, hH⟩ : ∃ z : Heap, z = s.heap := ⟨_, rfl⟩
  obtain ⟨locs, hL⟩ : ∃ z : List Loc, z = [] := ⟨_, rfl⟩
  rw [← hH, ← hL]
  have hS : va_S (Aq bs) s.heap H locs := by rw [hH, hL]; exact hS
  have hP : Wd D dA bs LY mm H := by rw [hH]; exact hP
  have hl : lv_has ls 2 [(0, .ref (bs + 19))] := hl
  have hJ43 : ∀ (mmJ_7 : Mm) (y1J_7 : Int32) (H : Heap) (locs : List Loc) (ls : Array Slot), f_X8_acceptComparing_j43 mmJ_7 y1J_7 = some (out, m1) → Wd D dA bs LY mmJ_7 H → va_S (Aq bs) s.heap H locs → lv_has ls 2 [(0, .ref (bs + 19)), (1, .int y1J_7)] → Wz p l e s m args below meth c D dA bs (some (.int out)) m1 2 41 H locs 43 ls [] := by
    intro mmJ_7 y1J_7 H locs ls hf hP hS hl
    unfold f_X8_acceptComparing_j43 at hf
    refine lv_aload_n hx hb dX8_acceptComparing_43 rfl (lv_at hl 0 rfl) ?_
    refine wd_getR (q := 1) X hP L19 fl_X8_18 rfl dX8_acceptComparing_44 ?_
    refine lv_bipush (v := 61) hx hb dX8_acceptComparing_47 (by decide) ?_
    obtain ⟨r_3, mm_1, hc_2, hf⟩ := bi2S hf
    refine wd_cv X hP hS L1 ml_X8_102 ⟨_, _, rfl⟩ (c_X10_acceptAtOnce l D dA zz bs mmJ_7 (61 : Int32) r_3 mm_1 hc_2) rfl ⟨Nat.le_of_ble_eq_true rfl, Nat.le_of_ble_eq_true rfl⟩ hl.1 rfl (rest := []) (Nat.le_of_ble_eq_true rfl) ⟨Nat.zero_le _, Nat.zero_le _⟩ dX8_acceptComparing_49 (fun H locs hP hS => ?_)
    refine W.eq (g2 := F0 m 52 ls [.int r_3]) rfl ?_
    refine lv_if_eq (tgt := 67) hx hb dX8_acceptComparing_52 (by decide) (fun c_4 => ?_) (fun c_4 => ?_)
    · have hf := itT hf c_4
      refine lv_iload_n hx hb dX8_acceptComparing_67 rfl (lv_at hl 1 rfl) ?_
      refine lv_if_eq (tgt := 76) hx hb dX8_acceptComparing_68 (by decide) (fun c_5 => ?_) (fun c_5 => ?_)
      · have hf := itT hf c_5
        refine lv_bipush (v := 12) hx hb dX8_acceptComparing_76 (by decide) ?_
        obtain ⟨rfl, rfl⟩ := Prod.mk.inj (Option.some.inj hf)
        exact wd_iret X hP hS hr0 dX8_acceptComparing_78 ⟨rfl, rfl⟩
      · have hf := itF hf c_5
        refine lv_bipush (v := 8) hx hb dX8_acceptComparing_71 (by decide) ?_
        refine lv_goto (tgt := 78) hx hb dX8_acceptComparing_73 (by decide) ?_
        obtain ⟨rfl, rfl⟩ := Prod.mk.inj (Option.some.inj hf)
        exact wd_iret X hP hS hr0 dX8_acceptComparing_78 ⟨rfl, rfl⟩
    · have hf := itF hf c_4
      refine lv_iload_n hx hb dX8_acceptComparing_55 rfl (lv_at hl 1 rfl) ?_
      refine lv_if_eq (tgt := 64) hx hb dX8_acceptComparing_56 (by decide) (fun c_6 => ?_) (fun c_6 => ?_)
      · have hf := itT hf c_6
        refine lv_bipush (v := 11) hx hb dX8_acceptComparing_64 (by decide) ?_
        obtain ⟨rfl, rfl⟩ := Prod.mk.inj (Option.some.inj hf)
        exact wd_iret X hP hS hr0 dX8_acceptComparing_66 ⟨rfl, rfl⟩
      · have hf := itF hf c_6
        refine lv_bipush (v := 9) hx hb dX8_acceptComparing_59 (by decide) ?_
        refine lv_goto (tgt := 66) hx hb dX8_acceptComparing_61 (by decide) ?_
        obtain ⟨rfl, rfl⟩ := Prod.mk.inj (Option.some.inj hf)
        exact wd_iret X hP hS hr0 dX8_acceptComparing_66 ⟨rfl, rfl⟩
  unfold f_X8_acceptComparing at hf
  refine lv_aload_n hx hb dX8_acceptComparing_0 rfl (lv_at hl 0 rfl) ?_
  refine wd_getR (q := 1) X hP L19 fl_X8_18 rfl dX8_acceptComparing_1 ?_
  refine lv_bipush (v := 61) hx hb dX8_acceptComparing_4 (by decide) ?_
  obtain ⟨r_10, mm_8, hc_9, hf⟩ := bi2S hf
  refine wd_cv X hP hS L1 ml_X8_80 ⟨_, _, rfl⟩ (c_X10_accept l D dA zz bs mm (61 : Int32) r_10 mm_8 hc_9) rfl ⟨Nat.le_of_ble_eq_true rfl, Nat.le_of_ble_eq_true rfl⟩ hl.1 rfl (rest := []) (Nat.le_of_ble_eq_true rfl) ⟨Nat.zero_le _, Nat.zero_le _⟩ dX8_acceptComparing_6 (fun H locs hP hS => ?_)
  refine W.eq (g2 := F0 m 9 ls [.int r_10]) rfl ?_
  refine lv_if_eq (tgt := 15) hx hb dX8_acceptComparing_9 (by decide) (fun c_11 => ?_) (fun c_11 => ?_)
  · have hf := itT hf c_11
    refine lv_aload_n hx hb dX8_acceptComparing_15 rfl (lv_at hl 0 rfl) ?_
    refine wd_getR (q := 1) X hP L19 fl_X8_18 rfl dX8_acceptComparing_16 ?_
    refine lv_bipush (v := 60) hx hb dX8_acceptComparing_19 (by decide) ?_
    obtain ⟨r_14, mm_12, hc_13, hf⟩ := bi2S hf
    refine wd_cv X hP hS L1 ml_X8_80 ⟨_, _, rfl⟩ (c_X10_accept l D dA zz bs mm_8 (60 : Int32) r_14 mm_12 hc_13) rfl ⟨Nat.le_of_ble_eq_true rfl, Nat.le_of_ble_eq_true rfl⟩ hl.1 rfl (rest := []) (Nat.le_of_ble_eq_true rfl) ⟨Nat.zero_le _, Nat.zero_le _⟩ dX8_acceptComparing_21 (fun H locs hP hS => ?_)
    refine W.eq (g2 := F0 m 24 ls [.int r_14]) rfl ?_
    refine lv_istore_n (lv' := [(1, .int r_14), (0, .ref (bs + 19))]) hx hb dX8_acceptComparing_24 rfl hl (by decide) rfl (fun ls hl => ?_)
    refine lv_iload_n hx hb dX8_acceptComparing_25 rfl (lv_at hl 0 rfl) ?_
    refine lv_if_ne (tgt := 43) hx hb dX8_acceptComparing_26 (by decide) (fun c_15 => ?_) (fun c_15 => ?_)
    · have hf := itF hf c_15
      exact hJ43 mm_12 r_14 H locs ls hf hP hS (lv_sub hl [1, 0] rfl)
    · have hf := itT hf c_15
      refine lv_aload_n hx hb dX8_acceptComparing_29 rfl (lv_at hl 1 rfl) ?_
      refine wd_getR (q := 1) X hP L19 fl_X8_18 rfl dX8_acceptComparing_30 ?_
      refine lv_bipush (v := 62) hx hb dX8_acceptComparing_33 (by decide) ?_
      obtain ⟨r_18, mm_16, hc_17, hf⟩ := bi2S hf
      refine wd_cv X hP hS L1 ml_X8_80 ⟨_, _, rfl⟩ (c_X10_accept l D dA zz bs mm_12 (62 : Int32) r_18 mm_16 hc_17) rfl ⟨Nat.le_of_ble_eq_true rfl, Nat.le_of_ble_eq_true rfl⟩ hl.1 rfl (rest := []) (Nat.le_of_ble_eq_true rfl) ⟨Nat.zero_le _, Nat.zero_le _⟩ dX8_acceptComparing_35 (fun H locs hP hS => ?_)
      refine W.eq (g2 := F0 m 38 ls [.int r_18]) rfl ?_
      refine lv_if_ne (tgt := 43) hx hb dX8_acceptComparing_38 (by decide) (fun c_19 => ?_) (fun c_19 => ?_)
      · have hf := itF hf c_19
        exact hJ43 mm_16 r_14 H locs ls hf hP hS (lv_sub hl [1, 0] rfl)
      · have hf := itT hf c_19
        refine lv_iconst (v := -1) hx hb dX8_acceptComparing_41 (by decide) ?_
        obtain ⟨rfl, rfl⟩ := Prod.mk.inj (Option.some.inj hf)
        exact wd_iret X hP hS hr0 dX8_acceptComparing_42 ⟨rfl, rfl⟩
  · have hf := itF hf c_11
    refine lv_bipush (v := 10) hx hb dX8_acceptComparing_12 (by decide) ?_
    obtain ⟨rfl, rfl⟩ := Prod.mk.inj (Option.some.inj hf)
    exact wd_iret X hP hS hr0 dX8_acceptComparing_14 ⟨rfl, rfl⟩

noncomputable def f_X8_readTest_j107 (recF : Mm → Int32 → Option (Int32 × Mm)) (mm : Mm) (y2 : Int32) : Option (Int32 × Mm) :=
  if y2 = 0 then
    some ((1 : Int32), mm)
  else
    bi1 (f_X7_add mm 20 (14 : Int32) (0 : Int32)) fun mm_2 => some ((1 : Int32), mm_2)
noncomputable def f_X8_readTest_j71 (recF : Mm → Int32 → Option (Int32 × Mm)) (mm : Mm) (y1 : Int32) (y2 : Int32) (y3 : Int32) (y4 : Int32) : Option ((Int32 × Int32 × Mm) ⊕ ((Int32 × Mm) ⊕ ((Mm) ⊕ (Int32 × Mm)))) :=
  bi2 (recF mm y1) fun r_11 mm_9 =>
    if r_11 = 0 then
      some (.inr (.inr (.inl mm_9)))
    else
      if y4 = 0 then
        some (.inl ((1 : Int32), (y3 + 1), mm_9))
      else
        bi1 (f_X7_add mm_9 20 (13 : Int32) (0 : Int32)) fun mm_14 => some (.inl (y2, (y3 + 1), mm_14))
noncomputable def f_X8_readTest_j52 (recF : Mm → Int32 → Option (Int32 × Mm)) (mm : Mm) (y1 : Int32) (y2 : Int32) (y3 : Int32) (y4 : Int32) : Option ((Int32 × Int32 × Mm) ⊕ ((Int32 × Mm) ⊕ ((Mm) ⊕ (Int32 × Mm)))) :=
  if y4 = 0 then
    if y2 = 0 then
      f_X8_readTest_j71 recF mm y1 y2 y3 y4
    else
      bi1 (f_X7_add mm 20 (14 : Int32) (0 : Int32)) fun mm_19 => f_X8_readTest_j71 recF mm_19 y1 y2 y3 y4
  else
    f_X8_readTest_j71 recF mm y1 y2 y3 y4
noncomputable def f_X8_readTest_s14 (recF : Mm → Int32 → Option (Int32 × Mm)) (y1 : Int32) : (Int32 × Int32 × Mm) → Option ((Int32 × Int32 × Mm) ⊕ ((Int32 × Mm) ⊕ ((Mm) ⊕ (Int32 × Mm)))) :=
  fun q => match q with
  | (y2, y3, mm) =>
    if (400 : Int32) ≤ y3 then
      some (.inr (.inr (.inr ((y2, mm)))))
    else
      bi2 (f_X10_acceptWord mm 5) fun r_25 mm_23 =>
        if r_25 = 0 then
          bi2 (f_X10_acceptWord mm_23 6) fun r_29 mm_27 =>
            if r_29 = 0 then
              some (.inr (.inl (y2, mm_27)))
            else
              f_X8_readTest_j52 recF mm_27 y1 y2 y3 r_25
        else
          f_X8_readTest_j52 recF mm_23 y1 y2 y3 r_25
noncomputable def f_X8_readTest_b (recF : Mm → Int32 → Option (Int32 × Mm)) (mm : Mm) (x1 : Int32) : Option (Int32 × Mm) :=
  bi2 (recF mm x1) fun r_7 mm_5 =>
    if r_7 = 0 then
      some ((0 : Int32), mm_5)
    else
      bi1 (lp (f_X8_readTest_s14 recF x1) ((0 : Int32), (0 : Int32), mm_5)) fun q => match q with
      | .inl (w2_32, mm_33) =>
        f_X8_readTest_j107 recF mm_33 w2_32
      | .inr (.inl mm_34) =>
        some ((0 : Int32), mm_34)
      | .inr (.inr ((w2_35, mm_36))) =>
        f_X8_readTest_j107 recF mm_36 w2_35
set_option maxHeartbeats 4000000 in
set_option maxRecDepth 100000 in
theorem c_X8_readTest_o (l : Launch) (D : va_G) (dA : Nat → ClassId) (zz : (Nat → Nat) × (Nat → Nat)) (bs : Nat) (recF : Mm → Int32 → Option (Int32 × Mm)) (FR LO : Nat) (hrecF : ∀ (mma : Mm) (x1a : Int32) (outa : Int32) (m1a : Mm), recF mma x1a = some (outa, m1a) → Mw l D dA zz bs LY yX8_readFact cX8_readFact 4 (some .boolean) FR LO [.ref (bs + 19), .int x1a] mma (some (.int outa)) m1a) (mm : Mm) (x1 : Int32) (out : Int32) (m1 : Mm) (hf : f_X8_readTest_b recF mm x1 = some (out, m1)) : Mw l D dA zz bs LY yX8_readTest cX8_readTest 5 (some .boolean) (FR + 8) (LO + 180) [.ref (bs + 19), .int x1] mm (some (.int out)) m1 := by
  refine Mw.of (own := RX8) (by decide) rfl (Nat.le_of_ble_eq_true rfl) ?_
  intro p e s m args below meth c X hr0 hP hS ls hl
  have hx := X.1
  have hb := X.2.1
  obtain ⟨H, hH⟩ : ∃ z : Heap, z = s.heap := ⟨_, rfl⟩
  obtain ⟨locs, hL⟩ : ∃ z : List Loc, z = [] := ⟨_, rfl⟩
  rw [← hH, ← hL]
  have hS : va_S (Aq bs) s.heap H locs := by rw [hH, hL]; exact hS
  have hP : Wd D dA bs LY mm H := by rw [hH]; exact hP
  have hl : lv_has ls 5 [(0, .ref (bs + 19)), (1, .int x1)] := hl
  have hJ107 : ∀ (mmJ_4 : Mm) (y2J_4 : Int32) (H : Heap) (locs : List Loc) (ls : Array Slot), f_X8_readTest_j107 recF mmJ_4 y2J_4 = some (out, m1) → Wd D dA bs LY mmJ_4 H → va_S (Aq bs) s.heap H locs → lv_has ls 5 [(0, .ref (bs + 19)), (2, .int y2J_4)] → Wz p l e s m args below meth c D dA bs (some (.int out)) m1 (FR + 8) (LO + 180) H locs 107 ls [] := by
    intro mmJ_4 y2J_4 H locs ls hf hP hS hl
    unfold f_X8_readTest_j107 at hf
    refine lv_iload_n hx hb dX8_readTest_107 rfl (lv_at hl 1 rfl) ?_
    refine lv_if_eq (tgt := 121) hx hb dX8_readTest_108 (by decide) (fun c_1 => ?_) (fun c_1 => ?_)
    · have hf := itT hf c_1
      refine lv_iconst (v := 1) hx hb dX8_readTest_121 (by decide) ?_
      obtain ⟨rfl, rfl⟩ := Prod.mk.inj (Option.some.inj hf)
      exact wd_zret X hP hS hr0 (by decide) dX8_readTest_122 ⟨rfl, rfl⟩
    · have hf := itF hf c_1
      refine lv_aload_n hx hb dX8_readTest_111 rfl (lv_at hl 0 rfl) ?_
      refine wd_getR (q := 20) X hP L19 fl_X8_12 rfl dX8_readTest_112 ?_
      refine lv_bipush (v := 14) hx hb dX8_readTest_115 (by decide) ?_
      refine lv_iconst (v := 0) hx hb dX8_readTest_117 (by decide) ?_
      obtain ⟨mm_2, hc_3, hf⟩ := bi1S hf
      refine wd_cv X hP hS (isRule.a0 U20) ml_X8_90 ⟨_, _, rfl⟩ (c_X7_add l D dA zz bs mmJ_4 20 U20 (14 : Int32) (0 : Int32) mm_2 hc_3) rfl ⟨by show 0 + 1 ≤ FR + 8; omega, by show 8 + (3 + 11) + 0 ≤ LO + 180; omega⟩ hl.1 rfl (rest := []) (Nat.le_of_ble_eq_true rfl) ⟨Nat.zero_le _, Nat.zero_le _⟩ dX8_readTest_118 (fun H locs hP hS => ?_)
      refine W.eq (g2 := F0 m 121 ls []) rfl ?_
      refine lv_iconst (v := 1) hx hb dX8_readTest_121 (by decide) ?_
      obtain ⟨rfl, rfl⟩ := Prod.mk.inj (Option.some.inj hf)
      exact wd_zret X hP hS hr0 (by decide) dX8_readTest_122 ⟨rfl, rfl⟩
  unfold f_X8_readTest_b at hf
  refine lv_aload_n hx hb dX8_readTest_0 rfl (lv_at hl 0 rfl) ?_
  refine lv_iload_n hx hb dX8_readTest_1 rfl (lv_at hl 1 rfl) ?_
  obtain ⟨r_7, mm_5, hc_6, hf⟩ := bi2S hf
  refine wd_cv X hP hS L19 ml_X8_83 ⟨_, _, rfl⟩ (hrecF mm x1 r_7 mm_5 hc_6) rfl ⟨by show FR + 1 ≤ FR + 8; omega, by show 8 + (4 + 11) + LO ≤ LO + 180; omega⟩ hl.1 rfl (rest := []) (Nat.le_of_ble_eq_true rfl) ⟨Nat.zero_le _, Nat.zero_le _⟩ dX8_readTest_2 (fun H locs hP hS => ?_)
  refine W.eq (g2 := F0 m 5 ls [.int r_7]) rfl ?_
  refine lv_if_ne (tgt := 10) hx hb dX8_readTest_5 (by decide) (fun c_8 => ?_) (fun c_8 => ?_)
  · have hf := itF hf c_8
    refine lv_iconst (v := 0) hx hb dX8_readTest_10 (by decide) ?_
    refine lv_istore_n (lv' := [(2, .int (0 : Int32)), (0, .ref (bs + 19)), (1, .int x1)]) hx hb dX8_readTest_11 rfl hl (by decide) rfl (fun ls hl => ?_)
    refine lv_iconst (v := 0) hx hb dX8_readTest_12 (by decide) ?_
    refine lv_istore_n (lv' := [(3, .int (0 : Int32)), (2, .int (0 : Int32)), (0, .ref (bs + 19)), (1, .int x1)]) hx hb dX8_readTest_13 rfl hl (by decide) rfl (fun ls hl => ?_)
    obtain ⟨q_37, hlp_38, hf⟩ := bi1S hf
    refine lp_walk (Wh := (fun z => match z with | (y2L_31, y3L_31, mmL_31) => ∀ (H : Heap) (locs : List Loc) (ls : Array Slot), Wd D dA bs LY mmL_31 H → va_S (Aq bs) s.heap H locs → lv_has ls 5 [(0, .ref (bs + 19)), (1, .int x1), (2, .int y2L_31), (3, .int y3L_31)] → Wz p l e s m args below meth c D dA bs (some (.int out)) m1 (FR + 8) (LO + 180) H locs 14 ls [])) (Ph := (fun z => match z with | .inl (w2_32, mm_33) => ∀ (H : Heap) (locs : List Loc) (ls : Array Slot), Wd D dA bs LY mm_33 H → va_S (Aq bs) s.heap H locs → lv_has ls 5 [(0, .ref (bs + 19)), (2, .int w2_32)] → Wz p l e s m args below meth c D dA bs (some (.int out)) m1 (FR + 8) (LO + 180) H locs 49 ls [] | .inr (.inl mm_34) => ∀ (H : Heap) (locs : List Loc) (ls : Array Slot), Wd D dA bs LY mm_34 H → va_S (Aq bs) s.heap H locs → lv_has ls 5 [] → Wz p l e s m args below meth c D dA bs (some (.int out)) m1 (FR + 8) (LO + 180) H locs 79 ls [] | .inr (.inr ((w2_35, mm_36))) => ∀ (H : Heap) (locs : List Loc) (ls : Array Slot), Wd D dA bs LY mm_36 H → va_S (Aq bs) s.heap H locs → lv_has ls 5 [(0, .ref (bs + 19)), (2, .int w2_35)] → Wz p l e s m args below meth c D dA bs (some (.int out)) m1 (FR + 8) (LO + 180) H locs 107 ls [])) ?_ hlp_38 ?_ H locs ls hP hS (lv_sub hl [2, 3, 1, 0] rfl)
    · intro z o hf hB hE
      obtain ⟨y2L_31, y3L_31, mmL_31⟩ := z
      intro H locs ls hP hS hl
      have hf : f_X8_readTest_s14 recF x1 (y2L_31, y3L_31, mmL_31) = some o := hf
      unfold f_X8_readTest_s14 at hf
      dsimp only at hf
      have hJ71 : ∀ (mmJ_16 : Mm) (y2J_16 : Int32) (y3J_16 : Int32) (y4J_16 : Int32) (H : Heap) (locs : List Loc) (ls : Array Slot), f_X8_readTest_j71 recF mmJ_16 x1 y2J_16 y3J_16 y4J_16 = some o → Wd D dA bs LY mmJ_16 H → va_S (Aq bs) s.heap H locs → lv_has ls 5 [(0, .ref (bs + 19)), (1, .int x1), (2, .int y2J_16), (3, .int y3J_16), (4, .int y4J_16)] → Wz p l e s m args below meth c D dA bs (some (.int out)) m1 (FR + 8) (LO + 180) H locs 71 ls [] := by
        intro mmJ_16 y2J_16 y3J_16 y4J_16 H locs ls hf hP hS hl
        unfold f_X8_readTest_j71 at hf
        refine lv_aload_n hx hb dX8_readTest_71 rfl (lv_at hl 0 rfl) ?_
        refine lv_iload_n hx hb dX8_readTest_72 rfl (lv_at hl 1 rfl) ?_
        obtain ⟨r_11, mm_9, hc_10, hf⟩ := bi2S hf
        refine wd_cv X hP hS L19 ml_X8_83 ⟨_, _, rfl⟩ (hrecF mmJ_16 x1 r_11 mm_9 hc_10) rfl ⟨by show FR + 1 ≤ FR + 8; omega, by show 8 + (4 + 11) + LO ≤ LO + 180; omega⟩ hl.1 rfl (rest := []) (Nat.le_of_ble_eq_true rfl) ⟨Nat.zero_le _, Nat.zero_le _⟩ dX8_readTest_73 (fun H locs hP hS => ?_)
        refine W.eq (g2 := F0 m 76 ls [.int r_11]) rfl ?_
        refine lv_if_ne (tgt := 81) hx hb dX8_readTest_76 (by decide) (fun c_12 => ?_) (fun c_12 => ?_)
        · have hf := itF hf c_12
          refine lv_iload hx hb dX8_readTest_81 (lv_at hl 4 rfl) ?_
          refine lv_if_eq (tgt := 99) hx hb dX8_readTest_83 (by decide) (fun c_13 => ?_) (fun c_13 => ?_)
          · have hf := itT hf c_13
            refine lv_iconst (v := 1) hx hb dX8_readTest_99 (by decide) ?_
            refine lv_istore_n (lv' := [(2, .int (1 : Int32)), (0, .ref (bs + 19)), (1, .int x1), (3, .int y3J_16), (4, .int y4J_16)]) hx hb dX8_readTest_100 rfl hl (by decide) rfl (fun ls hl => ?_)
            refine lv_iinc (v := (y3J_16 + 1)) (lv' := [(3, .int (y3J_16 + 1)), (2, .int (1 : Int32)), (0, .ref (bs + 19)), (1, .int x1), (4, .int y4J_16)]) hx hb dX8_readTest_101 hl (k := 3) rfl rfl (by decide) rfl (fun ls hl => ?_)
            refine lv_goto (tgt := 14) hx hb dX8_readTest_104 (by decide) ?_
            obtain rfl := Option.some.inj hf
            exact hB _ rfl H locs ls hP hS (lv_sub hl [2, 3, 1, 0] rfl)
          · have hf := itF hf c_13
            refine lv_aload_n hx hb dX8_readTest_86 rfl (lv_at hl 0 rfl) ?_
            refine wd_getR (q := 20) X hP L19 fl_X8_12 rfl dX8_readTest_87 ?_
            refine lv_bipush (v := 13) hx hb dX8_readTest_90 (by decide) ?_
            refine lv_iconst (v := 0) hx hb dX8_readTest_92 (by decide) ?_
            obtain ⟨mm_14, hc_15, hf⟩ := bi1S hf
            refine wd_cv X hP hS (isRule.a0 U20) ml_X8_90 ⟨_, _, rfl⟩ (c_X7_add l D dA zz bs mm_9 20 U20 (13 : Int32) (0 : Int32) mm_14 hc_15) rfl ⟨by show 0 + 1 ≤ FR + 8; omega, by show 8 + (3 + 11) + 0 ≤ LO + 180; omega⟩ hl.1 rfl (rest := []) (Nat.le_of_ble_eq_true rfl) ⟨Nat.zero_le _, Nat.zero_le _⟩ dX8_readTest_93 (fun H locs hP hS => ?_)
            refine W.eq (g2 := F0 m 96 ls []) rfl ?_
            refine lv_goto (tgt := 101) hx hb dX8_readTest_96 (by decide) ?_
            refine lv_iinc (v := (y3J_16 + 1)) (lv' := [(3, .int (y3J_16 + 1)), (0, .ref (bs + 19)), (1, .int x1), (2, .int y2J_16), (4, .int y4J_16)]) hx hb dX8_readTest_101 hl (k := 3) rfl rfl (by decide) rfl (fun ls hl => ?_)
            refine lv_goto (tgt := 14) hx hb dX8_readTest_104 (by decide) ?_
            obtain rfl := Option.some.inj hf
            exact hB _ rfl H locs ls hP hS (lv_sub hl [1, 2, 3, 0] rfl)
        · have hf := itT hf c_12
          obtain rfl := Option.some.inj hf
          exact hE _ rfl H locs ls hP hS (lv_sub hl [] rfl)
      have hJ52 : ∀ (mmJ_21 : Mm) (y2J_21 : Int32) (y3J_21 : Int32) (y4J_21 : Int32) (H : Heap) (locs : List Loc) (ls : Array Slot), f_X8_readTest_j52 recF mmJ_21 x1 y2J_21 y3J_21 y4J_21 = some o → Wd D dA bs LY mmJ_21 H → va_S (Aq bs) s.heap H locs → lv_has ls 5 [(0, .ref (bs + 19)), (1, .int x1), (2, .int y2J_21), (3, .int y3J_21), (4, .int y4J_21)] → Wz p l e s m args below meth c D dA bs (some (.int out)) m1 (FR + 8) (LO + 180) H locs 52 ls [] := by
        intro mmJ_21 y2J_21 y3J_21 y4J_21 H locs ls hf hP hS hl
        unfold f_X8_readTest_j52 at hf
        refine lv_iload hx hb dX8_readTest_52 (lv_at hl 4 rfl) ?_
        refine lv_if_ne (tgt := 71) hx hb dX8_readTest_54 (by decide) (fun c_17 => ?_) (fun c_17 => ?_)
        · have hf := itF hf c_17
          exact hJ71 mmJ_21 y2J_21 y3J_21 y4J_21 H locs ls hf hP hS (lv_sub hl [0, 1, 2, 3, 4] rfl)
        · have hf := itT hf c_17
          refine lv_iload_n hx hb dX8_readTest_57 rfl (lv_at hl 2 rfl) ?_
          refine lv_if_eq (tgt := 71) hx hb dX8_readTest_58 (by decide) (fun c_18 => ?_) (fun c_18 => ?_)
          · have hf := itT hf c_18
            exact hJ71 mmJ_21 y2J_21 y3J_21 y4J_21 H locs ls hf hP hS (lv_sub hl [0, 1, 2, 3, 4] rfl)
          · have hf := itF hf c_18
            refine lv_aload_n hx hb dX8_readTest_61 rfl (lv_at hl 0 rfl) ?_
            refine wd_getR (q := 20) X hP L19 fl_X8_12 rfl dX8_readTest_62 ?_
            refine lv_bipush (v := 14) hx hb dX8_readTest_65 (by decide) ?_
            refine lv_iconst (v := 0) hx hb dX8_readTest_67 (by decide) ?_
            obtain ⟨mm_19, hc_20, hf⟩ := bi1S hf
            refine wd_cv X hP hS (isRule.a0 U20) ml_X8_90 ⟨_, _, rfl⟩ (c_X7_add l D dA zz bs mmJ_21 20 U20 (14 : Int32) (0 : Int32) mm_19 hc_20) rfl ⟨by show 0 + 1 ≤ FR + 8; omega, by show 8 + (3 + 11) + 0 ≤ LO + 180; omega⟩ hl.1 rfl (rest := []) (Nat.le_of_ble_eq_true rfl) ⟨Nat.zero_le _, Nat.zero_le _⟩ dX8_readTest_68 (fun H locs hP hS => ?_)
            refine W.eq (g2 := F0 m 71 ls []) rfl ?_
            exact hJ71 mm_19 y2J_21 y3J_21 y4J_21 H locs ls hf hP hS (lv_sub hl [0, 1, 2, 3, 4] rfl)
      refine lv_iload_n hx hb dX8_readTest_14 rfl (lv_at hl 3 rfl) ?_
      refine lv_sipush (v := 400) hx hb dX8_readTest_15 (by decide) ?_
      refine lv_icmp_ge (tgt := 107) hx hb dX8_readTest_18 (by decide) (fun c_22 => ?_) (fun c_22 => ?_)
      · have hf := itT hf c_22
        obtain rfl := Option.some.inj hf
        exact hE _ rfl H locs ls hP hS (lv_sub hl [0, 2] rfl)
      · have hf := itF hf c_22
        refine lv_aload_n hx hb dX8_readTest_21 rfl (lv_at hl 0 rfl) ?_
        refine wd_getR (q := 1) X hP L19 fl_X8_18 rfl dX8_readTest_22 ?_
        refine va_ldcS (own := RX8) (q := zz.1 5) hx hb X.2.2.2.1 (X.2.2.2.2.2.2.1.2.1 ("PartyRaft$RuleReader", 86, "and", 5) (by decide)) dX8_readTest_25 ?_
        obtain ⟨r_25, mm_23, hc_24, hf⟩ := bi2S hf
        refine wd_cv X hP hS L1 ml_X8_36 ⟨_, _, rfl⟩ (c_X10_acceptWord l D dA zz bs mmL_31 5 (by decide) r_25 mm_23 hc_24) rfl ⟨by show 6 + 1 ≤ FR + 8; omega, by show 8 + (2 + 11) + 135 ≤ LO + 180; omega⟩ hl.1 rfl (rest := []) (Nat.le_of_ble_eq_true rfl) ⟨Nat.zero_le _, Nat.zero_le _⟩ dX8_readTest_27 (fun H locs hP hS => ?_)
        refine W.eq (g2 := F0 m 30 ls [.int r_25]) rfl ?_
        refine lv_istore (lv' := [(4, .int r_25), (0, .ref (bs + 19)), (1, .int x1), (2, .int y2L_31), (3, .int y3L_31)]) hx hb dX8_readTest_30 hl (by decide) rfl (fun ls hl => ?_)
        refine lv_iload hx hb dX8_readTest_32 (lv_at hl 0 rfl) ?_
        refine lv_if_ne (tgt := 52) hx hb dX8_readTest_34 (by decide) (fun c_26 => ?_) (fun c_26 => ?_)
        · have hf := itF hf c_26
          exact hJ52 mm_23 y2L_31 y3L_31 r_25 H locs ls hf hP hS (lv_sub hl [1, 2, 3, 4, 0] rfl)
        · have hf := itT hf c_26
          refine lv_aload_n hx hb dX8_readTest_37 rfl (lv_at hl 1 rfl) ?_
          refine wd_getR (q := 1) X hP L19 fl_X8_18 rfl dX8_readTest_38 ?_
          refine va_ldcS (own := RX8) (q := zz.1 6) hx hb X.2.2.2.1 (X.2.2.2.2.2.2.1.2.1 ("PartyRaft$RuleReader", 88, "or", 6) (by decide)) dX8_readTest_41 ?_
          obtain ⟨r_29, mm_27, hc_28, hf⟩ := bi2S hf
          refine wd_cv X hP hS L1 ml_X8_36 ⟨_, _, rfl⟩ (c_X10_acceptWord l D dA zz bs mm_23 6 (by decide) r_29 mm_27 hc_28) rfl ⟨by show 6 + 1 ≤ FR + 8; omega, by show 8 + (2 + 11) + 135 ≤ LO + 180; omega⟩ hl.1 rfl (rest := []) (Nat.le_of_ble_eq_true rfl) ⟨Nat.zero_le _, Nat.zero_le _⟩ dX8_readTest_43 (fun H locs hP hS => ?_)
          refine W.eq (g2 := F0 m 46 ls [.int r_29]) rfl ?_
          refine lv_if_ne (tgt := 52) hx hb dX8_readTest_46 (by decide) (fun c_30 => ?_) (fun c_30 => ?_)
          · have hf := itF hf c_30
            exact hJ52 mm_27 y2L_31 y3L_31 r_25 H locs ls hf hP hS (lv_sub hl [1, 2, 3, 4, 0] rfl)
          · have hf := itT hf c_30
            obtain rfl := Option.some.inj hf
            exact hE _ rfl H locs ls hP hS (lv_sub hl [1, 3] rfl)
    · rcases q_37 with ⟨w2_32, mm_33⟩ | mm_34 | ⟨w2_35, mm_36⟩
      · dsimp only at hf
        intro H locs ls hP hS hl
        refine lv_goto (tgt := 107) hx hb dX8_readTest_49 (by decide) ?_
        exact hJ107 mm_33 w2_32 H locs ls hf hP hS (lv_sub hl [0, 1] rfl)
      · dsimp only at hf
        intro H locs ls hP hS hl
        refine lv_iconst (v := 0) hx hb dX8_readTest_79 (by decide) ?_
        obtain ⟨rfl, rfl⟩ := Prod.mk.inj (Option.some.inj hf)
        exact wd_zret X hP hS hr0 (by decide) dX8_readTest_80 ⟨rfl, rfl⟩
      · dsimp only at hf
        intro H locs ls hP hS hl
        exact hJ107 mm_36 w2_35 H locs ls hf hP hS (lv_sub hl [0, 1] rfl)
  · have hf := itT hf c_8
    refine lv_iconst (v := 0) hx hb dX8_readTest_8 (by decide) ?_
    obtain ⟨rfl, rfl⟩ := Prod.mk.inj (Option.some.inj hf)
    exact wd_zret X hP hS hr0 (by decide) dX8_readTest_9 ⟨rfl, rfl⟩
noncomputable def f_X8_readFact_j26 (recF : Mm → Int32 → Option (Int32 × Mm)) (recT : Mm → Int32 → Option (Int32 × Mm)) (mm : Mm) (y1 : Int32) (y2 : Int32) : Option (Int32 × Mm) :=
  if y1 < (10 : Int32) then
    if y2 = 0 then
      bi2 (recT mm (y1 + (1 : Int32))) fun r_5 mm_3 =>
        if r_5 = 0 then
          some ((0 : Int32), mm_3)
        else
          bi2 (f_X10_accept mm_3 (93 : Int32)) fun r_9 mm_7 =>
            if r_9 = 0 then
              bi2 (f_X10_wrong mm_7 (mm_7.1 1 2) (0 : Int32)) fun r_13 mm_11 =>
                if r_13 = 0 then
                  some ((0 : Int32), mm_11)
                else
                  some ((1 : Int32), mm_11)
            else
              some ((1 : Int32), mm_7)
    else
      bi2 (recF mm (y1 + (1 : Int32))) fun r_17 mm_15 =>
        bi1 (f_X7_add mm_15 20 (2 : Int32) (0 : Int32)) fun mm_18 =>
          if ¬ r_17 = 0 ∧ ¬ r_17 = 1 then none else some (r_17, mm_18)
  else
    bi2 (f_X10_wrong mm (mm.1 1 3) (2 : Int32)) fun r_23 mm_21 =>
      if ¬ r_23 = 0 ∧ ¬ r_23 = 1 then none else some (r_23, mm_21)
noncomputable def f_X8_readFact_b (recF : Mm → Int32 → Option (Int32 × Mm)) (recT : Mm → Int32 → Option (Int32 × Mm)) (mm : Mm) (x1 : Int32) : Option (Int32 × Mm) :=
  bi2 (f_X10_acceptWord mm 4) fun r_28 mm_26 =>
    if r_28 = 0 then
      bi2 (f_X10_accept mm_26 (91 : Int32)) fun r_32 mm_30 =>
        if r_32 = 0 then
          bi2 (f_X8_readSum mm_30) fun r_36 mm_34 =>
            if r_36 = 0 then
              some ((0 : Int32), mm_34)
            else
              bi2 (f_X8_acceptComparing mm_34) fun r_40 mm_38 =>
                if r_40 = (-1 : Int32) then
                  bi2 (f_X10_wrong mm_38 (mm_38.1 1 2) (0 : Int32)) fun r_54 mm_52 =>
                    if ¬ r_54 = 0 ∧ ¬ r_54 = 1 then none else some (r_54, mm_52)
                else
                  bi2 (f_X8_isOnePartMore mm_38 (mm_38.1 1 3)) fun r_44 mm_42 =>
                    if r_44 = 0 then
                      some ((0 : Int32), mm_42)
                    else
                      bi2 (f_X8_readSum mm_42) fun r_48 mm_46 =>
                        if r_48 = 0 then
                          some ((0 : Int32), mm_46)
                        else
                          bi1 (f_X7_add mm_46 20 r_40 (0 : Int32)) fun mm_50 => some ((1 : Int32), mm_50)
        else
          f_X8_readFact_j26 recF recT mm_30 x1 r_28
    else
      f_X8_readFact_j26 recF recT mm_26 x1 r_28
set_option maxHeartbeats 4000000 in
set_option maxRecDepth 100000 in
theorem c_X8_readFact_o (l : Launch) (D : va_G) (dA : Nat → ClassId) (zz : (Nat → Nat) × (Nat → Nat)) (bs : Nat) (recF : Mm → Int32 → Option (Int32 × Mm)) (recT : Mm → Int32 → Option (Int32 × Mm)) (FR LO : Nat) (hrecF : ∀ (mma : Mm) (x1a : Int32) (outa : Int32) (m1a : Mm), recF mma x1a = some (outa, m1a) → Mw l D dA zz bs LY yX8_readFact cX8_readFact 4 (some .boolean) FR LO [.ref (bs + 19), .int x1a] mma (some (.int outa)) m1a) (hrecT : ∀ (mma : Mm) (x1a : Int32) (outa : Int32) (m1a : Mm), recT mma x1a = some (outa, m1a) → Mw l D dA zz bs LY yX8_readTest cX8_readTest 5 (some .boolean) FR LO [.ref (bs + 19), .int x1a] mma (some (.int outa)) m1a) (mm : Mm) (x1 : Int32) (out : Int32) (m1 : Mm) (hf : f_X8_readFact_b recF recT mm x1 = some (out, m1)) : Mw l D dA zz bs LY yX8_readFact cX8_readFact 4 (some .boolean) (FR + 8) (LO + 180) [.ref (bs + 19), .int x1] mm (some (.int out)) m1 := by
  refine Mw.of (own := RX8) (by decide) rfl (Nat.le_of_ble_eq_true rfl) ?_
  intro p e s m args below meth c X hr0 hP hS ls hl
  have hx := X.1
  have hb := X.2.1
  obtain ⟨H, hH⟩ : ∃ z : Heap, z = s.heap := ⟨_, rfl⟩
  obtain ⟨locs, hL⟩ : ∃ z : List Loc, z = [] := ⟨_, rfl⟩
  rw [← hH, ← hL]
  have hS : va_S (Aq bs) s.heap H locs := by rw [hH, hL]; exact hS
  have hP : Wd D dA bs LY mm H := by rw [hH]; exact hP
  have hl : lv_has ls 4 [(0, .ref (bs + 19)), (1, .int x1)] := hl
  have hJ26 : ∀ (mmJ_25 : Mm) (y1J_25 : Int32) (y2J_25 : Int32) (H : Heap) (locs : List Loc) (ls : Array Slot), f_X8_readFact_j26 recF recT mmJ_25 y1J_25 y2J_25 = some (out, m1) → Wd D dA bs LY mmJ_25 H → va_S (Aq bs) s.heap H locs → lv_has ls 4 [(0, .ref (bs + 19)), (1, .int y1J_25), (2, .int y2J_25)] → Wz p l e s m args below meth c D dA bs (some (.int out)) m1 (FR + 8) (LO + 180) H locs 26 ls [] := by
    intro mmJ_25 y1J_25 y2J_25 H locs ls hf hP hS hl
    unfold f_X8_readFact_j26 at hf
    refine lv_iload_n hx hb dX8_readFact_26 rfl (lv_at hl 1 rfl) ?_
    refine lv_bipush (v := 10) hx hb dX8_readFact_27 (by decide) ?_
    refine lv_icmp_lt (tgt := 48) hx hb dX8_readFact_29 (by decide) (fun c_1 => ?_) (fun c_1 => ?_)
    · have hf := itT hf c_1
      refine lv_iload_n hx hb dX8_readFact_48 rfl (lv_at hl 2 rfl) ?_
      refine lv_if_eq (tgt := 71) hx hb dX8_readFact_49 (by decide) (fun c_2 => ?_) (fun c_2 => ?_)
      · have hf := itT hf c_2
        refine lv_aload_n hx hb dX8_readFact_71 rfl (lv_at hl 0 rfl) ?_
        refine lv_iload_n hx hb dX8_readFact_72 rfl (lv_at hl 1 rfl) ?_
        refine lv_iconst (v := 1) hx hb dX8_readFact_73 (by decide) ?_
        refine lv_iadd hx hb dX8_readFact_74 ?_
        obtain ⟨r_5, mm_3, hc_4, hf⟩ := bi2S hf
        refine wd_cv X hP hS L19 ml_X8_66 ⟨_, _, rfl⟩ (hrecT mmJ_25 (y1J_25 + (1 : Int32)) r_5 mm_3 hc_4) rfl ⟨by show FR + 1 ≤ FR + 8; omega, by show 8 + (5 + 11) + LO ≤ LO + 180; omega⟩ hl.1 rfl (rest := []) (Nat.le_of_ble_eq_true rfl) ⟨Nat.zero_le _, Nat.zero_le _⟩ dX8_readFact_75 (fun H locs hP hS => ?_)
        refine W.eq (g2 := F0 m 78 ls [.int r_5]) rfl ?_
        refine lv_if_eq (tgt := 115) hx hb dX8_readFact_78 (by decide) (fun c_6 => ?_) (fun c_6 => ?_)
        · have hf := itT hf c_6
          refine lv_iconst (v := 0) hx hb dX8_readFact_115 (by decide) ?_
          obtain ⟨rfl, rfl⟩ := Prod.mk.inj (Option.some.inj hf)
          exact wd_zret X hP hS hr0 (by decide) dX8_readFact_116 ⟨rfl, rfl⟩
        · have hf := itF hf c_6
          refine lv_aload_n hx hb dX8_readFact_81 rfl (lv_at hl 0 rfl) ?_
          refine wd_getR (q := 1) X hP L19 fl_X8_18 rfl dX8_readFact_82 ?_
          refine lv_bipush (v := 93) hx hb dX8_readFact_85 (by decide) ?_
          obtain ⟨r_9, mm_7, hc_8, hf⟩ := bi2S hf
          refine wd_cv X hP hS L1 ml_X8_80 ⟨_, _, rfl⟩ (c_X10_accept l D dA zz bs mm_3 (93 : Int32) r_9 mm_7 hc_8) rfl ⟨by show 1 + 1 ≤ FR + 8; omega, by show 8 + (2 + 11) + 20 ≤ LO + 180; omega⟩ hl.1 rfl (rest := []) (Nat.le_of_ble_eq_true rfl) ⟨Nat.zero_le _, Nat.zero_le _⟩ dX8_readFact_87 (fun H locs hP hS => ?_)
          refine W.eq (g2 := F0 m 90 ls [.int r_9]) rfl ?_
          refine lv_if_ne (tgt := 111) hx hb dX8_readFact_90 (by decide) (fun c_10 => ?_) (fun c_10 => ?_)
          · have hf := itF hf c_10
            refine lv_iconst (v := 1) hx hb dX8_readFact_111 (by decide) ?_
            refine lv_goto (tgt := 116) hx hb dX8_readFact_112 (by decide) ?_
            obtain ⟨rfl, rfl⟩ := Prod.mk.inj (Option.some.inj hf)
            exact wd_zret X hP hS hr0 (by decide) dX8_readFact_116 ⟨rfl, rfl⟩
          · have hf := itT hf c_10
            refine lv_aload_n hx hb dX8_readFact_93 rfl (lv_at hl 0 rfl) ?_
            refine wd_getR (q := 1) X hP L19 fl_X8_18 rfl dX8_readFact_94 ?_
            refine lv_aload_n hx hb dX8_readFact_97 rfl (lv_at hl 0 rfl) ?_
            refine wd_getR (q := 1) X hP L19 fl_X8_18 rfl dX8_readFact_98 ?_
            refine wd_getI X hP L1 fl_X8_40 rfl dX8_readFact_101 ?_
            refine lv_iconst (v := 0) hx hb dX8_readFact_104 (by decide) ?_
            obtain ⟨r_13, mm_11, hc_12, hf⟩ := bi2S hf
            refine wd_cv X hP hS L1 ml_X8_43 ⟨_, _, rfl⟩ (c_X10_wrong l D dA zz bs mm_7 (mm_7.1 1 2) (0 : Int32) r_13 mm_11 hc_12) rfl ⟨by show 0 + 1 ≤ FR + 8; omega, by show 8 + (3 + 11) + 0 ≤ LO + 180; omega⟩ hl.1 rfl (rest := []) (Nat.le_of_ble_eq_true rfl) ⟨Nat.zero_le _, Nat.zero_le _⟩ dX8_readFact_105 (fun H locs hP hS => ?_)
            refine W.eq (g2 := F0 m 108 ls [.int r_13]) rfl ?_
            refine lv_if_eq (tgt := 115) hx hb dX8_readFact_108 (by decide) (fun c_14 => ?_) (fun c_14 => ?_)
            · have hf := itT hf c_14
              refine lv_iconst (v := 0) hx hb dX8_readFact_115 (by decide) ?_
              obtain ⟨rfl, rfl⟩ := Prod.mk.inj (Option.some.inj hf)
              exact wd_zret X hP hS hr0 (by decide) dX8_readFact_116 ⟨rfl, rfl⟩
            · have hf := itF hf c_14
              refine lv_iconst (v := 1) hx hb dX8_readFact_111 (by decide) ?_
              refine lv_goto (tgt := 116) hx hb dX8_readFact_112 (by decide) ?_
              obtain ⟨rfl, rfl⟩ := Prod.mk.inj (Option.some.inj hf)
              exact wd_zret X hP hS hr0 (by decide) dX8_readFact_116 ⟨rfl, rfl⟩
      · have hf := itF hf c_2
        refine lv_aload_n hx hb dX8_readFact_52 rfl (lv_at hl 0 rfl) ?_
        refine lv_iload_n hx hb dX8_readFact_53 rfl (lv_at hl 1 rfl) ?_
        refine lv_iconst (v := 1) hx hb dX8_readFact_54 (by decide) ?_
        refine lv_iadd hx hb dX8_readFact_55 ?_
        obtain ⟨r_17, mm_15, hc_16, hf⟩ := bi2S hf
        refine wd_cv X hP hS L19 ml_X8_83 ⟨_, _, rfl⟩ (hrecF mmJ_25 (y1J_25 + (1 : Int32)) r_17 mm_15 hc_16) rfl ⟨by show FR + 1 ≤ FR + 8; omega, by show 8 + (4 + 11) + LO ≤ LO + 180; omega⟩ hl.1 rfl (rest := []) (Nat.le_of_ble_eq_true rfl) ⟨Nat.zero_le _, Nat.zero_le _⟩ dX8_readFact_56 (fun H locs hP hS => ?_)
        refine W.eq (g2 := F0 m 59 ls [.int r_17]) rfl ?_
        refine lv_istore_n (lv' := [(3, .int r_17), (0, .ref (bs + 19)), (1, .int y1J_25), (2, .int y2J_25)]) hx hb dX8_readFact_59 rfl hl (by decide) rfl (fun ls hl => ?_)
        refine lv_aload_n hx hb dX8_readFact_60 rfl (lv_at hl 1 rfl) ?_
        refine wd_getR (q := 20) X hP L19 fl_X8_12 rfl dX8_readFact_61 ?_
        refine lv_iconst (v := 2) hx hb dX8_readFact_64 (by decide) ?_
        refine lv_iconst (v := 0) hx hb dX8_readFact_65 (by decide) ?_
        obtain ⟨mm_18, hc_19, hf⟩ := bi1S hf
        refine wd_cv X hP hS (isRule.a0 U20) ml_X8_90 ⟨_, _, rfl⟩ (c_X7_add l D dA zz bs mm_15 20 U20 (2 : Int32) (0 : Int32) mm_18 hc_19) rfl ⟨by show 0 + 1 ≤ FR + 8; omega, by show 8 + (3 + 11) + 0 ≤ LO + 180; omega⟩ hl.1 rfl (rest := []) (Nat.le_of_ble_eq_true rfl) ⟨Nat.zero_le _, Nat.zero_le _⟩ dX8_readFact_66 (fun H locs hP hS => ?_)
        refine W.eq (g2 := F0 m 69 ls []) rfl ?_
        refine lv_iload_n hx hb dX8_readFact_69 rfl (lv_at hl 0 rfl) ?_
        have g_20 := gdN hf
        have hf := gdK hf
        obtain ⟨rfl, rfl⟩ := Prod.mk.inj (Option.some.inj hf)
        exact wd_zret X hP hS hr0 g_20 dX8_readFact_70 ⟨rfl, rfl⟩
    · have hf := itF hf c_1
      refine lv_aload_n hx hb dX8_readFact_32 rfl (lv_at hl 0 rfl) ?_
      refine wd_getR (q := 1) X hP L19 fl_X8_18 rfl dX8_readFact_33 ?_
      refine lv_aload_n hx hb dX8_readFact_36 rfl (lv_at hl 0 rfl) ?_
      refine wd_getR (q := 1) X hP L19 fl_X8_18 rfl dX8_readFact_37 ?_
      refine wd_getI X hP L1 fl_X8_47 rfl dX8_readFact_40 ?_
      refine lv_iconst (v := 2) hx hb dX8_readFact_43 (by decide) ?_
      obtain ⟨r_23, mm_21, hc_22, hf⟩ := bi2S hf
      refine wd_cv X hP hS L1 ml_X8_43 ⟨_, _, rfl⟩ (c_X10_wrong l D dA zz bs mmJ_25 (mmJ_25.1 1 3) (2 : Int32) r_23 mm_21 hc_22) rfl ⟨by show 0 + 1 ≤ FR + 8; omega, by show 8 + (3 + 11) + 0 ≤ LO + 180; omega⟩ hl.1 rfl (rest := []) (Nat.le_of_ble_eq_true rfl) ⟨Nat.zero_le _, Nat.zero_le _⟩ dX8_readFact_44 (fun H locs hP hS => ?_)
      refine W.eq (g2 := F0 m 47 ls [.int r_23]) rfl ?_
      have g_24 := gdN hf
      have hf := gdK hf
      obtain ⟨rfl, rfl⟩ := Prod.mk.inj (Option.some.inj hf)
      exact wd_zret X hP hS hr0 g_24 dX8_readFact_47 ⟨rfl, rfl⟩
  unfold f_X8_readFact_b at hf
  refine lv_aload_n hx hb dX8_readFact_0 rfl (lv_at hl 0 rfl) ?_
  refine wd_getR (q := 1) X hP L19 fl_X8_18 rfl dX8_readFact_1 ?_
  refine va_ldcS (own := RX8) (q := zz.1 4) hx hb X.2.2.2.1 (X.2.2.2.2.2.2.1.2.1 ("PartyRaft$RuleReader", 94, "not", 4) (by decide)) dX8_readFact_4 ?_
  obtain ⟨r_28, mm_26, hc_27, hf⟩ := bi2S hf
  refine wd_cv X hP hS L1 ml_X8_36 ⟨_, _, rfl⟩ (c_X10_acceptWord l D dA zz bs mm 4 (by decide) r_28 mm_26 hc_27) rfl ⟨by show 6 + 1 ≤ FR + 8; omega, by show 8 + (2 + 11) + 135 ≤ LO + 180; omega⟩ hl.1 rfl (rest := []) (Nat.le_of_ble_eq_true rfl) ⟨Nat.zero_le _, Nat.zero_le _⟩ dX8_readFact_6 (fun H locs hP hS => ?_)
  refine W.eq (g2 := F0 m 9 ls [.int r_28]) rfl ?_
  refine lv_istore_n (lv' := [(2, .int r_28), (0, .ref (bs + 19)), (1, .int x1)]) hx hb dX8_readFact_9 rfl hl (by decide) rfl (fun ls hl => ?_)
  refine lv_iload_n hx hb dX8_readFact_10 rfl (lv_at hl 0 rfl) ?_
  refine lv_if_ne (tgt := 26) hx hb dX8_readFact_11 (by decide) (fun c_29 => ?_) (fun c_29 => ?_)
  · have hf := itF hf c_29
    exact hJ26 mm_26 x1 r_28 H locs ls hf hP hS (lv_sub hl [1, 2, 0] rfl)
  · have hf := itT hf c_29
    refine lv_aload_n hx hb dX8_readFact_14 rfl (lv_at hl 1 rfl) ?_
    refine wd_getR (q := 1) X hP L19 fl_X8_18 rfl dX8_readFact_15 ?_
    refine lv_bipush (v := 91) hx hb dX8_readFact_18 (by decide) ?_
    obtain ⟨r_32, mm_30, hc_31, hf⟩ := bi2S hf
    refine wd_cv X hP hS L1 ml_X8_80 ⟨_, _, rfl⟩ (c_X10_accept l D dA zz bs mm_26 (91 : Int32) r_32 mm_30 hc_31) rfl ⟨by show 1 + 1 ≤ FR + 8; omega, by show 8 + (2 + 11) + 20 ≤ LO + 180; omega⟩ hl.1 rfl (rest := []) (Nat.le_of_ble_eq_true rfl) ⟨Nat.zero_le _, Nat.zero_le _⟩ dX8_readFact_20 (fun H locs hP hS => ?_)
    refine W.eq (g2 := F0 m 23 ls [.int r_32]) rfl ?_
    refine lv_if_eq (tgt := 117) hx hb dX8_readFact_23 (by decide) (fun c_33 => ?_) (fun c_33 => ?_)
    · have hf := itT hf c_33
      refine lv_aload_n hx hb dX8_readFact_117 rfl (lv_at hl 1 rfl) ?_
      obtain ⟨r_36, mm_34, hc_35, hf⟩ := bi2S hf
      refine wd_cv X hP hS L19 ml_X8_57 ⟨_, _, rfl⟩ (c_X8_readSum l D dA zz bs mm_30 r_36 mm_34 hc_35) rfl ⟨by show 7 + 1 ≤ FR + 8; omega, by show 8 + (5 + 11) + 156 ≤ LO + 180; omega⟩ hl.1 rfl (rest := []) (Nat.le_of_ble_eq_true rfl) ⟨Nat.zero_le _, Nat.zero_le _⟩ dX8_readFact_118 (fun H locs hP hS => ?_)
      refine W.eq (g2 := F0 m 121 ls [.int r_36]) rfl ?_
      refine lv_if_ne (tgt := 126) hx hb dX8_readFact_121 (by decide) (fun c_37 => ?_) (fun c_37 => ?_)
      · have hf := itF hf c_37
        refine lv_aload_n hx hb dX8_readFact_126 rfl (lv_at hl 1 rfl) ?_
        obtain ⟨r_40, mm_38, hc_39, hf⟩ := bi2S hf
        refine wd_cv X hP hS L19 ml_X8_96 ⟨_, _, rfl⟩ (c_X8_acceptComparing l D dA zz bs mm_34 r_40 mm_38 hc_39) rfl ⟨by show 2 + 1 ≤ FR + 8; omega, by show 8 + (2 + 11) + 41 ≤ LO + 180; omega⟩ hl.1 rfl (rest := []) (Nat.le_of_ble_eq_true rfl) ⟨Nat.zero_le _, Nat.zero_le _⟩ dX8_readFact_127 (fun H locs hP hS => ?_)
        refine W.eq (g2 := F0 m 130 ls [.int r_40]) rfl ?_
        refine lv_istore_n (lv' := [(3, .int r_40), (2, .int r_28), (0, .ref (bs + 19)), (1, .int x1)]) hx hb dX8_readFact_130 rfl hl (by decide) rfl (fun ls hl => ?_)
        refine lv_iload_n hx hb dX8_readFact_131 rfl (lv_at hl 0 rfl) ?_
        refine lv_iconst (v := -1) hx hb dX8_readFact_132 (by decide) ?_
        refine lv_icmp_ne (tgt := 152) hx hb dX8_readFact_133 (by decide) (fun c_41 => ?_) (fun c_41 => ?_)
        · have hf := itF hf c_41
          refine lv_aload_n hx hb dX8_readFact_152 rfl (lv_at hl 2 rfl) ?_
          refine lv_aload_n hx hb dX8_readFact_153 rfl (lv_at hl 2 rfl) ?_
          refine wd_getR (q := 1) X hP L19 fl_X8_18 rfl dX8_readFact_154 ?_
          refine wd_getI X hP L1 fl_X8_47 rfl dX8_readFact_157 ?_
          obtain ⟨r_44, mm_42, hc_43, hf⟩ := bi2S hf
          refine wd_cv X hP hS L19 ml_X8_99 ⟨_, _, rfl⟩ (c_X8_isOnePartMore l D dA zz bs mm_38 (mm_38.1 1 3) r_44 mm_42 hc_43) rfl ⟨by show 1 + 1 ≤ FR + 8; omega, by show 8 + (2 + 11) + 22 ≤ LO + 180; omega⟩ hl.1 rfl (rest := []) (Nat.le_of_ble_eq_true rfl) ⟨Nat.zero_le _, Nat.zero_le _⟩ dX8_readFact_160 (fun H locs hP hS => ?_)
          refine W.eq (g2 := F0 m 163 ls [.int r_44]) rfl ?_
          refine lv_if_eq (tgt := 173) hx hb dX8_readFact_163 (by decide) (fun c_45 => ?_) (fun c_45 => ?_)
          · have hf := itT hf c_45
            refine lv_iconst (v := 0) hx hb dX8_readFact_173 (by decide) ?_
            obtain ⟨rfl, rfl⟩ := Prod.mk.inj (Option.some.inj hf)
            exact wd_zret X hP hS hr0 (by decide) dX8_readFact_174 ⟨rfl, rfl⟩
          · have hf := itF hf c_45
            refine lv_aload_n hx hb dX8_readFact_166 rfl (lv_at hl 2 rfl) ?_
            obtain ⟨r_48, mm_46, hc_47, hf⟩ := bi2S hf
            refine wd_cv X hP hS L19 ml_X8_57 ⟨_, _, rfl⟩ (c_X8_readSum l D dA zz bs mm_42 r_48 mm_46 hc_47) rfl ⟨by show 7 + 1 ≤ FR + 8; omega, by show 8 + (5 + 11) + 156 ≤ LO + 180; omega⟩ hl.1 rfl (rest := []) (Nat.le_of_ble_eq_true rfl) ⟨Nat.zero_le _, Nat.zero_le _⟩ dX8_readFact_167 (fun H locs hP hS => ?_)
            refine W.eq (g2 := F0 m 170 ls [.int r_48]) rfl ?_
            refine lv_if_ne (tgt := 175) hx hb dX8_readFact_170 (by decide) (fun c_49 => ?_) (fun c_49 => ?_)
            · have hf := itF hf c_49
              refine lv_aload_n hx hb dX8_readFact_175 rfl (lv_at hl 2 rfl) ?_
              refine wd_getR (q := 20) X hP L19 fl_X8_12 rfl dX8_readFact_176 ?_
              refine lv_iload_n hx hb dX8_readFact_179 rfl (lv_at hl 0 rfl) ?_
              refine lv_iconst (v := 0) hx hb dX8_readFact_180 (by decide) ?_
              obtain ⟨mm_50, hc_51, hf⟩ := bi1S hf
              refine wd_cv X hP hS (isRule.a0 U20) ml_X8_90 ⟨_, _, rfl⟩ (c_X7_add l D dA zz bs mm_46 20 U20 r_40 (0 : Int32) mm_50 hc_51) rfl ⟨by show 0 + 1 ≤ FR + 8; omega, by show 8 + (3 + 11) + 0 ≤ LO + 180; omega⟩ hl.1 rfl (rest := []) (Nat.le_of_ble_eq_true rfl) ⟨Nat.zero_le _, Nat.zero_le _⟩ dX8_readFact_181 (fun H locs hP hS => ?_)
              refine W.eq (g2 := F0 m 184 ls []) rfl ?_
              refine lv_iconst (v := 1) hx hb dX8_readFact_184 (by decide) ?_
              obtain ⟨rfl, rfl⟩ := Prod.mk.inj (Option.some.inj hf)
              exact wd_zret X hP hS hr0 (by decide) dX8_readFact_185 ⟨rfl, rfl⟩
            · have hf := itT hf c_49
              refine lv_iconst (v := 0) hx hb dX8_readFact_173 (by decide) ?_
              obtain ⟨rfl, rfl⟩ := Prod.mk.inj (Option.some.inj hf)
              exact wd_zret X hP hS hr0 (by decide) dX8_readFact_174 ⟨rfl, rfl⟩
        · have hf := itT hf c_41
          refine lv_aload_n hx hb dX8_readFact_136 rfl (lv_at hl 2 rfl) ?_
          refine wd_getR (q := 1) X hP L19 fl_X8_18 rfl dX8_readFact_137 ?_
          refine lv_aload_n hx hb dX8_readFact_140 rfl (lv_at hl 2 rfl) ?_
          refine wd_getR (q := 1) X hP L19 fl_X8_18 rfl dX8_readFact_141 ?_
          refine wd_getI X hP L1 fl_X8_40 rfl dX8_readFact_144 ?_
          refine lv_iconst (v := 0) hx hb dX8_readFact_147 (by decide) ?_
          obtain ⟨r_54, mm_52, hc_53, hf⟩ := bi2S hf
          refine wd_cv X hP hS L1 ml_X8_43 ⟨_, _, rfl⟩ (c_X10_wrong l D dA zz bs mm_38 (mm_38.1 1 2) (0 : Int32) r_54 mm_52 hc_53) rfl ⟨by show 0 + 1 ≤ FR + 8; omega, by show 8 + (3 + 11) + 0 ≤ LO + 180; omega⟩ hl.1 rfl (rest := []) (Nat.le_of_ble_eq_true rfl) ⟨Nat.zero_le _, Nat.zero_le _⟩ dX8_readFact_148 (fun H locs hP hS => ?_)
          refine W.eq (g2 := F0 m 151 ls [.int r_54]) rfl ?_
          have g_55 := gdN hf
          have hf := gdK hf
          obtain ⟨rfl, rfl⟩ := Prod.mk.inj (Option.some.inj hf)
          exact wd_zret X hP hS hr0 g_55 dX8_readFact_151 ⟨rfl, rfl⟩
      · have hf := itT hf c_37
        refine lv_iconst (v := 0) hx hb dX8_readFact_124 (by decide) ?_
        obtain ⟨rfl, rfl⟩ := Prod.mk.inj (Option.some.inj hf)
        exact wd_zret X hP hS hr0 (by decide) dX8_readFact_125 ⟨rfl, rfl⟩
    · have hf := itF hf c_33
      exact hJ26 mm_30 x1 r_28 H locs ls hf hP hS (lv_sub hl [1, 2, 0] rfl)
noncomputable def fd_TF : Nat → (Mm → Int32 → Option (Int32 × Mm)) × (Mm → Int32 → Option (Int32 × Mm))
  | 0 => (fun _ _ => none, fun _ _ => none)
  | d + 1 => (fun mm x1 => f_X8_readTest_b (fd_TF d).2 mm x1, fun mm x1 => f_X8_readFact_b (fd_TF d).2 (fd_TF d).1 mm x1)
theorem cd_TF (l : Launch) (D : va_G) (dA : Nat → ClassId) (zz : (Nat → Nat) × (Nat → Nat)) (bs : Nat) : ∀ (d : Nat), (∀ (mm : Mm) (x1 out : Int32) (m1 : Mm), (fd_TF d).1 mm x1 = some (out, m1) → Mw l D dA zz bs LY yX8_readTest cX8_readTest 5 (some .boolean) (d * 8) (d * 180) [.ref (bs + 19), .int x1] mm (some (.int out)) m1) ∧ ∀ (mm : Mm) (x1 out : Int32) (m1 : Mm), (fd_TF d).2 mm x1 = some (out, m1) → Mw l D dA zz bs LY yX8_readFact cX8_readFact 4 (some .boolean) (d * 8) (d * 180) [.ref (bs + 19), .int x1] mm (some (.int out)) m1 := by
  intro d
  induction d with
  | zero => exact ⟨fun mm x1 out m1 h => (by cases h), fun mm x1 out m1 h => (by cases h)⟩
  | succ d ih =>
    rw [show (d + 1) * 8 = d * 8 + 8 from Nat.succ_mul d 8, show (d + 1) * 180 = d * 180 + 180 from Nat.succ_mul d 180]
    exact ⟨fun mm x1 out m1 h => c_X8_readTest_o l D dA zz bs (fd_TF d).2 (d * 8) (d * 180) ih.2 mm x1 out m1 h, fun mm x1 out m1 h => c_X8_readFact_o l D dA zz bs (fd_TF d).2 (fd_TF d).1 (d * 8) (d * 180) ih.2 ih.1 mm x1 out m1 h⟩
noncomputable def f_X8_readTest (mm : Mm) (x1 : Int32) : Option (Int32 × Mm) := (fd_TF 30).1 mm x1
theorem c_X8_readTest (l : Launch) (D : va_G) (dA : Nat → ClassId) (zz : (Nat → Nat) × (Nat → Nat)) (bs : Nat) (mm : Mm) (x1 out : Int32) (m1 : Mm) (hf : f_X8_readTest mm x1 = some (out, m1)) : Mw l D dA zz bs LY yX8_readTest cX8_readTest 5 (some .boolean) 240 5400 [.ref (bs + 19), .int x1] mm (some (.int out)) m1 := (cd_TF l D dA zz bs 30).1 mm x1 out m1 hf

noncomputable def f_X8_read_j140 (mm : Mm) (y1 : Int32) : Option ((Int32 × Mm) ⊕ ((Mm) ⊕ ((Mm) ⊕ ((Mm) ⊕ ((Mm) ⊕ ((Mm) ⊕ ((Mm) ⊕ (Mm)))))))) :=
  if y1 < 0 ∨ 12 ≤ y1.toNatClampNeg then none else
    vlet (wI mm 24 y1.toNatClampNeg (mm.1 20 1)) fun mm_6 =>
      vlet (wI mm_6 20 5 (y1 + (1 : Int32))) fun mm_8 =>
        bi2 (f_X10_next mm_8) fun r_11 mm_9 =>
          if r_11 = (-1 : Int32) then
            some (.inr (.inr (.inr (.inr (.inr (.inl mm_9))))))
          else
            bi2 (f_X10_accept mm_9 (59 : Int32)) fun r_15 mm_13 =>
              if r_15 = 0 then
                some (.inr (.inr (.inr (.inr (.inr (.inr (.inl mm_13)))))))
              else
                some (.inl ((y1 + 1), mm_13))
noncomputable def f_X8_read_s21  : (Int32 × Mm) → Option ((Int32 × Mm) ⊕ ((Mm) ⊕ ((Mm) ⊕ ((Mm) ⊕ ((Mm) ⊕ ((Mm) ⊕ ((Mm) ⊕ (Mm)))))))) :=
  fun q => match q with
  | (y1, mm) =>
    if (12 : Int32) < y1 then
      some (.inr (.inr (.inr (.inr (.inr (.inr (.inr (mm))))))))
    else
      bi2 (f_X10_acceptWord mm 1) fun r_21 mm_19 =>
        if r_21 = 0 then
          some (.inr (.inl mm_19))
        else
          if y1 = (12 : Int32) then
            some (.inr (.inr (.inl mm_19)))
          else
            if y1 < 0 ∨ 12 ≤ y1.toNatClampNeg then none else
              vlet (wI mm_19 22 y1.toNatClampNeg (mm_19.1 20 1)) fun mm_24 =>
                bi2 (f_X8_readSum mm_24) fun r_28 mm_26 =>
                  if r_28 = 0 then
                    some (.inr (.inr (.inr (.inl mm_26))))
                  else
                    if y1 < 0 ∨ 12 ≤ y1.toNatClampNeg then none else
                      vlet (wI mm_26 23 y1.toNatClampNeg (mm_26.1 20 1)) fun mm_30 =>
                        bi2 (f_X10_acceptWord mm_30 3) fun r_34 mm_32 =>
                          if r_34 = 0 then
                            f_X8_read_j140 mm_32 y1
                          else
                            bi2 (f_X8_readTest mm_32 (0 : Int32)) fun r_38 mm_36 =>
                              if r_38 = 0 then
                                some (.inr (.inr (.inr (.inr (.inl mm_36)))))
                              else
                                f_X8_read_j140 mm_36 y1
noncomputable def f_X8_read (mm : Mm) : Option (Int32 × Mm) :=
  bi1 (f_X10_open mm) fun mm_1 =>
    bi1 (f_X7_clear mm_1 20) fun mm_3 =>
      vlet (wI mm_3 19 2 (0 : Int32)) fun mm_5 =>
        bi1 (lp (f_X8_read_s21) ((0 : Int32), mm_5)) fun q => match q with
        | .inl mm_41 =>
          bi2 (f_X10_wrong mm_41 (mm_41.1 1 2) (0 : Int32)) fun r_44 mm_42 =>
            if ¬ r_44 = 0 ∧ ¬ r_44 = 1 then none else some (r_44, mm_42)
        | .inr (.inl mm_46) =>
          bi2 (f_X10_wrong mm_46 (mm_46.1 1 3) (4 : Int32)) fun r_49 mm_47 =>
            if ¬ r_49 = 0 ∧ ¬ r_49 = 1 then none else some (r_49, mm_47)
        | .inr (.inr (.inl mm_51)) =>
          some ((0 : Int32), mm_51)
        | .inr (.inr (.inr (.inl mm_52))) =>
          some ((0 : Int32), mm_52)
        | .inr (.inr (.inr (.inr (.inl mm_53)))) =>
          some ((1 : Int32), mm_53)
        | .inr (.inr (.inr (.inr (.inr (.inl mm_54))))) =>
          bi2 (f_X10_wrong mm_54 (mm_54.1 1 2) (0 : Int32)) fun r_57 mm_55 =>
            if ¬ r_57 = 0 ∧ ¬ r_57 = 1 then none else some (r_57, mm_55)
        | .inr (.inr (.inr (.inr (.inr (.inr (mm_59)))))) =>
          some ((0 : Int32), mm_59)
set_option maxHeartbeats 4000000 in
set_option maxRecDepth 100000 in
theorem c_X8_read (l : Launch) (D : va_G) (dA : Nat → ClassId) (zz : (Nat → Nat) × (Nat → Nat)) (bs : Nat) (mm : Mm) (out : Int32) (m1 : Mm) (hf : f_X8_read mm = some (out, m1)) : Mw l D dA zz bs LY yX8_read cX8_read 2 (some .boolean) 241 5424 [.ref (bs + 19)] mm (some (.int out)) m1 := by
  refine Mw.of (own := RX8) (by decide) rfl (Nat.le_of_ble_eq_true rfl) ?_
  intro p e s m args below meth c X hr0 hP hS ls hl
  have hx := X.1
  have hb := X.2.1
  obtain ⟨H, hH⟩ : ∃ z : Heap, z = s.heap := ⟨_, rfl⟩
  obtain ⟨locs, hL⟩ : ∃ z : List Loc, z = [] := ⟨_, rfl⟩
  rw [← hH, ← hL]
  have hS : va_S (Aq bs) s.heap H locs := by rw [hH, hL]; exact hS
  have hP : Wd D dA bs LY mm H := by rw [hH]; exact hP
  have hl : lv_has ls 2 [(0, .ref (bs + 19))] := hl
  unfold f_X8_read at hf
  refine lv_aload_n hx hb dX8_read_0 rfl (lv_at hl 0 rfl) ?_
  refine wd_getR (q := 1) X hP L19 fl_X8_18 rfl dX8_read_1 ?_
  obtain ⟨mm_1, hc_2, hf⟩ := bi1S hf
  refine wd_cv X hP hS L1 ml_X8_22 ⟨_, _, rfl⟩ (c_X10_open l D dA zz bs mm mm_1 hc_2) rfl ⟨Nat.le_of_ble_eq_true rfl, Nat.le_of_ble_eq_true rfl⟩ hl.1 rfl (rest := []) (Nat.le_of_ble_eq_true rfl) ⟨Nat.zero_le _, Nat.zero_le _⟩ dX8_read_4 (fun H locs hP hS => ?_)
  refine W.eq (g2 := F0 m 7 ls []) rfl ?_
  refine lv_aload_n hx hb dX8_read_7 rfl (lv_at hl 0 rfl) ?_
  refine wd_getR (q := 20) X hP L19 fl_X8_12 rfl dX8_read_8 ?_
  obtain ⟨mm_3, hc_4, hf⟩ := bi1S hf
  refine wd_cv X hP hS (isRule.a0 U20) ml_X8_27 ⟨_, _, rfl⟩ (c_X7_clear l D dA zz bs mm_1 20 U20 mm_3 hc_4) rfl ⟨Nat.le_of_ble_eq_true rfl, Nat.le_of_ble_eq_true rfl⟩ hl.1 rfl (rest := []) (Nat.le_of_ble_eq_true rfl) ⟨Nat.zero_le _, Nat.zero_le _⟩ dX8_read_11 (fun H locs hP hS => ?_)
  refine W.eq (g2 := F0 m 14 ls []) rfl ?_
  refine lv_aload_n hx hb dX8_read_14 rfl (lv_at hl 0 rfl) ?_
  refine lv_iconst (v := 0) hx hb dX8_read_15 (by decide) ?_
  refine wd_putI X hP hS L19 fp_X8_30 rfl dX8_read_16 (fun H locs mm_5 emm_5 hP hS => ?_)
  have hf := vl hf emm_5
  refine lv_iconst (v := 0) hx hb dX8_read_19 (by decide) ?_
  refine lv_istore_n (lv' := [(1, .int (0 : Int32)), (0, .ref (bs + 19))]) hx hb dX8_read_20 rfl hl (by decide) rfl (fun ls hl => ?_)
  obtain ⟨q_60, hlp_61, hf⟩ := bi1S hf
  refine lp_walk (Wh := (fun z => match z with | (y1L_40, mmL_40) => ∀ (H : Heap) (locs : List Loc) (ls : Array Slot), Wd D dA bs LY mmL_40 H → va_S (Aq bs) s.heap H locs → lv_has ls 2 [(0, .ref (bs + 19)), (1, .int y1L_40)] → Wz p l e s m args below meth c D dA bs (some (.int out)) m1 241 5424 H locs 21 ls [])) (Ph := (fun z => match z with | .inl mm_41 => ∀ (H : Heap) (locs : List Loc) (ls : Array Slot), Wd D dA bs LY mm_41 H → va_S (Aq bs) s.heap H locs → lv_has ls 2 [(0, .ref (bs + 19))] → Wz p l e s m args below meth c D dA bs (some (.int out)) m1 241 5424 H locs 39 ls [] | .inr (.inl mm_46) => ∀ (H : Heap) (locs : List Loc) (ls : Array Slot), Wd D dA bs LY mm_46 H → va_S (Aq bs) s.heap H locs → lv_has ls 2 [(0, .ref (bs + 19))] → Wz p l e s m args below meth c D dA bs (some (.int out)) m1 241 5424 H locs 61 ls [] | .inr (.inr (.inl mm_51)) => ∀ (H : Heap) (locs : List Loc) (ls : Array Slot), Wd D dA bs LY mm_51 H → va_S (Aq bs) s.heap H locs → lv_has ls 2 [] → Wz p l e s m args below meth c D dA bs (some (.int out)) m1 241 5424 H locs 100 ls [] | .inr (.inr (.inr (.inl mm_52))) => ∀ (H : Heap) (locs : List Loc) (ls : Array Slot), Wd D dA bs LY mm_52 H → va_S (Aq bs) s.heap H locs → lv_has ls 2 [] → Wz p l e s m args below meth c D dA bs (some (.int out)) m1 241 5424 H locs 138 ls [] | .inr (.inr (.inr (.inr (.inl mm_53)))) => ∀ (H : Heap) (locs : List Loc) (ls : Array Slot), Wd D dA bs LY mm_53 H → va_S (Aq bs) s.heap H locs → lv_has ls 2 [] → Wz p l e s m args below meth c D dA bs (some (.int out)) m1 241 5424 H locs 177 ls [] | .inr (.inr (.inr (.inr (.inr (.inl mm_54))))) => ∀ (H : Heap) (locs : List Loc) (ls : Array Slot), Wd D dA bs LY mm_54 H → va_S (Aq bs) s.heap H locs → lv_has ls 2 [(0, .ref (bs + 19))] → Wz p l e s m args below meth c D dA bs (some (.int out)) m1 241 5424 H locs 191 ls [] | .inr (.inr (.inr (.inr (.inr (.inr (mm_59)))))) => ∀ (H : Heap) (locs : List Loc) (ls : Array Slot), Wd D dA bs LY mm_59 H → va_S (Aq bs) s.heap H locs → lv_has ls 2 [] → Wz p l e s m args below meth c D dA bs (some (.int out)) m1 241 5424 H locs 213 ls [])) ?_ hlp_61 ?_ H locs ls hP hS (lv_sub hl [1, 0] rfl)
  · intro z o hf hB hE
    obtain ⟨y1L_40, mmL_40⟩ := z
    intro H locs ls hP hS hl
    have hf : f_X8_read_s21 (y1L_40, mmL_40) = some o := hf
    unfold f_X8_read_s21 at hf
    dsimp only at hf
    have hJ140 : ∀ (mmJ_17 : Mm) (y1J_17 : Int32) (H : Heap) (locs : List Loc) (ls : Array Slot), f_X8_read_j140 mmJ_17 y1J_17 = some o → Wd D dA bs LY mmJ_17 H → va_S (Aq bs) s.heap H locs → lv_has ls 2 [(0, .ref (bs + 19)), (1, .int y1J_17)] → Wz p l e s m args below meth c D dA bs (some (.int out)) m1 241 5424 H locs 140 ls [] := by
      intro mmJ_17 y1J_17 H locs ls hf hP hS hl
      unfold f_X8_read_j140 at hf
      refine lv_aload_n hx hb dX8_read_140 rfl (lv_at hl 0 rfl) ?_
      refine wd_getR (q := 20) X hP L19 fl_X8_12 rfl dX8_read_141 ?_
      refine wd_getR (q := 24) X hP (isRule.a0 U20) fl_X8_70 rfl dX8_read_144 ?_
      refine lv_iload_n hx hb dX8_read_147 rfl (lv_at hl 1 rfl) ?_
      refine lv_aload_n hx hb dX8_read_148 rfl (lv_at hl 0 rfl) ?_
      refine wd_getR (q := 20) X hP L19 fl_X8_12 rfl dX8_read_149 ?_
      refine wd_getI X hP (isRule.a0 U20) fl_X8_54 rfl dX8_read_152 ?_
      have g_7 := gdN hf
      have hf := gdK hf
      refine wd_iast X hP hS (isRule.a4 U20) g_7 dX8_read_155 (fun H locs mm_6 emm_6 hP hS => ?_)
      have hf := vl hf emm_6
      refine lv_aload_n hx hb dX8_read_156 rfl (lv_at hl 0 rfl) ?_
      refine wd_getR (q := 20) X hP L19 fl_X8_12 rfl dX8_read_157 ?_
      refine lv_iload_n hx hb dX8_read_160 rfl (lv_at hl 1 rfl) ?_
      refine lv_iconst (v := 1) hx hb dX8_read_161 (by decide) ?_
      refine lv_iadd hx hb dX8_read_162 ?_
      refine wd_putI X hP hS (isRule.a0 U20) fp_X8_73 rfl dX8_read_163 (fun H locs mm_8 emm_8 hP hS => ?_)
      have hf := vl hf emm_8
      refine lv_aload_n hx hb dX8_read_166 rfl (lv_at hl 0 rfl) ?_
      refine wd_getR (q := 1) X hP L19 fl_X8_18 rfl dX8_read_167 ?_
      obtain ⟨r_11, mm_9, hc_10, hf⟩ := bi2S hf
      refine wd_cv X hP hS L1 ml_X8_76 ⟨_, _, rfl⟩ (c_X10_next l D dA zz bs mm_8 r_11 mm_9 hc_10) rfl ⟨Nat.le_of_ble_eq_true rfl, Nat.le_of_ble_eq_true rfl⟩ hl.1 rfl (rest := []) (Nat.le_of_ble_eq_true rfl) ⟨Nat.zero_le _, Nat.zero_le _⟩ dX8_read_170 (fun H locs hP hS => ?_)
      refine W.eq (g2 := F0 m 173 ls [.int r_11]) rfl ?_
      refine lv_iconst (v := -1) hx hb dX8_read_173 (by decide) ?_
      refine lv_icmp_ne (tgt := 179) hx hb dX8_read_174 (by decide) (fun c_12 => ?_) (fun c_12 => ?_)
      · have hf := itF hf c_12
        refine lv_aload_n hx hb dX8_read_179 rfl (lv_at hl 0 rfl) ?_
        refine wd_getR (q := 1) X hP L19 fl_X8_18 rfl dX8_read_180 ?_
        refine lv_bipush (v := 59) hx hb dX8_read_183 (by decide) ?_
        obtain ⟨r_15, mm_13, hc_14, hf⟩ := bi2S hf
        refine wd_cv X hP hS L1 ml_X8_80 ⟨_, _, rfl⟩ (c_X10_accept l D dA zz bs mm_9 (59 : Int32) r_15 mm_13 hc_14) rfl ⟨Nat.le_of_ble_eq_true rfl, Nat.le_of_ble_eq_true rfl⟩ hl.1 rfl (rest := []) (Nat.le_of_ble_eq_true rfl) ⟨Nat.zero_le _, Nat.zero_le _⟩ dX8_read_185 (fun H locs hP hS => ?_)
        refine W.eq (g2 := F0 m 188 ls [.int r_15]) rfl ?_
        refine lv_if_ne (tgt := 207) hx hb dX8_read_188 (by decide) (fun c_16 => ?_) (fun c_16 => ?_)
        · have hf := itF hf c_16
          refine lv_iinc (v := (y1J_17 + 1)) (lv' := [(1, .int (y1J_17 + 1)), (0, .ref (bs + 19))]) hx hb dX8_read_207 hl (k := 1) rfl rfl (by decide) rfl (fun ls hl => ?_)
          refine lv_goto (tgt := 21) hx hb dX8_read_210 (by decide) ?_
          obtain rfl := Option.some.inj hf
          exact hB _ rfl H locs ls hP hS (lv_sub hl [1, 0] rfl)
        · have hf := itT hf c_16
          obtain rfl := Option.some.inj hf
          exact hE _ rfl H locs ls hP hS (lv_sub hl [0] rfl)
      · have hf := itT hf c_12
        obtain rfl := Option.some.inj hf
        exact hE _ rfl H locs ls hP hS (lv_sub hl [] rfl)
    refine lv_iload_n hx hb dX8_read_21 rfl (lv_at hl 1 rfl) ?_
    refine lv_bipush (v := 12) hx hb dX8_read_22 (by decide) ?_
    refine lv_icmp_gt (tgt := 213) hx hb dX8_read_24 (by decide) (fun c_18 => ?_) (fun c_18 => ?_)
    · have hf := itT hf c_18
      obtain rfl := Option.some.inj hf
      exact hE _ rfl H locs ls hP hS (lv_sub hl [] rfl)
    · have hf := itF hf c_18
      refine lv_aload_n hx hb dX8_read_27 rfl (lv_at hl 0 rfl) ?_
      refine wd_getR (q := 1) X hP L19 fl_X8_18 rfl dX8_read_28 ?_
      refine va_ldcS (own := RX8) (q := zz.1 1) hx hb X.2.2.2.1 (X.2.2.2.2.2.2.1.2.1 ("PartyRaft$RuleReader", 34, "tie", 1) (by decide)) dX8_read_31 ?_
      obtain ⟨r_21, mm_19, hc_20, hf⟩ := bi2S hf
      refine wd_cv X hP hS L1 ml_X8_36 ⟨_, _, rfl⟩ (c_X10_acceptWord l D dA zz bs mmL_40 1 (by decide) r_21 mm_19 hc_20) rfl ⟨Nat.le_of_ble_eq_true rfl, Nat.le_of_ble_eq_true rfl⟩ hl.1 rfl (rest := []) (Nat.le_of_ble_eq_true rfl) ⟨Nat.zero_le _, Nat.zero_le _⟩ dX8_read_33 (fun H locs hP hS => ?_)
      refine W.eq (g2 := F0 m 36 ls [.int r_21]) rfl ?_
      refine lv_if_ne (tgt := 55) hx hb dX8_read_36 (by decide) (fun c_22 => ?_) (fun c_22 => ?_)
      · have hf := itF hf c_22
        refine lv_iload_n hx hb dX8_read_55 rfl (lv_at hl 1 rfl) ?_
        refine lv_bipush (v := 12) hx hb dX8_read_56 (by decide) ?_
        refine lv_icmp_ne (tgt := 77) hx hb dX8_read_58 (by decide) (fun c_23 => ?_) (fun c_23 => ?_)
        · have hf := itF hf c_23
          refine lv_aload_n hx hb dX8_read_77 rfl (lv_at hl 0 rfl) ?_
          refine wd_getR (q := 20) X hP L19 fl_X8_12 rfl dX8_read_78 ?_
          refine wd_getR (q := 22) X hP (isRule.a0 U20) fl_X8_50 rfl dX8_read_81 ?_
          refine lv_iload_n hx hb dX8_read_84 rfl (lv_at hl 1 rfl) ?_
          refine lv_aload_n hx hb dX8_read_85 rfl (lv_at hl 0 rfl) ?_
          refine wd_getR (q := 20) X hP L19 fl_X8_12 rfl dX8_read_86 ?_
          refine wd_getI X hP (isRule.a0 U20) fl_X8_54 rfl dX8_read_89 ?_
          have g_25 := gdN hf
          have hf := gdK hf
          refine wd_iast X hP hS (isRule.a2 U20) g_25 dX8_read_92 (fun H locs mm_24 emm_24 hP hS => ?_)
          have hf := vl hf emm_24
          refine lv_aload_n hx hb dX8_read_93 rfl (lv_at hl 0 rfl) ?_
          obtain ⟨r_28, mm_26, hc_27, hf⟩ := bi2S hf
          refine wd_cv X hP hS L19 ml_X8_57 ⟨_, _, rfl⟩ (c_X8_readSum l D dA zz bs mm_24 r_28 mm_26 hc_27) rfl ⟨Nat.le_of_ble_eq_true rfl, Nat.le_of_ble_eq_true rfl⟩ hl.1 rfl (rest := []) (Nat.le_of_ble_eq_true rfl) ⟨Nat.zero_le _, Nat.zero_le _⟩ dX8_read_94 (fun H locs hP hS => ?_)
          refine W.eq (g2 := F0 m 97 ls [.int r_28]) rfl ?_
          refine lv_if_ne (tgt := 102) hx hb dX8_read_97 (by decide) (fun c_29 => ?_) (fun c_29 => ?_)
          · have hf := itF hf c_29
            refine lv_aload_n hx hb dX8_read_102 rfl (lv_at hl 0 rfl) ?_
            refine wd_getR (q := 20) X hP L19 fl_X8_12 rfl dX8_read_103 ?_
            refine wd_getR (q := 23) X hP (isRule.a0 U20) fl_X8_61 rfl dX8_read_106 ?_
            refine lv_iload_n hx hb dX8_read_109 rfl (lv_at hl 1 rfl) ?_
            refine lv_aload_n hx hb dX8_read_110 rfl (lv_at hl 0 rfl) ?_
            refine wd_getR (q := 20) X hP L19 fl_X8_12 rfl dX8_read_111 ?_
            refine wd_getI X hP (isRule.a0 U20) fl_X8_54 rfl dX8_read_114 ?_
            have g_31 := gdN hf
            have hf := gdK hf
            refine wd_iast X hP hS (isRule.a3 U20) g_31 dX8_read_117 (fun H locs mm_30 emm_30 hP hS => ?_)
            have hf := vl hf emm_30
            refine lv_aload_n hx hb dX8_read_118 rfl (lv_at hl 0 rfl) ?_
            refine wd_getR (q := 1) X hP L19 fl_X8_18 rfl dX8_read_119 ?_
            refine va_ldcS (own := RX8) (q := zz.1 3) hx hb X.2.2.2.1 (X.2.2.2.2.2.2.1.2.1 ("PartyRaft$RuleReader", 64, "if", 3) (by decide)) dX8_read_122 ?_
            obtain ⟨r_34, mm_32, hc_33, hf⟩ := bi2S hf
            refine wd_cv X hP hS L1 ml_X8_36 ⟨_, _, rfl⟩ (c_X10_acceptWord l D dA zz bs mm_30 3 (by decide) r_34 mm_32 hc_33) rfl ⟨Nat.le_of_ble_eq_true rfl, Nat.le_of_ble_eq_true rfl⟩ hl.1 rfl (rest := []) (Nat.le_of_ble_eq_true rfl) ⟨Nat.zero_le _, Nat.zero_le _⟩ dX8_read_124 (fun H locs hP hS => ?_)
            refine W.eq (g2 := F0 m 127 ls [.int r_34]) rfl ?_
            refine lv_if_eq (tgt := 140) hx hb dX8_read_127 (by decide) (fun c_35 => ?_) (fun c_35 => ?_)
            · have hf := itT hf c_35
              exact hJ140 mm_32 y1L_40 H locs ls hf hP hS (lv_sub hl [0, 1] rfl)
            · have hf := itF hf c_35
              refine lv_aload_n hx hb dX8_read_130 rfl (lv_at hl 0 rfl) ?_
              refine lv_iconst (v := 0) hx hb dX8_read_131 (by decide) ?_
              obtain ⟨r_38, mm_36, hc_37, hf⟩ := bi2S hf
              refine wd_cv X hP hS L19 ml_X8_66 ⟨_, _, rfl⟩ (c_X8_readTest l D dA zz bs mm_32 (0 : Int32) r_38 mm_36 hc_37) rfl ⟨Nat.le_of_ble_eq_true rfl, Nat.le_of_ble_eq_true rfl⟩ hl.1 rfl (rest := []) (Nat.le_of_ble_eq_true rfl) ⟨Nat.zero_le _, Nat.zero_le _⟩ dX8_read_132 (fun H locs hP hS => ?_)
              refine W.eq (g2 := F0 m 135 ls [.int r_38]) rfl ?_
              refine lv_if_ne (tgt := 140) hx hb dX8_read_135 (by decide) (fun c_39 => ?_) (fun c_39 => ?_)
              · have hf := itF hf c_39
                exact hJ140 mm_36 y1L_40 H locs ls hf hP hS (lv_sub hl [0, 1] rfl)
              · have hf := itT hf c_39
                obtain rfl := Option.some.inj hf
                exact hE _ rfl H locs ls hP hS (lv_sub hl [] rfl)
          · have hf := itT hf c_29
            obtain rfl := Option.some.inj hf
            exact hE _ rfl H locs ls hP hS (lv_sub hl [] rfl)
        · have hf := itT hf c_23
          obtain rfl := Option.some.inj hf
          exact hE _ rfl H locs ls hP hS (lv_sub hl [0] rfl)
      · have hf := itT hf c_22
        obtain rfl := Option.some.inj hf
        exact hE _ rfl H locs ls hP hS (lv_sub hl [0] rfl)
  · rcases q_60 with mm_41 | mm_46 | mm_51 | mm_52 | mm_53 | mm_54 | mm_59
    · dsimp only at hf
      intro H locs ls hP hS hl
      refine lv_aload_n hx hb dX8_read_39 rfl (lv_at hl 0 rfl) ?_
      refine wd_getR (q := 1) X hP L19 fl_X8_18 rfl dX8_read_40 ?_
      refine lv_aload_n hx hb dX8_read_43 rfl (lv_at hl 0 rfl) ?_
      refine wd_getR (q := 1) X hP L19 fl_X8_18 rfl dX8_read_44 ?_
      refine wd_getI X hP L1 fl_X8_40 rfl dX8_read_47 ?_
      refine lv_iconst (v := 0) hx hb dX8_read_50 (by decide) ?_
      obtain ⟨r_44, mm_42, hc_43, hf⟩ := bi2S hf
      refine wd_cv X hP hS L1 ml_X8_43 ⟨_, _, rfl⟩ (c_X10_wrong l D dA zz bs mm_41 (mm_41.1 1 2) (0 : Int32) r_44 mm_42 hc_43) rfl ⟨Nat.le_of_ble_eq_true rfl, Nat.le_of_ble_eq_true rfl⟩ hl.1 rfl (rest := []) (Nat.le_of_ble_eq_true rfl) ⟨Nat.zero_le _, Nat.zero_le _⟩ dX8_read_51 (fun H locs hP hS => ?_)
      refine W.eq (g2 := F0 m 54 ls [.int r_44]) rfl ?_
      have g_45 := gdN hf
      have hf := gdK hf
      obtain ⟨rfl, rfl⟩ := Prod.mk.inj (Option.some.inj hf)
      exact wd_zret X hP hS hr0 g_45 dX8_read_54 ⟨rfl, rfl⟩
    · dsimp only at hf
      intro H locs ls hP hS hl
      refine lv_aload_n hx hb dX8_read_61 rfl (lv_at hl 0 rfl) ?_
      refine wd_getR (q := 1) X hP L19 fl_X8_18 rfl dX8_read_62 ?_
      refine lv_aload_n hx hb dX8_read_65 rfl (lv_at hl 0 rfl) ?_
      refine wd_getR (q := 1) X hP L19 fl_X8_18 rfl dX8_read_66 ?_
      refine wd_getI X hP L1 fl_X8_47 rfl dX8_read_69 ?_
      refine lv_iconst (v := 4) hx hb dX8_read_72 (by decide) ?_
      obtain ⟨r_49, mm_47, hc_48, hf⟩ := bi2S hf
      refine wd_cv X hP hS L1 ml_X8_43 ⟨_, _, rfl⟩ (c_X10_wrong l D dA zz bs mm_46 (mm_46.1 1 3) (4 : Int32) r_49 mm_47 hc_48) rfl ⟨Nat.le_of_ble_eq_true rfl, Nat.le_of_ble_eq_true rfl⟩ hl.1 rfl (rest := []) (Nat.le_of_ble_eq_true rfl) ⟨Nat.zero_le _, Nat.zero_le _⟩ dX8_read_73 (fun H locs hP hS => ?_)
      refine W.eq (g2 := F0 m 76 ls [.int r_49]) rfl ?_
      have g_50 := gdN hf
      have hf := gdK hf
      obtain ⟨rfl, rfl⟩ := Prod.mk.inj (Option.some.inj hf)
      exact wd_zret X hP hS hr0 g_50 dX8_read_76 ⟨rfl, rfl⟩
    · dsimp only at hf
      intro H locs ls hP hS hl
      refine lv_iconst (v := 0) hx hb dX8_read_100 (by decide) ?_
      obtain ⟨rfl, rfl⟩ := Prod.mk.inj (Option.some.inj hf)
      exact wd_zret X hP hS hr0 (by decide) dX8_read_101 ⟨rfl, rfl⟩
    · dsimp only at hf
      intro H locs ls hP hS hl
      refine lv_iconst (v := 0) hx hb dX8_read_138 (by decide) ?_
      obtain ⟨rfl, rfl⟩ := Prod.mk.inj (Option.some.inj hf)
      exact wd_zret X hP hS hr0 (by decide) dX8_read_139 ⟨rfl, rfl⟩
    · dsimp only at hf
      intro H locs ls hP hS hl
      refine lv_iconst (v := 1) hx hb dX8_read_177 (by decide) ?_
      obtain ⟨rfl, rfl⟩ := Prod.mk.inj (Option.some.inj hf)
      exact wd_zret X hP hS hr0 (by decide) dX8_read_178 ⟨rfl, rfl⟩
    · dsimp only at hf
      intro H locs ls hP hS hl
      refine lv_aload_n hx hb dX8_read_191 rfl (lv_at hl 0 rfl) ?_
      refine wd_getR (q := 1) X hP L19 fl_X8_18 rfl dX8_read_192 ?_
      refine lv_aload_n hx hb dX8_read_195 rfl (lv_at hl 0 rfl) ?_
      refine wd_getR (q := 1) X hP L19 fl_X8_18 rfl dX8_read_196 ?_
      refine wd_getI X hP L1 fl_X8_40 rfl dX8_read_199 ?_
      refine lv_iconst (v := 0) hx hb dX8_read_202 (by decide) ?_
      obtain ⟨r_57, mm_55, hc_56, hf⟩ := bi2S hf
      refine wd_cv X hP hS L1 ml_X8_43 ⟨_, _, rfl⟩ (c_X10_wrong l D dA zz bs mm_54 (mm_54.1 1 2) (0 : Int32) r_57 mm_55 hc_56) rfl ⟨Nat.le_of_ble_eq_true rfl, Nat.le_of_ble_eq_true rfl⟩ hl.1 rfl (rest := []) (Nat.le_of_ble_eq_true rfl) ⟨Nat.zero_le _, Nat.zero_le _⟩ dX8_read_203 (fun H locs hP hS => ?_)
      refine W.eq (g2 := F0 m 206 ls [.int r_57]) rfl ?_
      have g_58 := gdN hf
      have hf := gdK hf
      obtain ⟨rfl, rfl⟩ := Prod.mk.inj (Option.some.inj hf)
      exact wd_zret X hP hS hr0 g_58 dX8_read_206 ⟨rfl, rfl⟩
    · dsimp only at hf
      intro H locs ls hP hS hl
      refine lv_iconst (v := 0) hx hb dX8_read_213 (by decide) ?_
      obtain ⟨rfl, rfl⟩ := Prod.mk.inj (Option.some.inj hf)
      exact wd_zret X hP hS hr0 (by decide) dX8_read_214 ⟨rfl, rfl⟩

noncomputable def f_X9_begin (mm : Mm) : Option (Mm) :=
  bi1 (f_X5_copyFrom mm 27 4) fun mm_1 =>
    bi1 (f_X4_copyFrom mm_1 33 27 10 4) fun mm_3 =>
      vlet (wI mm_3 26 4 (0 : Int32)) fun mm_5 => vlet (wI mm_5 26 5 (0 : Int32)) fun mm_6 => some mm_6
set_option maxHeartbeats 4000000 in
set_option maxRecDepth 100000 in
theorem c_X9_begin (l : Launch) (D : va_G) (dA : Nat → ClassId) (zz : (Nat → Nat) × (Nat → Nat)) (bs : Nat) (mm : Mm) (m1 : Mm) (hf : f_X9_begin mm = some m1) : Mw l D dA zz bs LY yX9_begin cX9_begin 3 none 2 81 [.ref (bs + 26), .ref (bs + 4), .ref (bs + 10)] mm none m1 := by
  refine Mw.of (own := RX9) (by decide) rfl (Nat.le_of_ble_eq_true rfl) ?_
  intro p e s m args below meth c X hr0 hP hS ls hl
  have hx := X.1
  have hb := X.2.1
  obtain ⟨H, hH⟩ : ∃ z : Heap, z = s.heap := ⟨_, rfl⟩
  obtain ⟨locs, hL⟩ : ∃ z : List Loc, z = [] := ⟨_, rfl⟩
  rw [← hH, ← hL]
  have hS : va_S (Aq bs) s.heap H locs := by rw [hH, hL]; exact hS
  have hP : Wd D dA bs LY mm H := by rw [hH]; exact hP
  have hl : lv_has ls 3 [(0, .ref (bs + 26)), (1, .ref (bs + 4)), (2, .ref (bs + 10))] := hl
  unfold f_X9_begin at hf
  refine lv_aload_n hx hb dX9_begin_0 rfl (lv_at hl 0 rfl) ?_
  refine wd_getR (q := 27) X hP (isState.a0 S26) fl_X9_12 rfl dX9_begin_1 ?_
  refine lv_aload_n hx hb dX9_begin_4 rfl (lv_at hl 1 rfl) ?_
  obtain ⟨mm_1, hc_2, hf⟩ := bi1S hf
  refine wd_cv X hP hS (isRiver.a0 V27) ml_X9_41 ⟨_, _, rfl⟩ (c_X5_copyFrom l D dA zz bs mm 27 4 V27 V4 mm_1 hc_2) rfl ⟨Nat.le_of_ble_eq_true rfl, Nat.le_of_ble_eq_true rfl⟩ hl.1 rfl (rest := []) (Nat.le_of_ble_eq_true rfl) ⟨Nat.zero_le _, Nat.zero_le _⟩ dX9_begin_5 (fun H locs hP hS => ?_)
  refine W.eq (g2 := F0 m 8 ls []) rfl ?_
  refine lv_aload_n hx hb dX9_begin_8 rfl (lv_at hl 0 rfl) ?_
  refine wd_getR (q := 33) X hP (isState.a0 S26) fl_X9_23 rfl dX9_begin_9 ?_
  refine lv_aload_n hx hb dX9_begin_12 rfl (lv_at hl 2 rfl) ?_
  obtain ⟨mm_3, hc_4, hf⟩ := bi1S hf
  refine wd_cv X hP hS (isRaft.a0 R33) ml_X9_44 ⟨_, _, rfl⟩ (c_X4_copyFrom l D dA zz bs mm_1 33 27 10 4 R33 R10 mm_3 hc_4) rfl ⟨Nat.le_of_ble_eq_true rfl, Nat.le_of_ble_eq_true rfl⟩ hl.1 rfl (rest := []) (Nat.le_of_ble_eq_true rfl) ⟨Nat.zero_le _, Nat.zero_le _⟩ dX9_begin_13 (fun H locs hP hS => ?_)
  refine W.eq (g2 := F0 m 16 ls []) rfl ?_
  refine lv_aload_n hx hb dX9_begin_16 rfl (lv_at hl 0 rfl) ?_
  refine lv_iconst (v := 0) hx hb dX9_begin_17 (by decide) ?_
  refine wd_putI X hP hS (isState.a0 S26) fp_X9_47 rfl dX9_begin_18 (fun H locs mm_5 emm_5 hP hS => ?_)
  have hf := vl hf emm_5
  refine lv_aload_n hx hb dX9_begin_21 rfl (lv_at hl 0 rfl) ?_
  refine lv_iconst (v := 0) hx hb dX9_begin_22 (by decide) ?_
  refine wd_putI X hP hS (isState.a0 S26) fp_X9_51 rfl dX9_begin_23 (fun H locs mm_6 emm_6 hP hS => ?_)
  have hf := vl hf emm_6
  obtain rfl := Option.some.inj hf
  exact wd_vret X hP hS hr0 dX9_begin_26 ⟨rfl, rfl⟩

noncomputable def f_X9_copyFrom_s24 (S : Nat) (S2 : Nat) : (Int32 × Mm) → Option ((Int32 × Mm) ⊕ (Mm)) :=
  fun q => match q with
  | (y2, mm) =>
    if (20 : Int32) ≤ y2 then
      some (.inr mm)
    else
      if y2 < 0 ∨ 20 ≤ y2.toNatClampNeg then none else
        if y2 < 0 ∨ 20 ≤ y2.toNatClampNeg then none else
          bi1 (f_X4_copyFrom mm (S + 20 + 9 * y2.toNatClampNeg) (S + 1) (S2 + 20 + 9 * y2.toNatClampNeg) (S2 + 1)) fun mm_8 => some (.inl ((y2 + 1), mm_8))
noncomputable def f_X9_copyFrom (mm : Mm) (S : Nat) (S2 : Nat) : Option (Mm) :=
  bi1 (f_X5_copyFrom mm (S + 1) (S2 + 1)) fun mm_1 =>
    bi1 (f_X4_copyFrom mm_1 (S + 7) (S + 1) (S2 + 7) (S2 + 1)) fun mm_3 =>
      bi1 (lp (f_X9_copyFrom_s24 S S2) ((0 : Int32), mm_3)) fun mm_11 =>
        vlet (wI mm_11 S 3 (mm_11.1 S2 3)) fun mm_12 =>
          vlet (wI mm_12 S 4 (mm_12.1 S2 4)) fun mm_13 =>
            vlet (wI mm_13 S 5 (mm_13.1 S2 5)) fun mm_14 =>
              vlet (wA mm_14 (S + 17) (va_cpy (mm_14.1 (S2 + 17)) (mm_14.1 (S + 17)) 0 0 6)) fun mm_15 =>
                vlet (wA mm_15 (S + 18) (va_cpy (mm_15.1 (S2 + 18)) (mm_15.1 (S + 18)) 0 0 6)) fun mm_16 =>
                  vlet (wA mm_16 (S + 19) (va_cpy (mm_16.1 (S2 + 19)) (mm_16.1 (S + 19)) 0 0 6)) fun mm_17 => vlet (wI mm_17 S 9 (mm_17.1 S2 9)) fun mm_18 => some mm_18
set_option maxHeartbeats 4000000 in
set_option maxRecDepth 100000 in
theorem c_X9_copyFrom (l : Launch) (D : va_G) (dA : Nat → ClassId) (zz : (Nat → Nat) × (Nat → Nat)) (bs : Nat) (mm : Mm) (S : Nat) (S2 : Nat) (hs : isState S) (hs2 : isState S2) (m1 : Mm) (hf : f_X9_copyFrom mm S S2 = some m1) : Mw l D dA zz bs LY yX9_copyFrom cX9_copyFrom 3 none 2 81 [.ref (bs + S), .ref (bs + S2)] mm none m1 := by
  refine Mw.of (own := RX9) (by decide) rfl (Nat.le_of_ble_eq_true rfl) ?_
  intro p e s m args below meth c X hr0 hP hS ls hl
  have hx := X.1
  have hb := X.2.1
  obtain ⟨H, hH⟩ : ∃ z : Heap, z = s.heap := ⟨_, rfl⟩
  obtain ⟨locs, hL⟩ : ∃ z : List Loc, z = [] := ⟨_, rfl⟩
  rw [← hH, ← hL]
  have hS : va_S (Aq bs) s.heap H locs := by rw [hH, hL]; exact hS
  have hP : Wd D dA bs LY mm H := by rw [hH]; exact hP
  have hl : lv_has ls 3 [(0, .ref (bs + S)), (1, .ref (bs + S2))] := hl
  unfold f_X9_copyFrom at hf
  refine lv_aload_n hx hb dX9_copyFrom_0 rfl (lv_at hl 0 rfl) ?_
  refine wd_getR (q := S + 1) X hP (isState.a0 hs) fl_X9_12 rfl dX9_copyFrom_1 ?_
  refine lv_aload_n hx hb dX9_copyFrom_4 rfl (lv_at hl 1 rfl) ?_
  refine wd_getR (q := S2 + 1) X hP (isState.a0 hs2) fl_X9_12 rfl dX9_copyFrom_5 ?_
  obtain ⟨mm_1, hc_2, hf⟩ := bi1S hf
  refine wd_cv X hP hS (isRiver.a0 (isState.a1 hs)) ml_X9_41 ⟨_, _, rfl⟩ (c_X5_copyFrom l D dA zz bs mm (S + 1) (S2 + 1) (isState.a1 hs) (isState.a1 hs2) mm_1 hc_2) rfl ⟨Nat.le_of_ble_eq_true rfl, Nat.le_of_ble_eq_true rfl⟩ hl.1 rfl (rest := []) (Nat.le_of_ble_eq_true rfl) ⟨Nat.zero_le _, Nat.zero_le _⟩ dX9_copyFrom_8 (fun H locs hP hS => ?_)
  refine W.eq (g2 := F0 m 11 ls []) rfl ?_
  refine lv_aload_n hx hb dX9_copyFrom_11 rfl (lv_at hl 0 rfl) ?_
  refine wd_getR (q := S + 7) X hP (isState.a0 hs) fl_X9_23 rfl dX9_copyFrom_12 ?_
  refine lv_aload_n hx hb dX9_copyFrom_15 rfl (lv_at hl 1 rfl) ?_
  refine wd_getR (q := S2 + 7) X hP (isState.a0 hs2) fl_X9_23 rfl dX9_copyFrom_16 ?_
  obtain ⟨mm_3, hc_4, hf⟩ := bi1S hf
  refine wd_cv X hP hS (isRaft.a0 (isState.a2 hs)) ml_X9_44 ⟨_, _, rfl⟩ (c_X4_copyFrom l D dA zz bs mm_1 (S + 7) (S + 1) (S2 + 7) (S2 + 1) (isState.a2 hs) (isState.a2 hs2) mm_3 hc_4) rfl ⟨Nat.le_of_ble_eq_true rfl, Nat.le_of_ble_eq_true rfl⟩ hl.1 rfl (rest := []) (Nat.le_of_ble_eq_true rfl) ⟨Nat.zero_le _, Nat.zero_le _⟩ dX9_copyFrom_19 (fun H locs hP hS => ?_)
  refine W.eq (g2 := F0 m 22 ls []) rfl ?_
  refine lv_iconst (v := 0) hx hb dX9_copyFrom_22 (by decide) ?_
  refine lv_istore_n (lv' := [(2, .int (0 : Int32)), (0, .ref (bs + S)), (1, .ref (bs + S2))]) hx hb dX9_copyFrom_23 rfl hl (by decide) rfl (fun ls hl => ?_)
  obtain ⟨q_19, hlp_20, hf⟩ := bi1S hf
  refine lp_walk (Wh := (fun z => match z with | (y2L_10, mmL_10) => ∀ (H : Heap) (locs : List Loc) (ls : Array Slot), Wd D dA bs LY mmL_10 H → va_S (Aq bs) s.heap H locs → lv_has ls 3 [(0, .ref (bs + S)), (1, .ref (bs + S2)), (2, .int y2L_10)] → Wz p l e s m args below meth c D dA bs none m1 2 81 H locs 24 ls [])) (Ph := (fun mm_11 => ∀ (H : Heap) (locs : List Loc) (ls : Array Slot), Wd D dA bs LY mm_11 H → va_S (Aq bs) s.heap H locs → lv_has ls 3 [(0, .ref (bs + S)), (1, .ref (bs + S2))] → Wz p l e s m args below meth c D dA bs none m1 2 81 H locs 51 ls [])) ?_ hlp_20 ?_ H locs ls hP hS (lv_sub hl [1, 2, 0] rfl)
  · intro z o hf hB hE
    obtain ⟨y2L_10, mmL_10⟩ := z
    intro H locs ls hP hS hl
    have hf : f_X9_copyFrom_s24 S S2 (y2L_10, mmL_10) = some o := hf
    unfold f_X9_copyFrom_s24 at hf
    dsimp only at hf
    refine lv_iload_n hx hb dX9_copyFrom_24 rfl (lv_at hl 2 rfl) ?_
    refine lv_bipush (v := 20) hx hb dX9_copyFrom_25 (by decide) ?_
    refine lv_icmp_ge (tgt := 51) hx hb dX9_copyFrom_27 (by decide) (fun c_5 => ?_) (fun c_5 => ?_)
    · have hf := itT hf c_5
      obtain rfl := Option.some.inj hf
      exact hE _ rfl H locs ls hP hS (lv_sub hl [0, 1] rfl)
    · have hf := itF hf c_5
      refine lv_aload_n hx hb dX9_copyFrom_30 rfl (lv_at hl 0 rfl) ?_
      refine wd_getR (q := S + 16) X hP (isState.a0 hs) fl_X9_27 rfl dX9_copyFrom_31 ?_
      refine lv_iload_n hx hb dX9_copyFrom_34 rfl (lv_at hl 2 rfl) ?_
      have g_6 := gdN hf
      have hf := gdK hf
      refine wd_aald (q := S + 20 + 9 * y2L_10.toNatClampNeg) X hP (isState.a3 hs) rfl ⟨by decide, by decide⟩ g_6 (if_pos (Nat.not_le.mp (fun z => g_6 (Or.inr z)))) dX9_copyFrom_35 ?_
      refine lv_aload_n hx hb dX9_copyFrom_36 rfl (lv_at hl 1 rfl) ?_
      refine wd_getR (q := S2 + 16) X hP (isState.a0 hs2) fl_X9_27 rfl dX9_copyFrom_37 ?_
      refine lv_iload_n hx hb dX9_copyFrom_40 rfl (lv_at hl 2 rfl) ?_
      have g_7 := gdN hf
      have hf := gdK hf
      refine wd_aald (q := S2 + 20 + 9 * y2L_10.toNatClampNeg) X hP (isState.a3 hs2) rfl ⟨by decide, by decide⟩ g_7 (if_pos (Nat.not_le.mp (fun z => g_7 (Or.inr z)))) dX9_copyFrom_41 ?_
      obtain ⟨mm_8, hc_9, hf⟩ := bi1S hf
      refine wd_cv X hP hS (isRaft.a0 (isState.a7 hs _ (Nat.not_le.mp (fun z => g_6 (Or.inr z))))) ml_X9_44 ⟨_, _, rfl⟩ (c_X4_copyFrom l D dA zz bs mmL_10 (S + 20 + 9 * y2L_10.toNatClampNeg) (S + 1) (S2 + 20 + 9 * y2L_10.toNatClampNeg) (S2 + 1) (isState.a7 hs _ (Nat.not_le.mp (fun z => g_6 (Or.inr z)))) (isState.a7 hs2 _ (Nat.not_le.mp (fun z => g_7 (Or.inr z)))) mm_8 hc_9) rfl ⟨Nat.le_of_ble_eq_true rfl, Nat.le_of_ble_eq_true rfl⟩ hl.1 rfl (rest := []) (Nat.le_of_ble_eq_true rfl) ⟨Nat.zero_le _, Nat.zero_le _⟩ dX9_copyFrom_42 (fun H locs hP hS => ?_)
      refine W.eq (g2 := F0 m 45 ls []) rfl ?_
      refine lv_iinc (v := (y2L_10 + 1)) (lv' := [(2, .int (y2L_10 + 1)), (0, .ref (bs + S)), (1, .ref (bs + S2))]) hx hb dX9_copyFrom_45 hl (k := 2) rfl rfl (by decide) rfl (fun ls hl => ?_)
      refine lv_goto (tgt := 24) hx hb dX9_copyFrom_48 (by decide) ?_
      obtain rfl := Option.some.inj hf
      exact hB _ rfl H locs ls hP hS (lv_sub hl [1, 2, 0] rfl)
  · obtain ⟨mm_11, e_mm_11⟩ : ∃ z, z = q_19 := ⟨_, rfl⟩
    subst e_mm_11
    intro H locs ls hP hS hl
    refine lv_aload_n hx hb dX9_copyFrom_51 rfl (lv_at hl 0 rfl) ?_
    refine lv_aload_n hx hb dX9_copyFrom_52 rfl (lv_at hl 1 rfl) ?_
    refine wd_getI X hP (isState.a0 hs2) fl_X9_54 rfl dX9_copyFrom_53 ?_
    refine wd_putI X hP hS (isState.a0 hs) fp_X9_54 rfl dX9_copyFrom_56 (fun H locs mm_12 emm_12 hP hS => ?_)
    have hf := vl hf emm_12
    refine lv_aload_n hx hb dX9_copyFrom_59 rfl (lv_at hl 0 rfl) ?_
    refine lv_aload_n hx hb dX9_copyFrom_60 rfl (lv_at hl 1 rfl) ?_
    refine wd_getI X hP (isState.a0 hs2) fl_X9_47 rfl dX9_copyFrom_61 ?_
    refine wd_putI X hP hS (isState.a0 hs) fp_X9_47 rfl dX9_copyFrom_64 (fun H locs mm_13 emm_13 hP hS => ?_)
    have hf := vl hf emm_13
    refine lv_aload_n hx hb dX9_copyFrom_67 rfl (lv_at hl 0 rfl) ?_
    refine lv_aload_n hx hb dX9_copyFrom_68 rfl (lv_at hl 1 rfl) ?_
    refine wd_getI X hP (isState.a0 hs2) fl_X9_51 rfl dX9_copyFrom_69 ?_
    refine wd_putI X hP hS (isState.a0 hs) fp_X9_51 rfl dX9_copyFrom_72 (fun H locs mm_14 emm_14 hP hS => ?_)
    have hf := vl hf emm_14
    refine lv_aload_n hx hb dX9_copyFrom_75 rfl (lv_at hl 1 rfl) ?_
    refine wd_getR (q := S2 + 17) X hP (isState.a0 hs2) fl_X9_31 rfl dX9_copyFrom_76 ?_
    refine lv_iconst (v := 0) hx hb dX9_copyFrom_79 (by decide) ?_
    refine lv_aload_n hx hb dX9_copyFrom_80 rfl (lv_at hl 0 rfl) ?_
    refine wd_getR (q := S + 17) X hP (isState.a0 hs) fl_X9_31 rfl dX9_copyFrom_81 ?_
    refine lv_iconst (v := 0) hx hb dX9_copyFrom_84 (by decide) ?_
    refine lv_bipush (v := 6) hx hb dX9_copyFrom_85 (by decide) ?_
    refine wd_copy (k := 6) X hP hS (isState.a4 hs2) (isState.a4 hs) ⟨(tb_at 1132 (by decide +kernel) (by decide +kernel)), ac_n, ac_s, ac_i⟩ (by decide) (by decide) (by decide) hl.1 (by decide) (Nat.le_of_ble_eq_true rfl) dX9_copyFrom_87 (fun H locs mm_15 emm_15 hP hS => ?_)
    have hf := vl hf emm_15
    refine lv_aload_n hx hb dX9_copyFrom_90 rfl (lv_at hl 1 rfl) ?_
    refine wd_getR (q := S2 + 18) X hP (isState.a0 hs2) fl_X9_35 rfl dX9_copyFrom_91 ?_
    refine lv_iconst (v := 0) hx hb dX9_copyFrom_94 (by decide) ?_
    refine lv_aload_n hx hb dX9_copyFrom_95 rfl (lv_at hl 0 rfl) ?_
    refine wd_getR (q := S + 18) X hP (isState.a0 hs) fl_X9_35 rfl dX9_copyFrom_96 ?_
    refine lv_iconst (v := 0) hx hb dX9_copyFrom_99 (by decide) ?_
    refine lv_bipush (v := 6) hx hb dX9_copyFrom_100 (by decide) ?_
    refine wd_copy (k := 6) X hP hS (isState.a5 hs2) (isState.a5 hs) ⟨(tb_at 1132 (by decide +kernel) (by decide +kernel)), ac_n, ac_s, ac_i⟩ (by decide) (by decide) (by decide) hl.1 (by decide) (Nat.le_of_ble_eq_true rfl) dX9_copyFrom_102 (fun H locs mm_16 emm_16 hP hS => ?_)
    have hf := vl hf emm_16
    refine lv_aload_n hx hb dX9_copyFrom_105 rfl (lv_at hl 1 rfl) ?_
    refine wd_getR (q := S2 + 19) X hP (isState.a0 hs2) fl_X9_38 rfl dX9_copyFrom_106 ?_
    refine lv_iconst (v := 0) hx hb dX9_copyFrom_109 (by decide) ?_
    refine lv_aload_n hx hb dX9_copyFrom_110 rfl (lv_at hl 0 rfl) ?_
    refine wd_getR (q := S + 19) X hP (isState.a0 hs) fl_X9_38 rfl dX9_copyFrom_111 ?_
    refine lv_iconst (v := 0) hx hb dX9_copyFrom_114 (by decide) ?_
    refine lv_bipush (v := 6) hx hb dX9_copyFrom_115 (by decide) ?_
    refine wd_copy (k := 6) X hP hS (isState.a6 hs2) (isState.a6 hs) ⟨(tb_at 1132 (by decide +kernel) (by decide +kernel)), ac_n, ac_s, ac_i⟩ (by decide) (by decide) (by decide) hl.1 (by decide) (Nat.le_of_ble_eq_true rfl) dX9_copyFrom_117 (fun H locs mm_17 emm_17 hP hS => ?_)
    have hf := vl hf emm_17
    refine lv_aload_n hx hb dX9_copyFrom_120 rfl (lv_at hl 0 rfl) ?_
    refine lv_aload_n hx hb dX9_copyFrom_121 rfl (lv_at hl 1 rfl) ?_
    refine wd_getI X hP (isState.a0 hs2) fl_X9_63 rfl dX9_copyFrom_122 ?_
    refine wd_putI X hP hS (isState.a0 hs) fp_X9_63 rfl dX9_copyFrom_125 (fun H locs mm_18 emm_18 hP hS => ?_)
    have hf := vl hf emm_18
    obtain rfl := Option.some.inj hf
    exact wd_vret X hP hS hr0 dX9_copyFrom_128 ⟨rfl, rfl⟩

noncomputable def f_X9_remember (mm : Mm) : Option (Mm) :=
  if (((mm.1 26 3) + (mm.1 26 4)) - ((mm.1 26 3) + (mm.1 26 4)) / (20 : Int32) * (20 : Int32)) < 0 ∨ 20 ≤ (((mm.1 26 3) + (mm.1 26 4)) - ((mm.1 26 3) + (mm.1 26 4)) / (20 : Int32) * (20 : Int32)).toNatClampNeg then none else
    bi1 (f_X4_copyFrom mm (26 + 20 + 9 * (((mm.1 26 3) + (mm.1 26 4)) - ((mm.1 26 3) + (mm.1 26 4)) / (20 : Int32) * (20 : Int32)).toNatClampNeg) 27 33 27) fun mm_2 =>
      if (20 : Int32) ≤ (mm_2.1 26 4) then
        vlet (wI mm_2 26 3 (((mm_2.1 26 3) + (1 : Int32)) - ((mm_2.1 26 3) + (1 : Int32)) / (20 : Int32) * (20 : Int32))) fun mm_5 => some mm_5
      else
        vlet (wI mm_2 26 4 ((mm_2.1 26 4) + (1 : Int32))) fun mm_6 => some mm_6
set_option maxHeartbeats 4000000 in
set_option maxRecDepth 100000 in
theorem c_X9_remember (l : Launch) (D : va_G) (dA : Nat → ClassId) (zz : (Nat → Nat) × (Nat → Nat)) (bs : Nat) (mm : Mm) (m1 : Mm) (hf : f_X9_remember mm = some m1) : Mw l D dA zz bs LY yX9_remember cX9_remember 1 none 2 81 [.ref (bs + 26)] mm none m1 := by
  refine Mw.of (own := RX9) (by decide) rfl (Nat.le_of_ble_eq_true rfl) ?_
  intro p e s m args below meth c X hr0 hP hS ls hl
  have hx := X.1
  have hb := X.2.1
  obtain ⟨H, hH⟩ : ∃ z : Heap, z = s.heap := ⟨_, rfl⟩
  obtain ⟨locs, hL⟩ : ∃ z : List Loc, z = [] := ⟨_, rfl⟩
  rw [← hH, ← hL]
  have hS : va_S (Aq bs) s.heap H locs := by rw [hH, hL]; exact hS
  have hP : Wd D dA bs LY mm H := by rw [hH]; exact hP
  have hl : lv_has ls 1 [(0, .ref (bs + 26))] := hl
  unfold f_X9_remember at hf
  refine lv_aload_n hx hb dX9_remember_0 rfl (lv_at hl 0 rfl) ?_
  refine wd_getR (q := 42) X hP (isState.a0 S26) fl_X9_27 rfl dX9_remember_1 ?_
  refine lv_aload_n hx hb dX9_remember_4 rfl (lv_at hl 0 rfl) ?_
  refine wd_getI X hP (isState.a0 S26) fl_X9_54 rfl dX9_remember_5 ?_
  refine lv_aload_n hx hb dX9_remember_8 rfl (lv_at hl 0 rfl) ?_
  refine wd_getI X hP (isState.a0 S26) fl_X9_47 rfl dX9_remember_9 ?_
  refine lv_iadd hx hb dX9_remember_12 ?_
  refine lv_bipush (v := 20) hx hb dX9_remember_13 (by decide) ?_
  refine lv_irem hx hb dX9_remember_15 (by decide) ?_
  have g_1 := gdN hf
  have hf := gdK hf
  refine wd_aald (q := 26 + 20 + 9 * (((mm.1 26 3) + (mm.1 26 4)) - ((mm.1 26 3) + (mm.1 26 4)) / (20 : Int32) * (20 : Int32)).toNatClampNeg) X hP (isState.a3 S26) rfl ⟨by decide, by decide⟩ g_1 (if_pos (Nat.not_le.mp (fun z => g_1 (Or.inr z)))) dX9_remember_16 ?_
  refine lv_aload_n hx hb dX9_remember_17 rfl (lv_at hl 0 rfl) ?_
  refine wd_getR (q := 33) X hP (isState.a0 S26) fl_X9_23 rfl dX9_remember_18 ?_
  obtain ⟨mm_2, hc_3, hf⟩ := bi1S hf
  refine wd_cv X hP hS (isRaft.a0 (isState.a7 S26 _ (Nat.not_le.mp (fun z => g_1 (Or.inr z))))) ml_X9_44 ⟨_, _, rfl⟩ (c_X4_copyFrom l D dA zz bs mm (26 + 20 + 9 * (((mm.1 26 3) + (mm.1 26 4)) - ((mm.1 26 3) + (mm.1 26 4)) / (20 : Int32) * (20 : Int32)).toNatClampNeg) 27 33 27 (isState.a7 S26 _ (Nat.not_le.mp (fun z => g_1 (Or.inr z)))) R33 mm_2 hc_3) rfl ⟨Nat.le_of_ble_eq_true rfl, Nat.le_of_ble_eq_true rfl⟩ hl.1 rfl (rest := []) (Nat.le_of_ble_eq_true rfl) ⟨Nat.zero_le _, Nat.zero_le _⟩ dX9_remember_21 (fun H locs hP hS => ?_)
  refine W.eq (g2 := F0 m 24 ls []) rfl ?_
  refine lv_aload_n hx hb dX9_remember_24 rfl (lv_at hl 0 rfl) ?_
  refine wd_getI X hP (isState.a0 S26) fl_X9_47 rfl dX9_remember_25 ?_
  refine lv_bipush (v := 20) hx hb dX9_remember_28 (by decide) ?_
  refine lv_icmp_ge (tgt := 46) hx hb dX9_remember_30 (by decide) (fun c_4 => ?_) (fun c_4 => ?_)
  · have hf := itT hf c_4
    refine lv_aload_n hx hb dX9_remember_46 rfl (lv_at hl 0 rfl) ?_
    refine lv_aload_n hx hb dX9_remember_47 rfl (lv_at hl 0 rfl) ?_
    refine wd_getI X hP (isState.a0 S26) fl_X9_54 rfl dX9_remember_48 ?_
    refine lv_iconst (v := 1) hx hb dX9_remember_51 (by decide) ?_
    refine lv_iadd hx hb dX9_remember_52 ?_
    refine lv_bipush (v := 20) hx hb dX9_remember_53 (by decide) ?_
    refine lv_irem hx hb dX9_remember_55 (by decide) ?_
    refine wd_putI X hP hS (isState.a0 S26) fp_X9_54 rfl dX9_remember_56 (fun H locs mm_5 emm_5 hP hS => ?_)
    have hf := vl hf emm_5
    obtain rfl := Option.some.inj hf
    exact wd_vret X hP hS hr0 dX9_remember_59 ⟨rfl, rfl⟩
  · have hf := itF hf c_4
    refine lv_aload_n hx hb dX9_remember_33 rfl (lv_at hl 0 rfl) ?_
    refine lv_dup hx hb dX9_remember_34 rfl ?_
    refine wd_getI X hP (isState.a0 S26) fl_X9_47 rfl dX9_remember_35 ?_
    refine lv_iconst (v := 1) hx hb dX9_remember_38 (by decide) ?_
    refine lv_iadd hx hb dX9_remember_39 ?_
    refine wd_putI X hP hS (isState.a0 S26) fp_X9_47 rfl dX9_remember_40 (fun H locs mm_6 emm_6 hP hS => ?_)
    have hf := vl hf emm_6
    refine lv_goto (tgt := 59) hx hb dX9_remember_43 (by decide) ?_
    obtain rfl := Option.some.inj hf
    exact wd_vret X hP hS hr0 dX9_remember_59 ⟨rfl, rfl⟩

noncomputable def f_X9_recall (mm : Mm) : Option (Mm) :=
  if (mm.1 26 4) ≤ 0 then
    some mm
  else
    vlet (wI mm 26 4 ((mm.1 26 4) - (1 : Int32))) fun mm_2 =>
      if (((mm_2.1 26 3) + (mm_2.1 26 4)) - ((mm_2.1 26 3) + (mm_2.1 26 4)) / (20 : Int32) * (20 : Int32)) < 0 ∨ 20 ≤ (((mm_2.1 26 3) + (mm_2.1 26 4)) - ((mm_2.1 26 3) + (mm_2.1 26 4)) / (20 : Int32) * (20 : Int32)).toNatClampNeg then none else
        bi1 (f_X4_copyFrom mm_2 33 27 (26 + 20 + 9 * (((mm_2.1 26 3) + (mm_2.1 26 4)) - ((mm_2.1 26 3) + (mm_2.1 26 4)) / (20 : Int32) * (20 : Int32)).toNatClampNeg) 27) fun mm_4 => some mm_4
set_option maxHeartbeats 4000000 in
set_option maxRecDepth 100000 in
theorem c_X9_recall (l : Launch) (D : va_G) (dA : Nat → ClassId) (zz : (Nat → Nat) × (Nat → Nat)) (bs : Nat) (mm : Mm) (m1 : Mm) (hf : f_X9_recall mm = some m1) : Mw l D dA zz bs LY yX9_recall cX9_recall 1 none 2 81 [.ref (bs + 26)] mm none m1 := by
  refine Mw.of (own := RX9) (by decide) rfl (Nat.le_of_ble_eq_true rfl) ?_
  intro p e s m args below meth c X hr0 hP hS ls hl
  have hx := X.1
  have hb := X.2.1
  obtain ⟨H, hH⟩ : ∃ z : Heap, z = s.heap := ⟨_, rfl⟩
  obtain ⟨locs, hL⟩ : ∃ z : List Loc, z = [] := ⟨_, rfl⟩
  rw [← hH, ← hL]
  have hS : va_S (Aq bs) s.heap H locs := by rw [hH, hL]; exact hS
  have hP : Wd D dA bs LY mm H := by rw [hH]; exact hP
  have hl : lv_has ls 1 [(0, .ref (bs + 26))] := hl
  unfold f_X9_recall at hf
  refine lv_aload_n hx hb dX9_recall_0 rfl (lv_at hl 0 rfl) ?_
  refine wd_getI X hP (isState.a0 S26) fl_X9_47 rfl dX9_recall_1 ?_
  refine lv_if_le (tgt := 41) hx hb dX9_recall_4 (by decide) (fun c_1 => ?_) (fun c_1 => ?_)
  · have hf := itT hf c_1
    obtain rfl := Option.some.inj hf
    exact wd_vret X hP hS hr0 dX9_recall_41 ⟨rfl, rfl⟩
  · have hf := itF hf c_1
    refine lv_aload_n hx hb dX9_recall_7 rfl (lv_at hl 0 rfl) ?_
    refine lv_dup hx hb dX9_recall_8 rfl ?_
    refine wd_getI X hP (isState.a0 S26) fl_X9_47 rfl dX9_recall_9 ?_
    refine lv_iconst (v := 1) hx hb dX9_recall_12 (by decide) ?_
    refine lv_isub hx hb dX9_recall_13 ?_
    refine wd_putI X hP hS (isState.a0 S26) fp_X9_47 rfl dX9_recall_14 (fun H locs mm_2 emm_2 hP hS => ?_)
    have hf := vl hf emm_2
    refine lv_aload_n hx hb dX9_recall_17 rfl (lv_at hl 0 rfl) ?_
    refine wd_getR (q := 33) X hP (isState.a0 S26) fl_X9_23 rfl dX9_recall_18 ?_
    refine lv_aload_n hx hb dX9_recall_21 rfl (lv_at hl 0 rfl) ?_
    refine wd_getR (q := 42) X hP (isState.a0 S26) fl_X9_27 rfl dX9_recall_22 ?_
    refine lv_aload_n hx hb dX9_recall_25 rfl (lv_at hl 0 rfl) ?_
    refine wd_getI X hP (isState.a0 S26) fl_X9_54 rfl dX9_recall_26 ?_
    refine lv_aload_n hx hb dX9_recall_29 rfl (lv_at hl 0 rfl) ?_
    refine wd_getI X hP (isState.a0 S26) fl_X9_47 rfl dX9_recall_30 ?_
    refine lv_iadd hx hb dX9_recall_33 ?_
    refine lv_bipush (v := 20) hx hb dX9_recall_34 (by decide) ?_
    refine lv_irem hx hb dX9_recall_36 (by decide) ?_
    have g_3 := gdN hf
    have hf := gdK hf
    refine wd_aald (q := 26 + 20 + 9 * (((mm_2.1 26 3) + (mm_2.1 26 4)) - ((mm_2.1 26 3) + (mm_2.1 26 4)) / (20 : Int32) * (20 : Int32)).toNatClampNeg) X hP (isState.a3 S26) rfl ⟨by decide, by decide⟩ g_3 (if_pos (Nat.not_le.mp (fun z => g_3 (Or.inr z)))) dX9_recall_37 ?_
    obtain ⟨mm_4, hc_5, hf⟩ := bi1S hf
    refine wd_cv X hP hS (isRaft.a0 R33) ml_X9_44 ⟨_, _, rfl⟩ (c_X4_copyFrom l D dA zz bs mm_2 33 27 (26 + 20 + 9 * (((mm_2.1 26 3) + (mm_2.1 26 4)) - ((mm_2.1 26 3) + (mm_2.1 26 4)) / (20 : Int32) * (20 : Int32)).toNatClampNeg) 27 R33 (isState.a7 S26 _ (Nat.not_le.mp (fun z => g_3 (Or.inr z)))) mm_4 hc_5) rfl ⟨Nat.le_of_ble_eq_true rfl, Nat.le_of_ble_eq_true rfl⟩ hl.1 rfl (rest := []) (Nat.le_of_ble_eq_true rfl) ⟨Nat.zero_le _, Nat.zero_le _⟩ dX9_recall_38 (fun H locs hP hS => ?_)
    refine W.eq (g2 := F0 m 41 ls []) rfl ?_
    obtain rfl := Option.some.inj hf
    exact wd_vret X hP hS hr0 dX9_recall_41 ⟨rfl, rfl⟩

noncomputable def f_X9_addOffer (mm : Mm) (x1 : Int32) (x2 : Int32) (x3 : Int32) : Option (Mm) :=
  if (6 : Int32) ≤ (mm.1 26 5) then
    some mm
  else
    if (mm.1 26 5) < 0 ∨ 6 ≤ (mm.1 26 5).toNatClampNeg then none else
      vlet (wI mm 43 (mm.1 26 5).toNatClampNeg x1) fun mm_2 =>
        if (mm_2.1 26 5) < 0 ∨ 6 ≤ (mm_2.1 26 5).toNatClampNeg then none else
          vlet (wI mm_2 44 (mm_2.1 26 5).toNatClampNeg x2) fun mm_4 =>
            if (mm_4.1 26 5) < 0 ∨ 6 ≤ (mm_4.1 26 5).toNatClampNeg then none else
              vlet (wI mm_4 45 (mm_4.1 26 5).toNatClampNeg x3) fun mm_6 =>
                vlet (wI mm_6 26 5 ((mm_6.1 26 5) + (1 : Int32))) fun mm_8 => some mm_8
set_option maxHeartbeats 4000000 in
set_option maxRecDepth 100000 in
theorem c_X9_addOffer (l : Launch) (D : va_G) (dA : Nat → ClassId) (zz : (Nat → Nat) × (Nat → Nat)) (bs : Nat) (mm : Mm) (x1 : Int32) (x2 : Int32) (x3 : Int32) (m1 : Mm) (hf : f_X9_addOffer mm x1 x2 x3 = some m1) : Mw l D dA zz bs LY yX9_addOffer cX9_addOffer 4 none 0 0 [.ref (bs + 26), .int x1, .int x2, .int x3] mm none m1 := by
  refine Mw.of (own := RX9) (by decide) rfl (Nat.le_of_ble_eq_true rfl) ?_
  intro p e s m args below meth c X hr0 hP hS ls hl
  have hx := X.1
  have hb := X.2.1
  obtain ⟨H, hH⟩ : ∃ z : Heap, z = s.heap := ⟨_, rfl⟩
  obtain ⟨locs, hL⟩ : ∃ z : List Loc, z = [] := ⟨_, rfl⟩
  rw [← hH, ← hL]
  have hS : va_S (Aq bs) s.heap H locs := by rw [hH, hL]; exact hS
  have hP : Wd D dA bs LY mm H := by rw [hH]; exact hP
  have hl : lv_has ls 4 [(0, .ref (bs + 26)), (1, .int x1), (2, .int x2), (3, .int x3)] := hl
  unfold f_X9_addOffer at hf
  refine lv_aload_n hx hb dX9_addOffer_0 rfl (lv_at hl 0 rfl) ?_
  refine wd_getI X hP (isState.a0 S26) fl_X9_51 rfl dX9_addOffer_1 ?_
  refine lv_bipush (v := 6) hx hb dX9_addOffer_4 (by decide) ?_
  refine lv_icmp_ge (tgt := 49) hx hb dX9_addOffer_6 (by decide) (fun c_1 => ?_) (fun c_1 => ?_)
  · have hf := itT hf c_1
    obtain rfl := Option.some.inj hf
    exact wd_vret X hP hS hr0 dX9_addOffer_49 ⟨rfl, rfl⟩
  · have hf := itF hf c_1
    refine lv_aload_n hx hb dX9_addOffer_9 rfl (lv_at hl 0 rfl) ?_
    refine wd_getR (q := 43) X hP (isState.a0 S26) fl_X9_31 rfl dX9_addOffer_10 ?_
    refine lv_aload_n hx hb dX9_addOffer_13 rfl (lv_at hl 0 rfl) ?_
    refine wd_getI X hP (isState.a0 S26) fl_X9_51 rfl dX9_addOffer_14 ?_
    refine lv_iload_n hx hb dX9_addOffer_17 rfl (lv_at hl 1 rfl) ?_
    have g_3 := gdN hf
    have hf := gdK hf
    refine wd_iast X hP hS (isState.a4 S26) g_3 dX9_addOffer_18 (fun H locs mm_2 emm_2 hP hS => ?_)
    have hf := vl hf emm_2
    refine lv_aload_n hx hb dX9_addOffer_19 rfl (lv_at hl 0 rfl) ?_
    refine wd_getR (q := 44) X hP (isState.a0 S26) fl_X9_35 rfl dX9_addOffer_20 ?_
    refine lv_aload_n hx hb dX9_addOffer_23 rfl (lv_at hl 0 rfl) ?_
    refine wd_getI X hP (isState.a0 S26) fl_X9_51 rfl dX9_addOffer_24 ?_
    refine lv_iload_n hx hb dX9_addOffer_27 rfl (lv_at hl 2 rfl) ?_
    have g_5 := gdN hf
    have hf := gdK hf
    refine wd_iast X hP hS (isState.a5 S26) g_5 dX9_addOffer_28 (fun H locs mm_4 emm_4 hP hS => ?_)
    have hf := vl hf emm_4
    refine lv_aload_n hx hb dX9_addOffer_29 rfl (lv_at hl 0 rfl) ?_
    refine wd_getR (q := 45) X hP (isState.a0 S26) fl_X9_38 rfl dX9_addOffer_30 ?_
    refine lv_aload_n hx hb dX9_addOffer_33 rfl (lv_at hl 0 rfl) ?_
    refine wd_getI X hP (isState.a0 S26) fl_X9_51 rfl dX9_addOffer_34 ?_
    refine lv_iload_n hx hb dX9_addOffer_37 rfl (lv_at hl 3 rfl) ?_
    have g_7 := gdN hf
    have hf := gdK hf
    refine wd_iast X hP hS (isState.a6 S26) g_7 dX9_addOffer_38 (fun H locs mm_6 emm_6 hP hS => ?_)
    have hf := vl hf emm_6
    refine lv_aload_n hx hb dX9_addOffer_39 rfl (lv_at hl 0 rfl) ?_
    refine lv_dup hx hb dX9_addOffer_40 rfl ?_
    refine wd_getI X hP (isState.a0 S26) fl_X9_51 rfl dX9_addOffer_41 ?_
    refine lv_iconst (v := 1) hx hb dX9_addOffer_44 (by decide) ?_
    refine lv_iadd hx hb dX9_addOffer_45 ?_
    refine wd_putI X hP hS (isState.a0 S26) fp_X9_51 rfl dX9_addOffer_46 (fun H locs mm_8 emm_8 hP hS => ?_)
    have hf := vl hf emm_8
    obtain rfl := Option.some.inj hf
    exact wd_vret X hP hS hr0 dX9_addOffer_49 ⟨rfl, rfl⟩

noncomputable def f_X10_append_s3 (y1 : Int32) : (Int32 × Mm) → Option ((Int32 × Mm) ⊕ (Mm)) :=
  fun q => match q with
  | (y2, mm) =>
    if y2 < 0 then
      some (.inr mm)
    else
      if (400 : Int32) ≤ (mm.1 1 1) then
        some (.inr mm)
      else
        if (mm.1 1 1) < 0 ∨ 400 ≤ (mm.1 1 1).toNatClampNeg then none else
          vlet (wI mm 2 (mm.1 1 1).toNatClampNeg (vp_nar .byte ((y1 >>> (y2 &&& 31)).toInt8.toInt32))) fun mm_3 =>
            vlet (wI mm_3 1 1 ((mm_3.1 1 1) + (1 : Int32))) fun mm_5 => some (.inl ((y2 + (-8)), mm_5))
noncomputable def f_X10_append (mm : Mm) (x1 : Int32) : Option (Mm) :=
  bi1 (lp (f_X10_append_s3 x1) ((24 : Int32), mm)) fun mm_7 =>
    some mm_7
set_option maxHeartbeats 4000000 in
set_option maxRecDepth 100000 in
theorem c_X10_append (l : Launch) (D : va_G) (dA : Nat → ClassId) (zz : (Nat → Nat) × (Nat → Nat)) (bs : Nat) (mm : Mm) (x1 : Int32) (m1 : Mm) (hf : f_X10_append mm x1 = some m1) : Mw l D dA zz bs LY yX10_append cX10_append 3 none 0 0 [.ref (bs + 1), .int x1] mm none m1 := by
  refine Mw.of (own := RX10) (by decide) rfl (Nat.le_of_ble_eq_true rfl) ?_
  intro p e s m args below meth c X hr0 hP hS ls hl
  have hx := X.1
  have hb := X.2.1
  obtain ⟨H, hH⟩ : ∃ z : Heap, z = s.heap := ⟨_, rfl⟩
  obtain ⟨locs, hL⟩ : ∃ z : List Loc, z = [] := ⟨_, rfl⟩
  rw [← hH, ← hL]
  have hS : va_S (Aq bs) s.heap H locs := by rw [hH, hL]; exact hS
  have hP : Wd D dA bs LY mm H := by rw [hH]; exact hP
  have hl : lv_has ls 3 [(0, .ref (bs + 1)), (1, .int x1)] := hl
  unfold f_X10_append at hf
  refine lv_bipush (v := 24) hx hb dX10_append_0 (by decide) ?_
  refine lv_istore_n (lv' := [(2, .int (24 : Int32)), (0, .ref (bs + 1)), (1, .int x1)]) hx hb dX10_append_2 rfl hl (by decide) rfl (fun ls hl => ?_)
  obtain ⟨q_8, hlp_9, hf⟩ := bi1S hf
  refine lp_walk (Wh := (fun z => match z with | (y2L_6, mmL_6) => ∀ (H : Heap) (locs : List Loc) (ls : Array Slot), Wd D dA bs LY mmL_6 H → va_S (Aq bs) s.heap H locs → lv_has ls 3 [(0, .ref (bs + 1)), (1, .int x1), (2, .int y2L_6)] → Wz p l e s m args below meth c D dA bs none m1 0 0 H locs 3 ls [])) (Ph := (fun mm_7 => ∀ (H : Heap) (locs : List Loc) (ls : Array Slot), Wd D dA bs LY mm_7 H → va_S (Aq bs) s.heap H locs → lv_has ls 3 [] → Wz p l e s m args below meth c D dA bs none m1 0 0 H locs 46 ls [])) ?_ hlp_9 ?_ H locs ls hP hS (lv_sub hl [1, 2, 0] rfl)
  · intro z o hf hB hE
    obtain ⟨y2L_6, mmL_6⟩ := z
    intro H locs ls hP hS hl
    have hf : f_X10_append_s3 x1 (y2L_6, mmL_6) = some o := hf
    unfold f_X10_append_s3 at hf
    dsimp only at hf
    refine lv_iload_n hx hb dX10_append_3 rfl (lv_at hl 2 rfl) ?_
    refine lv_if_lt (tgt := 46) hx hb dX10_append_4 (by decide) (fun c_1 => ?_) (fun c_1 => ?_)
    · have hf := itT hf c_1
      obtain rfl := Option.some.inj hf
      exact hE _ rfl H locs ls hP hS (lv_sub hl [] rfl)
    · have hf := itF hf c_1
      refine lv_aload_n hx hb dX10_append_7 rfl (lv_at hl 0 rfl) ?_
      refine wd_getI X hP L1 fl_X10_15 rfl dX10_append_8 ?_
      refine lv_sipush (v := 400) hx hb dX10_append_11 (by decide) ?_
      refine lv_icmp_ge (tgt := 46) hx hb dX10_append_14 (by decide) (fun c_2 => ?_) (fun c_2 => ?_)
      · have hf := itT hf c_2
        obtain rfl := Option.some.inj hf
        exact hE _ rfl H locs ls hP hS (lv_sub hl [] rfl)
      · have hf := itF hf c_2
        refine lv_aload_n hx hb dX10_append_17 rfl (lv_at hl 0 rfl) ?_
        refine wd_getR (q := 2) X hP L1 fl_X10_9 rfl dX10_append_18 ?_
        refine lv_aload_n hx hb dX10_append_21 rfl (lv_at hl 0 rfl) ?_
        refine wd_getI X hP L1 fl_X10_15 rfl dX10_append_22 ?_
        refine lv_iload_n hx hb dX10_append_25 rfl (lv_at hl 1 rfl) ?_
        refine lv_iload_n hx hb dX10_append_26 rfl (lv_at hl 2 rfl) ?_
        refine lv_ishr hx hb dX10_append_27 ?_
        refine lv_i2b hx hb dX10_append_28 rfl ?_
        have g_4 := gdN hf
        have hf := gdK hf
        refine wd_bast X hP hS L2 g_4 dX10_append_29 (fun H locs mm_3 emm_3 hP hS => ?_)
        have hf := vl hf emm_3
        refine lv_aload_n hx hb dX10_append_30 rfl (lv_at hl 0 rfl) ?_
        refine lv_dup hx hb dX10_append_31 rfl ?_
        refine wd_getI X hP L1 fl_X10_15 rfl dX10_append_32 ?_
        refine lv_iconst (v := 1) hx hb dX10_append_35 (by decide) ?_
        refine lv_iadd hx hb dX10_append_36 ?_
        refine wd_putI X hP hS L1 fp_X10_15 rfl dX10_append_37 (fun H locs mm_5 emm_5 hP hS => ?_)
        have hf := vl hf emm_5
        refine lv_iinc (v := (y2L_6 + (-8))) (lv' := [(2, .int (y2L_6 + (-8))), (0, .ref (bs + 1)), (1, .int x1)]) hx hb dX10_append_40 hl (k := 2) rfl rfl (by decide) rfl (fun ls hl => ?_)
        refine lv_goto (tgt := 3) hx hb dX10_append_43 (by decide) ?_
        obtain rfl := Option.some.inj hf
        exact hB _ rfl H locs ls hP hS (lv_sub hl [1, 2, 0] rfl)
  · obtain ⟨mm_7, e_mm_7⟩ : ∃ z, z = q_8 := ⟨_, rfl⟩
    subst e_mm_7
    intro H locs ls hP hS hl
    obtain rfl := Option.some.inj hf
    exact wd_vret X hP hS hr0 dX10_append_46 ⟨rfl, rfl⟩

noncomputable def f_X11_feed (mm : Mm) (x1 : Int32) (x2 : Int32) (x3 : Int32) (x4 : Int32) (x5 : Int32) : Option (Int32 × Mm) :=
  if ((mm.1 1 1) + (20 : Int32)) ≤ (400 : Int32) then
    bi1 (f_X10_append mm x1) fun mm_2 =>
      bi1 (f_X10_append mm_2 x2) fun mm_4 =>
        bi1 (f_X10_append mm_4 x3) fun mm_6 =>
          bi1 (f_X10_append mm_6 x4) fun mm_8 =>
            bi1 (f_X10_append mm_8 x5) fun mm_10 => some ((mm_10.1 1 1), mm_10)
  else
    some ((-1 : Int32), mm)
set_option maxHeartbeats 4000000 in
set_option maxRecDepth 100000 in
theorem c_X11_feed (l : Launch) (D : va_G) (dA : Nat → ClassId) (zz : (Nat → Nat) × (Nat → Nat)) (bs : Nat) (mm : Mm) (x1 : Int32) (x2 : Int32) (x3 : Int32) (x4 : Int32) (x5 : Int32) (out : Int32) (m1 : Mm) (hf : f_X11_feed mm x1 x2 x3 x4 x5 = some (out, m1)) : Mw l D dA zz bs LY yX11_feed cX11_feed 6 (some .int) 1 22 [.ref (bs + 0), .int x1, .int x2, .int x3, .int x4, .int x5] mm (some (.int out)) m1 := by
  refine Mw.of (own := RX11) (by decide) rfl (Nat.le_of_ble_eq_true rfl) ?_
  intro p e s m args below meth c X hr0 hP hS ls hl
  have hx := X.1
  have hb := X.2.1
  obtain ⟨H, hH⟩ : ∃ z : Heap, z = s.heap := ⟨_, rfl⟩
  obtain ⟨locs, hL⟩ : ∃ z : List Loc, z = [] := ⟨_, rfl⟩
  rw [← hH, ← hL]
  have hS : va_S (Aq bs) s.heap H locs := by rw [hH, hL]; exact hS
  have hP : Wd D dA bs LY mm H := by rw [hH]; exact hP
  have hl : lv_has ls 6 [(0, .ref (bs + 0)), (1, .int x1), (2, .int x2), (3, .int x3), (4, .int x4), (5, .int x5)] := hl
  unfold f_X11_feed at hf
  refine lv_aload_n hx hb dX11_feed_0 rfl (lv_at hl 0 rfl) ?_
  refine wd_getR (q := 1) X hP L0 fl_X11_12 rfl dX11_feed_1 ?_
  refine wd_getI X hP L1 fl_X11_106 rfl dX11_feed_4 ?_
  refine lv_bipush (v := 20) hx hb dX11_feed_7 (by decide) ?_
  refine lv_iadd hx hb dX11_feed_9 ?_
  refine lv_sipush (v := 400) hx hb dX11_feed_10 (by decide) ?_
  refine lv_icmp_le (tgt := 18) hx hb dX11_feed_13 (by decide) (fun c_1 => ?_) (fun c_1 => ?_)
  · have hf := itT hf c_1
    refine lv_aload_n hx hb dX11_feed_18 rfl (lv_at hl 0 rfl) ?_
    refine wd_getR (q := 1) X hP L0 fl_X11_12 rfl dX11_feed_19 ?_
    refine lv_iload_n hx hb dX11_feed_22 rfl (lv_at hl 1 rfl) ?_
    obtain ⟨mm_2, hc_3, hf⟩ := bi1S hf
    refine wd_cv X hP hS L1 ml_X11_110 ⟨_, _, rfl⟩ (c_X10_append l D dA zz bs mm x1 mm_2 hc_3) rfl ⟨Nat.le_of_ble_eq_true rfl, Nat.le_of_ble_eq_true rfl⟩ hl.1 rfl (rest := []) (Nat.le_of_ble_eq_true rfl) ⟨Nat.zero_le _, Nat.zero_le _⟩ dX11_feed_23 (fun H locs hP hS => ?_)
    refine W.eq (g2 := F0 m 26 ls []) rfl ?_
    refine lv_aload_n hx hb dX11_feed_26 rfl (lv_at hl 0 rfl) ?_
    refine wd_getR (q := 1) X hP L0 fl_X11_12 rfl dX11_feed_27 ?_
    refine lv_iload_n hx hb dX11_feed_30 rfl (lv_at hl 2 rfl) ?_
    obtain ⟨mm_4, hc_5, hf⟩ := bi1S hf
    refine wd_cv X hP hS L1 ml_X11_110 ⟨_, _, rfl⟩ (c_X10_append l D dA zz bs mm_2 x2 mm_4 hc_5) rfl ⟨Nat.le_of_ble_eq_true rfl, Nat.le_of_ble_eq_true rfl⟩ hl.1 rfl (rest := []) (Nat.le_of_ble_eq_true rfl) ⟨Nat.zero_le _, Nat.zero_le _⟩ dX11_feed_31 (fun H locs hP hS => ?_)
    refine W.eq (g2 := F0 m 34 ls []) rfl ?_
    refine lv_aload_n hx hb dX11_feed_34 rfl (lv_at hl 0 rfl) ?_
    refine wd_getR (q := 1) X hP L0 fl_X11_12 rfl dX11_feed_35 ?_
    refine lv_iload_n hx hb dX11_feed_38 rfl (lv_at hl 3 rfl) ?_
    obtain ⟨mm_6, hc_7, hf⟩ := bi1S hf
    refine wd_cv X hP hS L1 ml_X11_110 ⟨_, _, rfl⟩ (c_X10_append l D dA zz bs mm_4 x3 mm_6 hc_7) rfl ⟨Nat.le_of_ble_eq_true rfl, Nat.le_of_ble_eq_true rfl⟩ hl.1 rfl (rest := []) (Nat.le_of_ble_eq_true rfl) ⟨Nat.zero_le _, Nat.zero_le _⟩ dX11_feed_39 (fun H locs hP hS => ?_)
    refine W.eq (g2 := F0 m 42 ls []) rfl ?_
    refine lv_aload_n hx hb dX11_feed_42 rfl (lv_at hl 0 rfl) ?_
    refine wd_getR (q := 1) X hP L0 fl_X11_12 rfl dX11_feed_43 ?_
    refine lv_iload hx hb dX11_feed_46 (lv_at hl 4 rfl) ?_
    obtain ⟨mm_8, hc_9, hf⟩ := bi1S hf
    refine wd_cv X hP hS L1 ml_X11_110 ⟨_, _, rfl⟩ (c_X10_append l D dA zz bs mm_6 x4 mm_8 hc_9) rfl ⟨Nat.le_of_ble_eq_true rfl, Nat.le_of_ble_eq_true rfl⟩ hl.1 rfl (rest := []) (Nat.le_of_ble_eq_true rfl) ⟨Nat.zero_le _, Nat.zero_le _⟩ dX11_feed_48 (fun H locs hP hS => ?_)
    refine W.eq (g2 := F0 m 51 ls []) rfl ?_
    refine lv_aload_n hx hb dX11_feed_51 rfl (lv_at hl 0 rfl) ?_
    refine wd_getR (q := 1) X hP L0 fl_X11_12 rfl dX11_feed_52 ?_
    refine lv_iload hx hb dX11_feed_55 (lv_at hl 5 rfl) ?_
    obtain ⟨mm_10, hc_11, hf⟩ := bi1S hf
    refine wd_cv X hP hS L1 ml_X11_110 ⟨_, _, rfl⟩ (c_X10_append l D dA zz bs mm_8 x5 mm_10 hc_11) rfl ⟨Nat.le_of_ble_eq_true rfl, Nat.le_of_ble_eq_true rfl⟩ hl.1 rfl (rest := []) (Nat.le_of_ble_eq_true rfl) ⟨Nat.zero_le _, Nat.zero_le _⟩ dX11_feed_57 (fun H locs hP hS => ?_)
    refine W.eq (g2 := F0 m 60 ls []) rfl ?_
    refine lv_aload_n hx hb dX11_feed_60 rfl (lv_at hl 0 rfl) ?_
    refine wd_getR (q := 1) X hP L0 fl_X11_12 rfl dX11_feed_61 ?_
    refine wd_getI X hP L1 fl_X11_106 rfl dX11_feed_64 ?_
    obtain ⟨rfl, rfl⟩ := Prod.mk.inj (Option.some.inj hf)
    exact wd_iret X hP hS hr0 dX11_feed_67 ⟨rfl, rfl⟩
  · have hf := itF hf c_1
    refine lv_iconst (v := -1) hx hb dX11_feed_16 (by decide) ?_
    obtain ⟨rfl, rfl⟩ := Prod.mk.inj (Option.some.inj hf)
    exact wd_iret X hP hS hr0 dX11_feed_17 ⟨rfl, rfl⟩

noncomputable def f_X11_end (mm : Mm) (x1 : Int32) : Option (Int32 × Mm) :=
  if x1 < 0 then
    some ((-1 : Int32), mm)
  else
    if x1 ≤ (mm.1 1 1) then
      vlet (wI mm 1 1 x1) fun mm_3 => some (x1, mm_3)
    else
      some ((-1 : Int32), mm)
set_option maxHeartbeats 4000000 in
set_option maxRecDepth 100000 in
theorem c_X11_end (l : Launch) (D : va_G) (dA : Nat → ClassId) (zz : (Nat → Nat) × (Nat → Nat)) (bs : Nat) (mm : Mm) (x1 : Int32) (out : Int32) (m1 : Mm) (hf : f_X11_end mm x1 = some (out, m1)) : Mw l D dA zz bs LY yX11_end cX11_end 2 (some .int) 0 0 [.ref (bs + 0), .int x1] mm (some (.int out)) m1 := by
  refine Mw.of (own := RX11) (by decide) rfl (Nat.le_of_ble_eq_true rfl) ?_
  intro p e s m args below meth c X hr0 hP hS ls hl
  have hx := X.1
  have hb := X.2.1
  obtain ⟨H, hH⟩ : ∃ z : Heap, z = s.heap := ⟨_, rfl⟩
  obtain ⟨locs, hL⟩ : ∃ z : List Loc, z = [] := ⟨_, rfl⟩
  rw [← hH, ← hL]
  have hS : va_S (Aq bs) s.heap H locs := by rw [hH, hL]; exact hS
  have hP : Wd D dA bs LY mm H := by rw [hH]; exact hP
  have hl : lv_has ls 2 [(0, .ref (bs + 0)), (1, .int x1)] := hl
  unfold f_X11_end at hf
  refine lv_iload_n hx hb dX11_end_0 rfl (lv_at hl 1 rfl) ?_
  refine lv_if_lt (tgt := 15) hx hb dX11_end_1 (by decide) (fun c_1 => ?_) (fun c_1 => ?_)
  · have hf := itT hf c_1
    refine lv_iconst (v := -1) hx hb dX11_end_15 (by decide) ?_
    obtain ⟨rfl, rfl⟩ := Prod.mk.inj (Option.some.inj hf)
    exact wd_iret X hP hS hr0 dX11_end_16 ⟨rfl, rfl⟩
  · have hf := itF hf c_1
    refine lv_iload_n hx hb dX11_end_4 rfl (lv_at hl 1 rfl) ?_
    refine lv_aload_n hx hb dX11_end_5 rfl (lv_at hl 0 rfl) ?_
    refine wd_getR (q := 1) X hP L0 fl_X11_12 rfl dX11_end_6 ?_
    refine wd_getI X hP L1 fl_X11_106 rfl dX11_end_9 ?_
    refine lv_icmp_le (tgt := 17) hx hb dX11_end_12 (by decide) (fun c_2 => ?_) (fun c_2 => ?_)
    · have hf := itT hf c_2
      refine lv_aload_n hx hb dX11_end_17 rfl (lv_at hl 0 rfl) ?_
      refine wd_getR (q := 1) X hP L0 fl_X11_12 rfl dX11_end_18 ?_
      refine lv_iload_n hx hb dX11_end_21 rfl (lv_at hl 1 rfl) ?_
      refine wd_putI X hP hS L1 fp_X11_106 rfl dX11_end_22 (fun H locs mm_3 emm_3 hP hS => ?_)
      have hf := vl hf emm_3
      refine lv_iload_n hx hb dX11_end_25 rfl (lv_at hl 1 rfl) ?_
      obtain ⟨rfl, rfl⟩ := Prod.mk.inj (Option.some.inj hf)
      exact wd_iret X hP hS hr0 dX11_end_26 ⟨rfl, rfl⟩
    · have hf := itF hf c_2
      refine lv_iconst (v := -1) hx hb dX11_end_15 (by decide) ?_
      obtain ⟨rfl, rfl⟩ := Prod.mk.inj (Option.some.inj hf)
      exact wd_iret X hP hS hr0 dX11_end_16 ⟨rfl, rfl⟩

noncomputable def f_X11_river (mm : Mm) : Option (Int32 × Mm) :=
  bi2 (f_X6_read mm) fun r_3 mm_1 =>
    vlet (wI mm_1 1 1 (0 : Int32)) fun mm_4 =>
      if r_3 = 0 then
        some (((-2 : Int32) - (mm_4.1 1 4)), mm_4)
      else
        bi1 (f_X9_begin mm_4) fun mm_6 => some ((mm_6.1 27 2), mm_6)
set_option maxHeartbeats 4000000 in
set_option maxRecDepth 100000 in
theorem c_X11_river (l : Launch) (D : va_G) (dA : Nat → ClassId) (zz : (Nat → Nat) × (Nat → Nat)) (bs : Nat) (mm : Mm) (out : Int32) (m1 : Mm) (hf : f_X11_river mm = some (out, m1)) : Mw l D dA zz bs LY yX11_river cX11_river 2 (some .int) 8 179 [.ref (bs + 0)] mm (some (.int out)) m1 := by
  refine Mw.of (own := RX11) (by decide) rfl (Nat.le_of_ble_eq_true rfl) ?_
  intro p e s m args below meth c X hr0 hP hS ls hl
  have hx := X.1
  have hb := X.2.1
  obtain ⟨H, hH⟩ : ∃ z : Heap, z = s.heap := ⟨_, rfl⟩
  obtain ⟨locs, hL⟩ : ∃ z : List Loc, z = [] := ⟨_, rfl⟩
  rw [← hH, ← hL]
  have hS : va_S (Aq bs) s.heap H locs := by rw [hH, hL]; exact hS
  have hP : Wd D dA bs LY mm H := by rw [hH]; exact hP
  have hl : lv_has ls 2 [(0, .ref (bs + 0))] := hl
  unfold f_X11_river at hf
  refine lv_aload_n hx hb dX11_river_0 rfl (lv_at hl 0 rfl) ?_
  refine wd_getR (q := 3) X hP L0 fl_X11_21 rfl dX11_river_1 ?_
  obtain ⟨r_3, mm_1, hc_2, hf⟩ := bi2S hf
  refine wd_cv X hP hS L3 ml_X11_114 ⟨_, _, rfl⟩ (c_X6_read l D dA zz bs mm r_3 mm_1 hc_2) rfl ⟨Nat.le_of_ble_eq_true rfl, Nat.le_of_ble_eq_true rfl⟩ hl.1 rfl (rest := []) (Nat.le_of_ble_eq_true rfl) ⟨Nat.zero_le _, Nat.zero_le _⟩ dX11_river_4 (fun H locs hP hS => ?_)
  refine W.eq (g2 := F0 m 7 ls [.int r_3]) rfl ?_
  refine lv_istore_n (lv' := [(1, .int r_3), (0, .ref (bs + 0))]) hx hb dX11_river_7 rfl hl (by decide) rfl (fun ls hl => ?_)
  refine lv_aload_n hx hb dX11_river_8 rfl (lv_at hl 1 rfl) ?_
  refine wd_getR (q := 1) X hP L0 fl_X11_12 rfl dX11_river_9 ?_
  refine lv_iconst (v := 0) hx hb dX11_river_12 (by decide) ?_
  refine wd_putI X hP hS L1 fp_X11_106 rfl dX11_river_13 (fun H locs mm_4 emm_4 hP hS => ?_)
  have hf := vl hf emm_4
  refine lv_iload_n hx hb dX11_river_16 rfl (lv_at hl 0 rfl) ?_
  refine lv_if_ne (tgt := 31) hx hb dX11_river_17 (by decide) (fun c_5 => ?_) (fun c_5 => ?_)
  · have hf := itF hf c_5
    refine lv_aload_n hx hb dX11_river_31 rfl (lv_at hl 1 rfl) ?_
    refine wd_getR (q := 26) X hP L0 fl_X11_35 rfl dX11_river_32 ?_
    refine lv_aload_n hx hb dX11_river_35 rfl (lv_at hl 1 rfl) ?_
    refine wd_getR (q := 3) X hP L0 fl_X11_21 rfl dX11_river_36 ?_
    refine wd_getR (q := 4) X hP L3 fl_X11_121 rfl dX11_river_39 ?_
    refine lv_aload_n hx hb dX11_river_42 rfl (lv_at hl 1 rfl) ?_
    refine wd_getR (q := 3) X hP L0 fl_X11_21 rfl dX11_river_43 ?_
    refine wd_getR (q := 10) X hP L3 fl_X11_122 rfl dX11_river_46 ?_
    obtain ⟨mm_6, hc_7, hf⟩ := bi1S hf
    refine wd_cv X hP hS (isState.a0 S26) ml_X11_123 ⟨_, _, rfl⟩ (c_X9_begin l D dA zz bs mm_4 mm_6 hc_7) rfl ⟨Nat.le_of_ble_eq_true rfl, Nat.le_of_ble_eq_true rfl⟩ hl.1 rfl (rest := []) (Nat.le_of_ble_eq_true rfl) ⟨Nat.zero_le _, Nat.zero_le _⟩ dX11_river_49 (fun H locs hP hS => ?_)
    refine W.eq (g2 := F0 m 52 ls []) rfl ?_
    refine lv_aload_n hx hb dX11_river_52 rfl (lv_at hl 1 rfl) ?_
    refine wd_getR (q := 26) X hP L0 fl_X11_35 rfl dX11_river_53 ?_
    refine wd_getR (q := 27) X hP (isState.a0 S26) fl_X11_91 rfl dX11_river_56 ?_
    refine wd_getI X hP (isRiver.a0 V27) fl_X11_127 rfl dX11_river_59 ?_
    obtain ⟨rfl, rfl⟩ := Prod.mk.inj (Option.some.inj hf)
    exact wd_iret X hP hS hr0 dX11_river_62 ⟨rfl, rfl⟩
  · have hf := itT hf c_5
    refine lv_bipush (v := -2) hx hb dX11_river_20 (by decide) ?_
    refine lv_aload_n hx hb dX11_river_22 rfl (lv_at hl 1 rfl) ?_
    refine wd_getR (q := 1) X hP L0 fl_X11_12 rfl dX11_river_23 ?_
    refine wd_getI X hP L1 fl_X11_118 rfl dX11_river_26 ?_
    refine lv_isub hx hb dX11_river_29 ?_
    obtain ⟨rfl, rfl⟩ := Prod.mk.inj (Option.some.inj hf)
    exact wd_iret X hP hS hr0 dX11_river_30 ⟨rfl, rfl⟩

noncomputable def f_X11_rule (mm : Mm) : Option (Int32 × Mm) :=
  if (mm.1 0 7) < (6 : Int32) then
    bi2 (f_X8_read mm) fun r_4 mm_2 =>
      vlet (wI mm_2 1 1 (0 : Int32)) fun mm_5 =>
        if r_4 = 0 then
          some (((-2 : Int32) - (mm_5.1 1 4)), mm_5)
        else
          if (mm_5.1 0 7) < 0 ∨ 6 ≤ (mm_5.1 0 7).toNatClampNeg then none else
            bi1 (f_X7_copyFrom mm_5 (1052 + 6 * (mm_5.1 0 7).toNatClampNeg)) fun mm_8 =>
              vlet (wI mm_8 0 7 ((mm_8.1 0 7) + (1 : Int32))) fun mm_10 => some (((mm_10.1 0 7) - (1 : Int32)), mm_10)
  else
    some ((-1 : Int32), mm)
set_option maxHeartbeats 4000000 in
set_option maxRecDepth 100000 in
theorem c_X11_rule (l : Launch) (D : va_G) (dA : Nat → ClassId) (zz : (Nat → Nat) × (Nat → Nat)) (bs : Nat) (mm : Mm) (out : Int32) (m1 : Mm) (hf : f_X11_rule mm = some (out, m1)) : Mw l D dA zz bs LY yX11_rule cX11_rule 2 (some .int) 242 5445 [.ref (bs + 0)] mm (some (.int out)) m1 := by
  refine Mw.of (own := RX11) (by decide) rfl (Nat.le_of_ble_eq_true rfl) ?_
  intro p e s m args below meth c X hr0 hP hS ls hl
  have hx := X.1
  have hb := X.2.1
  obtain ⟨H, hH⟩ : ∃ z : Heap, z = s.heap := ⟨_, rfl⟩
  obtain ⟨locs, hL⟩ : ∃ z : List Loc, z = [] := ⟨_, rfl⟩
  rw [← hH, ← hL]
  have hS : va_S (Aq bs) s.heap H locs := by rw [hH, hL]; exact hS
  have hP : Wd D dA bs LY mm H := by rw [hH]; exact hP
  have hl : lv_has ls 2 [(0, .ref (bs + 0))] := hl
  unfold f_X11_rule at hf
  refine lv_aload_n hx hb dX11_rule_0 rfl (lv_at hl 0 rfl) ?_
  refine wd_getI X hP L0 fl_X11_132 rfl dX11_rule_1 ?_
  refine lv_bipush (v := 6) hx hb dX11_rule_4 (by decide) ?_
  refine lv_icmp_lt (tgt := 11) hx hb dX11_rule_6 (by decide) (fun c_1 => ?_) (fun c_1 => ?_)
  · have hf := itT hf c_1
    refine lv_aload_n hx hb dX11_rule_11 rfl (lv_at hl 0 rfl) ?_
    refine wd_getR (q := 19) X hP L0 fl_X11_28 rfl dX11_rule_12 ?_
    obtain ⟨r_4, mm_2, hc_3, hf⟩ := bi2S hf
    refine wd_cv X hP hS L19 ml_X11_135 ⟨_, _, rfl⟩ (c_X8_read l D dA zz bs mm r_4 mm_2 hc_3) rfl ⟨Nat.le_of_ble_eq_true rfl, Nat.le_of_ble_eq_true rfl⟩ hl.1 rfl (rest := []) (Nat.le_of_ble_eq_true rfl) ⟨Nat.zero_le _, Nat.zero_le _⟩ dX11_rule_15 (fun H locs hP hS => ?_)
    refine W.eq (g2 := F0 m 18 ls [.int r_4]) rfl ?_
    refine lv_istore_n (lv' := [(1, .int r_4), (0, .ref (bs + 0))]) hx hb dX11_rule_18 rfl hl (by decide) rfl (fun ls hl => ?_)
    refine lv_aload_n hx hb dX11_rule_19 rfl (lv_at hl 1 rfl) ?_
    refine wd_getR (q := 1) X hP L0 fl_X11_12 rfl dX11_rule_20 ?_
    refine lv_iconst (v := 0) hx hb dX11_rule_23 (by decide) ?_
    refine wd_putI X hP hS L1 fp_X11_106 rfl dX11_rule_24 (fun H locs mm_5 emm_5 hP hS => ?_)
    have hf := vl hf emm_5
    refine lv_iload_n hx hb dX11_rule_27 rfl (lv_at hl 0 rfl) ?_
    refine lv_if_ne (tgt := 42) hx hb dX11_rule_28 (by decide) (fun c_6 => ?_) (fun c_6 => ?_)
    · have hf := itF hf c_6
      refine lv_aload_n hx hb dX11_rule_42 rfl (lv_at hl 1 rfl) ?_
      refine wd_getR (q := 228) X hP L0 fl_X11_49 rfl dX11_rule_43 ?_
      refine lv_aload_n hx hb dX11_rule_46 rfl (lv_at hl 1 rfl) ?_
      refine wd_getI X hP L0 fl_X11_132 rfl dX11_rule_47 ?_
      have g_7 := gdN hf
      have hf := gdK hf
      refine wd_aald (q := 1052 + 6 * (mm_5.1 0 7).toNatClampNeg) X hP L228 rfl ⟨by decide, by decide⟩ g_7 (if_pos (Nat.not_le.mp (fun z => g_7 (Or.inr z)))) dX11_rule_50 ?_
      refine lv_aload_n hx hb dX11_rule_51 rfl (lv_at hl 1 rfl) ?_
      refine wd_getR (q := 19) X hP L0 fl_X11_28 rfl dX11_rule_52 ?_
      refine wd_getR (q := 20) X hP L19 fl_X11_136 rfl dX11_rule_55 ?_
      obtain ⟨mm_8, hc_9, hf⟩ := bi1S hf
      refine wd_cv X hP hS (isRule.a0 (isRules _ (Nat.not_le.mp (fun z => g_7 (Or.inr z))))) ml_X11_140 ⟨_, _, rfl⟩ (c_X7_copyFrom l D dA zz bs mm_5 (1052 + 6 * (mm_5.1 0 7).toNatClampNeg) (isRules _ (Nat.not_le.mp (fun z => g_7 (Or.inr z)))) mm_8 hc_9) rfl ⟨Nat.le_of_ble_eq_true rfl, Nat.le_of_ble_eq_true rfl⟩ hl.1 rfl (rest := []) (Nat.le_of_ble_eq_true rfl) ⟨Nat.zero_le _, Nat.zero_le _⟩ dX11_rule_58 (fun H locs hP hS => ?_)
      refine W.eq (g2 := F0 m 61 ls []) rfl ?_
      refine lv_aload_n hx hb dX11_rule_61 rfl (lv_at hl 1 rfl) ?_
      refine lv_dup hx hb dX11_rule_62 rfl ?_
      refine wd_getI X hP L0 fl_X11_132 rfl dX11_rule_63 ?_
      refine lv_iconst (v := 1) hx hb dX11_rule_66 (by decide) ?_
      refine lv_iadd hx hb dX11_rule_67 ?_
      refine wd_putI X hP hS L0 fp_X11_132 rfl dX11_rule_68 (fun H locs mm_10 emm_10 hP hS => ?_)
      have hf := vl hf emm_10
      refine lv_aload_n hx hb dX11_rule_71 rfl (lv_at hl 1 rfl) ?_
      refine wd_getI X hP L0 fl_X11_132 rfl dX11_rule_72 ?_
      refine lv_iconst (v := 1) hx hb dX11_rule_75 (by decide) ?_
      refine lv_isub hx hb dX11_rule_76 ?_
      obtain ⟨rfl, rfl⟩ := Prod.mk.inj (Option.some.inj hf)
      exact wd_iret X hP hS hr0 dX11_rule_77 ⟨rfl, rfl⟩
    · have hf := itT hf c_6
      refine lv_bipush (v := -2) hx hb dX11_rule_31 (by decide) ?_
      refine lv_aload_n hx hb dX11_rule_33 rfl (lv_at hl 1 rfl) ?_
      refine wd_getR (q := 1) X hP L0 fl_X11_12 rfl dX11_rule_34 ?_
      refine wd_getI X hP L1 fl_X11_118 rfl dX11_rule_37 ?_
      refine lv_isub hx hb dX11_rule_40 ?_
      obtain ⟨rfl, rfl⟩ := Prod.mk.inj (Option.some.inj hf)
      exact wd_iret X hP hS hr0 dX11_rule_41 ⟨rfl, rfl⟩
  · have hf := itF hf c_1
    refine lv_iconst (v := -1) hx hb dX11_rule_9 (by decide) ?_
    obtain ⟨rfl, rfl⟩ := Prod.mk.inj (Option.some.inj hf)
    exact wd_iret X hP hS hr0 dX11_rule_10 ⟨rfl, rfl⟩

noncomputable def f_X11_owner (mm : Mm) (x1 : Int32) (x2 : Int32) : Option (Int32 × Mm) :=
  if x1 < 0 then
    some ((-1 : Int32), mm)
  else
    if x1 < (mm.1 27 1) then
      if x2 = 0 then
        if x1 < 0 ∨ 6 ≤ x1.toNatClampNeg then none else some ((mm.1 28 x1.toNatClampNeg), mm)
      else if x2 = 1 then
        if x1 < 0 ∨ 6 ≤ x1.toNatClampNeg then none else some ((mm.1 29 x1.toNatClampNeg), mm)
      else if x2 = 2 then
        if x1 < 0 ∨ 6 ≤ x1.toNatClampNeg then none else some ((mm.1 34 x1.toNatClampNeg), mm)
      else if x2 = 3 then
        bi1 (f_X2_find mm 33 27 (0 : Int32)) fun mm_10 =>
          if x1 < 0 ∨ 6 ≤ x1.toNatClampNeg then none else
            bi1 (f_X11_leastOf mm_10 (mm_10.1 231 x1.toNatClampNeg)) fun r_14 => some (r_14, mm_10)
      else
        some ((-1 : Int32), mm)
    else
      some ((-1 : Int32), mm)
set_option maxHeartbeats 4000000 in
set_option maxRecDepth 100000 in
theorem c_X11_owner (l : Launch) (D : va_G) (dA : Nat → ClassId) (zz : (Nat → Nat) × (Nat → Nat)) (bs : Nat) (mm : Mm) (x1 : Int32) (x2 : Int32) (out : Int32) (m1 : Mm) (hf : f_X11_owner mm x1 x2 = some (out, m1)) : Mw l D dA zz bs LY yX11_owner cX11_owner 3 (some .int) 4 92 [.ref (bs + 0), .int x1, .int x2] mm (some (.int out)) m1 := by
  refine Mw.of (own := RX11) (by decide) rfl (Nat.le_of_ble_eq_true rfl) ?_
  intro p e s m args below meth c X hr0 hP hS ls hl
  have hx := X.1
  have hb := X.2.1
  obtain ⟨H, hH⟩ : ∃ z : Heap, z = s.heap := ⟨_, rfl⟩
  obtain ⟨locs, hL⟩ : ∃ z : List Loc, z = [] := ⟨_, rfl⟩
  rw [← hH, ← hL]
  have hS : va_S (Aq bs) s.heap H locs := by rw [hH, hL]; exact hS
  have hP : Wd D dA bs LY mm H := by rw [hH]; exact hP
  have hl : lv_has ls 3 [(0, .ref (bs + 0)), (1, .int x1), (2, .int x2)] := hl
  unfold f_X11_owner at hf
  refine lv_iload_n hx hb dX11_owner_0 rfl (lv_at hl 1 rfl) ?_
  refine lv_if_lt (tgt := 18) hx hb dX11_owner_1 (by decide) (fun c_1 => ?_) (fun c_1 => ?_)
  · have hf := itT hf c_1
    refine lv_iconst (v := -1) hx hb dX11_owner_18 (by decide) ?_
    obtain ⟨rfl, rfl⟩ := Prod.mk.inj (Option.some.inj hf)
    exact wd_iret X hP hS hr0 dX11_owner_19 ⟨rfl, rfl⟩
  · have hf := itF hf c_1
    refine lv_iload_n hx hb dX11_owner_4 rfl (lv_at hl 1 rfl) ?_
    refine lv_aload_n hx hb dX11_owner_5 rfl (lv_at hl 0 rfl) ?_
    refine wd_getR (q := 26) X hP L0 fl_X11_35 rfl dX11_owner_6 ?_
    refine wd_getR (q := 27) X hP (isState.a0 S26) fl_X11_91 rfl dX11_owner_9 ?_
    refine wd_getI X hP (isRiver.a0 V27) fl_X11_144 rfl dX11_owner_12 ?_
    refine lv_icmp_lt (tgt := 20) hx hb dX11_owner_15 (by decide) (fun c_2 => ?_) (fun c_2 => ?_)
    · have hf := itT hf c_2
      refine lv_iload_n hx hb dX11_owner_20 rfl (lv_at hl 2 rfl) ?_
      by_cases c_3 : x2 = 0
      · have hf := itT hf c_3
        refine lv_tableIn (tgt := 52) (off := 31) hx hb dX11_owner_21 (by rw [c_3]; decide) (by rw [c_3]; decide) (by rw [c_3]; decide) (by decide) ?_
        refine lv_aload_n hx hb dX11_owner_52 rfl (lv_at hl 0 rfl) ?_
        refine wd_getR (q := 26) X hP L0 fl_X11_35 rfl dX11_owner_53 ?_
        refine wd_getR (q := 27) X hP (isState.a0 S26) fl_X11_91 rfl dX11_owner_56 ?_
        refine wd_getR (q := 28) X hP (isRiver.a0 V27) fl_X11_147 rfl dX11_owner_59 ?_
        refine lv_iload_n hx hb dX11_owner_62 rfl (lv_at hl 1 rfl) ?_
        have g_4 := gdN hf
        have hf := gdK hf
        refine wd_iald X hP (isRiver.a1 V27) g_4 dX11_owner_63 ?_
        obtain ⟨rfl, rfl⟩ := Prod.mk.inj (Option.some.inj hf)
        exact wd_iret X hP hS hr0 dX11_owner_64 ⟨rfl, rfl⟩
      · have hf := itF hf c_3
        by_cases c_5 : x2 = 1
        · have hf := itT hf c_5
          refine lv_tableIn (tgt := 65) (off := 44) hx hb dX11_owner_21 (by rw [c_5]; decide) (by rw [c_5]; decide) (by rw [c_5]; decide) (by decide) ?_
          refine lv_aload_n hx hb dX11_owner_65 rfl (lv_at hl 0 rfl) ?_
          refine wd_getR (q := 26) X hP L0 fl_X11_35 rfl dX11_owner_66 ?_
          refine wd_getR (q := 27) X hP (isState.a0 S26) fl_X11_91 rfl dX11_owner_69 ?_
          refine wd_getR (q := 29) X hP (isRiver.a0 V27) fl_X11_150 rfl dX11_owner_72 ?_
          refine lv_iload_n hx hb dX11_owner_75 rfl (lv_at hl 1 rfl) ?_
          have g_6 := gdN hf
          have hf := gdK hf
          refine wd_iald X hP (isRiver.a2 V27) g_6 dX11_owner_76 ?_
          obtain ⟨rfl, rfl⟩ := Prod.mk.inj (Option.some.inj hf)
          exact wd_iret X hP hS hr0 dX11_owner_77 ⟨rfl, rfl⟩
        · have hf := itF hf c_5
          by_cases c_7 : x2 = 2
          · have hf := itT hf c_7
            refine lv_tableIn (tgt := 78) (off := 57) hx hb dX11_owner_21 (by rw [c_7]; decide) (by rw [c_7]; decide) (by rw [c_7]; decide) (by decide) ?_
            refine lv_aload_n hx hb dX11_owner_78 rfl (lv_at hl 0 rfl) ?_
            refine wd_getR (q := 26) X hP L0 fl_X11_35 rfl dX11_owner_79 ?_
            refine wd_getR (q := 33) X hP (isState.a0 S26) fl_X11_71 rfl dX11_owner_82 ?_
            refine wd_getR (q := 34) X hP (isRaft.a0 R33) fl_X11_153 rfl dX11_owner_85 ?_
            refine lv_iload_n hx hb dX11_owner_88 rfl (lv_at hl 1 rfl) ?_
            have g_8 := gdN hf
            have hf := gdK hf
            refine wd_iald X hP (isRaft.a1 R33) g_8 dX11_owner_89 ?_
            obtain ⟨rfl, rfl⟩ := Prod.mk.inj (Option.some.inj hf)
            exact wd_iret X hP hS hr0 dX11_owner_90 ⟨rfl, rfl⟩
          · have hf := itF hf c_7
            by_cases c_9 : x2 = 3
            · have hf := itT hf c_9
              refine lv_tableIn (tgt := 91) (off := 70) hx hb dX11_owner_21 (by rw [c_9]; decide) (by rw [c_9]; decide) (by rw [c_9]; decide) (by decide) ?_
              refine lv_aload_n hx hb dX11_owner_91 rfl (lv_at hl 0 rfl) ?_
              refine wd_getR (q := 229) X hP L0 fl_X11_56 rfl dX11_owner_92 ?_
              refine lv_aload_n hx hb dX11_owner_95 rfl (lv_at hl 0 rfl) ?_
              refine wd_getR (q := 26) X hP L0 fl_X11_35 rfl dX11_owner_96 ?_
              refine wd_getR (q := 33) X hP (isState.a0 S26) fl_X11_71 rfl dX11_owner_99 ?_
              refine lv_iconst (v := 0) hx hb dX11_owner_102 (by decide) ?_
              obtain ⟨mm_10, hc_11, hf⟩ := bi1S hf
              refine wd_cv X hP hS L229 ml_X11_156 ⟨_, _, rfl⟩ (c_X2_find l D dA zz bs mm 33 27 R33 (0 : Int32) mm_10 hc_11) rfl ⟨Nat.le_of_ble_eq_true rfl, Nat.le_of_ble_eq_true rfl⟩ hl.1 rfl (rest := []) (Nat.le_of_ble_eq_true rfl) ⟨Nat.zero_le _, Nat.zero_le _⟩ dX11_owner_103 (fun H locs hP hS => ?_)
              refine W.eq (g2 := F0 m 106 ls []) rfl ?_
              refine lv_aload_n hx hb dX11_owner_106 rfl (lv_at hl 0 rfl) ?_
              refine wd_getR (q := 229) X hP L0 fl_X11_56 rfl dX11_owner_107 ?_
              refine wd_getR (q := 231) X hP L229 fl_X11_160 rfl dX11_owner_110 ?_
              refine lv_iload_n hx hb dX11_owner_113 rfl (lv_at hl 1 rfl) ?_
              have g_12 := gdN hf
              have hf := gdK hf
              refine wd_iald X hP L231 g_12 dX11_owner_114 ?_
              obtain ⟨r_14, hc_13, hf⟩ := bi1S hf
              refine wd_cs X hP hS ml_X11_163 (c_X11_leastOf l D dA zz bs mm_10 (mm_10.1 231 x1.toNatClampNeg) r_14 hc_13) rfl ⟨Nat.le_of_ble_eq_true rfl, Nat.le_of_ble_eq_true rfl⟩ hl.1 rfl (rest := []) (Nat.le_of_ble_eq_true rfl) ⟨Nat.zero_le _, Nat.zero_le _⟩ dX11_owner_115 (fun H locs hP hS => ?_)
              refine W.eq (g2 := F0 m 118 ls [.int r_14]) rfl ?_
              obtain ⟨rfl, rfl⟩ := Prod.mk.inj (Option.some.inj hf)
              exact wd_iret X hP hS hr0 dX11_owner_118 ⟨rfl, rfl⟩
            · have hf := itF hf c_9
              refine lv_tableOut (tgt := 119) hx hb dX11_owner_21 (tb_out4 c_3 c_5 c_7 c_9) (by decide) ?_
              refine lv_iconst (v := -1) hx hb dX11_owner_119 (by decide) ?_
              obtain ⟨rfl, rfl⟩ := Prod.mk.inj (Option.some.inj hf)
              exact wd_iret X hP hS hr0 dX11_owner_120 ⟨rfl, rfl⟩
    · have hf := itF hf c_2
      refine lv_iconst (v := -1) hx hb dX11_owner_18 (by decide) ?_
      obtain ⟨rfl, rfl⟩ := Prod.mk.inj (Option.some.inj hf)
      exact wd_iret X hP hS hr0 dX11_owner_19 ⟨rfl, rfl⟩

noncomputable def f_X11_thing (mm : Mm) (x1 : Int32) (x2 : Int32) : Option (Int32 × Mm) :=
  if x1 < 0 then
    some ((-1 : Int32), mm)
  else
    if x1 < (mm.1 27 2) then
      if x2 = 0 then
        if x1 < 0 ∨ 8 ≤ x1.toNatClampNeg then none else some ((mm.1 35 x1.toNatClampNeg), mm)
      else if x2 = 1 then
        if x1 < 0 ∨ 8 ≤ x1.toNatClampNeg then none else some ((mm.1 30 x1.toNatClampNeg), mm)
      else if x2 = 2 then
        if x1 < 0 ∨ 8 ≤ x1.toNatClampNeg then none else some ((mm.1 36 x1.toNatClampNeg), mm)
      else if x2 = 3 then
        if x1 < 0 ∨ 8 ≤ x1.toNatClampNeg then none else some ((mm.1 31 x1.toNatClampNeg), mm)
      else if x2 = 4 then
        if x1 < 0 ∨ 8 ≤ x1.toNatClampNeg then none else some ((mm.1 37 x1.toNatClampNeg), mm)
      else if x2 = 5 then
        bi1 (f_X2_join mm 33 27 (0 : Int32)) fun mm_14 =>
          if x1 < 0 ∨ 8 ≤ x1.toNatClampNeg then none else some ((mm_14.1 230 x1.toNatClampNeg), mm_14)
      else
        some ((-1 : Int32), mm)
    else
      some ((-1 : Int32), mm)
set_option maxHeartbeats 4000000 in
set_option maxRecDepth 100000 in
theorem c_X11_thing (l : Launch) (D : va_G) (dA : Nat → ClassId) (zz : (Nat → Nat) × (Nat → Nat)) (bs : Nat) (mm : Mm) (x1 : Int32) (x2 : Int32) (out : Int32) (m1 : Mm) (hf : f_X11_thing mm x1 x2 = some (out, m1)) : Mw l D dA zz bs LY yX11_thing cX11_thing 3 (some .int) 3 68 [.ref (bs + 0), .int x1, .int x2] mm (some (.int out)) m1 := by
  refine Mw.of (own := RX11) (by decide) rfl (Nat.le_of_ble_eq_true rfl) ?_
  intro p e s m args below meth c X hr0 hP hS ls hl
  have hx := X.1
  have hb := X.2.1
  obtain ⟨H, hH⟩ : ∃ z : Heap, z = s.heap := ⟨_, rfl⟩
  obtain ⟨locs, hL⟩ : ∃ z : List Loc, z = [] := ⟨_, rfl⟩
  rw [← hH, ← hL]
  have hS : va_S (Aq bs) s.heap H locs := by rw [hH, hL]; exact hS
  have hP : Wd D dA bs LY mm H := by rw [hH]; exact hP
  have hl : lv_has ls 3 [(0, .ref (bs + 0)), (1, .int x1), (2, .int x2)] := hl
  unfold f_X11_thing at hf
  refine lv_iload_n hx hb dX11_thing_0 rfl (lv_at hl 1 rfl) ?_
  refine lv_if_lt (tgt := 18) hx hb dX11_thing_1 (by decide) (fun c_1 => ?_) (fun c_1 => ?_)
  · have hf := itT hf c_1
    refine lv_iconst (v := -1) hx hb dX11_thing_18 (by decide) ?_
    obtain ⟨rfl, rfl⟩ := Prod.mk.inj (Option.some.inj hf)
    exact wd_iret X hP hS hr0 dX11_thing_19 ⟨rfl, rfl⟩
  · have hf := itF hf c_1
    refine lv_iload_n hx hb dX11_thing_4 rfl (lv_at hl 1 rfl) ?_
    refine lv_aload_n hx hb dX11_thing_5 rfl (lv_at hl 0 rfl) ?_
    refine wd_getR (q := 26) X hP L0 fl_X11_35 rfl dX11_thing_6 ?_
    refine wd_getR (q := 27) X hP (isState.a0 S26) fl_X11_91 rfl dX11_thing_9 ?_
    refine wd_getI X hP (isRiver.a0 V27) fl_X11_127 rfl dX11_thing_12 ?_
    refine lv_icmp_lt (tgt := 20) hx hb dX11_thing_15 (by decide) (fun c_2 => ?_) (fun c_2 => ?_)
    · have hf := itT hf c_2
      refine lv_iload_n hx hb dX11_thing_20 rfl (lv_at hl 2 rfl) ?_
      by_cases c_3 : x2 = 0
      · have hf := itT hf c_3
        refine lv_tableIn (tgt := 60) (off := 39) hx hb dX11_thing_21 (by rw [c_3]; decide) (by rw [c_3]; decide) (by rw [c_3]; decide) (by decide) ?_
        refine lv_aload_n hx hb dX11_thing_60 rfl (lv_at hl 0 rfl) ?_
        refine wd_getR (q := 26) X hP L0 fl_X11_35 rfl dX11_thing_61 ?_
        refine wd_getR (q := 33) X hP (isState.a0 S26) fl_X11_71 rfl dX11_thing_64 ?_
        refine wd_getR (q := 35) X hP (isRaft.a0 R33) fl_X11_167 rfl dX11_thing_67 ?_
        refine lv_iload_n hx hb dX11_thing_70 rfl (lv_at hl 1 rfl) ?_
        have g_4 := gdN hf
        have hf := gdK hf
        refine wd_iald X hP (isRaft.a2 R33) g_4 dX11_thing_71 ?_
        obtain ⟨rfl, rfl⟩ := Prod.mk.inj (Option.some.inj hf)
        exact wd_iret X hP hS hr0 dX11_thing_72 ⟨rfl, rfl⟩
      · have hf := itF hf c_3
        by_cases c_5 : x2 = 1
        · have hf := itT hf c_5
          refine lv_tableIn (tgt := 73) (off := 52) hx hb dX11_thing_21 (by rw [c_5]; decide) (by rw [c_5]; decide) (by rw [c_5]; decide) (by decide) ?_
          refine lv_aload_n hx hb dX11_thing_73 rfl (lv_at hl 0 rfl) ?_
          refine wd_getR (q := 26) X hP L0 fl_X11_35 rfl dX11_thing_74 ?_
          refine wd_getR (q := 27) X hP (isState.a0 S26) fl_X11_91 rfl dX11_thing_77 ?_
          refine wd_getR (q := 30) X hP (isRiver.a0 V27) fl_X11_170 rfl dX11_thing_80 ?_
          refine lv_iload_n hx hb dX11_thing_83 rfl (lv_at hl 1 rfl) ?_
          have g_6 := gdN hf
          have hf := gdK hf
          refine wd_iald X hP (isRiver.a3 V27) g_6 dX11_thing_84 ?_
          obtain ⟨rfl, rfl⟩ := Prod.mk.inj (Option.some.inj hf)
          exact wd_iret X hP hS hr0 dX11_thing_85 ⟨rfl, rfl⟩
        · have hf := itF hf c_5
          by_cases c_7 : x2 = 2
          · have hf := itT hf c_7
            refine lv_tableIn (tgt := 86) (off := 65) hx hb dX11_thing_21 (by rw [c_7]; decide) (by rw [c_7]; decide) (by rw [c_7]; decide) (by decide) ?_
            refine lv_aload_n hx hb dX11_thing_86 rfl (lv_at hl 0 rfl) ?_
            refine wd_getR (q := 26) X hP L0 fl_X11_35 rfl dX11_thing_87 ?_
            refine wd_getR (q := 33) X hP (isState.a0 S26) fl_X11_71 rfl dX11_thing_90 ?_
            refine wd_getR (q := 36) X hP (isRaft.a0 R33) fl_X11_173 rfl dX11_thing_93 ?_
            refine lv_iload_n hx hb dX11_thing_96 rfl (lv_at hl 1 rfl) ?_
            have g_8 := gdN hf
            have hf := gdK hf
            refine wd_iald X hP (isRaft.a3 R33) g_8 dX11_thing_97 ?_
            obtain ⟨rfl, rfl⟩ := Prod.mk.inj (Option.some.inj hf)
            exact wd_iret X hP hS hr0 dX11_thing_98 ⟨rfl, rfl⟩
          · have hf := itF hf c_7
            by_cases c_9 : x2 = 3
            · have hf := itT hf c_9
              refine lv_tableIn (tgt := 99) (off := 78) hx hb dX11_thing_21 (by rw [c_9]; decide) (by rw [c_9]; decide) (by rw [c_9]; decide) (by decide) ?_
              refine lv_aload_n hx hb dX11_thing_99 rfl (lv_at hl 0 rfl) ?_
              refine wd_getR (q := 26) X hP L0 fl_X11_35 rfl dX11_thing_100 ?_
              refine wd_getR (q := 27) X hP (isState.a0 S26) fl_X11_91 rfl dX11_thing_103 ?_
              refine wd_getR (q := 31) X hP (isRiver.a0 V27) fl_X11_176 rfl dX11_thing_106 ?_
              refine lv_iload_n hx hb dX11_thing_109 rfl (lv_at hl 1 rfl) ?_
              have g_10 := gdN hf
              have hf := gdK hf
              refine wd_iald X hP (isRiver.a4 V27) g_10 dX11_thing_110 ?_
              obtain ⟨rfl, rfl⟩ := Prod.mk.inj (Option.some.inj hf)
              exact wd_iret X hP hS hr0 dX11_thing_111 ⟨rfl, rfl⟩
            · have hf := itF hf c_9
              by_cases c_11 : x2 = 4
              · have hf := itT hf c_11
                refine lv_tableIn (tgt := 112) (off := 91) hx hb dX11_thing_21 (by rw [c_11]; decide) (by rw [c_11]; decide) (by rw [c_11]; decide) (by decide) ?_
                refine lv_aload_n hx hb dX11_thing_112 rfl (lv_at hl 0 rfl) ?_
                refine wd_getR (q := 26) X hP L0 fl_X11_35 rfl dX11_thing_113 ?_
                refine wd_getR (q := 33) X hP (isState.a0 S26) fl_X11_71 rfl dX11_thing_116 ?_
                refine wd_getR (q := 37) X hP (isRaft.a0 R33) fl_X11_179 rfl dX11_thing_119 ?_
                refine lv_iload_n hx hb dX11_thing_122 rfl (lv_at hl 1 rfl) ?_
                have g_12 := gdN hf
                have hf := gdK hf
                refine wd_iald X hP (isRaft.a4 R33) g_12 dX11_thing_123 ?_
                obtain ⟨rfl, rfl⟩ := Prod.mk.inj (Option.some.inj hf)
                exact wd_iret X hP hS hr0 dX11_thing_124 ⟨rfl, rfl⟩
              · have hf := itF hf c_11
                by_cases c_13 : x2 = 5
                · have hf := itT hf c_13
                  refine lv_tableIn (tgt := 125) (off := 104) hx hb dX11_thing_21 (by rw [c_13]; decide) (by rw [c_13]; decide) (by rw [c_13]; decide) (by decide) ?_
                  refine lv_aload_n hx hb dX11_thing_125 rfl (lv_at hl 0 rfl) ?_
                  refine wd_getR (q := 229) X hP L0 fl_X11_56 rfl dX11_thing_126 ?_
                  refine lv_aload_n hx hb dX11_thing_129 rfl (lv_at hl 0 rfl) ?_
                  refine wd_getR (q := 26) X hP L0 fl_X11_35 rfl dX11_thing_130 ?_
                  refine wd_getR (q := 33) X hP (isState.a0 S26) fl_X11_71 rfl dX11_thing_133 ?_
                  refine lv_iconst (v := 0) hx hb dX11_thing_136 (by decide) ?_
                  obtain ⟨mm_14, hc_15, hf⟩ := bi1S hf
                  refine wd_cv X hP hS L229 ml_X11_182 ⟨_, _, rfl⟩ (c_X2_join l D dA zz bs mm 33 27 R33 (0 : Int32) mm_14 hc_15) rfl ⟨Nat.le_of_ble_eq_true rfl, Nat.le_of_ble_eq_true rfl⟩ hl.1 rfl (rest := []) (Nat.le_of_ble_eq_true rfl) ⟨Nat.zero_le _, Nat.zero_le _⟩ dX11_thing_137 (fun H locs hP hS => ?_)
                  refine W.eq (g2 := F0 m 140 ls []) rfl ?_
                  refine lv_aload_n hx hb dX11_thing_140 rfl (lv_at hl 0 rfl) ?_
                  refine wd_getR (q := 229) X hP L0 fl_X11_56 rfl dX11_thing_141 ?_
                  refine wd_getR (q := 230) X hP L229 fl_X11_185 rfl dX11_thing_144 ?_
                  refine lv_iload_n hx hb dX11_thing_147 rfl (lv_at hl 1 rfl) ?_
                  have g_16 := gdN hf
                  have hf := gdK hf
                  refine wd_iald X hP L230 g_16 dX11_thing_148 ?_
                  obtain ⟨rfl, rfl⟩ := Prod.mk.inj (Option.some.inj hf)
                  exact wd_iret X hP hS hr0 dX11_thing_149 ⟨rfl, rfl⟩
                · have hf := itF hf c_13
                  refine lv_tableOut (tgt := 150) hx hb dX11_thing_21 (tb_out6 c_3 c_5 c_7 c_9 c_11 c_13) (by decide) ?_
                  refine lv_iconst (v := -1) hx hb dX11_thing_150 (by decide) ?_
                  obtain ⟨rfl, rfl⟩ := Prod.mk.inj (Option.some.inj hf)
                  exact wd_iret X hP hS hr0 dX11_thing_151 ⟨rfl, rfl⟩
    · have hf := itF hf c_2
      refine lv_iconst (v := -1) hx hb dX11_thing_18 (by decide) ?_
      obtain ⟨rfl, rfl⟩ := Prod.mk.inj (Option.some.inj hf)
      exact wd_iret X hP hS hr0 dX11_thing_19 ⟨rfl, rfl⟩

noncomputable def f_X11_rope (mm : Mm) (x1 : Int32) (x2 : Int32) : Option (Int32) :=
  if x1 < 0 then
    some (-1 : Int32)
  else
    if x1 < (mm.1 33 3) then
      if x2 = 0 then
        if x1 < 0 ∨ 12 ≤ x1.toNatClampNeg then none else some (mm.1 39 x1.toNatClampNeg)
      else if x2 = 1 then
        if x1 < 0 ∨ 12 ≤ x1.toNatClampNeg then none else some (mm.1 40 x1.toNatClampNeg)
      else if x2 = 2 then
        if x1 < 0 ∨ 12 ≤ x1.toNatClampNeg then none else some (mm.1 41 x1.toNatClampNeg)
      else
        some (-1 : Int32)
    else
      some (-1 : Int32)
set_option maxHeartbeats 4000000 in
set_option maxRecDepth 100000 in
theorem c_X11_rope (l : Launch) (D : va_G) (dA : Nat → ClassId) (zz : (Nat → Nat) × (Nat → Nat)) (bs : Nat) (mm : Mm) (x1 : Int32) (x2 : Int32) (out : Int32) (hf : f_X11_rope mm x1 x2 = some out) : Mw l D dA zz bs LY yX11_rope cX11_rope 3 (some .int) 0 0 [.ref (bs + 0), .int x1, .int x2] mm (some (.int out)) mm := by
  refine Mw.of (own := RX11) (by decide) rfl (Nat.le_of_ble_eq_true rfl) ?_
  intro p e s m args below meth c X hr0 hP hS ls hl
  have hx := X.1
  have hb := X.2.1
  obtain ⟨H, hH⟩ : ∃ z : Heap, z = s.heap := ⟨_, rfl⟩
  obtain ⟨locs, hL⟩ : ∃ z : List Loc, z = [] := ⟨_, rfl⟩
  rw [← hH, ← hL]
  have hS : va_S (Aq bs) s.heap H locs := by rw [hH, hL]; exact hS
  have hP : Wd D dA bs LY mm H := by rw [hH]; exact hP
  have hl : lv_has ls 3 [(0, .ref (bs + 0)), (1, .int x1), (2, .int x2)] := hl
  unfold f_X11_rope at hf
  refine lv_iload_n hx hb dX11_rope_0 rfl (lv_at hl 1 rfl) ?_
  refine lv_if_lt (tgt := 18) hx hb dX11_rope_1 (by decide) (fun c_1 => ?_) (fun c_1 => ?_)
  · have hf := itT hf c_1
    refine lv_iconst (v := -1) hx hb dX11_rope_18 (by decide) ?_
    obtain rfl := Option.some.inj hf
    exact wd_iret X hP hS hr0 dX11_rope_19 ⟨rfl, rfl⟩
  · have hf := itF hf c_1
    refine lv_iload_n hx hb dX11_rope_4 rfl (lv_at hl 1 rfl) ?_
    refine lv_aload_n hx hb dX11_rope_5 rfl (lv_at hl 0 rfl) ?_
    refine wd_getR (q := 26) X hP L0 fl_X11_35 rfl dX11_rope_6 ?_
    refine wd_getR (q := 33) X hP (isState.a0 S26) fl_X11_71 rfl dX11_rope_9 ?_
    refine wd_getI X hP (isRaft.a0 R33) fl_X11_188 rfl dX11_rope_12 ?_
    refine lv_icmp_lt (tgt := 20) hx hb dX11_rope_15 (by decide) (fun c_2 => ?_) (fun c_2 => ?_)
    · have hf := itT hf c_2
      refine lv_iload_n hx hb dX11_rope_20 rfl (lv_at hl 2 rfl) ?_
      by_cases c_3 : x2 = 0
      · have hf := itT hf c_3
        refine lv_tableIn (tgt := 48) (off := 27) hx hb dX11_rope_21 (by rw [c_3]; decide) (by rw [c_3]; decide) (by rw [c_3]; decide) (by decide) ?_
        refine lv_aload_n hx hb dX11_rope_48 rfl (lv_at hl 0 rfl) ?_
        refine wd_getR (q := 26) X hP L0 fl_X11_35 rfl dX11_rope_49 ?_
        refine wd_getR (q := 33) X hP (isState.a0 S26) fl_X11_71 rfl dX11_rope_52 ?_
        refine wd_getR (q := 39) X hP (isRaft.a0 R33) fl_X11_191 rfl dX11_rope_55 ?_
        refine lv_iload_n hx hb dX11_rope_58 rfl (lv_at hl 1 rfl) ?_
        have g_4 := gdN hf
        have hf := gdK hf
        refine wd_iald X hP (isRaft.a6 R33) g_4 dX11_rope_59 ?_
        obtain rfl := Option.some.inj hf
        exact wd_iret X hP hS hr0 dX11_rope_60 ⟨rfl, rfl⟩
      · have hf := itF hf c_3
        by_cases c_5 : x2 = 1
        · have hf := itT hf c_5
          refine lv_tableIn (tgt := 61) (off := 40) hx hb dX11_rope_21 (by rw [c_5]; decide) (by rw [c_5]; decide) (by rw [c_5]; decide) (by decide) ?_
          refine lv_aload_n hx hb dX11_rope_61 rfl (lv_at hl 0 rfl) ?_
          refine wd_getR (q := 26) X hP L0 fl_X11_35 rfl dX11_rope_62 ?_
          refine wd_getR (q := 33) X hP (isState.a0 S26) fl_X11_71 rfl dX11_rope_65 ?_
          refine wd_getR (q := 40) X hP (isRaft.a0 R33) fl_X11_194 rfl dX11_rope_68 ?_
          refine lv_iload_n hx hb dX11_rope_71 rfl (lv_at hl 1 rfl) ?_
          have g_6 := gdN hf
          have hf := gdK hf
          refine wd_iald X hP (isRaft.a7 R33) g_6 dX11_rope_72 ?_
          obtain rfl := Option.some.inj hf
          exact wd_iret X hP hS hr0 dX11_rope_73 ⟨rfl, rfl⟩
        · have hf := itF hf c_5
          by_cases c_7 : x2 = 2
          · have hf := itT hf c_7
            refine lv_tableIn (tgt := 74) (off := 53) hx hb dX11_rope_21 (by rw [c_7]; decide) (by rw [c_7]; decide) (by rw [c_7]; decide) (by decide) ?_
            refine lv_aload_n hx hb dX11_rope_74 rfl (lv_at hl 0 rfl) ?_
            refine wd_getR (q := 26) X hP L0 fl_X11_35 rfl dX11_rope_75 ?_
            refine wd_getR (q := 33) X hP (isState.a0 S26) fl_X11_71 rfl dX11_rope_78 ?_
            refine wd_getR (q := 41) X hP (isRaft.a0 R33) fl_X11_197 rfl dX11_rope_81 ?_
            refine lv_iload_n hx hb dX11_rope_84 rfl (lv_at hl 1 rfl) ?_
            have g_8 := gdN hf
            have hf := gdK hf
            refine wd_iald X hP (isRaft.a8 R33) g_8 dX11_rope_85 ?_
            obtain rfl := Option.some.inj hf
            exact wd_iret X hP hS hr0 dX11_rope_86 ⟨rfl, rfl⟩
          · have hf := itF hf c_7
            refine lv_tableOut (tgt := 87) hx hb dX11_rope_21 (tb_out3 c_3 c_5 c_7) (by decide) ?_
            refine lv_iconst (v := -1) hx hb dX11_rope_87 (by decide) ?_
            obtain rfl := Option.some.inj hf
            exact wd_iret X hP hS hr0 dX11_rope_88 ⟨rfl, rfl⟩
    · have hf := itF hf c_2
      refine lv_iconst (v := -1) hx hb dX11_rope_18 (by decide) ?_
      obtain rfl := Option.some.inj hf
      exact wd_iret X hP hS hr0 dX11_rope_19 ⟨rfl, rfl⟩

noncomputable def f_X11_hasRiver (mm : Mm) : Int32 :=
  if (mm.1 27 0) ≤ 0 then
    (0 : Int32)
  else
    (1 : Int32)
set_option maxHeartbeats 4000000 in
set_option maxRecDepth 100000 in
theorem c_X11_hasRiver (l : Launch) (D : va_G) (dA : Nat → ClassId) (zz : (Nat → Nat) × (Nat → Nat)) (bs : Nat) (mm : Mm) (out : Int32) (hf : f_X11_hasRiver mm = out) : Mw l D dA zz bs LY yX11_hasRiver cX11_hasRiver 1 (some .boolean) 0 0 [.ref (bs + 0)] mm (some (.int out)) mm := by
  refine Mw.of (own := RX11) (by decide) rfl (Nat.le_of_ble_eq_true rfl) ?_
  intro p e s m args below meth c X hr0 hP hS ls hl
  have hx := X.1
  have hb := X.2.1
  obtain ⟨H, hH⟩ : ∃ z : Heap, z = s.heap := ⟨_, rfl⟩
  obtain ⟨locs, hL⟩ : ∃ z : List Loc, z = [] := ⟨_, rfl⟩
  rw [← hH, ← hL]
  have hS : va_S (Aq bs) s.heap H locs := by rw [hH, hL]; exact hS
  have hP : Wd D dA bs LY mm H := by rw [hH]; exact hP
  have hl : lv_has ls 1 [(0, .ref (bs + 0))] := hl
  unfold f_X11_hasRiver at hf
  refine lv_aload_n hx hb dX11_hasRiver_0 rfl (lv_at hl 0 rfl) ?_
  refine wd_getR (q := 26) X hP L0 fl_X11_35 rfl dX11_hasRiver_1 ?_
  refine wd_getR (q := 27) X hP (isState.a0 S26) fl_X11_91 rfl dX11_hasRiver_4 ?_
  refine wd_getI X hP (isRiver.a0 V27) fl_X11_203 rfl dX11_hasRiver_7 ?_
  refine lv_if_le (tgt := 17) hx hb dX11_hasRiver_10 (by decide) (fun c_1 => ?_) (fun c_1 => ?_)
  · have hf := itT hf c_1
    refine lv_iconst (v := 0) hx hb dX11_hasRiver_17 (by decide) ?_
    subst hf
    exact wd_zret X hP hS hr0 (by decide) dX11_hasRiver_18 ⟨rfl, rfl⟩
  · have hf := itF hf c_1
    refine lv_iconst (v := 1) hx hb dX11_hasRiver_13 (by decide) ?_
    refine lv_goto (tgt := 18) hx hb dX11_hasRiver_14 (by decide) ?_
    subst hf
    exact wd_zret X hP hS hr0 (by decide) dX11_hasRiver_18 ⟨rfl, rfl⟩

noncomputable def f_X11_rapid (mm : Mm) (x1 : Int32) : Option (Int32) :=
  if (f_X11_hasRiver mm) = 0 then
    some (-1 : Int32)
  else
    if x1 < 0 then
      some (-1 : Int32)
    else
      if x1 ≤ (mm.1 27 0) then
        if x1 < 0 ∨ 100 ≤ x1.toNatClampNeg then none else some (mm.1 32 x1.toNatClampNeg)
      else
        some (-1 : Int32)
set_option maxHeartbeats 4000000 in
set_option maxRecDepth 100000 in
theorem c_X11_rapid (l : Launch) (D : va_G) (dA : Nat → ClassId) (zz : (Nat → Nat) × (Nat → Nat)) (bs : Nat) (mm : Mm) (x1 : Int32) (out : Int32) (hf : f_X11_rapid mm x1 = some out) : Mw l D dA zz bs LY yX11_rapid cX11_rapid 2 (some .int) 1 20 [.ref (bs + 0), .int x1] mm (some (.int out)) mm := by
  refine Mw.of (own := RX11) (by decide) rfl (Nat.le_of_ble_eq_true rfl) ?_
  intro p e s m args below meth c X hr0 hP hS ls hl
  have hx := X.1
  have hb := X.2.1
  obtain ⟨H, hH⟩ : ∃ z : Heap, z = s.heap := ⟨_, rfl⟩
  obtain ⟨locs, hL⟩ : ∃ z : List Loc, z = [] := ⟨_, rfl⟩
  rw [← hH, ← hL]
  have hS : va_S (Aq bs) s.heap H locs := by rw [hH, hL]; exact hS
  have hP : Wd D dA bs LY mm H := by rw [hH]; exact hP
  have hl : lv_has ls 2 [(0, .ref (bs + 0)), (1, .int x1)] := hl
  unfold f_X11_rapid at hf
  refine lv_aload_n hx hb dX11_rapid_0 rfl (lv_at hl 0 rfl) ?_
  refine wd_cv X hP hS L0 ml_X11_200 ⟨_, _, rfl⟩ (c_X11_hasRiver l D dA zz bs mm (f_X11_hasRiver mm) rfl) rfl ⟨Nat.le_of_ble_eq_true rfl, Nat.le_of_ble_eq_true rfl⟩ hl.1 rfl (rest := []) (Nat.le_of_ble_eq_true rfl) ⟨Nat.zero_le _, Nat.zero_le _⟩ dX11_rapid_1 (fun H locs hP hS => ?_)
  refine W.eq (g2 := F0 m 4 ls [.int (f_X11_hasRiver mm)]) rfl ?_
  refine lv_if_eq (tgt := 25) hx hb dX11_rapid_4 (by decide) (fun c_1 => ?_) (fun c_1 => ?_)
  · have hf := itT hf c_1
    refine lv_iconst (v := -1) hx hb dX11_rapid_25 (by decide) ?_
    obtain rfl := Option.some.inj hf
    exact wd_iret X hP hS hr0 dX11_rapid_26 ⟨rfl, rfl⟩
  · have hf := itF hf c_1
    refine lv_iload_n hx hb dX11_rapid_7 rfl (lv_at hl 1 rfl) ?_
    refine lv_if_lt (tgt := 25) hx hb dX11_rapid_8 (by decide) (fun c_2 => ?_) (fun c_2 => ?_)
    · have hf := itT hf c_2
      refine lv_iconst (v := -1) hx hb dX11_rapid_25 (by decide) ?_
      obtain rfl := Option.some.inj hf
      exact wd_iret X hP hS hr0 dX11_rapid_26 ⟨rfl, rfl⟩
    · have hf := itF hf c_2
      refine lv_iload_n hx hb dX11_rapid_11 rfl (lv_at hl 1 rfl) ?_
      refine lv_aload_n hx hb dX11_rapid_12 rfl (lv_at hl 0 rfl) ?_
      refine wd_getR (q := 26) X hP L0 fl_X11_35 rfl dX11_rapid_13 ?_
      refine wd_getR (q := 27) X hP (isState.a0 S26) fl_X11_91 rfl dX11_rapid_16 ?_
      refine wd_getI X hP (isRiver.a0 V27) fl_X11_203 rfl dX11_rapid_19 ?_
      refine lv_icmp_le (tgt := 27) hx hb dX11_rapid_22 (by decide) (fun c_3 => ?_) (fun c_3 => ?_)
      · have hf := itT hf c_3
        refine lv_aload_n hx hb dX11_rapid_27 rfl (lv_at hl 0 rfl) ?_
        refine wd_getR (q := 26) X hP L0 fl_X11_35 rfl dX11_rapid_28 ?_
        refine wd_getR (q := 27) X hP (isState.a0 S26) fl_X11_91 rfl dX11_rapid_31 ?_
        refine wd_getR (q := 32) X hP (isRiver.a0 V27) fl_X11_206 rfl dX11_rapid_34 ?_
        refine lv_iload_n hx hb dX11_rapid_37 rfl (lv_at hl 1 rfl) ?_
        have g_4 := gdN hf
        have hf := gdK hf
        refine wd_iald X hP (isRiver.a5 V27) g_4 dX11_rapid_38 ?_
        obtain rfl := Option.some.inj hf
        exact wd_iret X hP hS hr0 dX11_rapid_39 ⟨rfl, rfl⟩
      · have hf := itF hf c_3
        refine lv_iconst (v := -1) hx hb dX11_rapid_25 (by decide) ?_
        obtain rfl := Option.some.inj hf
        exact wd_iret X hP hS hr0 dX11_rapid_26 ⟨rfl, rfl⟩

noncomputable def f_X11_isAfloat (mm : Mm) (x1 : Int32) : Option (Int32) :=
  if x1 < 0 then
    some (0 : Int32)
  else
    if (mm.1 27 2) ≤ x1 then
      some (0 : Int32)
    else
      if x1 < 0 ∨ 8 ≤ x1.toNatClampNeg then none else
        if (mm.1 37 x1.toNatClampNeg) = 0 then
          some (1 : Int32)
        else
          some (0 : Int32)
set_option maxHeartbeats 4000000 in
set_option maxRecDepth 100000 in
theorem c_X11_isAfloat (l : Launch) (D : va_G) (dA : Nat → ClassId) (zz : (Nat → Nat) × (Nat → Nat)) (bs : Nat) (mm : Mm) (x1 : Int32) (out : Int32) (hf : f_X11_isAfloat mm x1 = some out) : Mw l D dA zz bs LY yX11_isAfloat cX11_isAfloat 2 (some .boolean) 0 0 [.ref (bs + 0), .int x1] mm (some (.int out)) mm := by
  refine Mw.of (own := RX11) (by decide) rfl (Nat.le_of_ble_eq_true rfl) ?_
  intro p e s m args below meth c X hr0 hP hS ls hl
  have hx := X.1
  have hb := X.2.1
  obtain ⟨H, hH⟩ : ∃ z : Heap, z = s.heap := ⟨_, rfl⟩
  obtain ⟨locs, hL⟩ : ∃ z : List Loc, z = [] := ⟨_, rfl⟩
  rw [← hH, ← hL]
  have hS : va_S (Aq bs) s.heap H locs := by rw [hH, hL]; exact hS
  have hP : Wd D dA bs LY mm H := by rw [hH]; exact hP
  have hl : lv_has ls 2 [(0, .ref (bs + 0)), (1, .int x1)] := hl
  unfold f_X11_isAfloat at hf
  refine lv_iload_n hx hb dX11_isAfloat_0 rfl (lv_at hl 1 rfl) ?_
  refine lv_if_lt (tgt := 37) hx hb dX11_isAfloat_1 (by decide) (fun c_1 => ?_) (fun c_1 => ?_)
  · have hf := itT hf c_1
    refine lv_iconst (v := 0) hx hb dX11_isAfloat_37 (by decide) ?_
    obtain rfl := Option.some.inj hf
    exact wd_zret X hP hS hr0 (by decide) dX11_isAfloat_38 ⟨rfl, rfl⟩
  · have hf := itF hf c_1
    refine lv_iload_n hx hb dX11_isAfloat_4 rfl (lv_at hl 1 rfl) ?_
    refine lv_aload_n hx hb dX11_isAfloat_5 rfl (lv_at hl 0 rfl) ?_
    refine wd_getR (q := 26) X hP L0 fl_X11_35 rfl dX11_isAfloat_6 ?_
    refine wd_getR (q := 27) X hP (isState.a0 S26) fl_X11_91 rfl dX11_isAfloat_9 ?_
    refine wd_getI X hP (isRiver.a0 V27) fl_X11_127 rfl dX11_isAfloat_12 ?_
    refine lv_icmp_ge (tgt := 37) hx hb dX11_isAfloat_15 (by decide) (fun c_2 => ?_) (fun c_2 => ?_)
    · have hf := itT hf c_2
      refine lv_iconst (v := 0) hx hb dX11_isAfloat_37 (by decide) ?_
      obtain rfl := Option.some.inj hf
      exact wd_zret X hP hS hr0 (by decide) dX11_isAfloat_38 ⟨rfl, rfl⟩
    · have hf := itF hf c_2
      refine lv_aload_n hx hb dX11_isAfloat_18 rfl (lv_at hl 0 rfl) ?_
      refine wd_getR (q := 26) X hP L0 fl_X11_35 rfl dX11_isAfloat_19 ?_
      refine wd_getR (q := 33) X hP (isState.a0 S26) fl_X11_71 rfl dX11_isAfloat_22 ?_
      refine wd_getR (q := 37) X hP (isRaft.a0 R33) fl_X11_179 rfl dX11_isAfloat_25 ?_
      refine lv_iload_n hx hb dX11_isAfloat_28 rfl (lv_at hl 1 rfl) ?_
      have g_3 := gdN hf
      have hf := gdK hf
      refine wd_iald X hP (isRaft.a4 R33) g_3 dX11_isAfloat_29 ?_
      refine lv_if_ne (tgt := 37) hx hb dX11_isAfloat_30 (by decide) (fun c_4 => ?_) (fun c_4 => ?_)
      · have hf := itF hf c_4
        refine lv_iconst (v := 0) hx hb dX11_isAfloat_37 (by decide) ?_
        obtain rfl := Option.some.inj hf
        exact wd_zret X hP hS hr0 (by decide) dX11_isAfloat_38 ⟨rfl, rfl⟩
      · have hf := itT hf c_4
        refine lv_iconst (v := 1) hx hb dX11_isAfloat_33 (by decide) ?_
        refine lv_goto (tgt := 38) hx hb dX11_isAfloat_34 (by decide) ?_
        obtain rfl := Option.some.inj hf
        exact wd_zret X hP hS hr0 (by decide) dX11_isAfloat_38 ⟨rfl, rfl⟩

noncomputable def f_X11_margin (mm : Mm) (x1 : Int32) : Option (Int32 × Mm) :=
  bi1 (f_X11_isAfloat mm x1) fun r_2 =>
    if r_2 = 0 then
      some ((-10000 : Int32), mm)
    else
      bi1 (f_X2_find mm 33 27 (0 : Int32)) fun mm_4 =>
        if x1 < 0 ∨ 8 ≤ x1.toNatClampNeg then none else
          bi1 (f_X2_marginOf mm_4 33 27 (mm_4.1 230 x1.toNatClampNeg)) fun r_8 => some (r_8, mm_4)
set_option maxHeartbeats 4000000 in
set_option maxRecDepth 100000 in
theorem c_X11_margin (l : Launch) (D : va_G) (dA : Nat → ClassId) (zz : (Nat → Nat) × (Nat → Nat)) (bs : Nat) (mm : Mm) (x1 : Int32) (out : Int32) (m1 : Mm) (hf : f_X11_margin mm x1 = some (out, m1)) : Mw l D dA zz bs LY yX11_margin cX11_margin 2 (some .int) 4 92 [.ref (bs + 0), .int x1] mm (some (.int out)) m1 := by
  refine Mw.of (own := RX11) (by decide) rfl (Nat.le_of_ble_eq_true rfl) ?_
  intro p e s m args below meth c X hr0 hP hS ls hl
  have hx := X.1
  have hb := X.2.1
  obtain ⟨H, hH⟩ : ∃ z : Heap, z = s.heap := ⟨_, rfl⟩
  obtain ⟨locs, hL⟩ : ∃ z : List Loc, z = [] := ⟨_, rfl⟩
  rw [← hH, ← hL]
  have hS : va_S (Aq bs) s.heap H locs := by rw [hH, hL]; exact hS
  have hP : Wd D dA bs LY mm H := by rw [hH]; exact hP
  have hl : lv_has ls 2 [(0, .ref (bs + 0)), (1, .int x1)] := hl
  unfold f_X11_margin at hf
  refine lv_aload_n hx hb dX11_margin_0 rfl (lv_at hl 0 rfl) ?_
  refine lv_iload_n hx hb dX11_margin_1 rfl (lv_at hl 1 rfl) ?_
  obtain ⟨r_2, hc_1, hf⟩ := bi1S hf
  refine wd_cv X hP hS L0 ml_X11_209 ⟨_, _, rfl⟩ (c_X11_isAfloat l D dA zz bs mm x1 r_2 hc_1) rfl ⟨Nat.le_of_ble_eq_true rfl, Nat.le_of_ble_eq_true rfl⟩ hl.1 rfl (rest := []) (Nat.le_of_ble_eq_true rfl) ⟨Nat.zero_le _, Nat.zero_le _⟩ dX11_margin_2 (fun H locs hP hS => ?_)
  refine W.eq (g2 := F0 m 5 ls [.int r_2]) rfl ?_
  refine lv_if_ne (tgt := 12) hx hb dX11_margin_5 (by decide) (fun c_3 => ?_) (fun c_3 => ?_)
  · have hf := itF hf c_3
    refine lv_aload_n hx hb dX11_margin_12 rfl (lv_at hl 0 rfl) ?_
    refine wd_getR (q := 229) X hP L0 fl_X11_56 rfl dX11_margin_13 ?_
    refine lv_aload_n hx hb dX11_margin_16 rfl (lv_at hl 0 rfl) ?_
    refine wd_getR (q := 26) X hP L0 fl_X11_35 rfl dX11_margin_17 ?_
    refine wd_getR (q := 33) X hP (isState.a0 S26) fl_X11_71 rfl dX11_margin_20 ?_
    refine lv_iconst (v := 0) hx hb dX11_margin_23 (by decide) ?_
    obtain ⟨mm_4, hc_5, hf⟩ := bi1S hf
    refine wd_cv X hP hS L229 ml_X11_156 ⟨_, _, rfl⟩ (c_X2_find l D dA zz bs mm 33 27 R33 (0 : Int32) mm_4 hc_5) rfl ⟨Nat.le_of_ble_eq_true rfl, Nat.le_of_ble_eq_true rfl⟩ hl.1 rfl (rest := []) (Nat.le_of_ble_eq_true rfl) ⟨Nat.zero_le _, Nat.zero_le _⟩ dX11_margin_24 (fun H locs hP hS => ?_)
    refine W.eq (g2 := F0 m 27 ls []) rfl ?_
    refine lv_aload_n hx hb dX11_margin_27 rfl (lv_at hl 0 rfl) ?_
    refine wd_getR (q := 229) X hP L0 fl_X11_56 rfl dX11_margin_28 ?_
    refine lv_aload_n hx hb dX11_margin_31 rfl (lv_at hl 0 rfl) ?_
    refine wd_getR (q := 26) X hP L0 fl_X11_35 rfl dX11_margin_32 ?_
    refine wd_getR (q := 33) X hP (isState.a0 S26) fl_X11_71 rfl dX11_margin_35 ?_
    refine lv_aload_n hx hb dX11_margin_38 rfl (lv_at hl 0 rfl) ?_
    refine wd_getR (q := 229) X hP L0 fl_X11_56 rfl dX11_margin_39 ?_
    refine wd_getR (q := 230) X hP L229 fl_X11_185 rfl dX11_margin_42 ?_
    refine lv_iload_n hx hb dX11_margin_45 rfl (lv_at hl 1 rfl) ?_
    have g_6 := gdN hf
    have hf := gdK hf
    refine wd_iald X hP L230 g_6 dX11_margin_46 ?_
    obtain ⟨r_8, hc_7, hf⟩ := bi1S hf
    refine wd_cv X hP hS L229 ml_X11_213 ⟨_, _, rfl⟩ (c_X2_marginOf l D dA zz bs mm_4 33 27 R33 (mm_4.1 230 x1.toNatClampNeg) r_8 hc_7) rfl ⟨Nat.le_of_ble_eq_true rfl, Nat.le_of_ble_eq_true rfl⟩ hl.1 rfl (rest := []) (Nat.le_of_ble_eq_true rfl) ⟨Nat.zero_le _, Nat.zero_le _⟩ dX11_margin_47 (fun H locs hP hS => ?_)
    refine W.eq (g2 := F0 m 50 ls [.int r_8]) rfl ?_
    obtain ⟨rfl, rfl⟩ := Prod.mk.inj (Option.some.inj hf)
    exact wd_iret X hP hS hr0 dX11_margin_50 ⟨rfl, rfl⟩
  · have hf := itT hf c_3
    refine lv_sipush (v := -10000) hx hb dX11_margin_8 (by decide) ?_
    obtain ⟨rfl, rfl⟩ := Prod.mk.inj (Option.some.inj hf)
    exact wd_iret X hP hS hr0 dX11_margin_11 ⟨rfl, rfl⟩

noncomputable def f_X11_mile (mm : Mm) : Option (Int32 × Mm) :=
  if (1 : Int32) ≤ (f_X4_milesLeft mm 33 27) then
    bi1 (f_X9_remember mm) fun mm_2 =>
      bi1 (f_J7_fill_53178 mm_2 251 3 (0 : Int32)) fun mm_4 =>
        bi1 (f_X4_drift mm_4 33 27 (0 : Int32)) fun mm_6 => some ((mm_6.1 251 0), mm_6)
  else
    some ((-1 : Int32), mm)
set_option maxHeartbeats 4000000 in
set_option maxRecDepth 100000 in
theorem c_X11_mile (l : Launch) (D : va_G) (dA : Nat → ClassId) (zz : (Nat → Nat) × (Nat → Nat)) (bs : Nat) (mm : Mm) (out : Int32) (m1 : Mm) (hf : f_X11_mile mm = some (out, m1)) : Mw l D dA zz bs LY yX11_mile cX11_mile 1 (some .int) 6 156 [.ref (bs + 0)] mm (some (.int out)) m1 := by
  refine Mw.of (own := RX11) (by decide) rfl (Nat.le_of_ble_eq_true rfl) ?_
  intro p e s m args below meth c X hr0 hP hS ls hl
  have hx := X.1
  have hb := X.2.1
  obtain ⟨H, hH⟩ : ∃ z : Heap, z = s.heap := ⟨_, rfl⟩
  obtain ⟨locs, hL⟩ : ∃ z : List Loc, z = [] := ⟨_, rfl⟩
  rw [← hH, ← hL]
  have hS : va_S (Aq bs) s.heap H locs := by rw [hH, hL]; exact hS
  have hP : Wd D dA bs LY mm H := by rw [hH]; exact hP
  have hl : lv_has ls 1 [(0, .ref (bs + 0))] := hl
  unfold f_X11_mile at hf
  refine lv_aload_n hx hb dX11_mile_0 rfl (lv_at hl 0 rfl) ?_
  refine wd_getR (q := 26) X hP L0 fl_X11_35 rfl dX11_mile_1 ?_
  refine wd_getR (q := 33) X hP (isState.a0 S26) fl_X11_71 rfl dX11_mile_4 ?_
  refine wd_cv X hP hS (isRaft.a0 R33) ml_X11_217 ⟨_, _, rfl⟩ (c_X4_milesLeft l D dA zz bs mm 33 27 R33 (f_X4_milesLeft mm 33 27) rfl) rfl ⟨Nat.le_of_ble_eq_true rfl, Nat.le_of_ble_eq_true rfl⟩ hl.1 rfl (rest := []) (Nat.le_of_ble_eq_true rfl) ⟨Nat.zero_le _, Nat.zero_le _⟩ dX11_mile_7 (fun H locs hP hS => ?_)
  refine W.eq (g2 := F0 m 10 ls [.int (f_X4_milesLeft mm 33 27)]) rfl ?_
  refine lv_iconst (v := 1) hx hb dX11_mile_10 (by decide) ?_
  refine lv_icmp_ge (tgt := 16) hx hb dX11_mile_11 (by decide) (fun c_1 => ?_) (fun c_1 => ?_)
  · have hf := itT hf c_1
    refine lv_aload_n hx hb dX11_mile_16 rfl (lv_at hl 0 rfl) ?_
    refine wd_getR (q := 26) X hP L0 fl_X11_35 rfl dX11_mile_17 ?_
    obtain ⟨mm_2, hc_3, hf⟩ := bi1S hf
    refine wd_cv X hP hS (isState.a0 S26) ml_X11_221 ⟨_, _, rfl⟩ (c_X9_remember l D dA zz bs mm mm_2 hc_3) rfl ⟨Nat.le_of_ble_eq_true rfl, Nat.le_of_ble_eq_true rfl⟩ hl.1 rfl (rest := []) (Nat.le_of_ble_eq_true rfl) ⟨Nat.zero_le _, Nat.zero_le _⟩ dX11_mile_20 (fun H locs hP hS => ?_)
    refine W.eq (g2 := F0 m 23 ls []) rfl ?_
    refine lv_aload_n hx hb dX11_mile_23 rfl (lv_at hl 0 rfl) ?_
    refine wd_getR (q := 251) X hP L0 fl_X11_101 rfl dX11_mile_24 ?_
    refine lv_iconst (v := 0) hx hb dX11_mile_27 (by decide) ?_
    obtain ⟨mm_4, hc_5, hf⟩ := bi1S hf
    refine wd_cs X hP hS ml_X11_224 (c_J7_fill_53178 l D dA zz bs mm_2 251 3 L251 (0 : Int32) mm_4 hc_5) rfl ⟨Nat.le_of_ble_eq_true rfl, Nat.le_of_ble_eq_true rfl⟩ hl.1 rfl (rest := []) (Nat.le_of_ble_eq_true rfl) ⟨Nat.zero_le _, Nat.zero_le _⟩ dX11_mile_28 (fun H locs hP hS => ?_)
    refine W.eq (g2 := F0 m 31 ls []) rfl ?_
    refine lv_aload_n hx hb dX11_mile_31 rfl (lv_at hl 0 rfl) ?_
    refine wd_getR (q := 26) X hP L0 fl_X11_35 rfl dX11_mile_32 ?_
    refine wd_getR (q := 33) X hP (isState.a0 S26) fl_X11_71 rfl dX11_mile_35 ?_
    refine lv_iconst (v := 0) hx hb dX11_mile_38 (by decide) ?_
    refine lv_aload_n hx hb dX11_mile_39 rfl (lv_at hl 0 rfl) ?_
    refine wd_getR (q := 229) X hP L0 fl_X11_56 rfl dX11_mile_40 ?_
    refine lv_aload_n hx hb dX11_mile_43 rfl (lv_at hl 0 rfl) ?_
    refine wd_getR (q := 251) X hP L0 fl_X11_101 rfl dX11_mile_44 ?_
    obtain ⟨mm_6, hc_7, hf⟩ := bi1S hf
    refine wd_cv X hP hS (isRaft.a0 R33) ml_X11_230 ⟨_, _, rfl⟩ (c_X4_drift l D dA zz bs mm_4 33 27 R33 (0 : Int32) mm_6 hc_7) rfl ⟨Nat.le_of_ble_eq_true rfl, Nat.le_of_ble_eq_true rfl⟩ hl.1 rfl (rest := []) (Nat.le_of_ble_eq_true rfl) ⟨Nat.zero_le _, Nat.zero_le _⟩ dX11_mile_47 (fun H locs hP hS => ?_)
    refine W.eq (g2 := F0 m 50 ls []) rfl ?_
    refine lv_aload_n hx hb dX11_mile_50 rfl (lv_at hl 0 rfl) ?_
    refine wd_getR (q := 251) X hP L0 fl_X11_101 rfl dX11_mile_51 ?_
    refine lv_iconst (v := 0) hx hb dX11_mile_54 (by decide) ?_
    refine wd_ialdK (k := 0) X hP L251 (by decide) (by decide) dX11_mile_55 ?_
    obtain ⟨rfl, rfl⟩ := Prod.mk.inj (Option.some.inj hf)
    exact wd_iret X hP hS hr0 dX11_mile_56 ⟨rfl, rfl⟩
  · have hf := itF hf c_1
    refine lv_iconst (v := -1) hx hb dX11_mile_14 (by decide) ?_
    obtain ⟨rfl, rfl⟩ := Prod.mk.inj (Option.some.inj hf)
    exact wd_iret X hP hS hr0 dX11_mile_15 ⟨rfl, rfl⟩

noncomputable def f_X11_isStrength (x0 : Int32) : Int32 :=
  if x0 < (1 : Int32) then
    (0 : Int32)
  else
    if (9 : Int32) < x0 then
      (0 : Int32)
    else
      (1 : Int32)
set_option maxHeartbeats 4000000 in
set_option maxRecDepth 100000 in
theorem c_X11_isStrength (l : Launch) (D : va_G) (dA : Nat → ClassId) (zz : (Nat → Nat) × (Nat → Nat)) (bs : Nat) (mm : Mm) (x0 : Int32) (out : Int32) (hf : f_X11_isStrength x0 = out) : Mw l D dA zz bs LY yX11_isStrength cX11_isStrength 1 (some .boolean) 0 0 [.int x0] mm (some (.int out)) mm := by
  refine Mw.of (own := RX11) (by decide) rfl (Nat.le_of_ble_eq_true rfl) ?_
  intro p e s m args below meth c X hr0 hP hS ls hl
  have hx := X.1
  have hb := X.2.1
  obtain ⟨H, hH⟩ : ∃ z : Heap, z = s.heap := ⟨_, rfl⟩
  obtain ⟨locs, hL⟩ : ∃ z : List Loc, z = [] := ⟨_, rfl⟩
  rw [← hH, ← hL]
  have hS : va_S (Aq bs) s.heap H locs := by rw [hH, hL]; exact hS
  have hP : Wd D dA bs LY mm H := by rw [hH]; exact hP
  have hl : lv_has ls 1 [(0, .int x0)] := hl
  unfold f_X11_isStrength at hf
  refine lv_iload_n hx hb dX11_isStrength_0 rfl (lv_at hl 0 rfl) ?_
  refine lv_iconst (v := 1) hx hb dX11_isStrength_1 (by decide) ?_
  refine lv_icmp_lt (tgt := 15) hx hb dX11_isStrength_2 (by decide) (fun c_1 => ?_) (fun c_1 => ?_)
  · have hf := itT hf c_1
    refine lv_iconst (v := 0) hx hb dX11_isStrength_15 (by decide) ?_
    subst hf
    exact wd_zret X hP hS hr0 (by decide) dX11_isStrength_16 ⟨rfl, rfl⟩
  · have hf := itF hf c_1
    refine lv_iload_n hx hb dX11_isStrength_5 rfl (lv_at hl 0 rfl) ?_
    refine lv_bipush (v := 9) hx hb dX11_isStrength_6 (by decide) ?_
    refine lv_icmp_gt (tgt := 15) hx hb dX11_isStrength_8 (by decide) (fun c_2 => ?_) (fun c_2 => ?_)
    · have hf := itT hf c_2
      refine lv_iconst (v := 0) hx hb dX11_isStrength_15 (by decide) ?_
      subst hf
      exact wd_zret X hP hS hr0 (by decide) dX11_isStrength_16 ⟨rfl, rfl⟩
    · have hf := itF hf c_2
      refine lv_iconst (v := 1) hx hb dX11_isStrength_11 (by decide) ?_
      refine lv_goto (tgt := 16) hx hb dX11_isStrength_12 (by decide) ?_
      subst hf
      exact wd_zret X hP hS hr0 (by decide) dX11_isStrength_16 ⟨rfl, rfl⟩

noncomputable def f_X11_bind (mm : Mm) (x1 : Int32) (x2 : Int32) (x3 : Int32) : Option (Int32 × Mm) :=
  bi1 (f_X11_isAfloat mm x1) fun r_2 =>
    if r_2 = 0 then
      some ((-1 : Int32), mm)
    else
      bi1 (f_X11_isAfloat mm x2) fun r_5 =>
        if r_5 = 0 then
          some ((-1 : Int32), mm)
        else
          if x1 = x2 then
            some ((-1 : Int32), mm)
          else
            if (f_X11_isStrength x3) = 0 then
              some ((-1 : Int32), mm)
            else
              bi1 (f_X4_areBound mm 33 27 x1 x2) fun r_10 =>
                if r_10 = 0 then
                  if (f_X4_canSpare mm 33 27 x3) = 0 then
                    some ((-1 : Int32), mm)
                  else
                    bi1 (f_X9_remember mm) fun mm_13 =>
                      bi1 (f_X4_spend mm_13 33 27 x1 x2 x3) fun mm_15 => some (((mm_15.1 33 3) - (1 : Int32)), mm_15)
                else
                  some ((-1 : Int32), mm)
set_option maxHeartbeats 4000000 in
set_option maxRecDepth 100000 in
theorem c_X11_bind (l : Launch) (D : va_G) (dA : Nat → ClassId) (zz : (Nat → Nat) × (Nat → Nat)) (bs : Nat) (mm : Mm) (x1 : Int32) (x2 : Int32) (x3 : Int32) (out : Int32) (m1 : Mm) (hf : f_X11_bind mm x1 x2 x3 = some (out, m1)) : Mw l D dA zz bs LY yX11_bind cX11_bind 4 (some .int) 3 101 [.ref (bs + 0), .int x1, .int x2, .int x3] mm (some (.int out)) m1 := by
  refine Mw.of (own := RX11) (by decide) rfl (Nat.le_of_ble_eq_true rfl) ?_
  intro p e s m args below meth c X hr0 hP hS ls hl
  have hx := X.1
  have hb := X.2.1
  obtain ⟨H, hH⟩ : ∃ z : Heap, z = s.heap := ⟨_, rfl⟩
  obtain ⟨locs, hL⟩ : ∃ z : List Loc, z = [] := ⟨_, rfl⟩
  rw [← hH, ← hL]
  have hS : va_S (Aq bs) s.heap H locs := by rw [hH, hL]; exact hS
  have hP : Wd D dA bs LY mm H := by rw [hH]; exact hP
  have hl : lv_has ls 4 [(0, .ref (bs + 0)), (1, .int x1), (2, .int x2), (3, .int x3)] := hl
  unfold f_X11_bind at hf
  refine lv_aload_n hx hb dX11_bind_0 rfl (lv_at hl 0 rfl) ?_
  refine lv_iload_n hx hb dX11_bind_1 rfl (lv_at hl 1 rfl) ?_
  obtain ⟨r_2, hc_1, hf⟩ := bi1S hf
  refine wd_cv X hP hS L0 ml_X11_209 ⟨_, _, rfl⟩ (c_X11_isAfloat l D dA zz bs mm x1 r_2 hc_1) rfl ⟨Nat.le_of_ble_eq_true rfl, Nat.le_of_ble_eq_true rfl⟩ hl.1 rfl (rest := []) (Nat.le_of_ble_eq_true rfl) ⟨Nat.zero_le _, Nat.zero_le _⟩ dX11_bind_2 (fun H locs hP hS => ?_)
  refine W.eq (g2 := F0 m 5 ls [.int r_2]) rfl ?_
  refine lv_if_eq (tgt := 28) hx hb dX11_bind_5 (by decide) (fun c_3 => ?_) (fun c_3 => ?_)
  · have hf := itT hf c_3
    refine lv_iconst (v := -1) hx hb dX11_bind_28 (by decide) ?_
    obtain ⟨rfl, rfl⟩ := Prod.mk.inj (Option.some.inj hf)
    exact wd_iret X hP hS hr0 dX11_bind_29 ⟨rfl, rfl⟩
  · have hf := itF hf c_3
    refine lv_aload_n hx hb dX11_bind_8 rfl (lv_at hl 0 rfl) ?_
    refine lv_iload_n hx hb dX11_bind_9 rfl (lv_at hl 2 rfl) ?_
    obtain ⟨r_5, hc_4, hf⟩ := bi1S hf
    refine wd_cv X hP hS L0 ml_X11_209 ⟨_, _, rfl⟩ (c_X11_isAfloat l D dA zz bs mm x2 r_5 hc_4) rfl ⟨Nat.le_of_ble_eq_true rfl, Nat.le_of_ble_eq_true rfl⟩ hl.1 rfl (rest := []) (Nat.le_of_ble_eq_true rfl) ⟨Nat.zero_le _, Nat.zero_le _⟩ dX11_bind_10 (fun H locs hP hS => ?_)
    refine W.eq (g2 := F0 m 13 ls [.int r_5]) rfl ?_
    refine lv_if_eq (tgt := 28) hx hb dX11_bind_13 (by decide) (fun c_6 => ?_) (fun c_6 => ?_)
    · have hf := itT hf c_6
      refine lv_iconst (v := -1) hx hb dX11_bind_28 (by decide) ?_
      obtain ⟨rfl, rfl⟩ := Prod.mk.inj (Option.some.inj hf)
      exact wd_iret X hP hS hr0 dX11_bind_29 ⟨rfl, rfl⟩
    · have hf := itF hf c_6
      refine lv_iload_n hx hb dX11_bind_16 rfl (lv_at hl 1 rfl) ?_
      refine lv_iload_n hx hb dX11_bind_17 rfl (lv_at hl 2 rfl) ?_
      refine lv_icmp_eq (tgt := 28) hx hb dX11_bind_18 (by decide) (fun c_7 => ?_) (fun c_7 => ?_)
      · have hf := itT hf c_7
        refine lv_iconst (v := -1) hx hb dX11_bind_28 (by decide) ?_
        obtain ⟨rfl, rfl⟩ := Prod.mk.inj (Option.some.inj hf)
        exact wd_iret X hP hS hr0 dX11_bind_29 ⟨rfl, rfl⟩
      · have hf := itF hf c_7
        refine lv_iload_n hx hb dX11_bind_21 rfl (lv_at hl 3 rfl) ?_
        refine wd_cs X hP hS ml_X11_234 (c_X11_isStrength l D dA zz bs mm x3 (f_X11_isStrength x3) rfl) rfl ⟨Nat.le_of_ble_eq_true rfl, Nat.le_of_ble_eq_true rfl⟩ hl.1 rfl (rest := []) (Nat.le_of_ble_eq_true rfl) ⟨Nat.zero_le _, Nat.zero_le _⟩ dX11_bind_22 (fun H locs hP hS => ?_)
        refine W.eq (g2 := F0 m 25 ls [.int (f_X11_isStrength x3)]) rfl ?_
        refine lv_if_ne (tgt := 30) hx hb dX11_bind_25 (by decide) (fun c_8 => ?_) (fun c_8 => ?_)
        · have hf := itF hf c_8
          refine lv_aload_n hx hb dX11_bind_30 rfl (lv_at hl 0 rfl) ?_
          refine wd_getR (q := 26) X hP L0 fl_X11_35 rfl dX11_bind_31 ?_
          refine wd_getR (q := 33) X hP (isState.a0 S26) fl_X11_71 rfl dX11_bind_34 ?_
          refine lv_iload_n hx hb dX11_bind_37 rfl (lv_at hl 1 rfl) ?_
          refine lv_iload_n hx hb dX11_bind_38 rfl (lv_at hl 2 rfl) ?_
          obtain ⟨r_10, hc_9, hf⟩ := bi1S hf
          refine wd_cv X hP hS (isRaft.a0 R33) ml_X11_237 ⟨_, _, rfl⟩ (c_X4_areBound l D dA zz bs mm 33 27 R33 x1 x2 r_10 hc_9) rfl ⟨Nat.le_of_ble_eq_true rfl, Nat.le_of_ble_eq_true rfl⟩ hl.1 rfl (rest := []) (Nat.le_of_ble_eq_true rfl) ⟨Nat.zero_le _, Nat.zero_le _⟩ dX11_bind_39 (fun H locs hP hS => ?_)
          refine W.eq (g2 := F0 m 42 ls [.int r_10]) rfl ?_
          refine lv_if_ne (tgt := 59) hx hb dX11_bind_42 (by decide) (fun c_11 => ?_) (fun c_11 => ?_)
          · have hf := itF hf c_11
            refine lv_iconst (v := -1) hx hb dX11_bind_59 (by decide) ?_
            obtain ⟨rfl, rfl⟩ := Prod.mk.inj (Option.some.inj hf)
            exact wd_iret X hP hS hr0 dX11_bind_60 ⟨rfl, rfl⟩
          · have hf := itT hf c_11
            refine lv_aload_n hx hb dX11_bind_45 rfl (lv_at hl 0 rfl) ?_
            refine wd_getR (q := 26) X hP L0 fl_X11_35 rfl dX11_bind_46 ?_
            refine wd_getR (q := 33) X hP (isState.a0 S26) fl_X11_71 rfl dX11_bind_49 ?_
            refine lv_iload_n hx hb dX11_bind_52 rfl (lv_at hl 3 rfl) ?_
            refine wd_cv X hP hS (isRaft.a0 R33) ml_X11_241 ⟨_, _, rfl⟩ (c_X4_canSpare l D dA zz bs mm 33 27 R33 x3 (f_X4_canSpare mm 33 27 x3) rfl) rfl ⟨Nat.le_of_ble_eq_true rfl, Nat.le_of_ble_eq_true rfl⟩ hl.1 rfl (rest := []) (Nat.le_of_ble_eq_true rfl) ⟨Nat.zero_le _, Nat.zero_le _⟩ dX11_bind_53 (fun H locs hP hS => ?_)
            refine W.eq (g2 := F0 m 56 ls [.int (f_X4_canSpare mm 33 27 x3)]) rfl ?_
            refine lv_if_ne (tgt := 61) hx hb dX11_bind_56 (by decide) (fun c_12 => ?_) (fun c_12 => ?_)
            · have hf := itF hf c_12
              refine lv_aload_n hx hb dX11_bind_61 rfl (lv_at hl 0 rfl) ?_
              refine wd_getR (q := 26) X hP L0 fl_X11_35 rfl dX11_bind_62 ?_
              obtain ⟨mm_13, hc_14, hf⟩ := bi1S hf
              refine wd_cv X hP hS (isState.a0 S26) ml_X11_221 ⟨_, _, rfl⟩ (c_X9_remember l D dA zz bs mm mm_13 hc_14) rfl ⟨Nat.le_of_ble_eq_true rfl, Nat.le_of_ble_eq_true rfl⟩ hl.1 rfl (rest := []) (Nat.le_of_ble_eq_true rfl) ⟨Nat.zero_le _, Nat.zero_le _⟩ dX11_bind_65 (fun H locs hP hS => ?_)
              refine W.eq (g2 := F0 m 68 ls []) rfl ?_
              refine lv_aload_n hx hb dX11_bind_68 rfl (lv_at hl 0 rfl) ?_
              refine wd_getR (q := 26) X hP L0 fl_X11_35 rfl dX11_bind_69 ?_
              refine wd_getR (q := 33) X hP (isState.a0 S26) fl_X11_71 rfl dX11_bind_72 ?_
              refine lv_iload_n hx hb dX11_bind_75 rfl (lv_at hl 1 rfl) ?_
              refine lv_iload_n hx hb dX11_bind_76 rfl (lv_at hl 2 rfl) ?_
              refine lv_iload_n hx hb dX11_bind_77 rfl (lv_at hl 3 rfl) ?_
              obtain ⟨mm_15, hc_16, hf⟩ := bi1S hf
              refine wd_cv X hP hS (isRaft.a0 R33) ml_X11_244 ⟨_, _, rfl⟩ (c_X4_spend l D dA zz bs mm_13 33 27 R33 x1 x2 x3 mm_15 hc_16) rfl ⟨Nat.le_of_ble_eq_true rfl, Nat.le_of_ble_eq_true rfl⟩ hl.1 rfl (rest := []) (Nat.le_of_ble_eq_true rfl) ⟨Nat.zero_le _, Nat.zero_le _⟩ dX11_bind_78 (fun H locs hP hS => ?_)
              refine W.eq (g2 := F0 m 81 ls []) rfl ?_
              refine lv_aload_n hx hb dX11_bind_81 rfl (lv_at hl 0 rfl) ?_
              refine wd_getR (q := 26) X hP L0 fl_X11_35 rfl dX11_bind_82 ?_
              refine wd_getR (q := 33) X hP (isState.a0 S26) fl_X11_71 rfl dX11_bind_85 ?_
              refine wd_getI X hP (isRaft.a0 R33) fl_X11_188 rfl dX11_bind_88 ?_
              refine lv_iconst (v := 1) hx hb dX11_bind_91 (by decide) ?_
              refine lv_isub hx hb dX11_bind_92 ?_
              obtain ⟨rfl, rfl⟩ := Prod.mk.inj (Option.some.inj hf)
              exact wd_iret X hP hS hr0 dX11_bind_93 ⟨rfl, rfl⟩
            · have hf := itT hf c_12
              refine lv_iconst (v := -1) hx hb dX11_bind_59 (by decide) ?_
              obtain ⟨rfl, rfl⟩ := Prod.mk.inj (Option.some.inj hf)
              exact wd_iret X hP hS hr0 dX11_bind_60 ⟨rfl, rfl⟩
        · have hf := itT hf c_8
          refine lv_iconst (v := -1) hx hb dX11_bind_28 (by decide) ?_
          obtain ⟨rfl, rfl⟩ := Prod.mk.inj (Option.some.inj hf)
          exact wd_iret X hP hS hr0 dX11_bind_29 ⟨rfl, rfl⟩

noncomputable def f_X11_cut (mm : Mm) (x1 : Int32) : Option (Int32 × Mm) :=
  if x1 < 0 then
    some ((-1 : Int32), mm)
  else
    if x1 < (mm.1 33 3) then
      bi1 (f_X9_remember mm) fun mm_3 =>
        bi1 (f_X4_untie mm_3 33 27 ((1 : Int32) <<< (x1 &&& 31))) fun mm_5 => some ((mm_5.1 33 2), mm_5)
    else
      some ((-1 : Int32), mm)
set_option maxHeartbeats 4000000 in
set_option maxRecDepth 100000 in
theorem c_X11_cut (l : Launch) (D : va_G) (dA : Nat → ClassId) (zz : (Nat → Nat) × (Nat → Nat)) (bs : Nat) (mm : Mm) (x1 : Int32) (out : Int32) (m1 : Mm) (hf : f_X11_cut mm x1 = some (out, m1)) : Mw l D dA zz bs LY yX11_cut cX11_cut 2 (some .int) 3 101 [.ref (bs + 0), .int x1] mm (some (.int out)) m1 := by
  refine Mw.of (own := RX11) (by decide) rfl (Nat.le_of_ble_eq_true rfl) ?_
  intro p e s m args below meth c X hr0 hP hS ls hl
  have hx := X.1
  have hb := X.2.1
  obtain ⟨H, hH⟩ : ∃ z : Heap, z = s.heap := ⟨_, rfl⟩
  obtain ⟨locs, hL⟩ : ∃ z : List Loc, z = [] := ⟨_, rfl⟩
  rw [← hH, ← hL]
  have hS : va_S (Aq bs) s.heap H locs := by rw [hH, hL]; exact hS
  have hP : Wd D dA bs LY mm H := by rw [hH]; exact hP
  have hl : lv_has ls 2 [(0, .ref (bs + 0)), (1, .int x1)] := hl
  unfold f_X11_cut at hf
  refine lv_iload_n hx hb dX11_cut_0 rfl (lv_at hl 1 rfl) ?_
  refine lv_if_lt (tgt := 18) hx hb dX11_cut_1 (by decide) (fun c_1 => ?_) (fun c_1 => ?_)
  · have hf := itT hf c_1
    refine lv_iconst (v := -1) hx hb dX11_cut_18 (by decide) ?_
    obtain ⟨rfl, rfl⟩ := Prod.mk.inj (Option.some.inj hf)
    exact wd_iret X hP hS hr0 dX11_cut_19 ⟨rfl, rfl⟩
  · have hf := itF hf c_1
    refine lv_iload_n hx hb dX11_cut_4 rfl (lv_at hl 1 rfl) ?_
    refine lv_aload_n hx hb dX11_cut_5 rfl (lv_at hl 0 rfl) ?_
    refine wd_getR (q := 26) X hP L0 fl_X11_35 rfl dX11_cut_6 ?_
    refine wd_getR (q := 33) X hP (isState.a0 S26) fl_X11_71 rfl dX11_cut_9 ?_
    refine wd_getI X hP (isRaft.a0 R33) fl_X11_188 rfl dX11_cut_12 ?_
    refine lv_icmp_lt (tgt := 20) hx hb dX11_cut_15 (by decide) (fun c_2 => ?_) (fun c_2 => ?_)
    · have hf := itT hf c_2
      refine lv_aload_n hx hb dX11_cut_20 rfl (lv_at hl 0 rfl) ?_
      refine wd_getR (q := 26) X hP L0 fl_X11_35 rfl dX11_cut_21 ?_
      obtain ⟨mm_3, hc_4, hf⟩ := bi1S hf
      refine wd_cv X hP hS (isState.a0 S26) ml_X11_221 ⟨_, _, rfl⟩ (c_X9_remember l D dA zz bs mm mm_3 hc_4) rfl ⟨Nat.le_of_ble_eq_true rfl, Nat.le_of_ble_eq_true rfl⟩ hl.1 rfl (rest := []) (Nat.le_of_ble_eq_true rfl) ⟨Nat.zero_le _, Nat.zero_le _⟩ dX11_cut_24 (fun H locs hP hS => ?_)
      refine W.eq (g2 := F0 m 27 ls []) rfl ?_
      refine lv_aload_n hx hb dX11_cut_27 rfl (lv_at hl 0 rfl) ?_
      refine wd_getR (q := 26) X hP L0 fl_X11_35 rfl dX11_cut_28 ?_
      refine wd_getR (q := 33) X hP (isState.a0 S26) fl_X11_71 rfl dX11_cut_31 ?_
      refine lv_iconst (v := 1) hx hb dX11_cut_34 (by decide) ?_
      refine lv_iload_n hx hb dX11_cut_35 rfl (lv_at hl 1 rfl) ?_
      refine lv_ishl hx hb dX11_cut_36 ?_
      obtain ⟨mm_5, hc_6, hf⟩ := bi1S hf
      refine wd_cv X hP hS (isRaft.a0 R33) ml_X11_248 ⟨_, _, rfl⟩ (c_X4_untie l D dA zz bs mm_3 33 27 R33 ((1 : Int32) <<< (x1 &&& 31)) mm_5 hc_6) rfl ⟨Nat.le_of_ble_eq_true rfl, Nat.le_of_ble_eq_true rfl⟩ hl.1 rfl (rest := []) (Nat.le_of_ble_eq_true rfl) ⟨Nat.zero_le _, Nat.zero_le _⟩ dX11_cut_37 (fun H locs hP hS => ?_)
      refine W.eq (g2 := F0 m 40 ls []) rfl ?_
      refine lv_aload_n hx hb dX11_cut_40 rfl (lv_at hl 0 rfl) ?_
      refine wd_getR (q := 26) X hP L0 fl_X11_35 rfl dX11_cut_41 ?_
      refine wd_getR (q := 33) X hP (isState.a0 S26) fl_X11_71 rfl dX11_cut_44 ?_
      refine wd_getI X hP (isRaft.a0 R33) fl_X11_251 rfl dX11_cut_47 ?_
      obtain ⟨rfl, rfl⟩ := Prod.mk.inj (Option.some.inj hf)
      exact wd_iret X hP hS hr0 dX11_cut_50 ⟨rfl, rfl⟩
    · have hf := itF hf c_2
      refine lv_iconst (v := -1) hx hb dX11_cut_18 (by decide) ?_
      obtain ⟨rfl, rfl⟩ := Prod.mk.inj (Option.some.inj hf)
      exact wd_iret X hP hS hr0 dX11_cut_19 ⟨rfl, rfl⟩

noncomputable def f_X11_saw (mm : Mm) (x1 : Int32) : Option (Int32 × Mm) :=
  bi1 (f_X11_isAfloat mm x1) fun r_2 =>
    if r_2 = 0 then
      some ((-1 : Int32), mm)
    else
      bi1 (f_X9_remember mm) fun mm_4 =>
        bi1 (f_X4_ropesOf mm_4 33 27 ((1 : Int32) <<< (x1 &&& 31))) fun r_7 =>
          bi1 (f_X4_lose mm_4 33 27 r_7) fun mm_8 => some ((f_J6_bitCount_0f7a4 r_7), mm_8)
set_option maxHeartbeats 4000000 in
set_option maxRecDepth 100000 in
theorem c_X11_saw (l : Launch) (D : va_G) (dA : Nat → ClassId) (zz : (Nat → Nat) × (Nat → Nat)) (bs : Nat) (mm : Mm) (x1 : Int32) (out : Int32) (m1 : Mm) (hf : f_X11_saw mm x1 = some (out, m1)) : Mw l D dA zz bs LY yX11_saw cX11_saw 3 (some .int) 3 101 [.ref (bs + 0), .int x1] mm (some (.int out)) m1 := by
  refine Mw.of (own := RX11) (by decide) rfl (Nat.le_of_ble_eq_true rfl) ?_
  intro p e s m args below meth c X hr0 hP hS ls hl
  have hx := X.1
  have hb := X.2.1
  obtain ⟨H, hH⟩ : ∃ z : Heap, z = s.heap := ⟨_, rfl⟩
  obtain ⟨locs, hL⟩ : ∃ z : List Loc, z = [] := ⟨_, rfl⟩
  rw [← hH, ← hL]
  have hS : va_S (Aq bs) s.heap H locs := by rw [hH, hL]; exact hS
  have hP : Wd D dA bs LY mm H := by rw [hH]; exact hP
  have hl : lv_has ls 3 [(0, .ref (bs + 0)), (1, .int x1)] := hl
  unfold f_X11_saw at hf
  refine lv_aload_n hx hb dX11_saw_0 rfl (lv_at hl 0 rfl) ?_
  refine lv_iload_n hx hb dX11_saw_1 rfl (lv_at hl 1 rfl) ?_
  obtain ⟨r_2, hc_1, hf⟩ := bi1S hf
  refine wd_cv X hP hS L0 ml_X11_209 ⟨_, _, rfl⟩ (c_X11_isAfloat l D dA zz bs mm x1 r_2 hc_1) rfl ⟨Nat.le_of_ble_eq_true rfl, Nat.le_of_ble_eq_true rfl⟩ hl.1 rfl (rest := []) (Nat.le_of_ble_eq_true rfl) ⟨Nat.zero_le _, Nat.zero_le _⟩ dX11_saw_2 (fun H locs hP hS => ?_)
  refine W.eq (g2 := F0 m 5 ls [.int r_2]) rfl ?_
  refine lv_if_ne (tgt := 10) hx hb dX11_saw_5 (by decide) (fun c_3 => ?_) (fun c_3 => ?_)
  · have hf := itF hf c_3
    refine lv_aload_n hx hb dX11_saw_10 rfl (lv_at hl 0 rfl) ?_
    refine wd_getR (q := 26) X hP L0 fl_X11_35 rfl dX11_saw_11 ?_
    obtain ⟨mm_4, hc_5, hf⟩ := bi1S hf
    refine wd_cv X hP hS (isState.a0 S26) ml_X11_221 ⟨_, _, rfl⟩ (c_X9_remember l D dA zz bs mm mm_4 hc_5) rfl ⟨Nat.le_of_ble_eq_true rfl, Nat.le_of_ble_eq_true rfl⟩ hl.1 rfl (rest := []) (Nat.le_of_ble_eq_true rfl) ⟨Nat.zero_le _, Nat.zero_le _⟩ dX11_saw_14 (fun H locs hP hS => ?_)
    refine W.eq (g2 := F0 m 17 ls []) rfl ?_
    refine lv_aload_n hx hb dX11_saw_17 rfl (lv_at hl 0 rfl) ?_
    refine wd_getR (q := 26) X hP L0 fl_X11_35 rfl dX11_saw_18 ?_
    refine wd_getR (q := 33) X hP (isState.a0 S26) fl_X11_71 rfl dX11_saw_21 ?_
    refine lv_iconst (v := 1) hx hb dX11_saw_24 (by decide) ?_
    refine lv_iload_n hx hb dX11_saw_25 rfl (lv_at hl 1 rfl) ?_
    refine lv_ishl hx hb dX11_saw_26 ?_
    obtain ⟨r_7, hc_6, hf⟩ := bi1S hf
    refine wd_cv X hP hS (isRaft.a0 R33) ml_X11_254 ⟨_, _, rfl⟩ (c_X4_ropesOf l D dA zz bs mm_4 33 27 R33 ((1 : Int32) <<< (x1 &&& 31)) r_7 hc_6) rfl ⟨Nat.le_of_ble_eq_true rfl, Nat.le_of_ble_eq_true rfl⟩ hl.1 rfl (rest := []) (Nat.le_of_ble_eq_true rfl) ⟨Nat.zero_le _, Nat.zero_le _⟩ dX11_saw_27 (fun H locs hP hS => ?_)
    refine W.eq (g2 := F0 m 30 ls [.int r_7]) rfl ?_
    refine lv_istore_n (lv' := [(2, .int r_7), (0, .ref (bs + 0)), (1, .int x1)]) hx hb dX11_saw_30 rfl hl (by decide) rfl (fun ls hl => ?_)
    refine lv_aload_n hx hb dX11_saw_31 rfl (lv_at hl 1 rfl) ?_
    refine wd_getR (q := 26) X hP L0 fl_X11_35 rfl dX11_saw_32 ?_
    refine wd_getR (q := 33) X hP (isState.a0 S26) fl_X11_71 rfl dX11_saw_35 ?_
    refine lv_iload_n hx hb dX11_saw_38 rfl (lv_at hl 0 rfl) ?_
    obtain ⟨mm_8, hc_9, hf⟩ := bi1S hf
    refine wd_cv X hP hS (isRaft.a0 R33) ml_X11_257 ⟨_, _, rfl⟩ (c_X4_lose l D dA zz bs mm_4 33 27 R33 r_7 mm_8 hc_9) rfl ⟨Nat.le_of_ble_eq_true rfl, Nat.le_of_ble_eq_true rfl⟩ hl.1 rfl (rest := []) (Nat.le_of_ble_eq_true rfl) ⟨Nat.zero_le _, Nat.zero_le _⟩ dX11_saw_39 (fun H locs hP hS => ?_)
    refine W.eq (g2 := F0 m 42 ls []) rfl ?_
    refine lv_iload_n hx hb dX11_saw_42 rfl (lv_at hl 0 rfl) ?_
    refine wd_cs X hP hS ml_X11_260 (c_J6_bitCount_0f7a4 l D dA zz bs mm_8 r_7 (f_J6_bitCount_0f7a4 r_7) rfl) rfl ⟨Nat.le_of_ble_eq_true rfl, Nat.le_of_ble_eq_true rfl⟩ hl.1 rfl (rest := []) (Nat.le_of_ble_eq_true rfl) ⟨Nat.zero_le _, Nat.zero_le _⟩ dX11_saw_43 (fun H locs hP hS => ?_)
    refine W.eq (g2 := F0 m 46 ls [.int (f_J6_bitCount_0f7a4 r_7)]) rfl ?_
    obtain ⟨rfl, rfl⟩ := Prod.mk.inj (Option.some.inj hf)
    exact wd_iret X hP hS hr0 dX11_saw_46 ⟨rfl, rfl⟩
  · have hf := itT hf c_3
    refine lv_iconst (v := -1) hx hb dX11_saw_8 (by decide) ?_
    obtain ⟨rfl, rfl⟩ := Prod.mk.inj (Option.some.inj hf)
    exact wd_iret X hP hS hr0 dX11_saw_9 ⟨rfl, rfl⟩

noncomputable def f_X11_push (mm : Mm) (x1 : Int32) (x2 : Int32) : Option (Int32 × Mm) :=
  bi1 (f_X11_isAfloat mm x1) fun r_2 =>
    if r_2 = 0 then
      some ((-1 : Int32), mm)
    else
      if x2 < 0 then
        some ((-1 : Int32), mm)
      else
        if x2 < (mm.1 27 1) then
          if x1 < 0 ∨ 8 ≤ x1.toNatClampNeg then none else
            vlet (mm.1 35 x1.toNatClampNeg) fun (x3_7 : Int32) =>
              if x3_7 = x2 then
                some ((-1 : Int32), mm)
              else
                bi1 (f_X9_remember mm) fun mm_9 =>
                  if x1 < 0 ∨ 8 ≤ x1.toNatClampNeg then none else
                    vlet (wI mm_9 35 x1.toNatClampNeg x2) fun mm_11 => some (x3_7, mm_11)
        else
          some ((-1 : Int32), mm)
set_option maxHeartbeats 4000000 in
set_option maxRecDepth 100000 in
theorem c_X11_push (l : Launch) (D : va_G) (dA : Nat → ClassId) (zz : (Nat → Nat) × (Nat → Nat)) (bs : Nat) (mm : Mm) (x1 : Int32) (x2 : Int32) (out : Int32) (m1 : Mm) (hf : f_X11_push mm x1 x2 = some (out, m1)) : Mw l D dA zz bs LY yX11_push cX11_push 4 (some .int) 3 101 [.ref (bs + 0), .int x1, .int x2] mm (some (.int out)) m1 := by
  refine Mw.of (own := RX11) (by decide) rfl (Nat.le_of_ble_eq_true rfl) ?_
  intro p e s m args below meth c X hr0 hP hS ls hl
  have hx := X.1
  have hb := X.2.1
  obtain ⟨H, hH⟩ : ∃ z : Heap, z = s.heap := ⟨_, rfl⟩
  obtain ⟨locs, hL⟩ : ∃ z : List Loc, z = [] := ⟨_, rfl⟩
  rw [← hH, ← hL]
  have hS : va_S (Aq bs) s.heap H locs := by rw [hH, hL]; exact hS
  have hP : Wd D dA bs LY mm H := by rw [hH]; exact hP
  have hl : lv_has ls 4 [(0, .ref (bs + 0)), (1, .int x1), (2, .int x2)] := hl
  unfold f_X11_push at hf
  refine lv_aload_n hx hb dX11_push_0 rfl (lv_at hl 0 rfl) ?_
  refine lv_iload_n hx hb dX11_push_1 rfl (lv_at hl 1 rfl) ?_
  obtain ⟨r_2, hc_1, hf⟩ := bi1S hf
  refine wd_cv X hP hS L0 ml_X11_209 ⟨_, _, rfl⟩ (c_X11_isAfloat l D dA zz bs mm x1 r_2 hc_1) rfl ⟨Nat.le_of_ble_eq_true rfl, Nat.le_of_ble_eq_true rfl⟩ hl.1 rfl (rest := []) (Nat.le_of_ble_eq_true rfl) ⟨Nat.zero_le _, Nat.zero_le _⟩ dX11_push_2 (fun H locs hP hS => ?_)
  refine W.eq (g2 := F0 m 5 ls [.int r_2]) rfl ?_
  refine lv_if_eq (tgt := 26) hx hb dX11_push_5 (by decide) (fun c_3 => ?_) (fun c_3 => ?_)
  · have hf := itT hf c_3
    refine lv_iconst (v := -1) hx hb dX11_push_26 (by decide) ?_
    obtain ⟨rfl, rfl⟩ := Prod.mk.inj (Option.some.inj hf)
    exact wd_iret X hP hS hr0 dX11_push_27 ⟨rfl, rfl⟩
  · have hf := itF hf c_3
    refine lv_iload_n hx hb dX11_push_8 rfl (lv_at hl 2 rfl) ?_
    refine lv_if_lt (tgt := 26) hx hb dX11_push_9 (by decide) (fun c_4 => ?_) (fun c_4 => ?_)
    · have hf := itT hf c_4
      refine lv_iconst (v := -1) hx hb dX11_push_26 (by decide) ?_
      obtain ⟨rfl, rfl⟩ := Prod.mk.inj (Option.some.inj hf)
      exact wd_iret X hP hS hr0 dX11_push_27 ⟨rfl, rfl⟩
    · have hf := itF hf c_4
      refine lv_iload_n hx hb dX11_push_12 rfl (lv_at hl 2 rfl) ?_
      refine lv_aload_n hx hb dX11_push_13 rfl (lv_at hl 0 rfl) ?_
      refine wd_getR (q := 26) X hP L0 fl_X11_35 rfl dX11_push_14 ?_
      refine wd_getR (q := 27) X hP (isState.a0 S26) fl_X11_91 rfl dX11_push_17 ?_
      refine wd_getI X hP (isRiver.a0 V27) fl_X11_144 rfl dX11_push_20 ?_
      refine lv_icmp_lt (tgt := 28) hx hb dX11_push_23 (by decide) (fun c_5 => ?_) (fun c_5 => ?_)
      · have hf := itT hf c_5
        refine lv_aload_n hx hb dX11_push_28 rfl (lv_at hl 0 rfl) ?_
        refine wd_getR (q := 26) X hP L0 fl_X11_35 rfl dX11_push_29 ?_
        refine wd_getR (q := 33) X hP (isState.a0 S26) fl_X11_71 rfl dX11_push_32 ?_
        refine wd_getR (q := 35) X hP (isRaft.a0 R33) fl_X11_167 rfl dX11_push_35 ?_
        refine lv_iload_n hx hb dX11_push_38 rfl (lv_at hl 1 rfl) ?_
        have g_6 := gdN hf
        have hf := gdK hf
        refine wd_iald X hP (isRaft.a2 R33) g_6 dX11_push_39 ?_
        refine lv_topi (fun x3_7 ex3_7 => ?_)
        have hf := vl hf ex3_7
        refine lv_istore_n (lv' := [(3, .int x3_7), (0, .ref (bs + 0)), (1, .int x1), (2, .int x2)]) hx hb dX11_push_40 rfl hl (by decide) rfl (fun ls hl => ?_)
        refine lv_iload_n hx hb dX11_push_41 rfl (lv_at hl 0 rfl) ?_
        refine lv_iload_n hx hb dX11_push_42 rfl (lv_at hl 3 rfl) ?_
        refine lv_icmp_ne (tgt := 48) hx hb dX11_push_43 (by decide) (fun c_8 => ?_) (fun c_8 => ?_)
        · have hf := itF hf c_8
          refine lv_aload_n hx hb dX11_push_48 rfl (lv_at hl 1 rfl) ?_
          refine wd_getR (q := 26) X hP L0 fl_X11_35 rfl dX11_push_49 ?_
          obtain ⟨mm_9, hc_10, hf⟩ := bi1S hf
          refine wd_cv X hP hS (isState.a0 S26) ml_X11_221 ⟨_, _, rfl⟩ (c_X9_remember l D dA zz bs mm mm_9 hc_10) rfl ⟨Nat.le_of_ble_eq_true rfl, Nat.le_of_ble_eq_true rfl⟩ hl.1 rfl (rest := []) (Nat.le_of_ble_eq_true rfl) ⟨Nat.zero_le _, Nat.zero_le _⟩ dX11_push_52 (fun H locs hP hS => ?_)
          refine W.eq (g2 := F0 m 55 ls []) rfl ?_
          refine lv_aload_n hx hb dX11_push_55 rfl (lv_at hl 1 rfl) ?_
          refine wd_getR (q := 26) X hP L0 fl_X11_35 rfl dX11_push_56 ?_
          refine wd_getR (q := 33) X hP (isState.a0 S26) fl_X11_71 rfl dX11_push_59 ?_
          refine wd_getR (q := 35) X hP (isRaft.a0 R33) fl_X11_167 rfl dX11_push_62 ?_
          refine lv_iload_n hx hb dX11_push_65 rfl (lv_at hl 2 rfl) ?_
          refine lv_iload_n hx hb dX11_push_66 rfl (lv_at hl 3 rfl) ?_
          have g_12 := gdN hf
          have hf := gdK hf
          refine wd_iast X hP hS (isRaft.a2 R33) g_12 dX11_push_67 (fun H locs mm_11 emm_11 hP hS => ?_)
          have hf := vl hf emm_11
          refine lv_iload_n hx hb dX11_push_68 rfl (lv_at hl 0 rfl) ?_
          obtain ⟨rfl, rfl⟩ := Prod.mk.inj (Option.some.inj hf)
          exact wd_iret X hP hS hr0 dX11_push_69 ⟨rfl, rfl⟩
        · have hf := itT hf c_8
          refine lv_iconst (v := -1) hx hb dX11_push_46 (by decide) ?_
          obtain ⟨rfl, rfl⟩ := Prod.mk.inj (Option.some.inj hf)
          exact wd_iret X hP hS hr0 dX11_push_47 ⟨rfl, rfl⟩
      · have hf := itF hf c_5
        refine lv_iconst (v := -1) hx hb dX11_push_26 (by decide) ?_
        obtain ⟨rfl, rfl⟩ := Prod.mk.inj (Option.some.inj hf)
        exact wd_iret X hP hS hr0 dX11_push_27 ⟨rfl, rfl⟩

noncomputable def f_X11_undo (mm : Mm) : Option (Int32 × Mm) :=
  if (1 : Int32) ≤ (mm.1 26 4) then
    bi1 (f_X9_recall mm) fun mm_2 => some ((mm_2.1 26 4), mm_2)
  else
    some ((-2 : Int32), mm)
set_option maxHeartbeats 4000000 in
set_option maxRecDepth 100000 in
theorem c_X11_undo (l : Launch) (D : va_G) (dA : Nat → ClassId) (zz : (Nat → Nat) × (Nat → Nat)) (bs : Nat) (mm : Mm) (out : Int32) (m1 : Mm) (hf : f_X11_undo mm = some (out, m1)) : Mw l D dA zz bs LY yX11_undo cX11_undo 1 (some .int) 3 101 [.ref (bs + 0)] mm (some (.int out)) m1 := by
  refine Mw.of (own := RX11) (by decide) rfl (Nat.le_of_ble_eq_true rfl) ?_
  intro p e s m args below meth c X hr0 hP hS ls hl
  have hx := X.1
  have hb := X.2.1
  obtain ⟨H, hH⟩ : ∃ z : Heap, z = s.heap := ⟨_, rfl⟩
  obtain ⟨locs, hL⟩ : ∃ z : List Loc, z = [] := ⟨_, rfl⟩
  rw [← hH, ← hL]
  have hS : va_S (Aq bs) s.heap H locs := by rw [hH, hL]; exact hS
  have hP : Wd D dA bs LY mm H := by rw [hH]; exact hP
  have hl : lv_has ls 1 [(0, .ref (bs + 0))] := hl
  unfold f_X11_undo at hf
  refine lv_aload_n hx hb dX11_undo_0 rfl (lv_at hl 0 rfl) ?_
  refine wd_getR (q := 26) X hP L0 fl_X11_35 rfl dX11_undo_1 ?_
  refine wd_getI X hP (isState.a0 S26) fl_X11_265 rfl dX11_undo_4 ?_
  refine lv_iconst (v := 1) hx hb dX11_undo_7 (by decide) ?_
  refine lv_icmp_ge (tgt := 14) hx hb dX11_undo_8 (by decide) (fun c_1 => ?_) (fun c_1 => ?_)
  · have hf := itT hf c_1
    refine lv_aload_n hx hb dX11_undo_14 rfl (lv_at hl 0 rfl) ?_
    refine wd_getR (q := 26) X hP L0 fl_X11_35 rfl dX11_undo_15 ?_
    obtain ⟨mm_2, hc_3, hf⟩ := bi1S hf
    refine wd_cv X hP hS (isState.a0 S26) ml_X11_268 ⟨_, _, rfl⟩ (c_X9_recall l D dA zz bs mm mm_2 hc_3) rfl ⟨Nat.le_of_ble_eq_true rfl, Nat.le_of_ble_eq_true rfl⟩ hl.1 rfl (rest := []) (Nat.le_of_ble_eq_true rfl) ⟨Nat.zero_le _, Nat.zero_le _⟩ dX11_undo_18 (fun H locs hP hS => ?_)
    refine W.eq (g2 := F0 m 21 ls []) rfl ?_
    refine lv_aload_n hx hb dX11_undo_21 rfl (lv_at hl 0 rfl) ?_
    refine wd_getR (q := 26) X hP L0 fl_X11_35 rfl dX11_undo_22 ?_
    refine wd_getI X hP (isState.a0 S26) fl_X11_265 rfl dX11_undo_25 ?_
    obtain ⟨rfl, rfl⟩ := Prod.mk.inj (Option.some.inj hf)
    exact wd_iret X hP hS hr0 dX11_undo_28 ⟨rfl, rfl⟩
  · have hf := itF hf c_1
    refine lv_bipush (v := -2) hx hb dX11_undo_11 (by decide) ?_
    obtain ⟨rfl, rfl⟩ := Prod.mk.inj (Option.some.inj hf)
    exact wd_iret X hP hS hr0 dX11_undo_13 ⟨rfl, rfl⟩

noncomputable def f_X11_tieBest_s50 (u : Nat) (y2 : Int32) (y8 : Int32) : (Int64 × Int32 × Int32 × Int32 × Mm) → Option ((Int64 × Int32 × Int32 × Int32 × Mm) ⊕ (Int64 × Int32 × Int32 × Mm)) :=
  fun q => match q with
  | (y4, y6, y7, y9, mm) =>
    if (mm.1 27 2) ≤ y9 then
      some (.inr (y4, y6, y7, mm))
    else
      bi1 (f_X11_isAfloat mm y8) fun r_6 =>
        if r_6 = 0 then
          some (.inl (y4, y6, y7, (y9 + 1), mm))
        else
          bi1 (f_X11_isAfloat mm y9) fun r_9 =>
            if r_9 = 0 then
              some (.inl (y4, y6, y7, (y9 + 1), mm))
            else
              bi1 (f_X4_areBound mm 33 27 y8 y9) fun r_12 =>
                if r_12 = 0 then
                  bi2 (f_X7_worth mm u y8 y9) fun r_16 mm_14 =>
                    if (lg_cmp r_16 y4) ≤ 0 then
                      some (.inl (y4, y6, y7, (y9 + 1), mm_14))
                    else
                      some (.inl (r_16, y8, y9, (y9 + 1), mm_14))
                else
                  some (.inl (y4, y6, y7, (y9 + 1), mm))
noncomputable def f_X11_tieBest_s29 (u : Nat) (y2 : Int32) : (Int64 × Int32 × Int32 × Int32 × Mm) → Option ((Int64 × Int32 × Int32 × Int32 × Mm) ⊕ (Int64 × Int32 × Int32 × Mm)) :=
  fun q => match q with
  | (y4, y6, y7, y8, mm) =>
    if (mm.1 27 2) ≤ y8 then
      some (.inr (y4, y6, y7, mm))
    else
      bi1 (lp (f_X11_tieBest_s50 u y2 y8) (y4, y6, y7, (y8 + (1 : Int32)), mm)) fun q => match q with
      | (w4_19, w6_20, w7_21, mm_22) =>
        some (.inl (w4_19, w6_20, w7_21, (y8 + 1), mm_22))
noncomputable def f_X11_tieBest (mm : Mm) (u : Nat) (x2 : Int32) : Option (Mm) :=
  bi1 (f_X2_join mm 33 27 (0 : Int32)) fun mm_1 =>
    bi1 (lp (f_X11_tieBest_s29 u x2) ((0 : Int64), (0 : Int32), (0 : Int32), (0 : Int32), mm_1)) fun q => match q with
    | (w4_26, w6_27, w7_28, mm_29) =>
      if (lg_cmp w4_26 (0 : Int64)) ≤ 0 then
        some mm_29
      else
        bi1 (f_X4_spend mm_29 33 27 w6_27 w7_28 x2) fun mm_31 => some mm_31
set_option maxHeartbeats 4000000 in
set_option maxRecDepth 100000 in
theorem c_X11_tieBest (l : Launch) (D : va_G) (dA : Nat → ClassId) (zz : (Nat → Nat) × (Nat → Nat)) (bs : Nat) (mm : Mm) (u : Nat) (hu : isRule u) (x2 : Int32) (m1 : Mm) (hf : f_X11_tieBest mm u x2 = some m1) : Mw l D dA zz bs LY yX11_tieBest cX11_tieBest 12 none 5 126 [.ref (bs + 0), .ref (bs + u), .int x2] mm none m1 := by
  refine Mw.of (own := RX11) (by decide) rfl (Nat.le_of_ble_eq_true rfl) ?_
  intro p e s m args below meth c X hr0 hP hS ls hl
  have hx := X.1
  have hb := X.2.1
  obtain ⟨H, hH⟩ : ∃ z : Heap, z = s.heap := ⟨_, rfl⟩
  obtain ⟨locs, hL⟩ : ∃ z : List Loc, z = [] := ⟨_, rfl⟩
  rw [← hH, ← hL]
  have hS : va_S (Aq bs) s.heap H locs := by rw [hH, hL]; exact hS
  have hP : Wd D dA bs LY mm H := by rw [hH]; exact hP
  have hl : lv_has ls 12 [(0, .ref (bs + 0)), (1, .ref (bs + u)), (2, .int x2)] := hl
  unfold f_X11_tieBest at hf
  refine lv_aload_n hx hb dX11_tieBest_0 rfl (lv_at hl 0 rfl) ?_
  refine wd_getR (q := 26) X hP L0 fl_X11_35 rfl dX11_tieBest_1 ?_
  refine wd_getR (q := 33) X hP (isState.a0 S26) fl_X11_71 rfl dX11_tieBest_4 ?_
  refine lv_astore_n (lv' := [(3, .ref (bs + 33)), (0, .ref (bs + 0)), (1, .ref (bs + u)), (2, .int x2)]) hx hb dX11_tieBest_7 rfl hl (by decide) rfl (fun ls hl => ?_)
  refine lv_aload_n hx hb dX11_tieBest_8 rfl (lv_at hl 1 rfl) ?_
  refine wd_getR (q := 229) X hP L0 fl_X11_56 rfl dX11_tieBest_9 ?_
  refine lv_aload_n hx hb dX11_tieBest_12 rfl (lv_at hl 0 rfl) ?_
  refine lv_iconst (v := 0) hx hb dX11_tieBest_13 (by decide) ?_
  obtain ⟨mm_1, hc_2, hf⟩ := bi1S hf
  refine wd_cv X hP hS L229 ml_X11_182 ⟨_, _, rfl⟩ (c_X2_join l D dA zz bs mm 33 27 R33 (0 : Int32) mm_1 hc_2) rfl ⟨Nat.le_of_ble_eq_true rfl, Nat.le_of_ble_eq_true rfl⟩ hl.1 rfl (rest := []) (Nat.le_of_ble_eq_true rfl) ⟨Nat.zero_le _, Nat.zero_le _⟩ dX11_tieBest_14 (fun H locs hP hS => ?_)
  refine W.eq (g2 := F0 m 17 ls []) rfl ?_
  refine lv_lconst (v := 0) hx hb dX11_tieBest_17 (by decide) ?_
  refine lv_lstore (lv' := [(4, .long (0 : Int64)), (3, .ref (bs + 33)), (0, .ref (bs + 0)), (1, .ref (bs + u)), (2, .int x2)]) hx hb dX11_tieBest_18 hl (by decide) rfl (fun ls hl => ?_)
  refine lv_iconst (v := 0) hx hb dX11_tieBest_20 (by decide) ?_
  refine lv_istore (lv' := [(6, .int (0 : Int32)), (4, .long (0 : Int64)), (3, .ref (bs + 33)), (0, .ref (bs + 0)), (1, .ref (bs + u)), (2, .int x2)]) hx hb dX11_tieBest_21 hl (by decide) rfl (fun ls hl => ?_)
  refine lv_iconst (v := 0) hx hb dX11_tieBest_23 (by decide) ?_
  refine lv_istore (lv' := [(7, .int (0 : Int32)), (6, .int (0 : Int32)), (4, .long (0 : Int64)), (3, .ref (bs + 33)), (0, .ref (bs + 0)), (1, .ref (bs + u)), (2, .int x2)]) hx hb dX11_tieBest_24 hl (by decide) rfl (fun ls hl => ?_)
  refine lv_iconst (v := 0) hx hb dX11_tieBest_26 (by decide) ?_
  refine lv_istore (lv' := [(8, .int (0 : Int32)), (7, .int (0 : Int32)), (6, .int (0 : Int32)), (4, .long (0 : Int64)), (3, .ref (bs + 33)), (0, .ref (bs + 0)), (1, .ref (bs + u)), (2, .int x2)]) hx hb dX11_tieBest_27 hl (by decide) rfl (fun ls hl => ?_)
  obtain ⟨q_33, hlp_34, hf⟩ := bi1S hf
  refine lp_walk (Wh := (fun z => match z with | (y4L_25, y6L_25, y7L_25, y8L_25, mmL_25) => ∀ (H : Heap) (locs : List Loc) (ls : Array Slot), Wd D dA bs LY mmL_25 H → va_S (Aq bs) s.heap H locs → lv_has ls 12 [(0, .ref (bs + 0)), (1, .ref (bs + u)), (2, .int x2), (3, .ref (bs + 33)), (4, .long y4L_25), (6, .int y6L_25), (7, .int y7L_25), (8, .int y8L_25)] → Wz p l e s m args below meth c D dA bs none m1 5 126 H locs 29 ls [])) (Ph := (fun z => match z with | (w4_26, w6_27, w7_28, mm_29) => ∀ (H : Heap) (locs : List Loc) (ls : Array Slot), Wd D dA bs LY mm_29 H → va_S (Aq bs) s.heap H locs → lv_has ls 12 [(2, .int x2), (3, .ref (bs + 33)), (4, .long w4_26), (6, .int w6_27), (7, .int w7_28)] → Wz p l e s m args below meth c D dA bs none m1 5 126 H locs 144 ls [])) ?_ hlp_34 ?_ H locs ls hP hS (lv_sub hl [5, 6, 7, 4, 3, 2, 1, 0] rfl)
  · intro z o hf hB hE
    obtain ⟨y4L_25, y6L_25, y7L_25, y8L_25, mmL_25⟩ := z
    intro H locs ls hP hS hl
    have hf : f_X11_tieBest_s29 u x2 (y4L_25, y6L_25, y7L_25, y8L_25, mmL_25) = some o := hf
    unfold f_X11_tieBest_s29 at hf
    dsimp only at hf
    refine lv_iload hx hb dX11_tieBest_29 (lv_at hl 7 rfl) ?_
    refine lv_aload_n hx hb dX11_tieBest_31 rfl (lv_at hl 0 rfl) ?_
    refine wd_getR (q := 26) X hP L0 fl_X11_35 rfl dX11_tieBest_32 ?_
    refine wd_getR (q := 27) X hP (isState.a0 S26) fl_X11_91 rfl dX11_tieBest_35 ?_
    refine wd_getI X hP (isRiver.a0 V27) fl_X11_127 rfl dX11_tieBest_38 ?_
    refine lv_icmp_ge (tgt := 144) hx hb dX11_tieBest_41 (by decide) (fun c_3 => ?_) (fun c_3 => ?_)
    · have hf := itT hf c_3
      obtain rfl := Option.some.inj hf
      exact hE _ rfl H locs ls hP hS (lv_sub hl [2, 3, 4, 5, 6] rfl)
    · have hf := itF hf c_3
      refine lv_iload hx hb dX11_tieBest_44 (lv_at hl 7 rfl) ?_
      refine lv_iconst (v := 1) hx hb dX11_tieBest_46 (by decide) ?_
      refine lv_iadd hx hb dX11_tieBest_47 ?_
      refine lv_istore (lv' := [(9, .int (y8L_25 + (1 : Int32))), (0, .ref (bs + 0)), (1, .ref (bs + u)), (2, .int x2), (3, .ref (bs + 33)), (4, .long y4L_25), (6, .int y6L_25), (7, .int y7L_25), (8, .int y8L_25)]) hx hb dX11_tieBest_48 hl (by decide) rfl (fun ls hl => ?_)
      obtain ⟨q_23, hlp_24, hf⟩ := bi1S hf
      refine lp_walk (Wh := (fun z => match z with | (y4L_18, y6L_18, y7L_18, y9L_18, mmL_18) => ∀ (H : Heap) (locs : List Loc) (ls : Array Slot), Wd D dA bs LY mmL_18 H → va_S (Aq bs) s.heap H locs → lv_has ls 12 [(0, .ref (bs + 0)), (1, .ref (bs + u)), (2, .int x2), (3, .ref (bs + 33)), (4, .long y4L_18), (6, .int y6L_18), (7, .int y7L_18), (8, .int y8L_25), (9, .int y9L_18)] → Wz p l e s m args below meth c D dA bs none m1 5 126 H locs 50 ls [])) (Ph := (fun z => match z with | (w4_19, w6_20, w7_21, mm_22) => ∀ (H : Heap) (locs : List Loc) (ls : Array Slot), Wd D dA bs LY mm_22 H → va_S (Aq bs) s.heap H locs → lv_has ls 12 [(0, .ref (bs + 0)), (1, .ref (bs + u)), (2, .int x2), (3, .ref (bs + 33)), (4, .long w4_19), (6, .int w6_20), (7, .int w7_21), (8, .int y8L_25)] → Wz p l e s m args below meth c D dA bs none m1 5 126 H locs 138 ls [])) ?_ hlp_24 ?_ H locs ls hP hS (lv_sub hl [1, 2, 3, 4, 5, 6, 7, 8, 0] rfl)
      · intro z o hf hB hE
        obtain ⟨y4L_18, y6L_18, y7L_18, y9L_18, mmL_18⟩ := z
        intro H locs ls hP hS hl
        have hf : f_X11_tieBest_s50 u x2 y8L_25 (y4L_18, y6L_18, y7L_18, y9L_18, mmL_18) = some o := hf
        unfold f_X11_tieBest_s50 at hf
        dsimp only at hf
        refine lv_iload hx hb dX11_tieBest_50 (lv_at hl 8 rfl) ?_
        refine lv_aload_n hx hb dX11_tieBest_52 rfl (lv_at hl 0 rfl) ?_
        refine wd_getR (q := 26) X hP L0 fl_X11_35 rfl dX11_tieBest_53 ?_
        refine wd_getR (q := 27) X hP (isState.a0 S26) fl_X11_91 rfl dX11_tieBest_56 ?_
        refine wd_getI X hP (isRiver.a0 V27) fl_X11_127 rfl dX11_tieBest_59 ?_
        refine lv_icmp_ge (tgt := 138) hx hb dX11_tieBest_62 (by decide) (fun c_4 => ?_) (fun c_4 => ?_)
        · have hf := itT hf c_4
          obtain rfl := Option.some.inj hf
          exact hE _ rfl H locs ls hP hS (lv_sub hl [0, 1, 2, 3, 4, 5, 6, 7] rfl)
        · have hf := itF hf c_4
          refine lv_aload_n hx hb dX11_tieBest_65 rfl (lv_at hl 0 rfl) ?_
          refine lv_iload hx hb dX11_tieBest_66 (lv_at hl 7 rfl) ?_
          obtain ⟨r_6, hc_5, hf⟩ := bi1S hf
          refine wd_cv X hP hS L0 ml_X11_209 ⟨_, _, rfl⟩ (c_X11_isAfloat l D dA zz bs mmL_18 y8L_25 r_6 hc_5) rfl ⟨Nat.le_of_ble_eq_true rfl, Nat.le_of_ble_eq_true rfl⟩ hl.1 rfl (rest := []) (Nat.le_of_ble_eq_true rfl) ⟨Nat.zero_le _, Nat.zero_le _⟩ dX11_tieBest_68 (fun H locs hP hS => ?_)
          refine W.eq (g2 := F0 m 71 ls [.int r_6]) rfl ?_
          refine lv_if_eq (tgt := 132) hx hb dX11_tieBest_71 (by decide) (fun c_7 => ?_) (fun c_7 => ?_)
          · have hf := itT hf c_7
            refine lv_iinc (v := (y9L_18 + 1)) (lv' := [(9, .int (y9L_18 + 1)), (0, .ref (bs + 0)), (1, .ref (bs + u)), (2, .int x2), (3, .ref (bs + 33)), (4, .long y4L_18), (6, .int y6L_18), (7, .int y7L_18), (8, .int y8L_25)]) hx hb dX11_tieBest_132 hl (k := 8) rfl rfl (by decide) rfl (fun ls hl => ?_)
            refine lv_goto (tgt := 50) hx hb dX11_tieBest_135 (by decide) ?_
            obtain rfl := Option.some.inj hf
            exact hB _ rfl H locs ls hP hS (lv_sub hl [1, 2, 3, 4, 5, 6, 7, 8, 0] rfl)
          · have hf := itF hf c_7
            refine lv_aload_n hx hb dX11_tieBest_74 rfl (lv_at hl 0 rfl) ?_
            refine lv_iload hx hb dX11_tieBest_75 (lv_at hl 8 rfl) ?_
            obtain ⟨r_9, hc_8, hf⟩ := bi1S hf
            refine wd_cv X hP hS L0 ml_X11_209 ⟨_, _, rfl⟩ (c_X11_isAfloat l D dA zz bs mmL_18 y9L_18 r_9 hc_8) rfl ⟨Nat.le_of_ble_eq_true rfl, Nat.le_of_ble_eq_true rfl⟩ hl.1 rfl (rest := []) (Nat.le_of_ble_eq_true rfl) ⟨Nat.zero_le _, Nat.zero_le _⟩ dX11_tieBest_77 (fun H locs hP hS => ?_)
            refine W.eq (g2 := F0 m 80 ls [.int r_9]) rfl ?_
            refine lv_if_eq (tgt := 132) hx hb dX11_tieBest_80 (by decide) (fun c_10 => ?_) (fun c_10 => ?_)
            · have hf := itT hf c_10
              refine lv_iinc (v := (y9L_18 + 1)) (lv' := [(9, .int (y9L_18 + 1)), (0, .ref (bs + 0)), (1, .ref (bs + u)), (2, .int x2), (3, .ref (bs + 33)), (4, .long y4L_18), (6, .int y6L_18), (7, .int y7L_18), (8, .int y8L_25)]) hx hb dX11_tieBest_132 hl (k := 8) rfl rfl (by decide) rfl (fun ls hl => ?_)
              refine lv_goto (tgt := 50) hx hb dX11_tieBest_135 (by decide) ?_
              obtain rfl := Option.some.inj hf
              exact hB _ rfl H locs ls hP hS (lv_sub hl [1, 2, 3, 4, 5, 6, 7, 8, 0] rfl)
            · have hf := itF hf c_10
              refine lv_aload_n hx hb dX11_tieBest_83 rfl (lv_at hl 3 rfl) ?_
              refine lv_iload hx hb dX11_tieBest_84 (lv_at hl 7 rfl) ?_
              refine lv_iload hx hb dX11_tieBest_86 (lv_at hl 8 rfl) ?_
              obtain ⟨r_12, hc_11, hf⟩ := bi1S hf
              refine wd_cv X hP hS (isRaft.a0 R33) ml_X11_237 ⟨_, _, rfl⟩ (c_X4_areBound l D dA zz bs mmL_18 33 27 R33 y8L_25 y9L_18 r_12 hc_11) rfl ⟨Nat.le_of_ble_eq_true rfl, Nat.le_of_ble_eq_true rfl⟩ hl.1 rfl (rest := []) (Nat.le_of_ble_eq_true rfl) ⟨Nat.zero_le _, Nat.zero_le _⟩ dX11_tieBest_88 (fun H locs hP hS => ?_)
              refine W.eq (g2 := F0 m 91 ls [.int r_12]) rfl ?_
              refine lv_if_eq (tgt := 97) hx hb dX11_tieBest_91 (by decide) (fun c_13 => ?_) (fun c_13 => ?_)
              · have hf := itT hf c_13
                refine lv_aload_n hx hb dX11_tieBest_97 rfl (lv_at hl 1 rfl) ?_
                refine lv_aload_n hx hb dX11_tieBest_98 rfl (lv_at hl 3 rfl) ?_
                refine lv_aload_n hx hb dX11_tieBest_99 rfl (lv_at hl 0 rfl) ?_
                refine wd_getR (q := 229) X hP L0 fl_X11_56 rfl dX11_tieBest_100 ?_
                refine lv_iload hx hb dX11_tieBest_103 (lv_at hl 7 rfl) ?_
                refine lv_iload hx hb dX11_tieBest_105 (lv_at hl 8 rfl) ?_
                obtain ⟨r_16, mm_14, hc_15, hf⟩ := bi2S hf
                refine wd_cv X hP hS (isRule.a0 hu) ml_X11_380 ⟨_, _, rfl⟩ (c_X7_worth l D dA zz bs mmL_18 u hu y8L_25 y9L_18 r_16 mm_14 hc_15) rfl ⟨Nat.le_of_ble_eq_true rfl, Nat.le_of_ble_eq_true rfl⟩ hl.1 rfl (rest := []) (Nat.le_of_ble_eq_true rfl) ⟨Nat.zero_le _, Nat.zero_le _⟩ dX11_tieBest_107 (fun H locs hP hS => ?_)
                refine W.eq (g2 := F0 m 110 ls [.long r_16]) rfl ?_
                refine lv_lstore (lv' := [(10, .long r_16), (0, .ref (bs + 0)), (1, .ref (bs + u)), (2, .int x2), (3, .ref (bs + 33)), (4, .long y4L_18), (6, .int y6L_18), (7, .int y7L_18), (8, .int y8L_25), (9, .int y9L_18)]) hx hb dX11_tieBest_110 hl (by decide) rfl (fun ls hl => ?_)
                refine lv_lload hx hb dX11_tieBest_112 (lv_at hl 0 rfl) ?_
                refine lv_lload hx hb dX11_tieBest_114 (lv_at hl 5 rfl) ?_
                refine W.lcmp hx hb dX11_tieBest_116 ?_
                refine lv_if_le (tgt := 132) hx hb dX11_tieBest_117 (by decide) (fun c_17 => ?_) (fun c_17 => ?_)
                · have hf := itT hf c_17
                  refine lv_iinc (v := (y9L_18 + 1)) (lv' := [(9, .int (y9L_18 + 1)), (10, .long r_16), (0, .ref (bs + 0)), (1, .ref (bs + u)), (2, .int x2), (3, .ref (bs + 33)), (4, .long y4L_18), (6, .int y6L_18), (7, .int y7L_18), (8, .int y8L_25)]) hx hb dX11_tieBest_132 hl (k := 9) rfl rfl (by decide) rfl (fun ls hl => ?_)
                  refine lv_goto (tgt := 50) hx hb dX11_tieBest_135 (by decide) ?_
                  obtain rfl := Option.some.inj hf
                  exact hB _ rfl H locs ls hP hS (lv_sub hl [2, 3, 4, 5, 6, 7, 8, 9, 0] rfl)
                · have hf := itF hf c_17
                  refine lv_lload hx hb dX11_tieBest_120 (lv_at hl 0 rfl) ?_
                  refine lv_lstore (lv' := [(4, .long r_16), (10, .long r_16), (0, .ref (bs + 0)), (1, .ref (bs + u)), (2, .int x2), (3, .ref (bs + 33)), (6, .int y6L_18), (7, .int y7L_18), (8, .int y8L_25), (9, .int y9L_18)]) hx hb dX11_tieBest_122 hl (by decide) rfl (fun ls hl => ?_)
                  refine lv_iload hx hb dX11_tieBest_124 (lv_at hl 8 rfl) ?_
                  refine lv_istore (lv' := [(6, .int y8L_25), (4, .long r_16), (10, .long r_16), (0, .ref (bs + 0)), (1, .ref (bs + u)), (2, .int x2), (3, .ref (bs + 33)), (7, .int y7L_18), (8, .int y8L_25), (9, .int y9L_18)]) hx hb dX11_tieBest_126 hl (by decide) rfl (fun ls hl => ?_)
                  refine lv_iload hx hb dX11_tieBest_128 (lv_at hl 9 rfl) ?_
                  refine lv_istore (lv' := [(7, .int y9L_18), (6, .int y8L_25), (4, .long r_16), (10, .long r_16), (0, .ref (bs + 0)), (1, .ref (bs + u)), (2, .int x2), (3, .ref (bs + 33)), (8, .int y8L_25), (9, .int y9L_18)]) hx hb dX11_tieBest_130 hl (by decide) rfl (fun ls hl => ?_)
                  refine lv_iinc (v := (y9L_18 + 1)) (lv' := [(9, .int (y9L_18 + 1)), (7, .int y9L_18), (6, .int y8L_25), (4, .long r_16), (10, .long r_16), (0, .ref (bs + 0)), (1, .ref (bs + u)), (2, .int x2), (3, .ref (bs + 33)), (8, .int y8L_25)]) hx hb dX11_tieBest_132 hl (k := 9) rfl rfl (by decide) rfl (fun ls hl => ?_)
                  refine lv_goto (tgt := 50) hx hb dX11_tieBest_135 (by decide) ?_
                  obtain rfl := Option.some.inj hf
                  exact hB _ rfl H locs ls hP hS (lv_sub hl [5, 6, 7, 8, 3, 2, 1, 9, 0] rfl)
              · have hf := itF hf c_13
                refine lv_goto (tgt := 132) hx hb dX11_tieBest_94 (by decide) ?_
                refine lv_iinc (v := (y9L_18 + 1)) (lv' := [(9, .int (y9L_18 + 1)), (0, .ref (bs + 0)), (1, .ref (bs + u)), (2, .int x2), (3, .ref (bs + 33)), (4, .long y4L_18), (6, .int y6L_18), (7, .int y7L_18), (8, .int y8L_25)]) hx hb dX11_tieBest_132 hl (k := 8) rfl rfl (by decide) rfl (fun ls hl => ?_)
                refine lv_goto (tgt := 50) hx hb dX11_tieBest_135 (by decide) ?_
                obtain rfl := Option.some.inj hf
                exact hB _ rfl H locs ls hP hS (lv_sub hl [1, 2, 3, 4, 5, 6, 7, 8, 0] rfl)
      · obtain ⟨w4_19, w6_20, w7_21, mm_22⟩ := q_23
        dsimp only at hf
        intro H locs ls hP hS hl
        refine lv_iinc (v := (y8L_25 + 1)) (lv' := [(8, .int (y8L_25 + 1)), (0, .ref (bs + 0)), (1, .ref (bs + u)), (2, .int x2), (3, .ref (bs + 33)), (4, .long w4_19), (6, .int w6_20), (7, .int w7_21)]) hx hb dX11_tieBest_138 hl (k := 7) rfl rfl (by decide) rfl (fun ls hl => ?_)
        refine lv_goto (tgt := 29) hx hb dX11_tieBest_141 (by decide) ?_
        obtain rfl := Option.some.inj hf
        exact hB _ rfl H locs ls hP hS (lv_sub hl [1, 2, 3, 4, 5, 6, 7, 0] rfl)
  · obtain ⟨w4_26, w6_27, w7_28, mm_29⟩ := q_33
    dsimp only at hf
    intro H locs ls hP hS hl
    refine lv_lload hx hb dX11_tieBest_144 (lv_at hl 2 rfl) ?_
    refine lv_lconst (v := 0) hx hb dX11_tieBest_146 (by decide) ?_
    refine W.lcmp hx hb dX11_tieBest_147 ?_
    refine lv_if_le (tgt := 160) hx hb dX11_tieBest_148 (by decide) (fun c_30 => ?_) (fun c_30 => ?_)
    · have hf := itT hf c_30
      obtain rfl := Option.some.inj hf
      exact wd_vret X hP hS hr0 dX11_tieBest_160 ⟨rfl, rfl⟩
    · have hf := itF hf c_30
      refine lv_aload_n hx hb dX11_tieBest_151 rfl (lv_at hl 1 rfl) ?_
      refine lv_iload hx hb dX11_tieBest_152 (lv_at hl 3 rfl) ?_
      refine lv_iload hx hb dX11_tieBest_154 (lv_at hl 4 rfl) ?_
      refine lv_iload_n hx hb dX11_tieBest_156 rfl (lv_at hl 0 rfl) ?_
      obtain ⟨mm_31, hc_32, hf⟩ := bi1S hf
      refine wd_cv X hP hS (isRaft.a0 R33) ml_X11_244 ⟨_, _, rfl⟩ (c_X4_spend l D dA zz bs mm_29 33 27 R33 w6_27 w7_28 x2 mm_31 hc_32) rfl ⟨Nat.le_of_ble_eq_true rfl, Nat.le_of_ble_eq_true rfl⟩ hl.1 rfl (rest := []) (Nat.le_of_ble_eq_true rfl) ⟨Nat.zero_le _, Nat.zero_le _⟩ dX11_tieBest_157 (fun H locs hP hS => ?_)
      refine W.eq (g2 := F0 m 160 ls []) rfl ?_
      obtain rfl := Option.some.inj hf
      exact wd_vret X hP hS hr0 dX11_tieBest_160 ⟨rfl, rfl⟩

noncomputable def f_X11_run_j92 (mm : Mm) (y1 : Int32) (y2 : Int32) (y3 : Int32) (y4 : Int32) : Option ((Int32 × Mm) ⊕ (Mm)) :=
  bi1 (f_X4_drift mm 33 27 (0 : Int32)) fun mm_9 => some (.inl ((y4 + 1), mm_9))
noncomputable def f_X11_run_s61 (y1 : Int32) (y2 : Int32) (y3 : Int32) : (Int32 × Mm) → Option ((Int32 × Mm) ⊕ (Mm)) :=
  fun q => match q with
  | (y4, mm) =>
    if y2 ≤ y4 then
      some (.inr mm)
    else
      if (f_X4_canSpare mm 33 27 y3) = 0 then
        f_X11_run_j92 mm y1 y2 y3 y4
      else
        if y1 < 0 ∨ 6 ≤ y1.toNatClampNeg then none else
          bi1 (f_X11_tieBest mm (1052 + 6 * y1.toNatClampNeg) y3) fun mm_15 => f_X11_run_j92 mm_15 y1 y2 y3 y4
noncomputable def f_X11_run (mm : Mm) (x1 : Int32) (x2 : Int32) (x3 : Int32) : Option (Int32 × Mm) :=
  if x1 < 0 then
    some ((-1 : Int32), mm)
  else
    if (mm.1 0 7) ≤ x1 then
      some ((-1 : Int32), mm)
    else
      if (f_X11_isStrength x3) = 0 then
        some ((-1 : Int32), mm)
      else
        if x2 < (1 : Int32) then
          some ((-1 : Int32), mm)
        else
          if x2 ≤ (f_X4_milesLeft mm 33 27) then
            vlet (wI mm 26 4 (0 : Int32)) fun mm_6 =>
              bi1 (f_J7_fill_53178 mm_6 251 3 (0 : Int32)) fun mm_7 =>
                bi1 (lp (f_X11_run_s61 x1 x2 x3) ((0 : Int32), mm_7)) fun mm_18 =>
                  some ((mm_18.1 251 0), mm_18)
          else
            some ((-1 : Int32), mm)
set_option maxHeartbeats 4000000 in
set_option maxRecDepth 100000 in
theorem c_X11_run (l : Launch) (D : va_G) (dA : Nat → ClassId) (zz : (Nat → Nat) × (Nat → Nat)) (bs : Nat) (mm : Mm) (x1 : Int32) (x2 : Int32) (x3 : Int32) (out : Int32) (m1 : Mm) (hf : f_X11_run mm x1 x2 x3 = some (out, m1)) : Mw l D dA zz bs LY yX11_run cX11_run 5 (some .int) 6 157 [.ref (bs + 0), .int x1, .int x2, .int x3] mm (some (.int out)) m1 := by
  refine Mw.of (own := RX11) (by decide) rfl (Nat.le_of_ble_eq_true rfl) ?_
  intro p e s m args below meth c X hr0 hP hS ls hl
  have hx := X.1
  have hb := X.2.1
  obtain ⟨H, hH⟩ : ∃ z : Heap, z = s.heap := ⟨_, rfl⟩
  obtain ⟨locs, hL⟩ : ∃ z : List Loc, z = [] := ⟨_, rfl⟩
  rw [← hH, ← hL]
  have hS : va_S (Aq bs) s.heap H locs := by rw [hH, hL]; exact hS
  have hP : Wd D dA bs LY mm H := by rw [hH]; exact hP
  have hl : lv_has ls 5 [(0, .ref (bs + 0)), (1, .int x1), (2, .int x2), (3, .int x3)] := hl
  unfold f_X11_run at hf
  refine lv_iload_n hx hb dX11_run_0 rfl (lv_at hl 1 rfl) ?_
  refine lv_if_lt (tgt := 19) hx hb dX11_run_1 (by decide) (fun c_1 => ?_) (fun c_1 => ?_)
  · have hf := itT hf c_1
    refine lv_iconst (v := -1) hx hb dX11_run_19 (by decide) ?_
    obtain ⟨rfl, rfl⟩ := Prod.mk.inj (Option.some.inj hf)
    exact wd_iret X hP hS hr0 dX11_run_20 ⟨rfl, rfl⟩
  · have hf := itF hf c_1
    refine lv_iload_n hx hb dX11_run_4 rfl (lv_at hl 1 rfl) ?_
    refine lv_aload_n hx hb dX11_run_5 rfl (lv_at hl 0 rfl) ?_
    refine wd_getI X hP L0 fl_X11_132 rfl dX11_run_6 ?_
    refine lv_icmp_ge (tgt := 19) hx hb dX11_run_9 (by decide) (fun c_2 => ?_) (fun c_2 => ?_)
    · have hf := itT hf c_2
      refine lv_iconst (v := -1) hx hb dX11_run_19 (by decide) ?_
      obtain ⟨rfl, rfl⟩ := Prod.mk.inj (Option.some.inj hf)
      exact wd_iret X hP hS hr0 dX11_run_20 ⟨rfl, rfl⟩
    · have hf := itF hf c_2
      refine lv_iload_n hx hb dX11_run_12 rfl (lv_at hl 3 rfl) ?_
      refine wd_cs X hP hS ml_X11_234 (c_X11_isStrength l D dA zz bs mm x3 (f_X11_isStrength x3) rfl) rfl ⟨Nat.le_of_ble_eq_true rfl, Nat.le_of_ble_eq_true rfl⟩ hl.1 rfl (rest := []) (Nat.le_of_ble_eq_true rfl) ⟨Nat.zero_le _, Nat.zero_le _⟩ dX11_run_13 (fun H locs hP hS => ?_)
      refine W.eq (g2 := F0 m 16 ls [.int (f_X11_isStrength x3)]) rfl ?_
      refine lv_if_ne (tgt := 21) hx hb dX11_run_16 (by decide) (fun c_3 => ?_) (fun c_3 => ?_)
      · have hf := itF hf c_3
        refine lv_iload_n hx hb dX11_run_21 rfl (lv_at hl 2 rfl) ?_
        refine lv_iconst (v := 1) hx hb dX11_run_22 (by decide) ?_
        refine lv_icmp_lt (tgt := 40) hx hb dX11_run_23 (by decide) (fun c_4 => ?_) (fun c_4 => ?_)
        · have hf := itT hf c_4
          refine lv_iconst (v := -1) hx hb dX11_run_40 (by decide) ?_
          obtain ⟨rfl, rfl⟩ := Prod.mk.inj (Option.some.inj hf)
          exact wd_iret X hP hS hr0 dX11_run_41 ⟨rfl, rfl⟩
        · have hf := itF hf c_4
          refine lv_iload_n hx hb dX11_run_26 rfl (lv_at hl 2 rfl) ?_
          refine lv_aload_n hx hb dX11_run_27 rfl (lv_at hl 0 rfl) ?_
          refine wd_getR (q := 26) X hP L0 fl_X11_35 rfl dX11_run_28 ?_
          refine wd_getR (q := 33) X hP (isState.a0 S26) fl_X11_71 rfl dX11_run_31 ?_
          refine wd_cv X hP hS (isRaft.a0 R33) ml_X11_217 ⟨_, _, rfl⟩ (c_X4_milesLeft l D dA zz bs mm 33 27 R33 (f_X4_milesLeft mm 33 27) rfl) rfl ⟨Nat.le_of_ble_eq_true rfl, Nat.le_of_ble_eq_true rfl⟩ hl.1 rfl (rest := [.int x2]) (Nat.le_of_ble_eq_true rfl) ⟨Nat.zero_le _, Nat.zero_le _⟩ dX11_run_34 (fun H locs hP hS => ?_)
          refine W.eq (g2 := F0 m 37 ls [.int (f_X4_milesLeft mm 33 27), .int x2]) rfl ?_
          refine lv_icmp_le (tgt := 42) hx hb dX11_run_37 (by decide) (fun c_5 => ?_) (fun c_5 => ?_)
          · have hf := itT hf c_5
            refine lv_aload_n hx hb dX11_run_42 rfl (lv_at hl 0 rfl) ?_
            refine wd_getR (q := 26) X hP L0 fl_X11_35 rfl dX11_run_43 ?_
            refine lv_iconst (v := 0) hx hb dX11_run_46 (by decide) ?_
            refine wd_putI X hP hS (isState.a0 S26) fp_X11_265 rfl dX11_run_47 (fun H locs mm_6 emm_6 hP hS => ?_)
            have hf := vl hf emm_6
            refine lv_aload_n hx hb dX11_run_50 rfl (lv_at hl 0 rfl) ?_
            refine wd_getR (q := 251) X hP L0 fl_X11_101 rfl dX11_run_51 ?_
            refine lv_iconst (v := 0) hx hb dX11_run_54 (by decide) ?_
            obtain ⟨mm_7, hc_8, hf⟩ := bi1S hf
            refine wd_cs X hP hS ml_X11_224 (c_J7_fill_53178 l D dA zz bs mm_6 251 3 L251 (0 : Int32) mm_7 hc_8) rfl ⟨Nat.le_of_ble_eq_true rfl, Nat.le_of_ble_eq_true rfl⟩ hl.1 rfl (rest := []) (Nat.le_of_ble_eq_true rfl) ⟨Nat.zero_le _, Nat.zero_le _⟩ dX11_run_55 (fun H locs hP hS => ?_)
            refine W.eq (g2 := F0 m 58 ls []) rfl ?_
            refine lv_iconst (v := 0) hx hb dX11_run_58 (by decide) ?_
            refine lv_istore (lv' := [(4, .int (0 : Int32)), (0, .ref (bs + 0)), (1, .int x1), (2, .int x2), (3, .int x3)]) hx hb dX11_run_59 hl (by decide) rfl (fun ls hl => ?_)
            obtain ⟨q_19, hlp_20, hf⟩ := bi1S hf
            refine lp_walk (Wh := (fun z => match z with | (y4L_17, mmL_17) => ∀ (H : Heap) (locs : List Loc) (ls : Array Slot), Wd D dA bs LY mmL_17 H → va_S (Aq bs) s.heap H locs → lv_has ls 5 [(0, .ref (bs + 0)), (1, .int x1), (2, .int x2), (3, .int x3), (4, .int y4L_17)] → Wz p l e s m args below meth c D dA bs (some (.int out)) m1 6 157 H locs 61 ls [])) (Ph := (fun mm_18 => ∀ (H : Heap) (locs : List Loc) (ls : Array Slot), Wd D dA bs LY mm_18 H → va_S (Aq bs) s.heap H locs → lv_has ls 5 [(0, .ref (bs + 0))] → Wz p l e s m args below meth c D dA bs (some (.int out)) m1 6 157 H locs 117 ls [])) ?_ hlp_20 ?_ H locs ls hP hS (lv_sub hl [1, 2, 3, 4, 0] rfl)
            · intro z o hf hB hE
              obtain ⟨y4L_17, mmL_17⟩ := z
              intro H locs ls hP hS hl
              have hf : f_X11_run_s61 x1 x2 x3 (y4L_17, mmL_17) = some o := hf
              unfold f_X11_run_s61 at hf
              dsimp only at hf
              have hJ92 : ∀ (mmJ_11 : Mm) (y4J_11 : Int32) (H : Heap) (locs : List Loc) (ls : Array Slot), f_X11_run_j92 mmJ_11 x1 x2 x3 y4J_11 = some o → Wd D dA bs LY mmJ_11 H → va_S (Aq bs) s.heap H locs → lv_has ls 5 [(0, .ref (bs + 0)), (1, .int x1), (2, .int x2), (3, .int x3), (4, .int y4J_11)] → Wz p l e s m args below meth c D dA bs (some (.int out)) m1 6 157 H locs 92 ls [] := by
                intro mmJ_11 y4J_11 H locs ls hf hP hS hl
                unfold f_X11_run_j92 at hf
                refine lv_aload_n hx hb dX11_run_92 rfl (lv_at hl 0 rfl) ?_
                refine wd_getR (q := 26) X hP L0 fl_X11_35 rfl dX11_run_93 ?_
                refine wd_getR (q := 33) X hP (isState.a0 S26) fl_X11_71 rfl dX11_run_96 ?_
                refine lv_iconst (v := 0) hx hb dX11_run_99 (by decide) ?_
                refine lv_aload_n hx hb dX11_run_100 rfl (lv_at hl 0 rfl) ?_
                refine wd_getR (q := 229) X hP L0 fl_X11_56 rfl dX11_run_101 ?_
                refine lv_aload_n hx hb dX11_run_104 rfl (lv_at hl 0 rfl) ?_
                refine wd_getR (q := 251) X hP L0 fl_X11_101 rfl dX11_run_105 ?_
                obtain ⟨mm_9, hc_10, hf⟩ := bi1S hf
                refine wd_cv X hP hS (isRaft.a0 R33) ml_X11_230 ⟨_, _, rfl⟩ (c_X4_drift l D dA zz bs mmJ_11 33 27 R33 (0 : Int32) mm_9 hc_10) rfl ⟨Nat.le_of_ble_eq_true rfl, Nat.le_of_ble_eq_true rfl⟩ hl.1 rfl (rest := []) (Nat.le_of_ble_eq_true rfl) ⟨Nat.zero_le _, Nat.zero_le _⟩ dX11_run_108 (fun H locs hP hS => ?_)
                refine W.eq (g2 := F0 m 111 ls []) rfl ?_
                refine lv_iinc (v := (y4J_11 + 1)) (lv' := [(4, .int (y4J_11 + 1)), (0, .ref (bs + 0)), (1, .int x1), (2, .int x2), (3, .int x3)]) hx hb dX11_run_111 hl (k := 4) rfl rfl (by decide) rfl (fun ls hl => ?_)
                refine lv_goto (tgt := 61) hx hb dX11_run_114 (by decide) ?_
                obtain rfl := Option.some.inj hf
                exact hB _ rfl H locs ls hP hS (lv_sub hl [1, 2, 3, 4, 0] rfl)
              refine lv_iload hx hb dX11_run_61 (lv_at hl 4 rfl) ?_
              refine lv_iload_n hx hb dX11_run_63 rfl (lv_at hl 2 rfl) ?_
              refine lv_icmp_ge (tgt := 117) hx hb dX11_run_64 (by decide) (fun c_12 => ?_) (fun c_12 => ?_)
              · have hf := itT hf c_12
                obtain rfl := Option.some.inj hf
                exact hE _ rfl H locs ls hP hS (lv_sub hl [0] rfl)
              · have hf := itF hf c_12
                refine lv_aload_n hx hb dX11_run_67 rfl (lv_at hl 0 rfl) ?_
                refine wd_getR (q := 26) X hP L0 fl_X11_35 rfl dX11_run_68 ?_
                refine wd_getR (q := 33) X hP (isState.a0 S26) fl_X11_71 rfl dX11_run_71 ?_
                refine lv_iload_n hx hb dX11_run_74 rfl (lv_at hl 3 rfl) ?_
                refine wd_cv X hP hS (isRaft.a0 R33) ml_X11_241 ⟨_, _, rfl⟩ (c_X4_canSpare l D dA zz bs mmL_17 33 27 R33 x3 (f_X4_canSpare mmL_17 33 27 x3) rfl) rfl ⟨Nat.le_of_ble_eq_true rfl, Nat.le_of_ble_eq_true rfl⟩ hl.1 rfl (rest := []) (Nat.le_of_ble_eq_true rfl) ⟨Nat.zero_le _, Nat.zero_le _⟩ dX11_run_75 (fun H locs hP hS => ?_)
                refine W.eq (g2 := F0 m 78 ls [.int (f_X4_canSpare mmL_17 33 27 x3)]) rfl ?_
                refine lv_if_eq (tgt := 92) hx hb dX11_run_78 (by decide) (fun c_13 => ?_) (fun c_13 => ?_)
                · have hf := itT hf c_13
                  exact hJ92 mmL_17 y4L_17 H locs ls hf hP hS (lv_sub hl [0, 1, 2, 3, 4] rfl)
                · have hf := itF hf c_13
                  refine lv_aload_n hx hb dX11_run_81 rfl (lv_at hl 0 rfl) ?_
                  refine lv_aload_n hx hb dX11_run_82 rfl (lv_at hl 0 rfl) ?_
                  refine wd_getR (q := 228) X hP L0 fl_X11_49 rfl dX11_run_83 ?_
                  refine lv_iload_n hx hb dX11_run_86 rfl (lv_at hl 1 rfl) ?_
                  have g_14 := gdN hf
                  have hf := gdK hf
                  refine wd_aald (q := 1052 + 6 * x1.toNatClampNeg) X hP L228 rfl ⟨by decide, by decide⟩ g_14 (if_pos (Nat.not_le.mp (fun z => g_14 (Or.inr z)))) dX11_run_87 ?_
                  refine lv_iload_n hx hb dX11_run_88 rfl (lv_at hl 3 rfl) ?_
                  obtain ⟨mm_15, hc_16, hf⟩ := bi1S hf
                  refine wd_cv X hP hS L0 ml_X11_271 ⟨_, _, rfl⟩ (c_X11_tieBest l D dA zz bs mmL_17 (1052 + 6 * x1.toNatClampNeg) (isRules _ (Nat.not_le.mp (fun z => g_14 (Or.inr z)))) x3 mm_15 hc_16) rfl ⟨Nat.le_of_ble_eq_true rfl, Nat.le_of_ble_eq_true rfl⟩ hl.1 rfl (rest := []) (Nat.le_of_ble_eq_true rfl) ⟨Nat.zero_le _, Nat.zero_le _⟩ dX11_run_89 (fun H locs hP hS => ?_)
                  refine W.eq (g2 := F0 m 92 ls []) rfl ?_
                  exact hJ92 mm_15 y4L_17 H locs ls hf hP hS (lv_sub hl [0, 1, 2, 3, 4] rfl)
            · obtain ⟨mm_18, e_mm_18⟩ : ∃ z, z = q_19 := ⟨_, rfl⟩
              subst e_mm_18
              intro H locs ls hP hS hl
              refine lv_aload_n hx hb dX11_run_117 rfl (lv_at hl 0 rfl) ?_
              refine wd_getR (q := 251) X hP L0 fl_X11_101 rfl dX11_run_118 ?_
              refine lv_iconst (v := 0) hx hb dX11_run_121 (by decide) ?_
              refine wd_ialdK (k := 0) X hP L251 (by decide) (by decide) dX11_run_122 ?_
              obtain ⟨rfl, rfl⟩ := Prod.mk.inj (Option.some.inj hf)
              exact wd_iret X hP hS hr0 dX11_run_123 ⟨rfl, rfl⟩
          · have hf := itF hf c_5
            refine lv_iconst (v := -1) hx hb dX11_run_40 (by decide) ?_
            obtain ⟨rfl, rfl⟩ := Prod.mk.inj (Option.some.inj hf)
            exact wd_iret X hP hS hr0 dX11_run_41 ⟨rfl, rfl⟩
      · have hf := itT hf c_3
        refine lv_iconst (v := -1) hx hb dX11_run_19 (by decide) ?_
        obtain ⟨rfl, rfl⟩ := Prod.mk.inj (Option.some.inj hf)
        exact wd_iret X hP hS hr0 dX11_run_20 ⟨rfl, rfl⟩

noncomputable def f_X11_tryAhead_s16 (y1 : Int32) : (Int32 × Mm) → Option ((Int32 × Mm) ⊕ (Mm)) :=
  fun q => match q with
  | (y2, mm) =>
    if y1 ≤ y2 then
      some (.inr mm)
    else
      bi1 (f_X4_drift mm 242 27 (0 : Int32)) fun mm_4 => some (.inl ((y2 + 1), mm_4))
noncomputable def f_X11_tryAhead (mm : Mm) (x1 : Int32) : Option (Mm) :=
  bi1 (f_X4_copyFrom mm 242 27 33 27) fun mm_1 =>
    bi1 (lp (f_X11_tryAhead_s16 x1) ((0 : Int32), mm_1)) fun mm_7 =>
      some mm_7
set_option maxHeartbeats 4000000 in
set_option maxRecDepth 100000 in
theorem c_X11_tryAhead (l : Launch) (D : va_G) (dA : Nat → ClassId) (zz : (Nat → Nat) × (Nat → Nat)) (bs : Nat) (mm : Mm) (x1 : Int32) (m1 : Mm) (hf : f_X11_tryAhead mm x1 = some m1) : Mw l D dA zz bs LY yX11_tryAhead cX11_tryAhead 3 none 6 156 [.ref (bs + 0), .int x1] mm none m1 := by
  refine Mw.of (own := RX11) (by decide) rfl (Nat.le_of_ble_eq_true rfl) ?_
  intro p e s m args below meth c X hr0 hP hS ls hl
  have hx := X.1
  have hb := X.2.1
  obtain ⟨H, hH⟩ : ∃ z : Heap, z = s.heap := ⟨_, rfl⟩
  obtain ⟨locs, hL⟩ : ∃ z : List Loc, z = [] := ⟨_, rfl⟩
  rw [← hH, ← hL]
  have hS : va_S (Aq bs) s.heap H locs := by rw [hH, hL]; exact hS
  have hP : Wd D dA bs LY mm H := by rw [hH]; exact hP
  have hl : lv_has ls 3 [(0, .ref (bs + 0)), (1, .int x1)] := hl
  unfold f_X11_tryAhead at hf
  refine lv_aload_n hx hb dX11_tryAhead_0 rfl (lv_at hl 0 rfl) ?_
  refine wd_getR (q := 242) X hP L0 fl_X11_98 rfl dX11_tryAhead_1 ?_
  refine lv_aload_n hx hb dX11_tryAhead_4 rfl (lv_at hl 0 rfl) ?_
  refine wd_getR (q := 26) X hP L0 fl_X11_35 rfl dX11_tryAhead_5 ?_
  refine wd_getR (q := 33) X hP (isState.a0 S26) fl_X11_71 rfl dX11_tryAhead_8 ?_
  obtain ⟨mm_1, hc_2, hf⟩ := bi1S hf
  refine wd_cv X hP hS (isRaft.a0 R242) ml_X11_353 ⟨_, _, rfl⟩ (c_X4_copyFrom l D dA zz bs mm 242 27 33 27 R242 R33 mm_1 hc_2) rfl ⟨Nat.le_of_ble_eq_true rfl, Nat.le_of_ble_eq_true rfl⟩ hl.1 rfl (rest := []) (Nat.le_of_ble_eq_true rfl) ⟨Nat.zero_le _, Nat.zero_le _⟩ dX11_tryAhead_11 (fun H locs hP hS => ?_)
  refine W.eq (g2 := F0 m 14 ls []) rfl ?_
  refine lv_iconst (v := 0) hx hb dX11_tryAhead_14 (by decide) ?_
  refine lv_istore_n (lv' := [(2, .int (0 : Int32)), (0, .ref (bs + 0)), (1, .int x1)]) hx hb dX11_tryAhead_15 rfl hl (by decide) rfl (fun ls hl => ?_)
  obtain ⟨q_8, hlp_9, hf⟩ := bi1S hf
  refine lp_walk (Wh := (fun z => match z with | (y2L_6, mmL_6) => ∀ (H : Heap) (locs : List Loc) (ls : Array Slot), Wd D dA bs LY mmL_6 H → va_S (Aq bs) s.heap H locs → lv_has ls 3 [(0, .ref (bs + 0)), (1, .int x1), (2, .int y2L_6)] → Wz p l e s m args below meth c D dA bs none m1 6 156 H locs 16 ls [])) (Ph := (fun mm_7 => ∀ (H : Heap) (locs : List Loc) (ls : Array Slot), Wd D dA bs LY mm_7 H → va_S (Aq bs) s.heap H locs → lv_has ls 3 [] → Wz p l e s m args below meth c D dA bs none m1 6 156 H locs 43 ls [])) ?_ hlp_9 ?_ H locs ls hP hS (lv_sub hl [1, 2, 0] rfl)
  · intro z o hf hB hE
    obtain ⟨y2L_6, mmL_6⟩ := z
    intro H locs ls hP hS hl
    have hf : f_X11_tryAhead_s16 x1 (y2L_6, mmL_6) = some o := hf
    unfold f_X11_tryAhead_s16 at hf
    dsimp only at hf
    refine lv_iload_n hx hb dX11_tryAhead_16 rfl (lv_at hl 2 rfl) ?_
    refine lv_iload_n hx hb dX11_tryAhead_17 rfl (lv_at hl 1 rfl) ?_
    refine lv_icmp_ge (tgt := 43) hx hb dX11_tryAhead_18 (by decide) (fun c_3 => ?_) (fun c_3 => ?_)
    · have hf := itT hf c_3
      obtain rfl := Option.some.inj hf
      exact hE _ rfl H locs ls hP hS (lv_sub hl [] rfl)
    · have hf := itF hf c_3
      refine lv_aload_n hx hb dX11_tryAhead_21 rfl (lv_at hl 0 rfl) ?_
      refine wd_getR (q := 242) X hP L0 fl_X11_98 rfl dX11_tryAhead_22 ?_
      refine lv_iconst (v := 0) hx hb dX11_tryAhead_25 (by decide) ?_
      refine lv_aload_n hx hb dX11_tryAhead_26 rfl (lv_at hl 0 rfl) ?_
      refine wd_getR (q := 229) X hP L0 fl_X11_56 rfl dX11_tryAhead_27 ?_
      refine lv_aload_n hx hb dX11_tryAhead_30 rfl (lv_at hl 0 rfl) ?_
      refine wd_getR (q := 251) X hP L0 fl_X11_101 rfl dX11_tryAhead_31 ?_
      obtain ⟨mm_4, hc_5, hf⟩ := bi1S hf
      refine wd_cv X hP hS (isRaft.a0 R242) ml_X11_230 ⟨_, _, rfl⟩ (c_X4_drift l D dA zz bs mmL_6 242 27 R242 (0 : Int32) mm_4 hc_5) rfl ⟨Nat.le_of_ble_eq_true rfl, Nat.le_of_ble_eq_true rfl⟩ hl.1 rfl (rest := []) (Nat.le_of_ble_eq_true rfl) ⟨Nat.zero_le _, Nat.zero_le _⟩ dX11_tryAhead_34 (fun H locs hP hS => ?_)
      refine W.eq (g2 := F0 m 37 ls []) rfl ?_
      refine lv_iinc (v := (y2L_6 + 1)) (lv' := [(2, .int (y2L_6 + 1)), (0, .ref (bs + 0)), (1, .int x1)]) hx hb dX11_tryAhead_37 hl (k := 2) rfl rfl (by decide) rfl (fun ls hl => ?_)
      refine lv_goto (tgt := 16) hx hb dX11_tryAhead_40 (by decide) ?_
      obtain rfl := Option.some.inj hf
      exact hB _ rfl H locs ls hP hS (lv_sub hl [1, 2, 0] rfl)
  · obtain ⟨mm_7, e_mm_7⟩ : ∃ z, z = q_8 := ⟨_, rfl⟩
    subst e_mm_7
    intro H locs ls hP hS hl
    obtain rfl := Option.some.inj hf
    exact wd_vret X hP hS hr0 dX11_tryAhead_43 ⟨rfl, rfl⟩

noncomputable def f_X11_ahead (mm : Mm) (x1 : Int32) (x2 : Int32) : Option (Int32 × Mm) :=
  if (f_X11_hasRiver mm) = 0 then
    some ((-1 : Int32), mm)
  else
    if x1 < 0 then
      some ((-1 : Int32), mm)
    else
      if x1 ≤ (f_X4_milesLeft mm 33 27) then
        bi1 (f_X11_tryAhead mm x1) fun mm_4 =>
          if x2 = 0 then
            bi1 (f_X4_thingsAt mm_4 242 27 (0 : Int32)) fun r_8 => some (r_8, mm_4)
          else if x2 = 1 then
            bi1 (f_X4_thingsAt mm_4 242 27 (1 : Int32)) fun r_11 => some (r_11, mm_4)
          else if x2 = 2 then
            bi1 (f_X4_thingsAt mm_4 242 27 (2 : Int32)) fun r_14 => some (r_14, mm_4)
          else if x2 = 3 then
            bi1 (f_X4_ownersOf mm_4 242 27 (2 : Int32)) fun r_17 => some (r_17, mm_4)
          else
            some ((-1 : Int32), mm_4)
      else
        some ((-1 : Int32), mm)
set_option maxHeartbeats 4000000 in
set_option maxRecDepth 100000 in
theorem c_X11_ahead (l : Launch) (D : va_G) (dA : Nat → ClassId) (zz : (Nat → Nat) × (Nat → Nat)) (bs : Nat) (mm : Mm) (x1 : Int32) (x2 : Int32) (out : Int32) (m1 : Mm) (hf : f_X11_ahead mm x1 x2 = some (out, m1)) : Mw l D dA zz bs LY yX11_ahead cX11_ahead 3 (some .int) 7 178 [.ref (bs + 0), .int x1, .int x2] mm (some (.int out)) m1 := by
  refine Mw.of (own := RX11) (by decide) rfl (Nat.le_of_ble_eq_true rfl) ?_
  intro p e s m args below meth c X hr0 hP hS ls hl
  have hx := X.1
  have hb := X.2.1
  obtain ⟨H, hH⟩ : ∃ z : Heap, z = s.heap := ⟨_, rfl⟩
  obtain ⟨locs, hL⟩ : ∃ z : List Loc, z = [] := ⟨_, rfl⟩
  rw [← hH, ← hL]
  have hS : va_S (Aq bs) s.heap H locs := by rw [hH, hL]; exact hS
  have hP : Wd D dA bs LY mm H := by rw [hH]; exact hP
  have hl : lv_has ls 3 [(0, .ref (bs + 0)), (1, .int x1), (2, .int x2)] := hl
  unfold f_X11_ahead at hf
  refine lv_aload_n hx hb dX11_ahead_0 rfl (lv_at hl 0 rfl) ?_
  refine wd_cv X hP hS L0 ml_X11_200 ⟨_, _, rfl⟩ (c_X11_hasRiver l D dA zz bs mm (f_X11_hasRiver mm) rfl) rfl ⟨Nat.le_of_ble_eq_true rfl, Nat.le_of_ble_eq_true rfl⟩ hl.1 rfl (rest := []) (Nat.le_of_ble_eq_true rfl) ⟨Nat.zero_le _, Nat.zero_le _⟩ dX11_ahead_1 (fun H locs hP hS => ?_)
  refine W.eq (g2 := F0 m 4 ls [.int (f_X11_hasRiver mm)]) rfl ?_
  refine lv_if_eq (tgt := 25) hx hb dX11_ahead_4 (by decide) (fun c_1 => ?_) (fun c_1 => ?_)
  · have hf := itT hf c_1
    refine lv_iconst (v := -1) hx hb dX11_ahead_25 (by decide) ?_
    obtain ⟨rfl, rfl⟩ := Prod.mk.inj (Option.some.inj hf)
    exact wd_iret X hP hS hr0 dX11_ahead_26 ⟨rfl, rfl⟩
  · have hf := itF hf c_1
    refine lv_iload_n hx hb dX11_ahead_7 rfl (lv_at hl 1 rfl) ?_
    refine lv_if_lt (tgt := 25) hx hb dX11_ahead_8 (by decide) (fun c_2 => ?_) (fun c_2 => ?_)
    · have hf := itT hf c_2
      refine lv_iconst (v := -1) hx hb dX11_ahead_25 (by decide) ?_
      obtain ⟨rfl, rfl⟩ := Prod.mk.inj (Option.some.inj hf)
      exact wd_iret X hP hS hr0 dX11_ahead_26 ⟨rfl, rfl⟩
    · have hf := itF hf c_2
      refine lv_iload_n hx hb dX11_ahead_11 rfl (lv_at hl 1 rfl) ?_
      refine lv_aload_n hx hb dX11_ahead_12 rfl (lv_at hl 0 rfl) ?_
      refine wd_getR (q := 26) X hP L0 fl_X11_35 rfl dX11_ahead_13 ?_
      refine wd_getR (q := 33) X hP (isState.a0 S26) fl_X11_71 rfl dX11_ahead_16 ?_
      refine wd_cv X hP hS (isRaft.a0 R33) ml_X11_217 ⟨_, _, rfl⟩ (c_X4_milesLeft l D dA zz bs mm 33 27 R33 (f_X4_milesLeft mm 33 27) rfl) rfl ⟨Nat.le_of_ble_eq_true rfl, Nat.le_of_ble_eq_true rfl⟩ hl.1 rfl (rest := [.int x1]) (Nat.le_of_ble_eq_true rfl) ⟨Nat.zero_le _, Nat.zero_le _⟩ dX11_ahead_19 (fun H locs hP hS => ?_)
      refine W.eq (g2 := F0 m 22 ls [.int (f_X4_milesLeft mm 33 27), .int x1]) rfl ?_
      refine lv_icmp_le (tgt := 27) hx hb dX11_ahead_22 (by decide) (fun c_3 => ?_) (fun c_3 => ?_)
      · have hf := itT hf c_3
        refine lv_aload_n hx hb dX11_ahead_27 rfl (lv_at hl 0 rfl) ?_
        refine lv_iload_n hx hb dX11_ahead_28 rfl (lv_at hl 1 rfl) ?_
        obtain ⟨mm_4, hc_5, hf⟩ := bi1S hf
        refine wd_cv X hP hS L0 ml_X11_275 ⟨_, _, rfl⟩ (c_X11_tryAhead l D dA zz bs mm x1 mm_4 hc_5) rfl ⟨Nat.le_of_ble_eq_true rfl, Nat.le_of_ble_eq_true rfl⟩ hl.1 rfl (rest := []) (Nat.le_of_ble_eq_true rfl) ⟨Nat.zero_le _, Nat.zero_le _⟩ dX11_ahead_29 (fun H locs hP hS => ?_)
        refine W.eq (g2 := F0 m 32 ls []) rfl ?_
        refine lv_iload_n hx hb dX11_ahead_32 rfl (lv_at hl 2 rfl) ?_
        by_cases c_6 : x2 = 0
        · have hf := itT hf c_6
          refine lv_tableIn (tgt := 64) (off := 31) hx hb dX11_ahead_33 (by rw [c_6]; decide) (by rw [c_6]; decide) (by rw [c_6]; decide) (by decide) ?_
          refine lv_aload_n hx hb dX11_ahead_64 rfl (lv_at hl 0 rfl) ?_
          refine wd_getR (q := 242) X hP L0 fl_X11_98 rfl dX11_ahead_65 ?_
          refine lv_iconst (v := 0) hx hb dX11_ahead_68 (by decide) ?_
          obtain ⟨r_8, hc_7, hf⟩ := bi1S hf
          refine wd_cv X hP hS (isRaft.a0 R242) ml_X11_278 ⟨_, _, rfl⟩ (c_X4_thingsAt l D dA zz bs mm_4 242 27 R242 (0 : Int32) r_8 hc_7) rfl ⟨Nat.le_of_ble_eq_true rfl, Nat.le_of_ble_eq_true rfl⟩ hl.1 rfl (rest := []) (Nat.le_of_ble_eq_true rfl) ⟨Nat.zero_le _, Nat.zero_le _⟩ dX11_ahead_69 (fun H locs hP hS => ?_)
          refine W.eq (g2 := F0 m 72 ls [.int r_8]) rfl ?_
          obtain ⟨rfl, rfl⟩ := Prod.mk.inj (Option.some.inj hf)
          exact wd_iret X hP hS hr0 dX11_ahead_72 ⟨rfl, rfl⟩
        · have hf := itF hf c_6
          by_cases c_9 : x2 = 1
          · have hf := itT hf c_9
            refine lv_tableIn (tgt := 73) (off := 40) hx hb dX11_ahead_33 (by rw [c_9]; decide) (by rw [c_9]; decide) (by rw [c_9]; decide) (by decide) ?_
            refine lv_aload_n hx hb dX11_ahead_73 rfl (lv_at hl 0 rfl) ?_
            refine wd_getR (q := 242) X hP L0 fl_X11_98 rfl dX11_ahead_74 ?_
            refine lv_iconst (v := 1) hx hb dX11_ahead_77 (by decide) ?_
            obtain ⟨r_11, hc_10, hf⟩ := bi1S hf
            refine wd_cv X hP hS (isRaft.a0 R242) ml_X11_278 ⟨_, _, rfl⟩ (c_X4_thingsAt l D dA zz bs mm_4 242 27 R242 (1 : Int32) r_11 hc_10) rfl ⟨Nat.le_of_ble_eq_true rfl, Nat.le_of_ble_eq_true rfl⟩ hl.1 rfl (rest := []) (Nat.le_of_ble_eq_true rfl) ⟨Nat.zero_le _, Nat.zero_le _⟩ dX11_ahead_78 (fun H locs hP hS => ?_)
            refine W.eq (g2 := F0 m 81 ls [.int r_11]) rfl ?_
            obtain ⟨rfl, rfl⟩ := Prod.mk.inj (Option.some.inj hf)
            exact wd_iret X hP hS hr0 dX11_ahead_81 ⟨rfl, rfl⟩
          · have hf := itF hf c_9
            by_cases c_12 : x2 = 2
            · have hf := itT hf c_12
              refine lv_tableIn (tgt := 82) (off := 49) hx hb dX11_ahead_33 (by rw [c_12]; decide) (by rw [c_12]; decide) (by rw [c_12]; decide) (by decide) ?_
              refine lv_aload_n hx hb dX11_ahead_82 rfl (lv_at hl 0 rfl) ?_
              refine wd_getR (q := 242) X hP L0 fl_X11_98 rfl dX11_ahead_83 ?_
              refine lv_iconst (v := 2) hx hb dX11_ahead_86 (by decide) ?_
              obtain ⟨r_14, hc_13, hf⟩ := bi1S hf
              refine wd_cv X hP hS (isRaft.a0 R242) ml_X11_278 ⟨_, _, rfl⟩ (c_X4_thingsAt l D dA zz bs mm_4 242 27 R242 (2 : Int32) r_14 hc_13) rfl ⟨Nat.le_of_ble_eq_true rfl, Nat.le_of_ble_eq_true rfl⟩ hl.1 rfl (rest := []) (Nat.le_of_ble_eq_true rfl) ⟨Nat.zero_le _, Nat.zero_le _⟩ dX11_ahead_87 (fun H locs hP hS => ?_)
              refine W.eq (g2 := F0 m 90 ls [.int r_14]) rfl ?_
              obtain ⟨rfl, rfl⟩ := Prod.mk.inj (Option.some.inj hf)
              exact wd_iret X hP hS hr0 dX11_ahead_90 ⟨rfl, rfl⟩
            · have hf := itF hf c_12
              by_cases c_15 : x2 = 3
              · have hf := itT hf c_15
                refine lv_tableIn (tgt := 91) (off := 58) hx hb dX11_ahead_33 (by rw [c_15]; decide) (by rw [c_15]; decide) (by rw [c_15]; decide) (by decide) ?_
                refine lv_aload_n hx hb dX11_ahead_91 rfl (lv_at hl 0 rfl) ?_
                refine wd_getR (q := 242) X hP L0 fl_X11_98 rfl dX11_ahead_92 ?_
                refine lv_iconst (v := 2) hx hb dX11_ahead_95 (by decide) ?_
                obtain ⟨r_17, hc_16, hf⟩ := bi1S hf
                refine wd_cv X hP hS (isRaft.a0 R242) ml_X11_281 ⟨_, _, rfl⟩ (c_X4_ownersOf l D dA zz bs mm_4 242 27 R242 (2 : Int32) r_17 hc_16) rfl ⟨Nat.le_of_ble_eq_true rfl, Nat.le_of_ble_eq_true rfl⟩ hl.1 rfl (rest := []) (Nat.le_of_ble_eq_true rfl) ⟨Nat.zero_le _, Nat.zero_le _⟩ dX11_ahead_96 (fun H locs hP hS => ?_)
                refine W.eq (g2 := F0 m 99 ls [.int r_17]) rfl ?_
                obtain ⟨rfl, rfl⟩ := Prod.mk.inj (Option.some.inj hf)
                exact wd_iret X hP hS hr0 dX11_ahead_99 ⟨rfl, rfl⟩
              · have hf := itF hf c_15
                refine lv_tableOut (tgt := 100) hx hb dX11_ahead_33 (tb_out4 c_6 c_9 c_12 c_15) (by decide) ?_
                refine lv_iconst (v := -1) hx hb dX11_ahead_100 (by decide) ?_
                obtain ⟨rfl, rfl⟩ := Prod.mk.inj (Option.some.inj hf)
                exact wd_iret X hP hS hr0 dX11_ahead_101 ⟨rfl, rfl⟩
      · have hf := itF hf c_3
        refine lv_iconst (v := -1) hx hb dX11_ahead_25 (by decide) ?_
        obtain ⟨rfl, rfl⟩ := Prod.mk.inj (Option.some.inj hf)
        exact wd_iret X hP hS hr0 dX11_ahead_26 ⟨rfl, rfl⟩

noncomputable def f_X11_sinks (mm : Mm) (x1 : Int32) : Option (Int32 × Mm) :=
  if x1 < 0 then
    some ((-1 : Int32), mm)
  else
    if x1 < (mm.1 27 2) then
      bi1 (f_X11_tryAhead mm (f_X4_milesLeft mm 33 27)) fun mm_3 =>
        if x1 < 0 ∨ 8 ≤ x1.toNatClampNeg then none else
          if (mm_3.1 246 x1.toNatClampNeg) = (2 : Int32) then
            if x1 < 0 ∨ 8 ≤ x1.toNatClampNeg then none else some ((mm_3.1 247 x1.toNatClampNeg), mm_3)
          else
            some ((-2 : Int32), mm_3)
    else
      some ((-1 : Int32), mm)
set_option maxHeartbeats 4000000 in
set_option maxRecDepth 100000 in
theorem c_X11_sinks (l : Launch) (D : va_G) (dA : Nat → ClassId) (zz : (Nat → Nat) × (Nat → Nat)) (bs : Nat) (mm : Mm) (x1 : Int32) (out : Int32) (m1 : Mm) (hf : f_X11_sinks mm x1 = some (out, m1)) : Mw l D dA zz bs LY yX11_sinks cX11_sinks 2 (some .int) 7 178 [.ref (bs + 0), .int x1] mm (some (.int out)) m1 := by
  refine Mw.of (own := RX11) (by decide) rfl (Nat.le_of_ble_eq_true rfl) ?_
  intro p e s m args below meth c X hr0 hP hS ls hl
  have hx := X.1
  have hb := X.2.1
  obtain ⟨H, hH⟩ : ∃ z : Heap, z = s.heap := ⟨_, rfl⟩
  obtain ⟨locs, hL⟩ : ∃ z : List Loc, z = [] := ⟨_, rfl⟩
  rw [← hH, ← hL]
  have hS : va_S (Aq bs) s.heap H locs := by rw [hH, hL]; exact hS
  have hP : Wd D dA bs LY mm H := by rw [hH]; exact hP
  have hl : lv_has ls 2 [(0, .ref (bs + 0)), (1, .int x1)] := hl
  unfold f_X11_sinks at hf
  refine lv_iload_n hx hb dX11_sinks_0 rfl (lv_at hl 1 rfl) ?_
  refine lv_if_lt (tgt := 18) hx hb dX11_sinks_1 (by decide) (fun c_1 => ?_) (fun c_1 => ?_)
  · have hf := itT hf c_1
    refine lv_iconst (v := -1) hx hb dX11_sinks_18 (by decide) ?_
    obtain ⟨rfl, rfl⟩ := Prod.mk.inj (Option.some.inj hf)
    exact wd_iret X hP hS hr0 dX11_sinks_19 ⟨rfl, rfl⟩
  · have hf := itF hf c_1
    refine lv_iload_n hx hb dX11_sinks_4 rfl (lv_at hl 1 rfl) ?_
    refine lv_aload_n hx hb dX11_sinks_5 rfl (lv_at hl 0 rfl) ?_
    refine wd_getR (q := 26) X hP L0 fl_X11_35 rfl dX11_sinks_6 ?_
    refine wd_getR (q := 27) X hP (isState.a0 S26) fl_X11_91 rfl dX11_sinks_9 ?_
    refine wd_getI X hP (isRiver.a0 V27) fl_X11_127 rfl dX11_sinks_12 ?_
    refine lv_icmp_lt (tgt := 20) hx hb dX11_sinks_15 (by decide) (fun c_2 => ?_) (fun c_2 => ?_)
    · have hf := itT hf c_2
      refine lv_aload_n hx hb dX11_sinks_20 rfl (lv_at hl 0 rfl) ?_
      refine lv_aload_n hx hb dX11_sinks_21 rfl (lv_at hl 0 rfl) ?_
      refine wd_getR (q := 26) X hP L0 fl_X11_35 rfl dX11_sinks_22 ?_
      refine wd_getR (q := 33) X hP (isState.a0 S26) fl_X11_71 rfl dX11_sinks_25 ?_
      refine wd_cv X hP hS (isRaft.a0 R33) ml_X11_217 ⟨_, _, rfl⟩ (c_X4_milesLeft l D dA zz bs mm 33 27 R33 (f_X4_milesLeft mm 33 27) rfl) rfl ⟨Nat.le_of_ble_eq_true rfl, Nat.le_of_ble_eq_true rfl⟩ hl.1 rfl (rest := [.ref (bs + 0)]) (Nat.le_of_ble_eq_true rfl) ⟨Nat.zero_le _, Nat.zero_le _⟩ dX11_sinks_28 (fun H locs hP hS => ?_)
      refine W.eq (g2 := F0 m 31 ls [.int (f_X4_milesLeft mm 33 27), .ref (bs + 0)]) rfl ?_
      obtain ⟨mm_3, hc_4, hf⟩ := bi1S hf
      refine wd_cv X hP hS L0 ml_X11_275 ⟨_, _, rfl⟩ (c_X11_tryAhead l D dA zz bs mm (f_X4_milesLeft mm 33 27) mm_3 hc_4) rfl ⟨Nat.le_of_ble_eq_true rfl, Nat.le_of_ble_eq_true rfl⟩ hl.1 rfl (rest := []) (Nat.le_of_ble_eq_true rfl) ⟨Nat.zero_le _, Nat.zero_le _⟩ dX11_sinks_31 (fun H locs hP hS => ?_)
      refine W.eq (g2 := F0 m 34 ls []) rfl ?_
      refine lv_aload_n hx hb dX11_sinks_34 rfl (lv_at hl 0 rfl) ?_
      refine wd_getR (q := 242) X hP L0 fl_X11_98 rfl dX11_sinks_35 ?_
      refine wd_getR (q := 246) X hP (isRaft.a0 R242) fl_X11_179 rfl dX11_sinks_38 ?_
      refine lv_iload_n hx hb dX11_sinks_41 rfl (lv_at hl 1 rfl) ?_
      have g_5 := gdN hf
      have hf := gdK hf
      refine wd_iald X hP (isRaft.a4 R242) g_5 dX11_sinks_42 ?_
      refine lv_iconst (v := 2) hx hb dX11_sinks_43 (by decide) ?_
      refine lv_icmp_ne (tgt := 59) hx hb dX11_sinks_44 (by decide) (fun c_6 => ?_) (fun c_6 => ?_)
      · have hf := itF hf c_6
        refine lv_bipush (v := -2) hx hb dX11_sinks_59 (by decide) ?_
        obtain ⟨rfl, rfl⟩ := Prod.mk.inj (Option.some.inj hf)
        exact wd_iret X hP hS hr0 dX11_sinks_61 ⟨rfl, rfl⟩
      · have hf := itT hf c_6
        refine lv_aload_n hx hb dX11_sinks_47 rfl (lv_at hl 0 rfl) ?_
        refine wd_getR (q := 242) X hP L0 fl_X11_98 rfl dX11_sinks_48 ?_
        refine wd_getR (q := 247) X hP (isRaft.a0 R242) fl_X11_284 rfl dX11_sinks_51 ?_
        refine lv_iload_n hx hb dX11_sinks_54 rfl (lv_at hl 1 rfl) ?_
        have g_7 := gdN hf
        have hf := gdK hf
        refine wd_iald X hP (isRaft.a5 R242) g_7 dX11_sinks_55 ?_
        refine lv_goto (tgt := 61) hx hb dX11_sinks_56 (by decide) ?_
        obtain ⟨rfl, rfl⟩ := Prod.mk.inj (Option.some.inj hf)
        exact wd_iret X hP hS hr0 dX11_sinks_61 ⟨rfl, rfl⟩
    · have hf := itF hf c_2
      refine lv_iconst (v := -1) hx hb dX11_sinks_18 (by decide) ?_
      obtain ⟨rfl, rfl⟩ := Prod.mk.inj (Option.some.inj hf)
      exact wd_iret X hP hS hr0 dX11_sinks_19 ⟨rfl, rfl⟩

noncomputable def f_X11_isSetAfloat (mm : Mm) (x1 : Int32) : Option (Int32) :=
  if (f_X11_hasRiver mm) = 0 then
    some (0 : Int32)
  else
    bi1 (f_X4_thingsAt mm 33 27 (0 : Int32)) fun r_3 =>
      if (x1 &&& (r_3 ^^^ (-1 : Int32))) = 0 then
        some (1 : Int32)
      else
        some (0 : Int32)
set_option maxHeartbeats 4000000 in
set_option maxRecDepth 100000 in
theorem c_X11_isSetAfloat (l : Launch) (D : va_G) (dA : Nat → ClassId) (zz : (Nat → Nat) × (Nat → Nat)) (bs : Nat) (mm : Mm) (x1 : Int32) (out : Int32) (hf : f_X11_isSetAfloat mm x1 = some out) : Mw l D dA zz bs LY yX11_isSetAfloat cX11_isSetAfloat 2 (some .boolean) 1 23 [.ref (bs + 0), .int x1] mm (some (.int out)) mm := by
  refine Mw.of (own := RX11) (by decide) rfl (Nat.le_of_ble_eq_true rfl) ?_
  intro p e s m args below meth c X hr0 hP hS ls hl
  have hx := X.1
  have hb := X.2.1
  obtain ⟨H, hH⟩ : ∃ z : Heap, z = s.heap := ⟨_, rfl⟩
  obtain ⟨locs, hL⟩ : ∃ z : List Loc, z = [] := ⟨_, rfl⟩
  rw [← hH, ← hL]
  have hS : va_S (Aq bs) s.heap H locs := by rw [hH, hL]; exact hS
  have hP : Wd D dA bs LY mm H := by rw [hH]; exact hP
  have hl : lv_has ls 2 [(0, .ref (bs + 0)), (1, .int x1)] := hl
  unfold f_X11_isSetAfloat at hf
  refine lv_aload_n hx hb dX11_isSetAfloat_0 rfl (lv_at hl 0 rfl) ?_
  refine wd_cv X hP hS L0 ml_X11_200 ⟨_, _, rfl⟩ (c_X11_hasRiver l D dA zz bs mm (f_X11_hasRiver mm) rfl) rfl ⟨Nat.le_of_ble_eq_true rfl, Nat.le_of_ble_eq_true rfl⟩ hl.1 rfl (rest := []) (Nat.le_of_ble_eq_true rfl) ⟨Nat.zero_le _, Nat.zero_le _⟩ dX11_isSetAfloat_1 (fun H locs hP hS => ?_)
  refine W.eq (g2 := F0 m 4 ls [.int (f_X11_hasRiver mm)]) rfl ?_
  refine lv_if_eq (tgt := 29) hx hb dX11_isSetAfloat_4 (by decide) (fun c_1 => ?_) (fun c_1 => ?_)
  · have hf := itT hf c_1
    refine lv_iconst (v := 0) hx hb dX11_isSetAfloat_29 (by decide) ?_
    obtain rfl := Option.some.inj hf
    exact wd_zret X hP hS hr0 (by decide) dX11_isSetAfloat_30 ⟨rfl, rfl⟩
  · have hf := itF hf c_1
    refine lv_iload_n hx hb dX11_isSetAfloat_7 rfl (lv_at hl 1 rfl) ?_
    refine lv_aload_n hx hb dX11_isSetAfloat_8 rfl (lv_at hl 0 rfl) ?_
    refine wd_getR (q := 26) X hP L0 fl_X11_35 rfl dX11_isSetAfloat_9 ?_
    refine wd_getR (q := 33) X hP (isState.a0 S26) fl_X11_71 rfl dX11_isSetAfloat_12 ?_
    refine lv_iconst (v := 0) hx hb dX11_isSetAfloat_15 (by decide) ?_
    obtain ⟨r_3, hc_2, hf⟩ := bi1S hf
    refine wd_cv X hP hS (isRaft.a0 R33) ml_X11_278 ⟨_, _, rfl⟩ (c_X4_thingsAt l D dA zz bs mm 33 27 R33 (0 : Int32) r_3 hc_2) rfl ⟨Nat.le_of_ble_eq_true rfl, Nat.le_of_ble_eq_true rfl⟩ hl.1 rfl (rest := [.int x1]) (Nat.le_of_ble_eq_true rfl) ⟨Nat.zero_le _, Nat.zero_le _⟩ dX11_isSetAfloat_16 (fun H locs hP hS => ?_)
    refine W.eq (g2 := F0 m 19 ls [.int r_3, .int x1]) rfl ?_
    refine lv_iconst (v := -1) hx hb dX11_isSetAfloat_19 (by decide) ?_
    refine lv_ixor hx hb dX11_isSetAfloat_20 ?_
    refine lv_iand hx hb dX11_isSetAfloat_21 ?_
    refine lv_if_ne (tgt := 29) hx hb dX11_isSetAfloat_22 (by decide) (fun c_4 => ?_) (fun c_4 => ?_)
    · have hf := itF hf c_4
      refine lv_iconst (v := 0) hx hb dX11_isSetAfloat_29 (by decide) ?_
      obtain rfl := Option.some.inj hf
      exact wd_zret X hP hS hr0 (by decide) dX11_isSetAfloat_30 ⟨rfl, rfl⟩
    · have hf := itT hf c_4
      refine lv_iconst (v := 1) hx hb dX11_isSetAfloat_25 (by decide) ?_
      refine lv_goto (tgt := 30) hx hb dX11_isSetAfloat_26 (by decide) ?_
      obtain rfl := Option.some.inj hf
      exact wd_zret X hP hS hr0 (by decide) dX11_isSetAfloat_30 ⟨rfl, rfl⟩

noncomputable def f_X11_bearers (mm : Mm) (x1 : Int32) (x2 : Int32) : Option (Int32) :=
  bi1 (f_X11_isSetAfloat mm x1) fun r_2 =>
    if r_2 = 0 then
      some (-1 : Int32)
    else
      if x2 < 0 then
        some (-1 : Int32)
      else
        if x2 ≤ (1 : Int32) then
          bi1 (f_X3_fewestBearers mm x1) fun r_7 =>
            if r_7 = (-1 : Int32) then
              some (-2 : Int32)
            else
              if x2 = 0 then
                some (f_J6_bitCount_0f7a4 r_7)
              else
                some r_7
        else
          some (-1 : Int32)
set_option maxHeartbeats 4000000 in
set_option maxRecDepth 100000 in
theorem c_X11_bearers (l : Launch) (D : va_G) (dA : Nat → ClassId) (zz : (Nat → Nat) × (Nat → Nat)) (bs : Nat) (mm : Mm) (x1 : Int32) (x2 : Int32) (out : Int32) (hf : f_X11_bearers mm x1 x2 = some out) : Mw l D dA zz bs LY yX11_bearers cX11_bearers 4 (some .int) 3 88 [.ref (bs + 0), .int x1, .int x2] mm (some (.int out)) mm := by
  refine Mw.of (own := RX11) (by decide) rfl (Nat.le_of_ble_eq_true rfl) ?_
  intro p e s m args below meth c X hr0 hP hS ls hl
  have hx := X.1
  have hb := X.2.1
  obtain ⟨H, hH⟩ : ∃ z : Heap, z = s.heap := ⟨_, rfl⟩
  obtain ⟨locs, hL⟩ : ∃ z : List Loc, z = [] := ⟨_, rfl⟩
  rw [← hH, ← hL]
  have hS : va_S (Aq bs) s.heap H locs := by rw [hH, hL]; exact hS
  have hP : Wd D dA bs LY mm H := by rw [hH]; exact hP
  have hl : lv_has ls 4 [(0, .ref (bs + 0)), (1, .int x1), (2, .int x2)] := hl
  unfold f_X11_bearers at hf
  refine lv_aload_n hx hb dX11_bearers_0 rfl (lv_at hl 0 rfl) ?_
  refine lv_iload_n hx hb dX11_bearers_1 rfl (lv_at hl 1 rfl) ?_
  obtain ⟨r_2, hc_1, hf⟩ := bi1S hf
  refine wd_cv X hP hS L0 ml_X11_287 ⟨_, _, rfl⟩ (c_X11_isSetAfloat l D dA zz bs mm x1 r_2 hc_1) rfl ⟨Nat.le_of_ble_eq_true rfl, Nat.le_of_ble_eq_true rfl⟩ hl.1 rfl (rest := []) (Nat.le_of_ble_eq_true rfl) ⟨Nat.zero_le _, Nat.zero_le _⟩ dX11_bearers_2 (fun H locs hP hS => ?_)
  refine W.eq (g2 := F0 m 5 ls [.int r_2]) rfl ?_
  refine lv_if_eq (tgt := 17) hx hb dX11_bearers_5 (by decide) (fun c_3 => ?_) (fun c_3 => ?_)
  · have hf := itT hf c_3
    refine lv_iconst (v := -1) hx hb dX11_bearers_17 (by decide) ?_
    obtain rfl := Option.some.inj hf
    exact wd_iret X hP hS hr0 dX11_bearers_18 ⟨rfl, rfl⟩
  · have hf := itF hf c_3
    refine lv_iload_n hx hb dX11_bearers_8 rfl (lv_at hl 2 rfl) ?_
    refine lv_if_lt (tgt := 17) hx hb dX11_bearers_9 (by decide) (fun c_4 => ?_) (fun c_4 => ?_)
    · have hf := itT hf c_4
      refine lv_iconst (v := -1) hx hb dX11_bearers_17 (by decide) ?_
      obtain rfl := Option.some.inj hf
      exact wd_iret X hP hS hr0 dX11_bearers_18 ⟨rfl, rfl⟩
    · have hf := itF hf c_4
      refine lv_iload_n hx hb dX11_bearers_12 rfl (lv_at hl 2 rfl) ?_
      refine lv_iconst (v := 1) hx hb dX11_bearers_13 (by decide) ?_
      refine lv_icmp_le (tgt := 19) hx hb dX11_bearers_14 (by decide) (fun c_5 => ?_) (fun c_5 => ?_)
      · have hf := itT hf c_5
        refine lv_aload_n hx hb dX11_bearers_19 rfl (lv_at hl 0 rfl) ?_
        refine wd_getR (q := 232) X hP L0 fl_X11_65 rfl dX11_bearers_20 ?_
        refine lv_iload_n hx hb dX11_bearers_23 rfl (lv_at hl 1 rfl) ?_
        obtain ⟨r_7, hc_6, hf⟩ := bi1S hf
        refine wd_cv X hP hS L232 ml_X11_290 ⟨_, _, rfl⟩ (c_X3_fewestBearers l D dA zz bs mm x1 r_7 hc_6) rfl ⟨Nat.le_of_ble_eq_true rfl, Nat.le_of_ble_eq_true rfl⟩ hl.1 rfl (rest := []) (Nat.le_of_ble_eq_true rfl) ⟨Nat.zero_le _, Nat.zero_le _⟩ dX11_bearers_24 (fun H locs hP hS => ?_)
        refine W.eq (g2 := F0 m 27 ls [.int r_7]) rfl ?_
        refine lv_istore_n (lv' := [(3, .int r_7), (0, .ref (bs + 0)), (1, .int x1), (2, .int x2)]) hx hb dX11_bearers_27 rfl hl (by decide) rfl (fun ls hl => ?_)
        refine lv_iload_n hx hb dX11_bearers_28 rfl (lv_at hl 0 rfl) ?_
        refine lv_iconst (v := -1) hx hb dX11_bearers_29 (by decide) ?_
        refine lv_icmp_ne (tgt := 36) hx hb dX11_bearers_30 (by decide) (fun c_8 => ?_) (fun c_8 => ?_)
        · have hf := itF hf c_8
          refine lv_iload_n hx hb dX11_bearers_36 rfl (lv_at hl 3 rfl) ?_
          refine lv_if_ne (tgt := 47) hx hb dX11_bearers_37 (by decide) (fun c_9 => ?_) (fun c_9 => ?_)
          · have hf := itF hf c_9
            refine lv_iload_n hx hb dX11_bearers_47 rfl (lv_at hl 0 rfl) ?_
            obtain rfl := Option.some.inj hf
            exact wd_iret X hP hS hr0 dX11_bearers_48 ⟨rfl, rfl⟩
          · have hf := itT hf c_9
            refine lv_iload_n hx hb dX11_bearers_40 rfl (lv_at hl 0 rfl) ?_
            refine wd_cs X hP hS ml_X11_260 (c_J6_bitCount_0f7a4 l D dA zz bs mm r_7 (f_J6_bitCount_0f7a4 r_7) rfl) rfl ⟨Nat.le_of_ble_eq_true rfl, Nat.le_of_ble_eq_true rfl⟩ hl.1 rfl (rest := []) (Nat.le_of_ble_eq_true rfl) ⟨Nat.zero_le _, Nat.zero_le _⟩ dX11_bearers_41 (fun H locs hP hS => ?_)
            refine W.eq (g2 := F0 m 44 ls [.int (f_J6_bitCount_0f7a4 r_7)]) rfl ?_
            refine lv_goto (tgt := 48) hx hb dX11_bearers_44 (by decide) ?_
            obtain rfl := Option.some.inj hf
            exact wd_iret X hP hS hr0 dX11_bearers_48 ⟨rfl, rfl⟩
        · have hf := itT hf c_8
          refine lv_bipush (v := -2) hx hb dX11_bearers_33 (by decide) ?_
          obtain rfl := Option.some.inj hf
          exact wd_iret X hP hS hr0 dX11_bearers_35 ⟨rfl, rfl⟩
      · have hf := itF hf c_5
        refine lv_iconst (v := -1) hx hb dX11_bearers_17 (by decide) ?_
        obtain rfl := Option.some.inj hf
        exact wd_iret X hP hS hr0 dX11_bearers_18 ⟨rfl, rfl⟩

noncomputable def f_X11_plan (mm : Mm) (x1 : Int32) : Option (Int32 × Mm) :=
  if (f_X11_hasRiver mm) = 0 then
    some ((-4 : Int32), mm)
  else
    if x1 < (-1 : Int32) then
      some ((-4 : Int32), mm)
    else
      if x1 < (7 : Int32) then
        bi1 (f_X4_thingsAt mm 33 27 (0 : Int32)) fun r_5 =>
          if (f_J6_bitCount_0f7a4 r_5) ≤ (7 : Int32) then
            bi1 (f_X1_find mm) fun mm_7 =>
              if x1 = (-1 : Int32) then
                some ((mm_7.1 234 6), mm_7)
              else
                if (mm_7.1 234 6) ≤ 0 then
                  some ((-2 : Int32), mm_7)
                else
                  if (mm_7.1 234 5) ≤ x1 then
                    some ((-2 : Int32), mm_7)
                  else
                    if x1 < 0 ∨ 8 ≤ x1.toNatClampNeg then none else some ((mm_7.1 237 x1.toNatClampNeg), mm_7)
          else
            some ((-3 : Int32), mm)
      else
        some ((-4 : Int32), mm)
set_option maxHeartbeats 4000000 in
set_option maxRecDepth 100000 in
theorem c_X11_plan (l : Launch) (D : va_G) (dA : Nat → ClassId) (zz : (Nat → Nat) × (Nat → Nat)) (bs : Nat) (mm : Mm) (x1 : Int32) (out : Int32) (m1 : Mm) (hf : f_X11_plan mm x1 = some (out, m1)) : Mw l D dA zz bs LY yX11_plan cX11_plan 2 (some .int) 4 111 [.ref (bs + 0), .int x1] mm (some (.int out)) m1 := by
  refine Mw.of (own := RX11) (by decide) rfl (Nat.le_of_ble_eq_true rfl) ?_
  intro p e s m args below meth c X hr0 hP hS ls hl
  have hx := X.1
  have hb := X.2.1
  obtain ⟨H, hH⟩ : ∃ z : Heap, z = s.heap := ⟨_, rfl⟩
  obtain ⟨locs, hL⟩ : ∃ z : List Loc, z = [] := ⟨_, rfl⟩
  rw [← hH, ← hL]
  have hS : va_S (Aq bs) s.heap H locs := by rw [hH, hL]; exact hS
  have hP : Wd D dA bs LY mm H := by rw [hH]; exact hP
  have hl : lv_has ls 2 [(0, .ref (bs + 0)), (1, .int x1)] := hl
  unfold f_X11_plan at hf
  refine lv_aload_n hx hb dX11_plan_0 rfl (lv_at hl 0 rfl) ?_
  refine wd_cv X hP hS L0 ml_X11_200 ⟨_, _, rfl⟩ (c_X11_hasRiver l D dA zz bs mm (f_X11_hasRiver mm) rfl) rfl ⟨Nat.le_of_ble_eq_true rfl, Nat.le_of_ble_eq_true rfl⟩ hl.1 rfl (rest := []) (Nat.le_of_ble_eq_true rfl) ⟨Nat.zero_le _, Nat.zero_le _⟩ dX11_plan_1 (fun H locs hP hS => ?_)
  refine W.eq (g2 := F0 m 4 ls [.int (f_X11_hasRiver mm)]) rfl ?_
  refine lv_if_eq (tgt := 18) hx hb dX11_plan_4 (by decide) (fun c_1 => ?_) (fun c_1 => ?_)
  · have hf := itT hf c_1
    refine lv_bipush (v := -4) hx hb dX11_plan_18 (by decide) ?_
    obtain ⟨rfl, rfl⟩ := Prod.mk.inj (Option.some.inj hf)
    exact wd_iret X hP hS hr0 dX11_plan_20 ⟨rfl, rfl⟩
  · have hf := itF hf c_1
    refine lv_iload_n hx hb dX11_plan_7 rfl (lv_at hl 1 rfl) ?_
    refine lv_iconst (v := -1) hx hb dX11_plan_8 (by decide) ?_
    refine lv_icmp_lt (tgt := 18) hx hb dX11_plan_9 (by decide) (fun c_2 => ?_) (fun c_2 => ?_)
    · have hf := itT hf c_2
      refine lv_bipush (v := -4) hx hb dX11_plan_18 (by decide) ?_
      obtain ⟨rfl, rfl⟩ := Prod.mk.inj (Option.some.inj hf)
      exact wd_iret X hP hS hr0 dX11_plan_20 ⟨rfl, rfl⟩
    · have hf := itF hf c_2
      refine lv_iload_n hx hb dX11_plan_12 rfl (lv_at hl 1 rfl) ?_
      refine lv_bipush (v := 7) hx hb dX11_plan_13 (by decide) ?_
      refine lv_icmp_lt (tgt := 21) hx hb dX11_plan_15 (by decide) (fun c_3 => ?_) (fun c_3 => ?_)
      · have hf := itT hf c_3
        refine lv_aload_n hx hb dX11_plan_21 rfl (lv_at hl 0 rfl) ?_
        refine wd_getR (q := 26) X hP L0 fl_X11_35 rfl dX11_plan_22 ?_
        refine wd_getR (q := 33) X hP (isState.a0 S26) fl_X11_71 rfl dX11_plan_25 ?_
        refine lv_iconst (v := 0) hx hb dX11_plan_28 (by decide) ?_
        obtain ⟨r_5, hc_4, hf⟩ := bi1S hf
        refine wd_cv X hP hS (isRaft.a0 R33) ml_X11_278 ⟨_, _, rfl⟩ (c_X4_thingsAt l D dA zz bs mm 33 27 R33 (0 : Int32) r_5 hc_4) rfl ⟨Nat.le_of_ble_eq_true rfl, Nat.le_of_ble_eq_true rfl⟩ hl.1 rfl (rest := []) (Nat.le_of_ble_eq_true rfl) ⟨Nat.zero_le _, Nat.zero_le _⟩ dX11_plan_29 (fun H locs hP hS => ?_)
        refine W.eq (g2 := F0 m 32 ls [.int r_5]) rfl ?_
        refine wd_cs X hP hS ml_X11_260 (c_J6_bitCount_0f7a4 l D dA zz bs mm r_5 (f_J6_bitCount_0f7a4 r_5) rfl) rfl ⟨Nat.le_of_ble_eq_true rfl, Nat.le_of_ble_eq_true rfl⟩ hl.1 rfl (rest := []) (Nat.le_of_ble_eq_true rfl) ⟨Nat.zero_le _, Nat.zero_le _⟩ dX11_plan_32 (fun H locs hP hS => ?_)
        refine W.eq (g2 := F0 m 35 ls [.int (f_J6_bitCount_0f7a4 r_5)]) rfl ?_
        refine lv_bipush (v := 7) hx hb dX11_plan_35 (by decide) ?_
        refine lv_icmp_le (tgt := 43) hx hb dX11_plan_37 (by decide) (fun c_6 => ?_) (fun c_6 => ?_)
        · have hf := itT hf c_6
          refine lv_aload_n hx hb dX11_plan_43 rfl (lv_at hl 0 rfl) ?_
          refine wd_getR (q := 234) X hP L0 fl_X11_78 rfl dX11_plan_44 ?_
          obtain ⟨mm_7, hc_8, hf⟩ := bi1S hf
          refine wd_cv X hP hS L234 ml_X11_293 ⟨_, _, rfl⟩ (c_X1_find l D dA zz bs mm mm_7 hc_8) rfl ⟨Nat.le_of_ble_eq_true rfl, Nat.le_of_ble_eq_true rfl⟩ hl.1 rfl (rest := []) (Nat.le_of_ble_eq_true rfl) ⟨Nat.zero_le _, Nat.zero_le _⟩ dX11_plan_47 (fun H locs hP hS => ?_)
          refine W.eq (g2 := F0 m 50 ls []) rfl ?_
          refine lv_iload_n hx hb dX11_plan_50 rfl (lv_at hl 1 rfl) ?_
          refine lv_iconst (v := -1) hx hb dX11_plan_51 (by decide) ?_
          refine lv_icmp_ne (tgt := 63) hx hb dX11_plan_52 (by decide) (fun c_9 => ?_) (fun c_9 => ?_)
          · have hf := itF hf c_9
            refine lv_aload_n hx hb dX11_plan_63 rfl (lv_at hl 0 rfl) ?_
            refine wd_getR (q := 234) X hP L0 fl_X11_78 rfl dX11_plan_64 ?_
            refine wd_getI X hP L234 fl_X11_295 rfl dX11_plan_67 ?_
            refine lv_if_le (tgt := 96) hx hb dX11_plan_70 (by decide) (fun c_10 => ?_) (fun c_10 => ?_)
            · have hf := itT hf c_10
              refine lv_bipush (v := -2) hx hb dX11_plan_96 (by decide) ?_
              obtain ⟨rfl, rfl⟩ := Prod.mk.inj (Option.some.inj hf)
              exact wd_iret X hP hS hr0 dX11_plan_98 ⟨rfl, rfl⟩
            · have hf := itF hf c_10
              refine lv_iload_n hx hb dX11_plan_73 rfl (lv_at hl 1 rfl) ?_
              refine lv_aload_n hx hb dX11_plan_74 rfl (lv_at hl 0 rfl) ?_
              refine wd_getR (q := 234) X hP L0 fl_X11_78 rfl dX11_plan_75 ?_
              refine wd_getI X hP L234 fl_X11_298 rfl dX11_plan_78 ?_
              refine lv_icmp_ge (tgt := 96) hx hb dX11_plan_81 (by decide) (fun c_11 => ?_) (fun c_11 => ?_)
              · have hf := itT hf c_11
                refine lv_bipush (v := -2) hx hb dX11_plan_96 (by decide) ?_
                obtain ⟨rfl, rfl⟩ := Prod.mk.inj (Option.some.inj hf)
                exact wd_iret X hP hS hr0 dX11_plan_98 ⟨rfl, rfl⟩
              · have hf := itF hf c_11
                refine lv_aload_n hx hb dX11_plan_84 rfl (lv_at hl 0 rfl) ?_
                refine wd_getR (q := 234) X hP L0 fl_X11_78 rfl dX11_plan_85 ?_
                refine wd_getR (q := 237) X hP L234 fl_X11_299 rfl dX11_plan_88 ?_
                refine lv_iload_n hx hb dX11_plan_91 rfl (lv_at hl 1 rfl) ?_
                have g_12 := gdN hf
                have hf := gdK hf
                refine wd_iald X hP L237 g_12 dX11_plan_92 ?_
                refine lv_goto (tgt := 98) hx hb dX11_plan_93 (by decide) ?_
                obtain ⟨rfl, rfl⟩ := Prod.mk.inj (Option.some.inj hf)
                exact wd_iret X hP hS hr0 dX11_plan_98 ⟨rfl, rfl⟩
          · have hf := itT hf c_9
            refine lv_aload_n hx hb dX11_plan_55 rfl (lv_at hl 0 rfl) ?_
            refine wd_getR (q := 234) X hP L0 fl_X11_78 rfl dX11_plan_56 ?_
            refine wd_getI X hP L234 fl_X11_295 rfl dX11_plan_59 ?_
            obtain ⟨rfl, rfl⟩ := Prod.mk.inj (Option.some.inj hf)
            exact wd_iret X hP hS hr0 dX11_plan_62 ⟨rfl, rfl⟩
        · have hf := itF hf c_6
          refine lv_bipush (v := -3) hx hb dX11_plan_40 (by decide) ?_
          obtain ⟨rfl, rfl⟩ := Prod.mk.inj (Option.some.inj hf)
          exact wd_iret X hP hS hr0 dX11_plan_42 ⟨rfl, rfl⟩
      · have hf := itF hf c_3
        refine lv_bipush (v := -4) hx hb dX11_plan_18 (by decide) ?_
        obtain ⟨rfl, rfl⟩ := Prod.mk.inj (Option.some.inj hf)
        exact wd_iret X hP hS hr0 dX11_plan_20 ⟨rfl, rfl⟩

noncomputable def f_X11_sawn (mm : Mm) (x1 : Int32) (x2 : Int32) : Option (Int32 × Mm) :=
  bi1 (f_X11_isSetAfloat mm x1) fun r_2 =>
    if r_2 = 0 then
      some ((-1 : Int32), mm)
    else
      if x2 < 0 then
        some ((-1 : Int32), mm)
      else
        if x2 ≤ (2 : Int32) then
          bi1 (f_X3_findSawn mm x1) fun mm_6 =>
            if x2 = (2 : Int32) then
              some ((mm_6.1 232 4), mm_6)
            else
              if (mm_6.1 232 4) = 0 then
                some ((-2 : Int32), mm_6)
              else
                if x2 = 0 then
                  some ((f_J6_bitCount_0f7a4 (mm_6.1 232 5)), mm_6)
                else
                  some ((mm_6.1 232 5), mm_6)
        else
          some ((-1 : Int32), mm)
set_option maxHeartbeats 4000000 in
set_option maxRecDepth 100000 in
theorem c_X11_sawn (l : Launch) (D : va_G) (dA : Nat → ClassId) (zz : (Nat → Nat) × (Nat → Nat)) (bs : Nat) (mm : Mm) (x1 : Int32) (x2 : Int32) (out : Int32) (m1 : Mm) (hf : f_X11_sawn mm x1 x2 = some (out, m1)) : Mw l D dA zz bs LY yX11_sawn cX11_sawn 3 (some .int) 5 131 [.ref (bs + 0), .int x1, .int x2] mm (some (.int out)) m1 := by
  refine Mw.of (own := RX11) (by decide) rfl (Nat.le_of_ble_eq_true rfl) ?_
  intro p e s m args below meth c X hr0 hP hS ls hl
  have hx := X.1
  have hb := X.2.1
  obtain ⟨H, hH⟩ : ∃ z : Heap, z = s.heap := ⟨_, rfl⟩
  obtain ⟨locs, hL⟩ : ∃ z : List Loc, z = [] := ⟨_, rfl⟩
  rw [← hH, ← hL]
  have hS : va_S (Aq bs) s.heap H locs := by rw [hH, hL]; exact hS
  have hP : Wd D dA bs LY mm H := by rw [hH]; exact hP
  have hl : lv_has ls 3 [(0, .ref (bs + 0)), (1, .int x1), (2, .int x2)] := hl
  unfold f_X11_sawn at hf
  refine lv_aload_n hx hb dX11_sawn_0 rfl (lv_at hl 0 rfl) ?_
  refine lv_iload_n hx hb dX11_sawn_1 rfl (lv_at hl 1 rfl) ?_
  obtain ⟨r_2, hc_1, hf⟩ := bi1S hf
  refine wd_cv X hP hS L0 ml_X11_287 ⟨_, _, rfl⟩ (c_X11_isSetAfloat l D dA zz bs mm x1 r_2 hc_1) rfl ⟨Nat.le_of_ble_eq_true rfl, Nat.le_of_ble_eq_true rfl⟩ hl.1 rfl (rest := []) (Nat.le_of_ble_eq_true rfl) ⟨Nat.zero_le _, Nat.zero_le _⟩ dX11_sawn_2 (fun H locs hP hS => ?_)
  refine W.eq (g2 := F0 m 5 ls [.int r_2]) rfl ?_
  refine lv_if_eq (tgt := 17) hx hb dX11_sawn_5 (by decide) (fun c_3 => ?_) (fun c_3 => ?_)
  · have hf := itT hf c_3
    refine lv_iconst (v := -1) hx hb dX11_sawn_17 (by decide) ?_
    obtain ⟨rfl, rfl⟩ := Prod.mk.inj (Option.some.inj hf)
    exact wd_iret X hP hS hr0 dX11_sawn_18 ⟨rfl, rfl⟩
  · have hf := itF hf c_3
    refine lv_iload_n hx hb dX11_sawn_8 rfl (lv_at hl 2 rfl) ?_
    refine lv_if_lt (tgt := 17) hx hb dX11_sawn_9 (by decide) (fun c_4 => ?_) (fun c_4 => ?_)
    · have hf := itT hf c_4
      refine lv_iconst (v := -1) hx hb dX11_sawn_17 (by decide) ?_
      obtain ⟨rfl, rfl⟩ := Prod.mk.inj (Option.some.inj hf)
      exact wd_iret X hP hS hr0 dX11_sawn_18 ⟨rfl, rfl⟩
    · have hf := itF hf c_4
      refine lv_iload_n hx hb dX11_sawn_12 rfl (lv_at hl 2 rfl) ?_
      refine lv_iconst (v := 2) hx hb dX11_sawn_13 (by decide) ?_
      refine lv_icmp_le (tgt := 19) hx hb dX11_sawn_14 (by decide) (fun c_5 => ?_) (fun c_5 => ?_)
      · have hf := itT hf c_5
        refine lv_aload_n hx hb dX11_sawn_19 rfl (lv_at hl 0 rfl) ?_
        refine wd_getR (q := 232) X hP L0 fl_X11_65 rfl dX11_sawn_20 ?_
        refine lv_iload_n hx hb dX11_sawn_23 rfl (lv_at hl 1 rfl) ?_
        obtain ⟨mm_6, hc_7, hf⟩ := bi1S hf
        refine wd_cv X hP hS L232 ml_X11_302 ⟨_, _, rfl⟩ (c_X3_findSawn l D dA zz bs mm x1 mm_6 hc_7) rfl ⟨Nat.le_of_ble_eq_true rfl, Nat.le_of_ble_eq_true rfl⟩ hl.1 rfl (rest := []) (Nat.le_of_ble_eq_true rfl) ⟨Nat.zero_le _, Nat.zero_le _⟩ dX11_sawn_24 (fun H locs hP hS => ?_)
        refine W.eq (g2 := F0 m 27 ls []) rfl ?_
        refine lv_iload_n hx hb dX11_sawn_27 rfl (lv_at hl 2 rfl) ?_
        refine lv_iconst (v := 2) hx hb dX11_sawn_28 (by decide) ?_
        refine lv_icmp_ne (tgt := 40) hx hb dX11_sawn_29 (by decide) (fun c_8 => ?_) (fun c_8 => ?_)
        · have hf := itF hf c_8
          refine lv_aload_n hx hb dX11_sawn_40 rfl (lv_at hl 0 rfl) ?_
          refine wd_getR (q := 232) X hP L0 fl_X11_65 rfl dX11_sawn_41 ?_
          refine wd_getI X hP L232 fl_X11_305 rfl dX11_sawn_44 ?_
          refine lv_if_ne (tgt := 53) hx hb dX11_sawn_47 (by decide) (fun c_9 => ?_) (fun c_9 => ?_)
          · have hf := itF hf c_9
            refine lv_iload_n hx hb dX11_sawn_53 rfl (lv_at hl 2 rfl) ?_
            refine lv_if_ne (tgt := 70) hx hb dX11_sawn_54 (by decide) (fun c_10 => ?_) (fun c_10 => ?_)
            · have hf := itF hf c_10
              refine lv_aload_n hx hb dX11_sawn_70 rfl (lv_at hl 0 rfl) ?_
              refine wd_getR (q := 232) X hP L0 fl_X11_65 rfl dX11_sawn_71 ?_
              refine wd_getI X hP L232 fl_X11_308 rfl dX11_sawn_74 ?_
              obtain ⟨rfl, rfl⟩ := Prod.mk.inj (Option.some.inj hf)
              exact wd_iret X hP hS hr0 dX11_sawn_77 ⟨rfl, rfl⟩
            · have hf := itT hf c_10
              refine lv_aload_n hx hb dX11_sawn_57 rfl (lv_at hl 0 rfl) ?_
              refine wd_getR (q := 232) X hP L0 fl_X11_65 rfl dX11_sawn_58 ?_
              refine wd_getI X hP L232 fl_X11_308 rfl dX11_sawn_61 ?_
              refine wd_cs X hP hS ml_X11_260 (c_J6_bitCount_0f7a4 l D dA zz bs mm_6 (mm_6.1 232 5) (f_J6_bitCount_0f7a4 (mm_6.1 232 5)) rfl) rfl ⟨Nat.le_of_ble_eq_true rfl, Nat.le_of_ble_eq_true rfl⟩ hl.1 rfl (rest := []) (Nat.le_of_ble_eq_true rfl) ⟨Nat.zero_le _, Nat.zero_le _⟩ dX11_sawn_64 (fun H locs hP hS => ?_)
              refine W.eq (g2 := F0 m 67 ls [.int (f_J6_bitCount_0f7a4 (mm_6.1 232 5))]) rfl ?_
              refine lv_goto (tgt := 77) hx hb dX11_sawn_67 (by decide) ?_
              obtain ⟨rfl, rfl⟩ := Prod.mk.inj (Option.some.inj hf)
              exact wd_iret X hP hS hr0 dX11_sawn_77 ⟨rfl, rfl⟩
          · have hf := itT hf c_9
            refine lv_bipush (v := -2) hx hb dX11_sawn_50 (by decide) ?_
            obtain ⟨rfl, rfl⟩ := Prod.mk.inj (Option.some.inj hf)
            exact wd_iret X hP hS hr0 dX11_sawn_52 ⟨rfl, rfl⟩
        · have hf := itT hf c_8
          refine lv_aload_n hx hb dX11_sawn_32 rfl (lv_at hl 0 rfl) ?_
          refine wd_getR (q := 232) X hP L0 fl_X11_65 rfl dX11_sawn_33 ?_
          refine wd_getI X hP L232 fl_X11_305 rfl dX11_sawn_36 ?_
          obtain ⟨rfl, rfl⟩ := Prod.mk.inj (Option.some.inj hf)
          exact wd_iret X hP hS hr0 dX11_sawn_39 ⟨rfl, rfl⟩
      · have hf := itF hf c_5
        refine lv_iconst (v := -1) hx hb dX11_sawn_17 (by decide) ?_
        obtain ⟨rfl, rfl⟩ := Prod.mk.inj (Option.some.inj hf)
        exact wd_iret X hP hS hr0 dX11_sawn_18 ⟨rfl, rfl⟩
