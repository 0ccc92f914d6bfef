noncomputable def f_J7_fill_53178_s5 (a : Nat) (n : Nat) (y1 : Int32) (y3 : Int32) : (Int32 × Mm) → Option ((Int32 × Mm) ⊕ (Mm)) :=
  fun q => match q with
  | (y2, mm) =>
    if y3 ≤ y2 then
      some (.inr mm)
    else
      if y2 < 0 ∨ n ≤ y2.toNatClampNeg then none else
        vlet (wI mm a y2.toNatClampNeg y1) fun mm_2 => some (.inl ((y2 + 1), mm_2))
noncomputable def f_J7_fill_53178 (mm : Mm) (a : Nat) (n : Nat) (x1 : Int32) : Option (Mm) :=
  bi1 (lp (f_J7_fill_53178_s5 a n x1 (Int32.ofNat n)) ((0 : Int32), mm)) fun mm_5 =>
    some mm_5
set_option maxHeartbeats 4000000 in
set_option maxRecDepth 100000 in
theorem c_J7_fill_53178 (l : Launch) (D : va_G) (dA : Nat → ClassId) (zz : (Nat → Nat) × (Nat → Nat)) (bs : Nat) (mm : Mm) (a : Nat) (n : Nat) (ha : LY[a]? = some (.inr (0, n, ng))) (x1 : Int32) (m1 : Mm) (hf : f_J7_fill_53178 mm a n x1 = some m1) : Mw l D dA zz bs LY yJ7_fill_53178 cJ7_fill_53178 4 none 0 0 [.ref (bs + a), .int x1] mm none m1 := by
  refine Mw.of (own := RJ7) (by decide) rfl (Nat.le_of_ble_eq_true rfl) ?_
  intro p e s m args below meth c X hr0 hP hS ls hl
  have hx := X.1
  have hb := X.2.1
  obtain ⟨H, hH⟩ : ∃ z : Heap, z = s.heap := ⟨_, rfl⟩
  obtain ⟨locs, hL⟩ : ∃ z : List Loc, z = [] := ⟨_, rfl⟩
  rw [← hH, ← hL]
  have hS : va_S (Aq bs) s.heap H locs := by rw [hH, hL]; exact hS
  have hP : Wd D dA bs LY mm H := by rw [hH]; exact hP
  have hl : lv_has ls 4 [(0, .ref (bs + a)), (1, .int x1)] := hl
  unfold f_J7_fill_53178 at hf
  refine lv_iconst (v := 0) hx hb dJ7_fill_53178_0 (by decide) ?_
  refine lv_istore_n (lv' := [(2, .int (0 : Int32)), (0, .ref (bs + a)), (1, .int x1)]) hx hb dJ7_fill_53178_1 rfl hl (by decide) rfl (fun ls hl => ?_)
  refine lv_aload_n hx hb dJ7_fill_53178_2 rfl (lv_at hl 1 rfl) ?_
  refine wd_alen X hP ha rfl rfl dJ7_fill_53178_3 ?_
  refine lv_istore_n (lv' := [(3, .int (Int32.ofNat n)), (2, .int (0 : Int32)), (0, .ref (bs + a)), (1, .int x1)]) hx hb dJ7_fill_53178_4 rfl hl (by decide) rfl (fun ls hl => ?_)
  obtain ⟨q_6, hlp_7, hf⟩ := bi1S hf
  refine lp_walk (Wh := (fun z => match z with | (y2L_4, mmL_4) => ∀ (H : Heap) (locs : List Loc) (ls : Array Slot), Wd D dA bs LY mmL_4 H → va_S (Aq bs) s.heap H locs → lv_has ls 4 [(0, .ref (bs + a)), (1, .int x1), (2, .int y2L_4), (3, .int (Int32.ofNat n))] → Wz p l e s m args below meth c D dA bs none m1 0 0 H locs 5 ls [])) (Ph := (fun mm_5 => ∀ (H : Heap) (locs : List Loc) (ls : Array Slot), Wd D dA bs LY mm_5 H → va_S (Aq bs) s.heap H locs → lv_has ls 4 [] → Wz p l e s m args below meth c D dA bs none m1 0 0 H locs 20 ls [])) ?_ hlp_7 ?_ H locs ls hP hS (lv_sub hl [2, 3, 1, 0] rfl)
  · intro z o hf hB hE
    obtain ⟨y2L_4, mmL_4⟩ := z
    intro H locs ls hP hS hl
    have hf : f_J7_fill_53178_s5 a n x1 (Int32.ofNat n) (y2L_4, mmL_4) = some o := hf
    unfold f_J7_fill_53178_s5 at hf
    dsimp only at hf
    refine lv_iload_n hx hb dJ7_fill_53178_5 rfl (lv_at hl 2 rfl) ?_
    refine lv_iload_n hx hb dJ7_fill_53178_6 rfl (lv_at hl 3 rfl) ?_
    refine lv_icmp_ge (tgt := 20) hx hb dJ7_fill_53178_7 (by decide) (fun c_1 => ?_) (fun c_1 => ?_)
    · have hf := itT hf c_1
      obtain rfl := Option.some.inj hf
      exact hE _ rfl H locs ls hP hS (lv_sub hl [] rfl)
    · have hf := itF hf c_1
      refine lv_aload_n hx hb dJ7_fill_53178_10 rfl (lv_at hl 0 rfl) ?_
      refine lv_iload_n hx hb dJ7_fill_53178_11 rfl (lv_at hl 2 rfl) ?_
      refine lv_iload_n hx hb dJ7_fill_53178_12 rfl (lv_at hl 1 rfl) ?_
      have g_3 := gdN hf
      have hf := gdK hf
      refine wd_iast X hP hS ha g_3 dJ7_fill_53178_13 (fun H locs mm_2 emm_2 hP hS => ?_)
      have hf := vl hf emm_2
      refine lv_iinc (v := (y2L_4 + 1)) (lv' := [(2, .int (y2L_4 + 1)), (0, .ref (bs + a)), (1, .int x1), (3, .int (Int32.ofNat n))]) hx hb dJ7_fill_53178_14 hl (k := 2) rfl rfl (by decide) rfl (fun ls hl => ?_)
      refine lv_goto (tgt := 5) hx hb dJ7_fill_53178_17 (by decide) ?_
      obtain rfl := Option.some.inj hf
      exact hB _ rfl H locs ls hP hS (lv_sub hl [1, 2, 0, 3] rfl)
  · obtain ⟨mm_5, e_mm_5⟩ : ∃ z, z = q_6 := ⟨_, rfl⟩
    subst e_mm_5
    intro H locs ls hP hS hl
    obtain rfl := Option.some.inj hf
    exact wd_vret X hP hS hr0 dJ7_fill_53178_20 ⟨rfl, rfl⟩

noncomputable def f_X0_putFrom_j62 (rec : Mm → Int32 → Int32 → Option Mm) (mm : Mm) (y1 : Int32) (y2 : Int32) : Option (Mm) :=
  if y1 < 0 ∨ 8 ≤ y1.toNatClampNeg then none else
    vlet (wI mm 240 y1.toNatClampNeg (-1 : Int32)) fun mm_1 => bi1 (rec mm_1 (y1 + (1 : Int32)) y2) fun mm_3 => some mm_3
noncomputable def f_X0_putFrom_s94 (rec : Mm → Int32 → Int32 → Option Mm) (y1 : Int32) (y2 : Int32) (y3 : Int32) : (Int32 × Mm) → Option ((Int32 × Mm) ⊕ (Mm)) :=
  fun q => match q with
  | (y4, mm) =>
    if y2 < y4 then
      some (.inr mm)
    else
      if (8 : Int32) ≤ y4 then
        some (.inr mm)
      else
        if y4 < 0 ∨ 8 ≤ y4.toNatClampNeg then none else
          if (mm.1 238 1) < ((mm.1 241 y4.toNatClampNeg) + y3) then
            some (.inl ((y4 + 1), mm))
          else
            if y4 < 0 ∨ 8 ≤ y4.toNatClampNeg then none else
              if y4 < 0 ∨ 8 ≤ y4.toNatClampNeg then none else
                vlet (wI mm 241 y4.toNatClampNeg ((mm.1 241 y4.toNatClampNeg) + y3)) fun mm_18 =>
                  if y1 < 0 ∨ 8 ≤ y1.toNatClampNeg then none else
                    vlet (wI mm_18 240 y1.toNatClampNeg y4) fun mm_20 =>
                      bi1 (rec mm_20 (y1 + (1 : Int32)) (if y2 < (y4 + (1 : Int32)) then (y4 + (1 : Int32)) else y2)) fun mm_22 =>
                        if y4 < 0 ∨ 8 ≤ y4.toNatClampNeg then none else
                          if y4 < 0 ∨ 8 ≤ y4.toNatClampNeg then none else
                            vlet (wI mm_22 241 y4.toNatClampNeg ((mm_22.1 241 y4.toNatClampNeg) - y3)) fun mm_25 => some (.inl ((y4 + 1), mm_25))
noncomputable def f_X0_putFrom_b (rec : Mm → Int32 → Int32 → Option Mm) (mm : Mm) (x1 : Int32) (x2 : Int32) : Option (Mm) :=
  if x2 < (mm.1 238 2) then
    if x1 < (8 : Int32) then
      if (mm.1 27 2) ≤ x1 then
        f_X0_putFrom_j62 rec mm x1 x2
      else
        if x1 < 0 ∨ 8 ≤ x1.toNatClampNeg then none else
          if (mm.1 37 x1.toNatClampNeg) = 0 then
            if x1 < 0 ∨ 8 ≤ x1.toNatClampNeg then none else
              vlet (mm.1 30 x1.toNatClampNeg) fun (x3_12 : Int32) =>
                bi1 (lp (f_X0_putFrom_s94 rec x1 x2 x3_12) ((0 : Int32), mm)) fun mm_28 =>
                  some mm_28
          else
            f_X0_putFrom_j62 rec mm x1 x2
    else
      vlet (wI mm 238 2 x2) fun mm_31 =>
        vlet (wA mm_31 239 (va_cpy (mm_31.1 240) (mm_31.1 239) 0 0 8)) fun mm_32 => some mm_32
  else
    some mm
set_option maxHeartbeats 4000000 in
set_option maxRecDepth 100000 in
theorem c_X0_putFrom_o (l : Launch) (D : va_G) (dA : Nat → ClassId) (zz : (Nat → Nat) × (Nat → Nat)) (bs : Nat) (rec : Mm → Int32 → Int32 → Option Mm) (FR LO : Nat) (hrec : ∀ (mma : Mm) (x1a : Int32) (x2a : Int32) (m1a : Mm), rec mma x1a x2a = some m1a → Mw l D dA zz bs LY yX0_putFrom cX0_putFrom 5 none FR LO [.ref (bs + 238), .int x1a, .int x2a] mma none m1a) (mm : Mm) (x1 : Int32) (x2 : Int32) (m1 : Mm) (hf : f_X0_putFrom_b rec mm x1 x2 = some m1) : Mw l D dA zz bs LY yX0_putFrom cX0_putFrom 5 none (FR + 1) (LO + 60) [.ref (bs + 238), .int x1, .int x2] mm none m1 := by
  refine Mw.of (own := RX0) (by decide) rfl (Nat.le_of_ble_eq_true rfl) ?_
  intro p e s m args below meth c X hr0 hP hS ls hl
  have hx := X.1
  have hb := X.2.1
  obtain ⟨H, hH⟩ : ∃ z : Heap, z = s.heap := ⟨_, rfl⟩
  obtain ⟨locs, hL⟩ : ∃ z : List Loc, z = [] := ⟨_, rfl⟩
  rw [← hH, ← hL]
  have hS : va_S (Aq bs) s.heap H locs := by rw [hH, hL]; exact hS
  have hP : Wd D dA bs LY mm H := by rw [hH]; exact hP
  have hl : lv_has ls 5 [(0, .ref (bs + 238)), (1, .int x1), (2, .int x2)] := hl
  have hJ62 : ∀ (mmJ_5 : Mm) (y1J_5 : Int32) (y2J_5 : Int32) (H : Heap) (locs : List Loc) (ls : Array Slot), f_X0_putFrom_j62 rec mmJ_5 y1J_5 y2J_5 = some m1 → Wd D dA bs LY mmJ_5 H → va_S (Aq bs) s.heap H locs → lv_has ls 5 [(0, .ref (bs + 238)), (1, .int y1J_5), (2, .int y2J_5)] → Wz p l e s m args below meth c D dA bs none m1 (FR + 1) (LO + 60) H locs 62 ls [] := by
    intro mmJ_5 y1J_5 y2J_5 H locs ls hf hP hS hl
    unfold f_X0_putFrom_j62 at hf
    refine lv_aload_n hx hb dX0_putFrom_62 rfl (lv_at hl 0 rfl) ?_
    refine wd_getR (q := 240) X hP L238 fl_X0_15 rfl dX0_putFrom_63 ?_
    refine lv_iload_n hx hb dX0_putFrom_66 rfl (lv_at hl 1 rfl) ?_
    refine lv_iconst (v := -1) hx hb dX0_putFrom_67 (by decide) ?_
    have g_2 := gdN hf
    have hf := gdK hf
    refine wd_iast X hP hS L240 g_2 dX0_putFrom_68 (fun H locs mm_1 emm_1 hP hS => ?_)
    have hf := vl hf emm_1
    refine lv_aload_n hx hb dX0_putFrom_69 rfl (lv_at hl 0 rfl) ?_
    refine lv_iload_n hx hb dX0_putFrom_70 rfl (lv_at hl 1 rfl) ?_
    refine lv_iconst (v := 1) hx hb dX0_putFrom_71 (by decide) ?_
    refine lv_iadd hx hb dX0_putFrom_72 ?_
    refine lv_iload_n hx hb dX0_putFrom_73 rfl (lv_at hl 2 rfl) ?_
    obtain ⟨mm_3, hc_4, hf⟩ := bi1S hf
    refine wd_cv X hP hS L238 ml_X0_38 ⟨_, _, rfl⟩ (hrec mm_1 (y1J_5 + (1 : Int32)) y2J_5 mm_3 hc_4) rfl ⟨by show FR + 1 ≤ FR + 1; omega, by show 8 + (5 + 11) + LO ≤ LO + 60; omega⟩ hl.1 rfl (rest := []) (Nat.le_of_ble_eq_true rfl) ⟨Nat.zero_le _, Nat.zero_le _⟩ dX0_putFrom_74 (fun H locs hP hS => ?_)
    refine W.eq (g2 := F0 m 77 ls []) rfl ?_
    obtain rfl := Option.some.inj hf
    exact wd_vret X hP hS hr0 dX0_putFrom_77 ⟨rfl, rfl⟩
  unfold f_X0_putFrom_b at hf
  refine lv_iload_n hx hb dX0_putFrom_0 rfl (lv_at hl 2 rfl) ?_
  refine lv_aload_n hx hb dX0_putFrom_1 rfl (lv_at hl 0 rfl) ?_
  refine wd_getI X hP L238 fl_X0_29 rfl dX0_putFrom_2 ?_
  refine lv_icmp_lt (tgt := 9) hx hb dX0_putFrom_5 (by decide) (fun c_6 => ?_) (fun c_6 => ?_)
  · have hf := itT hf c_6
    refine lv_iload_n hx hb dX0_putFrom_9 rfl (lv_at hl 1 rfl) ?_
    refine lv_bipush (v := 8) hx hb dX0_putFrom_10 (by decide) ?_
    refine lv_icmp_lt (tgt := 36) hx hb dX0_putFrom_12 (by decide) (fun c_7 => ?_) (fun c_7 => ?_)
    · have hf := itT hf c_7
      refine lv_iload_n hx hb dX0_putFrom_36 rfl (lv_at hl 1 rfl) ?_
      refine lv_aload_n hx hb dX0_putFrom_37 rfl (lv_at hl 0 rfl) ?_
      refine wd_getR (q := 33) X hP L238 fl_X0_21 rfl dX0_putFrom_38 ?_
      refine wd_getR (q := 27) X hP (isRaft.a0 R33) fl_X0_48 rfl dX0_putFrom_41 ?_
      refine wd_getI X hP (isRiver.a0 V27) fl_X0_54 rfl dX0_putFrom_44 ?_
      refine lv_icmp_ge (tgt := 62) hx hb dX0_putFrom_47 (by decide) (fun c_8 => ?_) (fun c_8 => ?_)
      · have hf := itT hf c_8
        exact hJ62 mm x1 x2 H locs ls hf hP hS (lv_sub hl [0, 1, 2] rfl)
      · have hf := itF hf c_8
        refine lv_aload_n hx hb dX0_putFrom_50 rfl (lv_at hl 0 rfl) ?_
        refine wd_getR (q := 33) X hP L238 fl_X0_21 rfl dX0_putFrom_51 ?_
        refine wd_getR (q := 37) X hP (isRaft.a0 R33) fl_X0_59 rfl dX0_putFrom_54 ?_
        refine lv_iload_n hx hb dX0_putFrom_57 rfl (lv_at hl 1 rfl) ?_
        have g_9 := gdN hf
        have hf := gdK hf
        refine wd_iald X hP (isRaft.a4 R33) g_9 dX0_putFrom_58 ?_
        refine lv_if_eq (tgt := 78) hx hb dX0_putFrom_59 (by decide) (fun c_10 => ?_) (fun c_10 => ?_)
        · have hf := itT hf c_10
          refine lv_aload_n hx hb dX0_putFrom_78 rfl (lv_at hl 0 rfl) ?_
          refine wd_getR (q := 33) X hP L238 fl_X0_21 rfl dX0_putFrom_79 ?_
          refine wd_getR (q := 27) X hP (isRaft.a0 R33) fl_X0_48 rfl dX0_putFrom_82 ?_
          refine wd_getR (q := 30) X hP (isRiver.a0 V27) fl_X0_62 rfl dX0_putFrom_85 ?_
          refine lv_iload_n hx hb dX0_putFrom_88 rfl (lv_at hl 1 rfl) ?_
          have g_11 := gdN hf
          have hf := gdK hf
          refine wd_iald X hP (isRiver.a3 V27) g_11 dX0_putFrom_89 ?_
          refine lv_topi (fun x3_12 ex3_12 => ?_)
          have hf := vl hf ex3_12
          refine lv_istore_n (lv' := [(3, .int x3_12), (0, .ref (bs + 238)), (1, .int x1), (2, .int x2)]) hx hb dX0_putFrom_90 rfl hl (by decide) rfl (fun ls hl => ?_)
          refine lv_iconst (v := 0) hx hb dX0_putFrom_91 (by decide) ?_
          refine lv_istore (lv' := [(4, .int (0 : Int32)), (3, .int x3_12), (0, .ref (bs + 238)), (1, .int x1), (2, .int x2)]) hx hb dX0_putFrom_92 hl (by decide) rfl (fun ls hl => ?_)
          obtain ⟨q_29, hlp_30, hf⟩ := bi1S hf
          refine lp_walk (Wh := (fun z => match z with | (y4L_27, mmL_27) => ∀ (H : Heap) (locs : List Loc) (ls : Array Slot), Wd D dA bs LY mmL_27 H → va_S (Aq bs) s.heap H locs → lv_has ls 5 [(0, .ref (bs + 238)), (1, .int x1), (2, .int x2), (3, .int x3_12), (4, .int y4L_27)] → Wz p l e s m args below meth c D dA bs none m1 (FR + 1) (LO + 60) H locs 94 ls [])) (Ph := (fun mm_28 => ∀ (H : Heap) (locs : List Loc) (ls : Array Slot), Wd D dA bs LY mm_28 H → va_S (Aq bs) s.heap H locs → lv_has ls 5 [] → Wz p l e s m args below meth c D dA bs none m1 (FR + 1) (LO + 60) H locs 174 ls [])) ?_ hlp_30 ?_ H locs ls hP hS (lv_sub hl [2, 3, 4, 1, 0] rfl)
          · intro z o hf hB hE
            obtain ⟨y4L_27, mmL_27⟩ := z
            intro H locs ls hP hS hl
            have hf : f_X0_putFrom_s94 rec x1 x2 x3_12 (y4L_27, mmL_27) = some o := hf
            unfold f_X0_putFrom_s94 at hf
            dsimp only at hf
            refine lv_iload hx hb dX0_putFrom_94 (lv_at hl 4 rfl) ?_
            refine lv_iload_n hx hb dX0_putFrom_96 rfl (lv_at hl 2 rfl) ?_
            refine lv_icmp_gt (tgt := 174) hx hb dX0_putFrom_97 (by decide) (fun c_13 => ?_) (fun c_13 => ?_)
            · have hf := itT hf c_13
              obtain rfl := Option.some.inj hf
              exact hE _ rfl H locs ls hP hS (lv_sub hl [] rfl)
            · have hf := itF hf c_13
              refine lv_iload hx hb dX0_putFrom_100 (lv_at hl 4 rfl) ?_
              refine lv_bipush (v := 8) hx hb dX0_putFrom_102 (by decide) ?_
              refine lv_icmp_ge (tgt := 174) hx hb dX0_putFrom_104 (by decide) (fun c_14 => ?_) (fun c_14 => ?_)
              · have hf := itT hf c_14
                obtain rfl := Option.some.inj hf
                exact hE _ rfl H locs ls hP hS (lv_sub hl [] rfl)
              · have hf := itF hf c_14
                refine lv_aload_n hx hb dX0_putFrom_107 rfl (lv_at hl 0 rfl) ?_
                refine wd_getR (q := 241) X hP L238 fl_X0_18 rfl dX0_putFrom_108 ?_
                refine lv_iload hx hb dX0_putFrom_111 (lv_at hl 4 rfl) ?_
                have g_15 := gdN hf
                have hf := gdK hf
                refine wd_iald X hP L241 g_15 dX0_putFrom_113 ?_
                refine lv_iload_n hx hb dX0_putFrom_114 rfl (lv_at hl 3 rfl) ?_
                refine lv_iadd hx hb dX0_putFrom_115 ?_
                refine lv_aload_n hx hb dX0_putFrom_116 rfl (lv_at hl 0 rfl) ?_
                refine wd_getI X hP L238 fl_X0_25 rfl dX0_putFrom_117 ?_
                refine lv_icmp_gt (tgt := 168) hx hb dX0_putFrom_120 (by decide) (fun c_16 => ?_) (fun c_16 => ?_)
                · have hf := itT hf c_16
                  refine lv_iinc (v := (y4L_27 + 1)) (lv' := [(4, .int (y4L_27 + 1)), (0, .ref (bs + 238)), (1, .int x1), (2, .int x2), (3, .int x3_12)]) hx hb dX0_putFrom_168 hl (k := 4) rfl rfl (by decide) rfl (fun ls hl => ?_)
                  refine lv_goto (tgt := 94) hx hb dX0_putFrom_171 (by decide) ?_
                  obtain rfl := Option.some.inj hf
                  exact hB _ rfl H locs ls hP hS (lv_sub hl [1, 2, 3, 4, 0] rfl)
                · have hf := itF hf c_16
                  refine lv_aload_n hx hb dX0_putFrom_123 rfl (lv_at hl 0 rfl) ?_
                  refine wd_getR (q := 241) X hP L238 fl_X0_18 rfl dX0_putFrom_124 ?_
                  refine lv_iload hx hb dX0_putFrom_127 (lv_at hl 4 rfl) ?_
                  refine lv_dup2_11 hx hb dX0_putFrom_129 rfl rfl ?_
                  have g_17 := gdN hf
                  have hf := gdK hf
                  refine wd_iald X hP L241 g_17 dX0_putFrom_130 ?_
                  refine lv_iload_n hx hb dX0_putFrom_131 rfl (lv_at hl 3 rfl) ?_
                  refine lv_iadd hx hb dX0_putFrom_132 ?_
                  have g_19 := gdN hf
                  have hf := gdK hf
                  refine wd_iast X hP hS L241 g_19 dX0_putFrom_133 (fun H locs mm_18 emm_18 hP hS => ?_)
                  have hf := vl hf emm_18
                  refine lv_aload_n hx hb dX0_putFrom_134 rfl (lv_at hl 0 rfl) ?_
                  refine wd_getR (q := 240) X hP L238 fl_X0_15 rfl dX0_putFrom_135 ?_
                  refine lv_iload_n hx hb dX0_putFrom_138 rfl (lv_at hl 1 rfl) ?_
                  refine lv_iload hx hb dX0_putFrom_139 (lv_at hl 4 rfl) ?_
                  have g_21 := gdN hf
                  have hf := gdK hf
                  refine wd_iast X hP hS L240 g_21 dX0_putFrom_141 (fun H locs mm_20 emm_20 hP hS => ?_)
                  have hf := vl hf emm_20
                  refine lv_aload_n hx hb dX0_putFrom_142 rfl (lv_at hl 0 rfl) ?_
                  refine lv_iload_n hx hb dX0_putFrom_143 rfl (lv_at hl 1 rfl) ?_
                  refine lv_iconst (v := 1) hx hb dX0_putFrom_144 (by decide) ?_
                  refine lv_iadd hx hb dX0_putFrom_145 ?_
                  refine lv_iload_n hx hb dX0_putFrom_146 rfl (lv_at hl 2 rfl) ?_
                  refine lv_iload hx hb dX0_putFrom_147 (lv_at hl 4 rfl) ?_
                  refine lv_iconst (v := 1) hx hb dX0_putFrom_149 (by decide) ?_
                  refine lv_iadd hx hb dX0_putFrom_150 ?_
                  refine va_mmax (own := RX0) hx hb (X.2.2.1.trans hl.1.symm) X.2.2.2.1 (X.2.2.2.2.1 _ (tb_at 1033 (by decide +kernel) (by decide +kernel))) (X.2.2.2.2.1 _ (tb_at 637 (by decide +kernel) (by decide +kernel))) (X.2.2.2.2.1 _ (tb_at 19 (by decide +kernel) (by decide +kernel))) (X.2.2.2.2.1 _ (tb_at 638 (by decide +kernel) (by decide +kernel))) (by show 1 ≤ FR + 1; omega) (Nat.le_trans (m := 40) (Nat.le_of_ble_eq_true rfl) (by show 40 ≤ LO + 60; omega)) (Nat.zero_le _) (Nat.zero_le _) dX0_putFrom_151 ?_
                  obtain ⟨mm_22, hc_23, hf⟩ := bi1S hf
                  refine wd_cv X hP hS L238 ml_X0_38 ⟨_, _, rfl⟩ (hrec mm_20 (x1 + (1 : Int32)) (if x2 < (y4L_27 + (1 : Int32)) then (y4L_27 + (1 : Int32)) else x2) mm_22 hc_23) rfl ⟨by show FR + 1 ≤ FR + 1; omega, by show 8 + (5 + 11) + LO ≤ LO + 60; omega⟩ hl.1 rfl (rest := []) (Nat.le_of_ble_eq_true rfl) ⟨Nat.zero_le _, Nat.zero_le _⟩ dX0_putFrom_154 (fun H locs hP hS => ?_)
                  refine W.eq (g2 := F0 m 157 ls []) rfl ?_
                  refine lv_aload_n hx hb dX0_putFrom_157 rfl (lv_at hl 0 rfl) ?_
                  refine wd_getR (q := 241) X hP L238 fl_X0_18 rfl dX0_putFrom_158 ?_
                  refine lv_iload hx hb dX0_putFrom_161 (lv_at hl 4 rfl) ?_
                  refine lv_dup2_11 hx hb dX0_putFrom_163 rfl rfl ?_
                  have g_24 := gdN hf
                  have hf := gdK hf
                  refine wd_iald X hP L241 g_24 dX0_putFrom_164 ?_
                  refine lv_iload_n hx hb dX0_putFrom_165 rfl (lv_at hl 3 rfl) ?_
                  refine lv_isub hx hb dX0_putFrom_166 ?_
                  have g_26 := gdN hf
                  have hf := gdK hf
                  refine wd_iast X hP hS L241 g_26 dX0_putFrom_167 (fun H locs mm_25 emm_25 hP hS => ?_)
                  have hf := vl hf emm_25
                  refine lv_iinc (v := (y4L_27 + 1)) (lv' := [(4, .int (y4L_27 + 1)), (0, .ref (bs + 238)), (1, .int x1), (2, .int x2), (3, .int x3_12)]) hx hb dX0_putFrom_168 hl (k := 4) rfl rfl (by decide) rfl (fun ls hl => ?_)
                  refine lv_goto (tgt := 94) hx hb dX0_putFrom_171 (by decide) ?_
                  obtain rfl := Option.some.inj hf
                  exact hB _ rfl H locs ls hP hS (lv_sub hl [1, 2, 3, 4, 0] rfl)
          · obtain ⟨mm_28, e_mm_28⟩ : ∃ z, z = q_29 := ⟨_, rfl⟩
            subst e_mm_28
            intro H locs ls hP hS hl
            obtain rfl := Option.some.inj hf
            exact wd_vret X hP hS hr0 dX0_putFrom_174 ⟨rfl, rfl⟩
        · have hf := itF hf c_10
          exact hJ62 mm x1 x2 H locs ls hf hP hS (lv_sub hl [0, 1, 2] rfl)
    · have hf := itF hf c_7
      refine lv_aload_n hx hb dX0_putFrom_15 rfl (lv_at hl 0 rfl) ?_
      refine lv_iload_n hx hb dX0_putFrom_16 rfl (lv_at hl 2 rfl) ?_
      refine wd_putI X hP hS L238 fp_X0_29 rfl dX0_putFrom_17 (fun H locs mm_31 emm_31 hP hS => ?_)
      have hf := vl hf emm_31
      refine lv_aload_n hx hb dX0_putFrom_20 rfl (lv_at hl 0 rfl) ?_
      refine wd_getR (q := 240) X hP L238 fl_X0_15 rfl dX0_putFrom_21 ?_
      refine lv_iconst (v := 0) hx hb dX0_putFrom_24 (by decide) ?_
      refine lv_aload_n hx hb dX0_putFrom_25 rfl (lv_at hl 0 rfl) ?_
      refine wd_getR (q := 239) X hP L238 fl_X0_9 rfl dX0_putFrom_26 ?_
      refine lv_iconst (v := 0) hx hb dX0_putFrom_29 (by decide) ?_
      refine lv_bipush (v := 8) hx hb dX0_putFrom_30 (by decide) ?_
      refine wd_copy (k := 8) X hP hS L240 L239 ⟨(tb_at 1032 (by decide +kernel) (by decide +kernel)), ac_n, ac_s, ac_i⟩ (by decide) (by decide) (by decide) hl.1 (by show 1 ≤ FR + 1; omega) (Nat.le_trans (m := 60) (Nat.le_of_ble_eq_true rfl) (by show 60 ≤ LO + 60; omega)) dX0_putFrom_32 (fun H locs mm_32 emm_32 hP hS => ?_)
      have hf := vl hf emm_32
      obtain rfl := Option.some.inj hf
      exact wd_vret X hP hS hr0 dX0_putFrom_35 ⟨rfl, rfl⟩
  · have hf := itF hf c_6
    obtain rfl := Option.some.inj hf
    exact wd_vret X hP hS hr0 dX0_putFrom_8 ⟨rfl, rfl⟩
noncomputable def fd_X0_putFrom : Nat → Mm → Int32 → Int32 → Option Mm
  | 0 => fun _ _ _ => none
  | d + 1 => fun mm x1 x2 => f_X0_putFrom_b (fd_X0_putFrom d) mm x1 x2
theorem cd_X0_putFrom (l : Launch) (D : va_G) (dA : Nat → ClassId) (zz : (Nat → Nat) × (Nat → Nat)) (bs : Nat) : ∀ (d : Nat) (mm : Mm) (x1 x2 : Int32) (m1 : Mm), fd_X0_putFrom d mm x1 x2 = some m1 → Mw l D dA zz bs LY yX0_putFrom cX0_putFrom 5 none (d * 1) (d * 60) [.ref (bs + 238), .int x1, .int x2] mm none m1 := by
  intro d
  induction d with
  | zero => intro mm x1 x2 m1 h; cases h
  | succ d ih =>
    intro mm x1 x2 m1 h
    rw [show (d + 1) * 1 = d * 1 + 1 from Nat.succ_mul d 1, show (d + 1) * 60 = d * 60 + 60 from Nat.succ_mul d 60]
    exact c_X0_putFrom_o l D dA zz bs (fd_X0_putFrom d) (d * 1) (d * 60) ih mm x1 x2 m1 h
noncomputable def f_X0_putFrom (mm : Mm) (x1 x2 : Int32) : Option Mm := fd_X0_putFrom 10 mm x1 x2
theorem c_X0_putFrom (l : Launch) (D : va_G) (dA : Nat → ClassId) (zz : (Nat → Nat) × (Nat → Nat)) (bs : Nat) (mm : Mm) (x1 x2 : Int32) (m1 : Mm) (hf : f_X0_putFrom mm x1 x2 = some m1) : Mw l D dA zz bs LY yX0_putFrom cX0_putFrom 5 none 10 600 [.ref (bs + 238), .int x1, .int x2] mm none m1 := cd_X0_putFrom l D dA zz bs 10 mm x1 x2 m1 hf

noncomputable def f_X0_find (mm : Mm) (x1 : Int32) : Option (Int32 × Mm) :=
  vlet (wI mm 238 1 x1) fun mm_1 =>
    vlet (wI mm_1 238 2 (9 : Int32)) fun mm_2 =>
      bi1 (f_J7_fill_53178 mm_2 241 8 (0 : Int32)) fun mm_3 =>
        bi1 (f_X0_putFrom mm_3 (0 : Int32) (0 : Int32)) fun mm_5 =>
          if (8 : Int32) < (mm_5.1 238 2) then
            some ((0 : Int32), mm_5)
          else
            some ((1 : Int32), mm_5)
set_option maxHeartbeats 4000000 in
set_option maxRecDepth 100000 in
theorem c_X0_find (l : Launch) (D : va_G) (dA : Nat → ClassId) (zz : (Nat → Nat) × (Nat → Nat)) (bs : Nat) (mm : Mm) (x1 : Int32) (out : Int32) (m1 : Mm) (hf : f_X0_find mm x1 = some (out, m1)) : Mw l D dA zz bs LY yX0_find cX0_find 2 (some .boolean) 11 624 [.ref (bs + 238), .int x1] mm (some (.int out)) m1 := by
  refine Mw.of (own := RX0) (by decide) rfl (Nat.le_of_ble_eq_true rfl) ?_
  intro p e s m args below meth c X hr0 hP hS ls hl
  have hx := X.1
  have hb := X.2.1
  obtain ⟨H, hH⟩ : ∃ z : Heap, z = s.heap := ⟨_, rfl⟩
  obtain ⟨locs, hL⟩ : ∃ z : List Loc, z = [] := ⟨_, rfl⟩
  rw [← hH, ← hL]
  have hS : va_S (Aq bs) s.heap H locs := by rw [hH, hL]; exact hS
  have hP : Wd D dA bs LY mm H := by rw [hH]; exact hP
  have hl : lv_has ls 2 [(0, .ref (bs + 238)), (1, .int x1)] := hl
  unfold f_X0_find at hf
  refine lv_aload_n hx hb dX0_find_0 rfl (lv_at hl 0 rfl) ?_
  refine lv_iload_n hx hb dX0_find_1 rfl (lv_at hl 1 rfl) ?_
  refine wd_putI X hP hS L238 fp_X0_25 rfl dX0_find_2 (fun H locs mm_1 emm_1 hP hS => ?_)
  have hf := vl hf emm_1
  refine lv_aload_n hx hb dX0_find_5 rfl (lv_at hl 0 rfl) ?_
  refine lv_bipush (v := 9) hx hb dX0_find_6 (by decide) ?_
  refine wd_putI X hP hS L238 fp_X0_29 rfl dX0_find_8 (fun H locs mm_2 emm_2 hP hS => ?_)
  have hf := vl hf emm_2
  refine lv_aload_n hx hb dX0_find_11 rfl (lv_at hl 0 rfl) ?_
  refine wd_getR (q := 241) X hP L238 fl_X0_18 rfl dX0_find_12 ?_
  refine lv_iconst (v := 0) hx hb dX0_find_15 (by decide) ?_
  obtain ⟨mm_3, hc_4, hf⟩ := bi1S hf
  refine wd_cs X hP hS ml_X0_32 (c_J7_fill_53178 l D dA zz bs mm_2 241 8 L241 (0 : Int32) mm_3 hc_4) rfl ⟨Nat.le_of_ble_eq_true rfl, Nat.le_of_ble_eq_true rfl⟩ hl.1 rfl (rest := []) (Nat.le_of_ble_eq_true rfl) ⟨Nat.zero_le _, Nat.zero_le _⟩ dX0_find_16 (fun H locs hP hS => ?_)
  refine W.eq (g2 := F0 m 19 ls []) rfl ?_
  refine lv_aload_n hx hb dX0_find_19 rfl (lv_at hl 0 rfl) ?_
  refine lv_iconst (v := 0) hx hb dX0_find_20 (by decide) ?_
  refine lv_iconst (v := 0) hx hb dX0_find_21 (by decide) ?_
  obtain ⟨mm_5, hc_6, hf⟩ := bi1S hf
  refine wd_cv X hP hS L238 ml_X0_38 ⟨_, _, rfl⟩ (c_X0_putFrom l D dA zz bs mm_3 (0 : Int32) (0 : Int32) mm_5 hc_6) rfl ⟨Nat.le_of_ble_eq_true rfl, Nat.le_of_ble_eq_true rfl⟩ hl.1 rfl (rest := []) (Nat.le_of_ble_eq_true rfl) ⟨Nat.zero_le _, Nat.zero_le _⟩ dX0_find_22 (fun H locs hP hS => ?_)
  refine W.eq (g2 := F0 m 25 ls []) rfl ?_
  refine lv_aload_n hx hb dX0_find_25 rfl (lv_at hl 0 rfl) ?_
  refine wd_getI X hP L238 fl_X0_29 rfl dX0_find_26 ?_
  refine lv_bipush (v := 8) hx hb dX0_find_29 (by decide) ?_
  refine lv_icmp_gt (tgt := 38) hx hb dX0_find_31 (by decide) (fun c_7 => ?_) (fun c_7 => ?_)
  · have hf := itT hf c_7
    refine lv_iconst (v := 0) hx hb dX0_find_38 (by decide) ?_
    obtain ⟨rfl, rfl⟩ := Prod.mk.inj (Option.some.inj hf)
    exact wd_zret X hP hS hr0 (by decide) dX0_find_39 ⟨rfl, rfl⟩
  · have hf := itF hf c_7
    refine lv_iconst (v := 1) hx hb dX0_find_34 (by decide) ?_
    refine lv_goto (tgt := 39) hx hb dX0_find_35 (by decide) ?_
    obtain ⟨rfl, rfl⟩ := Prod.mk.inj (Option.some.inj hf)
    exact wd_zret X hP hS hr0 (by decide) dX0_find_39 ⟨rfl, rfl⟩

noncomputable def f_X4_thingsAt_s4 (r : Nat) (v : Nat) (mm : Mm) (y1 : Int32) : (Int32 × Int32) → Option ((Int32 × Int32) ⊕ (Int32)) :=
  fun q => match q with
  | (y2, y3) =>
    if (mm.1 v 2) ≤ y3 then
      some (.inr y2)
    else
      if y3 < 0 ∨ 8 ≤ y3.toNatClampNeg then none else
        if (mm.1 (r + 4) y3.toNatClampNeg) = y1 then
          vlet (y2 ||| ((1 : Int32) <<< (y3 &&& 31))) fun (x2_4 : Int32) => some (.inl (x2_4, (y3 + 1)))
        else
          some (.inl (y2, (y3 + 1)))
noncomputable def f_X4_thingsAt (mm : Mm) (r : Nat) (v : Nat) (x1 : Int32) : Option (Int32) :=
  bi1 (lp (f_X4_thingsAt_s4 r v mm x1) ((0 : Int32), (0 : Int32))) fun w2_6 =>
    some w2_6
set_option maxHeartbeats 4000000 in
set_option maxRecDepth 100000 in
theorem c_X4_thingsAt (l : Launch) (D : va_G) (dA : Nat → ClassId) (zz : (Nat → Nat) × (Nat → Nat)) (bs : Nat) (mm : Mm) (r : Nat) (v : Nat) (hr : isRaft r v) (x1 : Int32) (out : Int32) (hf : f_X4_thingsAt mm r v x1 = some out) : Mw l D dA zz bs LY yX4_thingsAt cX4_thingsAt 4 (some .int) 0 0 [.ref (bs + r), .int x1] mm (some (.int out)) mm := by
  refine Mw.of (own := RX4) (by decide) rfl (Nat.le_of_ble_eq_true rfl) ?_
  intro p e s m args below meth c X hr0 hP hS ls hl
  have hx := X.1
  have hb := X.2.1
  obtain ⟨H, hH⟩ : ∃ z : Heap, z = s.heap := ⟨_, rfl⟩
  obtain ⟨locs, hL⟩ : ∃ z : List Loc, z = [] := ⟨_, rfl⟩
  rw [← hH, ← hL]
  have hS : va_S (Aq bs) s.heap H locs := by rw [hH, hL]; exact hS
  have hP : Wd D dA bs LY mm H := by rw [hH]; exact hP
  have hl : lv_has ls 4 [(0, .ref (bs + r)), (1, .int x1)] := hl
  unfold f_X4_thingsAt at hf
  refine lv_iconst (v := 0) hx hb dX4_thingsAt_0 (by decide) ?_
  refine lv_istore_n (lv' := [(2, .int (0 : Int32)), (0, .ref (bs + r)), (1, .int x1)]) hx hb dX4_thingsAt_1 rfl hl (by decide) rfl (fun ls hl => ?_)
  refine lv_iconst (v := 0) hx hb dX4_thingsAt_2 (by decide) ?_
  refine lv_istore_n (lv' := [(3, .int (0 : Int32)), (2, .int (0 : Int32)), (0, .ref (bs + r)), (1, .int x1)]) hx hb dX4_thingsAt_3 rfl hl (by decide) rfl (fun ls hl => ?_)
  obtain ⟨q_7, hlp_8, hf⟩ := bi1S hf
  refine lp_walk (Wh := (fun z => match z with | (y2L_5, y3L_5) => ∀ (H : Heap) (locs : List Loc) (ls : Array Slot), Wd D dA bs LY mm H → va_S (Aq bs) s.heap H locs → lv_has ls 4 [(0, .ref (bs + r)), (1, .int x1), (2, .int y2L_5), (3, .int y3L_5)] → Wz p l e s m args below meth c D dA bs (some (.int out)) mm 0 0 H locs 4 ls [])) (Ph := (fun w2_6 => ∀ (H : Heap) (locs : List Loc) (ls : Array Slot), Wd D dA bs LY mm H → va_S (Aq bs) s.heap H locs → lv_has ls 4 [(2, .int w2_6)] → Wz p l e s m args below meth c D dA bs (some (.int out)) mm 0 0 H locs 37 ls [])) ?_ hlp_8 ?_ H locs ls hP hS (lv_sub hl [2, 3, 1, 0] rfl)
  · intro z o hf hB hE
    obtain ⟨y2L_5, y3L_5⟩ := z
    intro H locs ls hP hS hl
    have hf : f_X4_thingsAt_s4 r v mm x1 (y2L_5, y3L_5) = some o := hf
    unfold f_X4_thingsAt_s4 at hf
    dsimp only at hf
    refine lv_iload_n hx hb dX4_thingsAt_4 rfl (lv_at hl 3 rfl) ?_
    refine lv_aload_n hx hb dX4_thingsAt_5 rfl (lv_at hl 0 rfl) ?_
    refine wd_getR (q := v) X hP (isRaft.a0 hr) fl_X4_36 rfl dX4_thingsAt_6 ?_
    refine wd_getI X hP (isRiver.a0 (isRaft.a9 hr)) fl_X4_67 rfl dX4_thingsAt_9 ?_
    refine lv_icmp_ge (tgt := 37) hx hb dX4_thingsAt_12 (by decide) (fun c_1 => ?_) (fun c_1 => ?_)
    · have hf := itT hf c_1
      obtain rfl := Option.some.inj hf
      exact hE _ rfl H locs ls hP hS (lv_sub hl [2] rfl)
    · have hf := itF hf c_1
      refine lv_aload_n hx hb dX4_thingsAt_15 rfl (lv_at hl 0 rfl) ?_
      refine wd_getR (q := r + 4) X hP (isRaft.a0 hr) fl_X4_21 rfl dX4_thingsAt_16 ?_
      refine lv_iload_n hx hb dX4_thingsAt_19 rfl (lv_at hl 3 rfl) ?_
      have g_2 := gdN hf
      have hf := gdK hf
      refine wd_iald X hP (isRaft.a4 hr) g_2 dX4_thingsAt_20 ?_
      refine lv_iload_n hx hb dX4_thingsAt_21 rfl (lv_at hl 1 rfl) ?_
      refine lv_icmp_ne (tgt := 31) hx hb dX4_thingsAt_22 (by decide) (fun c_3 => ?_) (fun c_3 => ?_)
      · have hf := itF hf c_3
        refine lv_iinc (v := (y3L_5 + 1)) (lv' := [(3, .int (y3L_5 + 1)), (0, .ref (bs + r)), (1, .int x1), (2, .int y2L_5)]) hx hb dX4_thingsAt_31 hl (k := 3) rfl rfl (by decide) rfl (fun ls hl => ?_)
        refine lv_goto (tgt := 4) hx hb dX4_thingsAt_34 (by decide) ?_
        obtain rfl := Option.some.inj hf
        exact hB _ rfl H locs ls hP hS (lv_sub hl [1, 2, 3, 0] rfl)
      · have hf := itT hf c_3
        refine lv_iload_n hx hb dX4_thingsAt_25 rfl (lv_at hl 2 rfl) ?_
        refine lv_iconst (v := 1) hx hb dX4_thingsAt_26 (by decide) ?_
        refine lv_iload_n hx hb dX4_thingsAt_27 rfl (lv_at hl 3 rfl) ?_
        refine lv_ishl hx hb dX4_thingsAt_28 ?_
        refine lv_ior hx hb dX4_thingsAt_29 ?_
        refine lv_topi (fun x2_4 ex2_4 => ?_)
        have hf := vl hf ex2_4
        refine lv_istore_n (lv' := [(2, .int x2_4), (0, .ref (bs + r)), (1, .int x1), (3, .int y3L_5)]) hx hb dX4_thingsAt_30 rfl hl (by decide) rfl (fun ls hl => ?_)
        refine lv_iinc (v := (y3L_5 + 1)) (lv' := [(3, .int (y3L_5 + 1)), (2, .int x2_4), (0, .ref (bs + r)), (1, .int x1)]) hx hb dX4_thingsAt_31 hl (k := 3) rfl rfl (by decide) rfl (fun ls hl => ?_)
        refine lv_goto (tgt := 4) hx hb dX4_thingsAt_34 (by decide) ?_
        obtain rfl := Option.some.inj hf
        exact hB _ rfl H locs ls hP hS (lv_sub hl [2, 3, 1, 0] rfl)
  · obtain ⟨w2_6, e_w2_6⟩ : ∃ z, z = q_7 := ⟨_, rfl⟩
    subst e_w2_6
    intro H locs ls hP hS hl
    refine lv_iload_n hx hb dX4_thingsAt_37 rfl (lv_at hl 0 rfl) ?_
    obtain rfl := Option.some.inj hf
    exact wd_iret X hP hS hr0 dX4_thingsAt_38 ⟨rfl, rfl⟩

noncomputable def f_X11_contains (x0 : Int32) (x1 : Int32) : Int32 :=
  if ((x0 >>> (x1 &&& 31)) &&& (1 : Int32)) = 0 then
    (0 : Int32)
  else
    (1 : Int32)
set_option maxHeartbeats 4000000 in
set_option maxRecDepth 100000 in
theorem c_X11_contains (l : Launch) (D : va_G) (dA : Nat → ClassId) (zz : (Nat → Nat) × (Nat → Nat)) (bs : Nat) (mm : Mm) (x0 : Int32) (x1 : Int32) (out : Int32) (hf : f_X11_contains x0 x1 = out) : Mw l D dA zz bs LY yX11_contains cX11_contains 2 (some .boolean) 0 0 [.int x0, .int x1] mm (some (.int out)) mm := by
  refine Mw.of (own := RX11) (by decide) rfl (Nat.le_of_ble_eq_true rfl) ?_
  intro p e s m args below meth c X hr0 hP hS ls hl
  have hx := X.1
  have hb := X.2.1
  obtain ⟨H, hH⟩ : ∃ z : Heap, z = s.heap := ⟨_, rfl⟩
  obtain ⟨locs, hL⟩ : ∃ z : List Loc, z = [] := ⟨_, rfl⟩
  rw [← hH, ← hL]
  have hS : va_S (Aq bs) s.heap H locs := by rw [hH, hL]; exact hS
  have hP : Wd D dA bs LY mm H := by rw [hH]; exact hP
  have hl : lv_has ls 2 [(0, .int x0), (1, .int x1)] := hl
  unfold f_X11_contains at hf
  refine lv_iload_n hx hb dX11_contains_0 rfl (lv_at hl 0 rfl) ?_
  refine lv_iload_n hx hb dX11_contains_1 rfl (lv_at hl 1 rfl) ?_
  refine lv_ishr hx hb dX11_contains_2 ?_
  refine lv_iconst (v := 1) hx hb dX11_contains_3 (by decide) ?_
  refine lv_iand hx hb dX11_contains_4 ?_
  refine lv_if_eq (tgt := 12) hx hb dX11_contains_5 (by decide) (fun c_1 => ?_) (fun c_1 => ?_)
  · have hf := itT hf c_1
    refine lv_iconst (v := 0) hx hb dX11_contains_12 (by decide) ?_
    subst hf
    exact wd_zret X hP hS hr0 (by decide) dX11_contains_13 ⟨rfl, rfl⟩
  · have hf := itF hf c_1
    refine lv_iconst (v := 1) hx hb dX11_contains_8 (by decide) ?_
    refine lv_goto (tgt := 13) hx hb dX11_contains_9 (by decide) ?_
    subst hf
    exact wd_zret X hP hS hr0 (by decide) dX11_contains_13 ⟨rfl, rfl⟩

noncomputable def f_X4_lift_s5 (r : Nat) (v : Nat) (mm : Mm) (y1 : Int32) (y2 : Int32) : (Int32 × Int32) → Option ((Int32 × Int32) ⊕ (Int32)) :=
  fun q => match q with
  | (y3, y4) =>
    if (mm.1 v 2) ≤ y4 then
      some (.inr y3)
    else
      if (f_X11_contains y1 y4) = 0 then
        some (.inl (y3, (y4 + 1)))
      else
        if y4 < 0 ∨ 8 ≤ y4.toNatClampNeg then none else
          if y4 < 0 ∨ 8 ≤ y4.toNatClampNeg then none else
            if y4 < 0 ∨ 8 ≤ y4.toNatClampNeg then none else
              vlet (y3 + ((if (0 : Int32) < ((mm.1 (r + 3) y4.toNatClampNeg) - (y2 * (mm.1 (v + 4) y4.toNatClampNeg))) then ((mm.1 (r + 3) y4.toNatClampNeg) - (y2 * (mm.1 (v + 4) y4.toNatClampNeg))) else (0 : Int32)) - (mm.1 (v + 3) y4.toNatClampNeg))) fun (x3_6 : Int32) => some (.inl (x3_6, (y4 + 1)))
noncomputable def f_X4_lift (mm : Mm) (r : Nat) (v : Nat) (x1 : Int32) (x2 : Int32) : Option (Int32) :=
  bi1 (lp (f_X4_lift_s5 r v mm x1 x2) ((0 : Int32), (0 : Int32))) fun w3_8 =>
    some w3_8
set_option maxHeartbeats 4000000 in
set_option maxRecDepth 100000 in
theorem c_X4_lift (l : Launch) (D : va_G) (dA : Nat → ClassId) (zz : (Nat → Nat) × (Nat → Nat)) (bs : Nat) (mm : Mm) (r : Nat) (v : Nat) (hr : isRaft r v) (x1 : Int32) (x2 : Int32) (out : Int32) (hf : f_X4_lift mm r v x1 x2 = some out) : Mw l D dA zz bs LY yX4_lift cX4_lift 5 (some .int) 1 40 [.ref (bs + r), .int x1, .int x2] mm (some (.int out)) mm := by
  refine Mw.of (own := RX4) (by decide) rfl (Nat.le_of_ble_eq_true rfl) ?_
  intro p e s m args below meth c X hr0 hP hS ls hl
  have hx := X.1
  have hb := X.2.1
  obtain ⟨H, hH⟩ : ∃ z : Heap, z = s.heap := ⟨_, rfl⟩
  obtain ⟨locs, hL⟩ : ∃ z : List Loc, z = [] := ⟨_, rfl⟩
  rw [← hH, ← hL]
  have hS : va_S (Aq bs) s.heap H locs := by rw [hH, hL]; exact hS
  have hP : Wd D dA bs LY mm H := by rw [hH]; exact hP
  have hl : lv_has ls 5 [(0, .ref (bs + r)), (1, .int x1), (2, .int x2)] := hl
  unfold f_X4_lift at hf
  refine lv_iconst (v := 0) hx hb dX4_lift_0 (by decide) ?_
  refine lv_istore_n (lv' := [(3, .int (0 : Int32)), (0, .ref (bs + r)), (1, .int x1), (2, .int x2)]) hx hb dX4_lift_1 rfl hl (by decide) rfl (fun ls hl => ?_)
  refine lv_iconst (v := 0) hx hb dX4_lift_2 (by decide) ?_
  refine lv_istore (lv' := [(4, .int (0 : Int32)), (3, .int (0 : Int32)), (0, .ref (bs + r)), (1, .int x1), (2, .int x2)]) hx hb dX4_lift_3 hl (by decide) rfl (fun ls hl => ?_)
  obtain ⟨q_9, hlp_10, hf⟩ := bi1S hf
  refine lp_walk (Wh := (fun z => match z with | (y3L_7, y4L_7) => ∀ (H : Heap) (locs : List Loc) (ls : Array Slot), Wd D dA bs LY mm H → va_S (Aq bs) s.heap H locs → lv_has ls 5 [(0, .ref (bs + r)), (1, .int x1), (2, .int x2), (3, .int y3L_7), (4, .int y4L_7)] → Wz p l e s m args below meth c D dA bs (some (.int out)) mm 1 40 H locs 5 ls [])) (Ph := (fun w3_8 => ∀ (H : Heap) (locs : List Loc) (ls : Array Slot), Wd D dA bs LY mm H → va_S (Aq bs) s.heap H locs → lv_has ls 5 [(3, .int w3_8)] → Wz p l e s m args below meth c D dA bs (some (.int out)) mm 1 40 H locs 70 ls [])) ?_ hlp_10 ?_ H locs ls hP hS (lv_sub hl [2, 3, 4, 1, 0] rfl)
  · intro z o hf hB hE
    obtain ⟨y3L_7, y4L_7⟩ := z
    intro H locs ls hP hS hl
    have hf : f_X4_lift_s5 r v mm x1 x2 (y3L_7, y4L_7) = some o := hf
    unfold f_X4_lift_s5 at hf
    dsimp only at hf
    refine lv_iload hx hb dX4_lift_5 (lv_at hl 4 rfl) ?_
    refine lv_aload_n hx hb dX4_lift_7 rfl (lv_at hl 0 rfl) ?_
    refine wd_getR (q := v) X hP (isRaft.a0 hr) fl_X4_36 rfl dX4_lift_8 ?_
    refine wd_getI X hP (isRiver.a0 (isRaft.a9 hr)) fl_X4_67 rfl dX4_lift_11 ?_
    refine lv_icmp_ge (tgt := 70) hx hb dX4_lift_14 (by decide) (fun c_1 => ?_) (fun c_1 => ?_)
    · have hf := itT hf c_1
      obtain rfl := Option.some.inj hf
      exact hE _ rfl H locs ls hP hS (lv_sub hl [3] rfl)
    · have hf := itF hf c_1
      refine lv_iload_n hx hb dX4_lift_17 rfl (lv_at hl 1 rfl) ?_
      refine lv_iload hx hb dX4_lift_18 (lv_at hl 4 rfl) ?_
      refine wd_cn X hP hS ml_X4_76 (c_X11_contains l D dA zz bs mm x1 y4L_7 (f_X11_contains x1 y4L_7) rfl) rfl ⟨Nat.le_of_ble_eq_true rfl, Nat.le_of_ble_eq_true rfl⟩ hl.1 rfl (rest := []) (Nat.le_of_ble_eq_true rfl) ⟨Nat.zero_le _, Nat.zero_le _⟩ dX4_lift_20 (fun H locs hP hS => ?_)
      refine W.eq (g2 := F0 m 23 ls [.int (f_X11_contains x1 y4L_7)]) rfl ?_
      refine lv_if_eq (tgt := 64) hx hb dX4_lift_23 (by decide) (fun c_2 => ?_) (fun c_2 => ?_)
      · have hf := itT hf c_2
        refine lv_iinc (v := (y4L_7 + 1)) (lv' := [(4, .int (y4L_7 + 1)), (0, .ref (bs + r)), (1, .int x1), (2, .int x2), (3, .int y3L_7)]) hx hb dX4_lift_64 hl (k := 4) rfl rfl (by decide) rfl (fun ls hl => ?_)
        refine lv_goto (tgt := 5) hx hb dX4_lift_67 (by decide) ?_
        obtain rfl := Option.some.inj hf
        exact hB _ rfl H locs ls hP hS (lv_sub hl [1, 2, 3, 4, 0] rfl)
      · have hf := itF hf c_2
        refine lv_iload_n hx hb dX4_lift_26 rfl (lv_at hl 3 rfl) ?_
        refine lv_iconst (v := 0) hx hb dX4_lift_27 (by decide) ?_
        refine lv_aload_n hx hb dX4_lift_28 rfl (lv_at hl 0 rfl) ?_
        refine wd_getR (q := r + 3) X hP (isRaft.a0 hr) fl_X4_18 rfl dX4_lift_29 ?_
        refine lv_iload hx hb dX4_lift_32 (lv_at hl 4 rfl) ?_
        have g_3 := gdN hf
        have hf := gdK hf
        refine wd_iald X hP (isRaft.a3 hr) g_3 dX4_lift_34 ?_
        refine lv_iload_n hx hb dX4_lift_35 rfl (lv_at hl 2 rfl) ?_
        refine lv_aload_n hx hb dX4_lift_36 rfl (lv_at hl 0 rfl) ?_
        refine wd_getR (q := v) X hP (isRaft.a0 hr) fl_X4_36 rfl dX4_lift_37 ?_
        refine wd_getR (q := v + 4) X hP (isRiver.a0 (isRaft.a9 hr)) fl_X4_97 rfl dX4_lift_40 ?_
        refine lv_iload hx hb dX4_lift_43 (lv_at hl 4 rfl) ?_
        have g_4 := gdN hf
        have hf := gdK hf
        refine wd_iald X hP (isRiver.a4 (isRaft.a9 hr)) g_4 dX4_lift_45 ?_
        refine lv_imul hx hb dX4_lift_46 ?_
        refine lv_isub hx hb dX4_lift_47 ?_
        refine va_mmax (own := RX4) hx hb (X.2.2.1.trans hl.1.symm) X.2.2.2.1 (X.2.2.2.2.1 _ (tb_at 636 (by decide +kernel) (by decide +kernel))) (X.2.2.2.2.1 _ (tb_at 637 (by decide +kernel) (by decide +kernel))) (X.2.2.2.2.1 _ (tb_at 19 (by decide +kernel) (by decide +kernel))) (X.2.2.2.2.1 _ (tb_at 638 (by decide +kernel) (by decide +kernel))) (by decide) (Nat.le_of_ble_eq_true rfl) (Nat.zero_le _) (Nat.zero_le _) dX4_lift_48 ?_
        refine lv_aload_n hx hb dX4_lift_51 rfl (lv_at hl 0 rfl) ?_
        refine wd_getR (q := v) X hP (isRaft.a0 hr) fl_X4_36 rfl dX4_lift_52 ?_
        refine wd_getR (q := v + 3) X hP (isRiver.a0 (isRaft.a9 hr)) fl_X4_100 rfl dX4_lift_55 ?_
        refine lv_iload hx hb dX4_lift_58 (lv_at hl 4 rfl) ?_
        have g_5 := gdN hf
        have hf := gdK hf
        refine wd_iald X hP (isRiver.a3 (isRaft.a9 hr)) g_5 dX4_lift_60 ?_
        refine lv_isub hx hb dX4_lift_61 ?_
        refine lv_iadd hx hb dX4_lift_62 ?_
        refine lv_topi (fun x3_6 ex3_6 => ?_)
        have hf := vl hf ex3_6
        refine lv_istore_n (lv' := [(3, .int x3_6), (0, .ref (bs + r)), (1, .int x1), (2, .int x2), (4, .int y4L_7)]) hx hb dX4_lift_63 rfl hl (by decide) rfl (fun ls hl => ?_)
        refine lv_iinc (v := (y4L_7 + 1)) (lv' := [(4, .int (y4L_7 + 1)), (3, .int x3_6), (0, .ref (bs + r)), (1, .int x1), (2, .int x2)]) hx hb dX4_lift_64 hl (k := 4) rfl rfl (by decide) rfl (fun ls hl => ?_)
        refine lv_goto (tgt := 5) hx hb dX4_lift_67 (by decide) ?_
        obtain rfl := Option.some.inj hf
        exact hB _ rfl H locs ls hP hS (lv_sub hl [2, 3, 4, 1, 0] rfl)
  · obtain ⟨w3_8, e_w3_8⟩ : ∃ z, z = q_9 := ⟨_, rfl⟩
    subst e_w3_8
    intro H locs ls hP hS hl
    refine lv_iload_n hx hb dX4_lift_70 rfl (lv_at hl 0 rfl) ?_
    obtain rfl := Option.some.inj hf
    exact wd_iret X hP hS hr0 dX4_lift_71 ⟨rfl, rfl⟩

noncomputable def f_X4_landingOf (mm : Mm) (r : Nat) (v : Nat) (x1 : Int32) : Option (Int32) :=
  if x1 < 0 ∨ 8 ≤ x1.toNatClampNeg then none else
    if (mm.1 (r + 2) x1.toNatClampNeg) < 0 ∨ 6 ≤ (mm.1 (r + 2) x1.toNatClampNeg).toNatClampNeg then none else
      some (mm.1 (v + 1) (mm.1 (r + 2) x1.toNatClampNeg).toNatClampNeg)
set_option maxHeartbeats 4000000 in
set_option maxRecDepth 100000 in
theorem c_X4_landingOf (l : Launch) (D : va_G) (dA : Nat → ClassId) (zz : (Nat → Nat) × (Nat → Nat)) (bs : Nat) (mm : Mm) (r : Nat) (v : Nat) (hr : isRaft r v) (x1 : Int32) (out : Int32) (hf : f_X4_landingOf mm r v x1 = some out) : Mw l D dA zz bs LY yX4_landingOf cX4_landingOf 2 (some .int) 0 0 [.ref (bs + r), .int x1] mm (some (.int out)) mm := by
  refine Mw.of (own := RX4) (by decide) rfl (Nat.le_of_ble_eq_true rfl) ?_
  intro p e s m args below meth c X hr0 hP hS ls hl
  have hx := X.1
  have hb := X.2.1
  obtain ⟨H, hH⟩ : ∃ z : Heap, z = s.heap := ⟨_, rfl⟩
  obtain ⟨locs, hL⟩ : ∃ z : List Loc, z = [] := ⟨_, rfl⟩
  rw [← hH, ← hL]
  have hS : va_S (Aq bs) s.heap H locs := by rw [hH, hL]; exact hS
  have hP : Wd D dA bs LY mm H := by rw [hH]; exact hP
  have hl : lv_has ls 2 [(0, .ref (bs + r)), (1, .int x1)] := hl
  unfold f_X4_landingOf at hf
  refine lv_aload_n hx hb dX4_landingOf_0 rfl (lv_at hl 0 rfl) ?_
  refine wd_getR (q := v) X hP (isRaft.a0 hr) fl_X4_36 rfl dX4_landingOf_1 ?_
  refine wd_getR (q := v + 1) X hP (isRiver.a0 (isRaft.a9 hr)) fl_X4_73 rfl dX4_landingOf_4 ?_
  refine lv_aload_n hx hb dX4_landingOf_7 rfl (lv_at hl 0 rfl) ?_
  refine wd_getR (q := r + 2) X hP (isRaft.a0 hr) fl_X4_15 rfl dX4_landingOf_8 ?_
  refine lv_iload_n hx hb dX4_landingOf_11 rfl (lv_at hl 1 rfl) ?_
  have g_1 := gdN hf
  have hf := gdK hf
  refine wd_iald X hP (isRaft.a2 hr) g_1 dX4_landingOf_12 ?_
  have g_2 := gdN hf
  have hf := gdK hf
  refine wd_iald X hP (isRiver.a1 (isRaft.a9 hr)) g_2 dX4_landingOf_13 ?_
  obtain rfl := Option.some.inj hf
  exact wd_iret X hP hS hr0 dX4_landingOf_14 ⟨rfl, rfl⟩

noncomputable def f_X1_findGroups_j80 (mm : Mm) (y1 : Int32) (y2 : Int32) (y3 : Int32) (y4 : Int32) (y5 : Int32) : Option ((Int32 × Int32 × Int32) ⊕ (Int32 × Int32)) :=
  bi1 (f_X4_landingOf mm 33 27 y5) fun r_5 =>
    if r_5 ≤ y2 then
      some (.inl (y3, y4, (y5 + 1)))
    else
      vlet (y3 ||| ((1 : Int32) <<< (y5 &&& 31))) fun (x3_7 : Int32) => some (.inl (x3_7, y4, (y5 + 1)))
noncomputable def f_X1_findGroups_s37 (mm : Mm) (y1 : Int32) (y2 : Int32) : (Int32 × Int32 × Int32) → Option ((Int32 × Int32 × Int32) ⊕ (Int32 × Int32)) :=
  fun q => match q with
  | (y3, y4, y5) =>
    if (mm.1 27 2) ≤ y5 then
      some (.inr (y3, y4))
    else
      if (f_X11_contains y1 y5) = 0 then
        some (.inl (y3, y4, (y5 + 1)))
      else
        bi1 (f_X4_landingOf mm 33 27 y5) fun r_12 =>
          if r_12 = y2 then
            f_X1_findGroups_j80 mm y1 y2 y3 (1 : Int32) y5
          else
            f_X1_findGroups_j80 mm y1 y2 y3 y4 y5
noncomputable def f_X1_findGroups_s15 (y1 : Int32) : (Int32 × Mm) → Option ((Int32 × Mm) ⊕ ((Mm) ⊕ (Mm))) :=
  fun q => match q with
  | (y2, mm) =>
    if (mm.1 27 0) < y2 then
      some (.inr (.inr (mm)))
    else
      bi1 (lp (f_X1_findGroups_s37 mm y1 y2) ((0 : Int32), (0 : Int32), (0 : Int32))) fun q => match q with
      | (w3_15, w4_16) =>
        if w4_16 = 0 then
          some (.inl ((y2 + 1), mm))
        else
          bi1 (f_X4_lift mm 33 27 w3_15 (y2 - (mm.1 33 1))) fun r_19 =>
            if 0 ≤ r_19 then
              if (6 : Int32) ≤ (mm.1 234 2) then
                some (.inl ((y2 + 1), mm))
              else
                if (mm.1 234 2) < 0 ∨ 6 ≤ (mm.1 234 2).toNatClampNeg then none else
                  vlet (wI mm 235 (mm.1 234 2).toNatClampNeg w3_15) fun mm_22 =>
                    vlet (wI mm_22 234 2 ((mm_22.1 234 2) + (1 : Int32))) fun mm_24 => some (.inl ((y2 + 1), mm_24))
            else
              some (.inr (.inl mm))
noncomputable def f_X1_findGroups (mm : Mm) (x1 : Int32) : Option (Int32 × Mm) :=
  vlet (wI mm 234 2 (0 : Int32)) fun mm_1 =>
    vlet ((mm_1.1 33 1) + (1 : Int32)) fun (x2_2 : Int32) =>
      bi1 (lp (f_X1_findGroups_s15 x1) (x2_2, mm_1)) fun q => match q with
      | .inl mm_28 =>
        some ((0 : Int32), mm_28)
      | .inr (mm_29) =>
        some ((1 : Int32), mm_29)
set_option maxHeartbeats 4000000 in
set_option maxRecDepth 100000 in
theorem c_X1_findGroups (l : Launch) (D : va_G) (dA : Nat → ClassId) (zz : (Nat → Nat) × (Nat → Nat)) (bs : Nat) (mm : Mm) (x1 : Int32) (out : Int32) (m1 : Mm) (hf : f_X1_findGroups mm x1 = some (out, m1)) : Mw l D dA zz bs LY yX1_findGroups cX1_findGroups 6 (some .boolean) 2 64 [.ref (bs + 234), .int x1] mm (some (.int out)) m1 := by
  refine Mw.of (own := RX1) (by decide) rfl (Nat.le_of_ble_eq_true rfl) ?_
  intro p e s m args below meth c X hr0 hP hS ls hl
  have hx := X.1
  have hb := X.2.1
  obtain ⟨H, hH⟩ : ∃ z : Heap, z = s.heap := ⟨_, rfl⟩
  obtain ⟨locs, hL⟩ : ∃ z : List Loc, z = [] := ⟨_, rfl⟩
  rw [← hH, ← hL]
  have hS : va_S (Aq bs) s.heap H locs := by rw [hH, hL]; exact hS
  have hP : Wd D dA bs LY mm H := by rw [hH]; exact hP
  have hl : lv_has ls 6 [(0, .ref (bs + 234)), (1, .int x1)] := hl
  unfold f_X1_findGroups at hf
  refine lv_aload_n hx hb dX1_findGroups_0 rfl (lv_at hl 0 rfl) ?_
  refine lv_iconst (v := 0) hx hb dX1_findGroups_1 (by decide) ?_
  refine wd_putI X hP hS L234 fp_X1_53 rfl dX1_findGroups_2 (fun H locs mm_1 emm_1 hP hS => ?_)
  have hf := vl hf emm_1
  refine lv_aload_n hx hb dX1_findGroups_5 rfl (lv_at hl 0 rfl) ?_
  refine wd_getR (q := 33) X hP L234 fl_X1_21 rfl dX1_findGroups_6 ?_
  refine wd_getI X hP (isRaft.a0 R33) fl_X1_56 rfl dX1_findGroups_9 ?_
  refine lv_iconst (v := 1) hx hb dX1_findGroups_12 (by decide) ?_
  refine lv_iadd hx hb dX1_findGroups_13 ?_
  refine lv_topi (fun x2_2 ex2_2 => ?_)
  have hf := vl hf ex2_2
  refine lv_istore_n (lv' := [(2, .int x2_2), (0, .ref (bs + 234)), (1, .int x1)]) hx hb dX1_findGroups_14 rfl hl (by decide) rfl (fun ls hl => ?_)
  obtain ⟨q_30, hlp_31, hf⟩ := bi1S hf
  refine lp_walk (Wh := (fun z => match z with | (y2L_27, mmL_27) => ∀ (H : Heap) (locs : List Loc) (ls : Array Slot), Wd D dA bs LY mmL_27 H → va_S (Aq bs) s.heap H locs → lv_has ls 6 [(0, .ref (bs + 234)), (1, .int x1), (2, .int y2L_27)] → Wz p l e s m args below meth c D dA bs (some (.int out)) m1 2 64 H locs 15 ls [])) (Ph := (fun z => match z with | .inl mm_28 => ∀ (H : Heap) (locs : List Loc) (ls : Array Slot), Wd D dA bs LY mm_28 H → va_S (Aq bs) s.heap H locs → lv_has ls 6 [] → Wz p l e s m args below meth c D dA bs (some (.int out)) m1 2 64 H locs 134 ls [] | .inr (mm_29) => ∀ (H : Heap) (locs : List Loc) (ls : Array Slot), Wd D dA bs LY mm_29 H → va_S (Aq bs) s.heap H locs → lv_has ls 6 [] → Wz p l e s m args below meth c D dA bs (some (.int out)) m1 2 64 H locs 171 ls [])) ?_ hlp_31 ?_ H locs ls hP hS (lv_sub hl [1, 2, 0] rfl)
  · intro z o hf hB hE
    obtain ⟨y2L_27, mmL_27⟩ := z
    intro H locs ls hP hS hl
    have hf : f_X1_findGroups_s15 x1 (y2L_27, mmL_27) = some o := hf
    unfold f_X1_findGroups_s15 at hf
    dsimp only at hf
    refine lv_iload_n hx hb dX1_findGroups_15 rfl (lv_at hl 2 rfl) ?_
    refine lv_aload_n hx hb dX1_findGroups_16 rfl (lv_at hl 0 rfl) ?_
    refine wd_getR (q := 33) X hP L234 fl_X1_21 rfl dX1_findGroups_17 ?_
    refine wd_getR (q := 27) X hP (isRaft.a0 R33) fl_X1_59 rfl dX1_findGroups_20 ?_
    refine wd_getI X hP (isRiver.a0 V27) fl_X1_63 rfl dX1_findGroups_23 ?_
    refine lv_icmp_gt (tgt := 171) hx hb dX1_findGroups_26 (by decide) (fun c_3 => ?_) (fun c_3 => ?_)
    · have hf := itT hf c_3
      obtain rfl := Option.some.inj hf
      exact hE _ rfl H locs ls hP hS (lv_sub hl [] rfl)
    · have hf := itF hf c_3
      refine lv_iconst (v := 0) hx hb dX1_findGroups_29 (by decide) ?_
      refine lv_istore_n (lv' := [(3, .int (0 : Int32)), (0, .ref (bs + 234)), (1, .int x1), (2, .int y2L_27)]) hx hb dX1_findGroups_30 rfl hl (by decide) rfl (fun ls hl => ?_)
      refine lv_iconst (v := 0) hx hb dX1_findGroups_31 (by decide) ?_
      refine lv_istore (lv' := [(4, .int (0 : Int32)), (3, .int (0 : Int32)), (0, .ref (bs + 234)), (1, .int x1), (2, .int y2L_27)]) hx hb dX1_findGroups_32 hl (by decide) rfl (fun ls hl => ?_)
      refine lv_iconst (v := 0) hx hb dX1_findGroups_34 (by decide) ?_
      refine lv_istore (lv' := [(5, .int (0 : Int32)), (4, .int (0 : Int32)), (3, .int (0 : Int32)), (0, .ref (bs + 234)), (1, .int x1), (2, .int y2L_27)]) hx hb dX1_findGroups_35 hl (by decide) rfl (fun ls hl => ?_)
      obtain ⟨q_25, hlp_26, hf⟩ := bi1S hf
      refine lp_walk (Wh := (fun z => match z with | (y3L_14, y4L_14, y5L_14) => ∀ (H : Heap) (locs : List Loc) (ls : Array Slot), Wd D dA bs LY mmL_27 H → va_S (Aq bs) s.heap H locs → lv_has ls 6 [(0, .ref (bs + 234)), (1, .int x1), (2, .int y2L_27), (3, .int y3L_14), (4, .int y4L_14), (5, .int y5L_14)] → Wz p l e s m args below meth c D dA bs (some (.int out)) m1 2 64 H locs 37 ls [])) (Ph := (fun z => match z with | (w3_15, w4_16) => ∀ (H : Heap) (locs : List Loc) (ls : Array Slot), Wd D dA bs LY mmL_27 H → va_S (Aq bs) s.heap H locs → lv_has ls 6 [(0, .ref (bs + 234)), (1, .int x1), (2, .int y2L_27), (3, .int w3_15), (4, .int w4_16)] → Wz p l e s m args below meth c D dA bs (some (.int out)) m1 2 64 H locs 106 ls [])) ?_ hlp_26 ?_ H locs ls hP hS (lv_sub hl [3, 4, 5, 2, 1, 0] rfl)
      · intro z o hf hB hE
        obtain ⟨y3L_14, y4L_14, y5L_14⟩ := z
        intro H locs ls hP hS hl
        have hf : f_X1_findGroups_s37 mmL_27 x1 y2L_27 (y3L_14, y4L_14, y5L_14) = some o := hf
        unfold f_X1_findGroups_s37 at hf
        dsimp only at hf
        have hJ80 : ∀ (y3J_8 : Int32) (y4J_8 : Int32) (y5J_8 : Int32) (H : Heap) (locs : List Loc) (ls : Array Slot), f_X1_findGroups_j80 mmL_27 x1 y2L_27 y3J_8 y4J_8 y5J_8 = some o → Wd D dA bs LY mmL_27 H → va_S (Aq bs) s.heap H locs → lv_has ls 6 [(0, .ref (bs + 234)), (1, .int x1), (2, .int y2L_27), (3, .int y3J_8), (4, .int y4J_8), (5, .int y5J_8)] → Wz p l e s m args below meth c D dA bs (some (.int out)) m1 2 64 H locs 80 ls [] := by
          intro y3J_8 y4J_8 y5J_8 H locs ls hf hP hS hl
          unfold f_X1_findGroups_j80 at hf
          refine lv_aload_n hx hb dX1_findGroups_80 rfl (lv_at hl 0 rfl) ?_
          refine wd_getR (q := 33) X hP L234 fl_X1_21 rfl dX1_findGroups_81 ?_
          refine lv_iload hx hb dX1_findGroups_84 (lv_at hl 5 rfl) ?_
          obtain ⟨r_5, hc_4, hf⟩ := bi1S hf
          refine wd_cv X hP hS (isRaft.a0 R33) ml_X1_75 ⟨_, _, rfl⟩ (c_X4_landingOf l D dA zz bs mmL_27 33 27 R33 y5J_8 r_5 hc_4) rfl ⟨Nat.le_of_ble_eq_true rfl, Nat.le_of_ble_eq_true rfl⟩ hl.1 rfl (rest := []) (Nat.le_of_ble_eq_true rfl) ⟨Nat.zero_le _, Nat.zero_le _⟩ dX1_findGroups_86 (fun H locs hP hS => ?_)
          refine W.eq (g2 := F0 m 89 ls [.int r_5]) rfl ?_
          refine lv_iload_n hx hb dX1_findGroups_89 rfl (lv_at hl 2 rfl) ?_
          refine lv_icmp_le (tgt := 100) hx hb dX1_findGroups_90 (by decide) (fun c_6 => ?_) (fun c_6 => ?_)
          · have hf := itT hf c_6
            refine lv_iinc (v := (y5J_8 + 1)) (lv' := [(5, .int (y5J_8 + 1)), (0, .ref (bs + 234)), (1, .int x1), (2, .int y2L_27), (3, .int y3J_8), (4, .int y4J_8)]) hx hb dX1_findGroups_100 hl (k := 5) rfl rfl (by decide) rfl (fun ls hl => ?_)
            refine lv_goto (tgt := 37) hx hb dX1_findGroups_103 (by decide) ?_
            obtain rfl := Option.some.inj hf
            exact hB _ rfl H locs ls hP hS (lv_sub hl [1, 2, 3, 4, 5, 0] rfl)
          · have hf := itF hf c_6
            refine lv_iload_n hx hb dX1_findGroups_93 rfl (lv_at hl 3 rfl) ?_
            refine lv_iconst (v := 1) hx hb dX1_findGroups_94 (by decide) ?_
            refine lv_iload hx hb dX1_findGroups_95 (lv_at hl 5 rfl) ?_
            refine lv_ishl hx hb dX1_findGroups_97 ?_
            refine lv_ior hx hb dX1_findGroups_98 ?_
            refine lv_topi (fun x3_7 ex3_7 => ?_)
            have hf := vl hf ex3_7
            refine lv_istore_n (lv' := [(3, .int x3_7), (0, .ref (bs + 234)), (1, .int x1), (2, .int y2L_27), (4, .int y4J_8), (5, .int y5J_8)]) hx hb dX1_findGroups_99 rfl hl (by decide) rfl (fun ls hl => ?_)
            refine lv_iinc (v := (y5J_8 + 1)) (lv' := [(5, .int (y5J_8 + 1)), (3, .int x3_7), (0, .ref (bs + 234)), (1, .int x1), (2, .int y2L_27), (4, .int y4J_8)]) hx hb dX1_findGroups_100 hl (k := 5) rfl rfl (by decide) rfl (fun ls hl => ?_)
            refine lv_goto (tgt := 37) hx hb dX1_findGroups_103 (by decide) ?_
            obtain rfl := Option.some.inj hf
            exact hB _ rfl H locs ls hP hS (lv_sub hl [2, 3, 4, 1, 5, 0] rfl)
        refine lv_iload hx hb dX1_findGroups_37 (lv_at hl 5 rfl) ?_
        refine lv_aload_n hx hb dX1_findGroups_39 rfl (lv_at hl 0 rfl) ?_
        refine wd_getR (q := 33) X hP L234 fl_X1_21 rfl dX1_findGroups_40 ?_
        refine wd_getR (q := 27) X hP (isRaft.a0 R33) fl_X1_59 rfl dX1_findGroups_43 ?_
        refine wd_getI X hP (isRiver.a0 V27) fl_X1_68 rfl dX1_findGroups_46 ?_
        refine lv_icmp_ge (tgt := 106) hx hb dX1_findGroups_49 (by decide) (fun c_9 => ?_) (fun c_9 => ?_)
        · have hf := itT hf c_9
          obtain rfl := Option.some.inj hf
          exact hE _ rfl H locs ls hP hS (lv_sub hl [0, 1, 2, 3, 4] rfl)
        · have hf := itF hf c_9
          refine lv_iload_n hx hb dX1_findGroups_52 rfl (lv_at hl 1 rfl) ?_
          refine lv_iload hx hb dX1_findGroups_53 (lv_at hl 5 rfl) ?_
          refine wd_cn X hP hS ml_X1_71 (c_X11_contains l D dA zz bs mmL_27 x1 y5L_14 (f_X11_contains x1 y5L_14) rfl) rfl ⟨Nat.le_of_ble_eq_true rfl, Nat.le_of_ble_eq_true rfl⟩ hl.1 rfl (rest := []) (Nat.le_of_ble_eq_true rfl) ⟨Nat.zero_le _, Nat.zero_le _⟩ dX1_findGroups_55 (fun H locs hP hS => ?_)
          refine W.eq (g2 := F0 m 58 ls [.int (f_X11_contains x1 y5L_14)]) rfl ?_
          refine lv_if_ne (tgt := 64) hx hb dX1_findGroups_58 (by decide) (fun c_10 => ?_) (fun c_10 => ?_)
          · have hf := itF hf c_10
            refine lv_aload_n hx hb dX1_findGroups_64 rfl (lv_at hl 0 rfl) ?_
            refine wd_getR (q := 33) X hP L234 fl_X1_21 rfl dX1_findGroups_65 ?_
            refine lv_iload hx hb dX1_findGroups_68 (lv_at hl 5 rfl) ?_
            obtain ⟨r_12, hc_11, hf⟩ := bi1S hf
            refine wd_cv X hP hS (isRaft.a0 R33) ml_X1_75 ⟨_, _, rfl⟩ (c_X4_landingOf l D dA zz bs mmL_27 33 27 R33 y5L_14 r_12 hc_11) rfl ⟨Nat.le_of_ble_eq_true rfl, Nat.le_of_ble_eq_true rfl⟩ hl.1 rfl (rest := []) (Nat.le_of_ble_eq_true rfl) ⟨Nat.zero_le _, Nat.zero_le _⟩ dX1_findGroups_70 (fun H locs hP hS => ?_)
            refine W.eq (g2 := F0 m 73 ls [.int r_12]) rfl ?_
            refine lv_iload_n hx hb dX1_findGroups_73 rfl (lv_at hl 2 rfl) ?_
            refine lv_icmp_ne (tgt := 80) hx hb dX1_findGroups_74 (by decide) (fun c_13 => ?_) (fun c_13 => ?_)
            · have hf := itF hf c_13
              exact hJ80 y3L_14 y4L_14 y5L_14 H locs ls hf hP hS (lv_sub hl [0, 1, 2, 3, 4, 5] rfl)
            · have hf := itT hf c_13
              refine lv_iconst (v := 1) hx hb dX1_findGroups_77 (by decide) ?_
              refine lv_istore (lv' := [(4, .int (1 : Int32)), (0, .ref (bs + 234)), (1, .int x1), (2, .int y2L_27), (3, .int y3L_14), (5, .int y5L_14)]) hx hb dX1_findGroups_78 hl (by decide) rfl (fun ls hl => ?_)
              exact hJ80 y3L_14 (1 : Int32) y5L_14 H locs ls hf hP hS (lv_sub hl [1, 2, 3, 4, 0, 5] rfl)
          · have hf := itT hf c_10
            refine lv_goto (tgt := 100) hx hb dX1_findGroups_61 (by decide) ?_
            refine lv_iinc (v := (y5L_14 + 1)) (lv' := [(5, .int (y5L_14 + 1)), (0, .ref (bs + 234)), (1, .int x1), (2, .int y2L_27), (3, .int y3L_14), (4, .int y4L_14)]) hx hb dX1_findGroups_100 hl (k := 5) rfl rfl (by decide) rfl (fun ls hl => ?_)
            refine lv_goto (tgt := 37) hx hb dX1_findGroups_103 (by decide) ?_
            obtain rfl := Option.some.inj hf
            exact hB _ rfl H locs ls hP hS (lv_sub hl [1, 2, 3, 4, 5, 0] rfl)
      · obtain ⟨w3_15, w4_16⟩ := q_25
        dsimp only at hf
        intro H locs ls hP hS hl
        refine lv_iload hx hb dX1_findGroups_106 (lv_at hl 4 rfl) ?_
        refine lv_if_ne (tgt := 114) hx hb dX1_findGroups_108 (by decide) (fun c_17 => ?_) (fun c_17 => ?_)
        · have hf := itF hf c_17
          refine lv_aload_n hx hb dX1_findGroups_114 rfl (lv_at hl 0 rfl) ?_
          refine wd_getR (q := 33) X hP L234 fl_X1_21 rfl dX1_findGroups_115 ?_
          refine lv_iload_n hx hb dX1_findGroups_118 rfl (lv_at hl 3 rfl) ?_
          refine lv_iload_n hx hb dX1_findGroups_119 rfl (lv_at hl 2 rfl) ?_
          refine lv_aload_n hx hb dX1_findGroups_120 rfl (lv_at hl 0 rfl) ?_
          refine wd_getR (q := 33) X hP L234 fl_X1_21 rfl dX1_findGroups_121 ?_
          refine wd_getI X hP (isRaft.a0 R33) fl_X1_56 rfl dX1_findGroups_124 ?_
          refine lv_isub hx hb dX1_findGroups_127 ?_
          obtain ⟨r_19, hc_18, hf⟩ := bi1S hf
          refine wd_cv X hP hS (isRaft.a0 R33) ml_X1_38 ⟨_, _, rfl⟩ (c_X4_lift l D dA zz bs mmL_27 33 27 R33 w3_15 (y2L_27 - (mmL_27.1 33 1)) r_19 hc_18) rfl ⟨Nat.le_of_ble_eq_true rfl, Nat.le_of_ble_eq_true rfl⟩ hl.1 rfl (rest := []) (Nat.le_of_ble_eq_true rfl) ⟨Nat.zero_le _, Nat.zero_le _⟩ dX1_findGroups_128 (fun H locs hP hS => ?_)
          refine W.eq (g2 := F0 m 131 ls [.int r_19]) rfl ?_
          refine lv_if_ge (tgt := 136) hx hb dX1_findGroups_131 (by decide) (fun c_20 => ?_) (fun c_20 => ?_)
          · have hf := itT hf c_20
            refine lv_aload_n hx hb dX1_findGroups_136 rfl (lv_at hl 0 rfl) ?_
            refine wd_getI X hP L234 fl_X1_53 rfl dX1_findGroups_137 ?_
            refine lv_bipush (v := 6) hx hb dX1_findGroups_140 (by decide) ?_
            refine lv_icmp_ge (tgt := 165) hx hb dX1_findGroups_142 (by decide) (fun c_21 => ?_) (fun c_21 => ?_)
            · have hf := itT hf c_21
              refine lv_iinc (v := (y2L_27 + 1)) (lv' := [(2, .int (y2L_27 + 1)), (0, .ref (bs + 234)), (1, .int x1), (3, .int w3_15), (4, .int w4_16)]) hx hb dX1_findGroups_165 hl (k := 2) rfl rfl (by decide) rfl (fun ls hl => ?_)
              refine lv_goto (tgt := 15) hx hb dX1_findGroups_168 (by decide) ?_
              obtain rfl := Option.some.inj hf
              exact hB _ rfl H locs ls hP hS (lv_sub hl [1, 2, 0] rfl)
            · have hf := itF hf c_21
              refine lv_aload_n hx hb dX1_findGroups_145 rfl (lv_at hl 0 rfl) ?_
              refine wd_getR (q := 235) X hP L234 fl_X1_9 rfl dX1_findGroups_146 ?_
              refine lv_aload_n hx hb dX1_findGroups_149 rfl (lv_at hl 0 rfl) ?_
              refine wd_getI X hP L234 fl_X1_53 rfl dX1_findGroups_150 ?_
              refine lv_iload_n hx hb dX1_findGroups_153 rfl (lv_at hl 3 rfl) ?_
              have g_23 := gdN hf
              have hf := gdK hf
              refine wd_iast X hP hS L235 g_23 dX1_findGroups_154 (fun H locs mm_22 emm_22 hP hS => ?_)
              have hf := vl hf emm_22
              refine lv_aload_n hx hb dX1_findGroups_155 rfl (lv_at hl 0 rfl) ?_
              refine lv_dup hx hb dX1_findGroups_156 rfl ?_
              refine wd_getI X hP L234 fl_X1_53 rfl dX1_findGroups_157 ?_
              refine lv_iconst (v := 1) hx hb dX1_findGroups_160 (by decide) ?_
              refine lv_iadd hx hb dX1_findGroups_161 ?_
              refine wd_putI X hP hS L234 fp_X1_53 rfl dX1_findGroups_162 (fun H locs mm_24 emm_24 hP hS => ?_)
              have hf := vl hf emm_24
              refine lv_iinc (v := (y2L_27 + 1)) (lv' := [(2, .int (y2L_27 + 1)), (0, .ref (bs + 234)), (1, .int x1), (3, .int w3_15), (4, .int w4_16)]) hx hb dX1_findGroups_165 hl (k := 2) rfl rfl (by decide) rfl (fun ls hl => ?_)
              refine lv_goto (tgt := 15) hx hb dX1_findGroups_168 (by decide) ?_
              obtain rfl := Option.some.inj hf
              exact hB _ rfl H locs ls hP hS (lv_sub hl [1, 2, 0] rfl)
          · have hf := itF hf c_20
            obtain rfl := Option.some.inj hf
            exact hE _ rfl H locs ls hP hS (lv_sub hl [] rfl)
        · have hf := itT hf c_17
          refine lv_goto (tgt := 165) hx hb dX1_findGroups_111 (by decide) ?_
          refine lv_iinc (v := (y2L_27 + 1)) (lv' := [(2, .int (y2L_27 + 1)), (0, .ref (bs + 234)), (1, .int x1), (3, .int w3_15), (4, .int w4_16)]) hx hb dX1_findGroups_165 hl (k := 2) rfl rfl (by decide) rfl (fun ls hl => ?_)
          refine lv_goto (tgt := 15) hx hb dX1_findGroups_168 (by decide) ?_
          obtain rfl := Option.some.inj hf
          exact hB _ rfl H locs ls hP hS (lv_sub hl [1, 2, 0] rfl)
  · rcases q_30 with mm_28 | mm_29
    · dsimp only at hf
      intro H locs ls hP hS hl
      refine lv_iconst (v := 0) hx hb dX1_findGroups_134 (by decide) ?_
      obtain ⟨rfl, rfl⟩ := Prod.mk.inj (Option.some.inj hf)
      exact wd_zret X hP hS hr0 (by decide) dX1_findGroups_135 ⟨rfl, rfl⟩
    · dsimp only at hf
      intro H locs ls hP hS hl
      refine lv_iconst (v := 1) hx hb dX1_findGroups_171 (by decide) ?_
      obtain ⟨rfl, rfl⟩ := Prod.mk.inj (Option.some.inj hf)
      exact wd_zret X hP hS hr0 (by decide) dX1_findGroups_172 ⟨rfl, rfl⟩

noncomputable def f_X1_canFollow_j63 (mm : Mm) (y1 : Int32) (y2 : Int32) (y4 : Int32) (z0 : Int32) : Option ((Int32) ⊕ ((Unit) ⊕ (Unit))) :=
  if z0 = 0 then
    some (.inl (y4 + 1))
  else
    if y4 < 0 ∨ 6 ≤ y4.toNatClampNeg then none else
      if (f_X11_contains (mm.1 235 y4.toNatClampNeg) y2) = 0 then
        some (.inr (.inl ()))
      else
        some (.inl (y4 + 1))
noncomputable def f_X1_canFollow_j62 (mm : Mm) (y1 : Int32) (y2 : Int32) (y4 : Int32) : Option ((Int32) ⊕ ((Unit) ⊕ (Unit))) :=
  f_X1_canFollow_j63 mm y1 y2 y4 (0 : Int32)
noncomputable def f_X1_canFollow_s21 (mm : Mm) (y1 : Int32) (y2 : Int32) : (Int32) → Option ((Int32) ⊕ ((Unit) ⊕ (Unit))) :=
  fun (y4 : Int32) =>
    if (mm.1 234 2) ≤ y4 then
      some (.inr (.inr (())))
    else
      if y4 < 0 ∨ 6 ≤ y4.toNatClampNeg then none else
        vlet (y1 &&& (mm.1 235 y4.toNatClampNeg)) fun (x5_10 : Int32) =>
          if x5_10 = 0 then
            f_X1_canFollow_j62 mm y1 y2 y4
          else
            if y4 < 0 ∨ 6 ≤ y4.toNatClampNeg then none else
              if x5_10 = (mm.1 235 y4.toNatClampNeg) then
                f_X1_canFollow_j62 mm y1 y2 y4
              else
                f_X1_canFollow_j63 mm y1 y2 y4 (1 : Int32)
noncomputable def f_X1_canFollow (mm : Mm) (x1 : Int32) (x2 : Int32) (x3 : Int32) : Option (Int32) :=
  if (f_X11_contains x1 x2) = 0 then
    if (f_X11_contains x3 x2) = 0 then
      some (0 : Int32)
    else
      bi1 (lp (f_X1_canFollow_s21 mm x1 x2) (0 : Int32)) fun q => match q with
      | .inl () =>
        some (0 : Int32)
      | .inr (()) =>
        some (1 : Int32)
  else
    some (0 : Int32)
set_option maxHeartbeats 4000000 in
set_option maxRecDepth 100000 in
theorem c_X1_canFollow (l : Launch) (D : va_G) (dA : Nat → ClassId) (zz : (Nat → Nat) × (Nat → Nat)) (bs : Nat) (mm : Mm) (x1 : Int32) (x2 : Int32) (x3 : Int32) (out : Int32) (hf : f_X1_canFollow mm x1 x2 x3 = some out) : Mw l D dA zz bs LY yX1_canFollow cX1_canFollow 7 (some .boolean) 1 21 [.ref (bs + 234), .int x1, .int x2, .int x3] mm (some (.int out)) mm := by
  refine Mw.of (own := RX1) (by decide) rfl (Nat.le_of_ble_eq_true rfl) ?_
  intro p e s m args below meth c X hr0 hP hS ls hl
  have hx := X.1
  have hb := X.2.1
  obtain ⟨H, hH⟩ : ∃ z : Heap, z = s.heap := ⟨_, rfl⟩
  obtain ⟨locs, hL⟩ : ∃ z : List Loc, z = [] := ⟨_, rfl⟩
  rw [← hH, ← hL]
  have hS : va_S (Aq bs) s.heap H locs := by rw [hH, hL]; exact hS
  have hP : Wd D dA bs LY mm H := by rw [hH]; exact hP
  have hl : lv_has ls 7 [(0, .ref (bs + 234)), (1, .int x1), (2, .int x2), (3, .int x3)] := hl
  unfold f_X1_canFollow at hf
  refine lv_iload_n hx hb dX1_canFollow_0 rfl (lv_at hl 1 rfl) ?_
  refine lv_iload_n hx hb dX1_canFollow_1 rfl (lv_at hl 2 rfl) ?_
  refine wd_cn X hP hS ml_X1_71 (c_X11_contains l D dA zz bs mm x1 x2 (f_X11_contains x1 x2) rfl) rfl ⟨Nat.le_of_ble_eq_true rfl, Nat.le_of_ble_eq_true rfl⟩ hl.1 rfl (rest := []) (Nat.le_of_ble_eq_true rfl) ⟨Nat.zero_le _, Nat.zero_le _⟩ dX1_canFollow_2 (fun H locs hP hS => ?_)
  refine W.eq (g2 := F0 m 5 ls [.int (f_X11_contains x1 x2)]) rfl ?_
  refine lv_if_ne (tgt := 16) hx hb dX1_canFollow_5 (by decide) (fun c_1 => ?_) (fun c_1 => ?_)
  · have hf := itF hf c_1
    refine lv_iconst (v := 0) hx hb dX1_canFollow_16 (by decide) ?_
    obtain rfl := Option.some.inj hf
    exact wd_zret X hP hS hr0 (by decide) dX1_canFollow_17 ⟨rfl, rfl⟩
  · have hf := itT hf c_1
    refine lv_iload_n hx hb dX1_canFollow_8 rfl (lv_at hl 3 rfl) ?_
    refine lv_iload_n hx hb dX1_canFollow_9 rfl (lv_at hl 2 rfl) ?_
    refine wd_cn X hP hS ml_X1_71 (c_X11_contains l D dA zz bs mm x3 x2 (f_X11_contains x3 x2) rfl) rfl ⟨Nat.le_of_ble_eq_true rfl, Nat.le_of_ble_eq_true rfl⟩ hl.1 rfl (rest := []) (Nat.le_of_ble_eq_true rfl) ⟨Nat.zero_le _, Nat.zero_le _⟩ dX1_canFollow_10 (fun H locs hP hS => ?_)
    refine W.eq (g2 := F0 m 13 ls [.int (f_X11_contains x3 x2)]) rfl ?_
    refine lv_if_ne (tgt := 18) hx hb dX1_canFollow_13 (by decide) (fun c_2 => ?_) (fun c_2 => ?_)
    · have hf := itF hf c_2
      refine lv_iconst (v := 0) hx hb dX1_canFollow_18 (by decide) ?_
      refine lv_istore (lv' := [(4, .int (0 : Int32)), (0, .ref (bs + 234)), (1, .int x1), (2, .int x2), (3, .int x3)]) hx hb dX1_canFollow_19 hl (by decide) rfl (fun ls hl => ?_)
      obtain ⟨q_15, hlp_16, hf⟩ := bi1S hf
      refine lp_walk (Wh := (fun y4L_14 => ∀ (H : Heap) (locs : List Loc) (ls : Array Slot), Wd D dA bs LY mm H → va_S (Aq bs) s.heap H locs → lv_has ls 7 [(0, .ref (bs + 234)), (1, .int x1), (2, .int x2), (4, .int y4L_14)] → Wz p l e s m args below meth c D dA bs (some (.int out)) mm 1 21 H locs 21 ls [])) (Ph := (fun z => match z with | .inl () => ∀ (H : Heap) (locs : List Loc) (ls : Array Slot), Wd D dA bs LY mm H → va_S (Aq bs) s.heap H locs → lv_has ls 7 [] → Wz p l e s m args below meth c D dA bs (some (.int out)) mm 1 21 H locs 84 ls [] | .inr (()) => ∀ (H : Heap) (locs : List Loc) (ls : Array Slot), Wd D dA bs LY mm H → va_S (Aq bs) s.heap H locs → lv_has ls 7 [] → Wz p l e s m args below meth c D dA bs (some (.int out)) mm 1 21 H locs 92 ls [])) ?_ hlp_16 ?_ H locs ls hP hS (lv_sub hl [1, 2, 3, 0] rfl)
      · intro y4L_14 o hf hB hE
        intro H locs ls hP hS hl
        have hf : f_X1_canFollow_s21 mm x1 x2 y4L_14 = some o := hf
        unfold f_X1_canFollow_s21 at hf
        have hJ63 : ∀ (y4J_6 : Int32) (z0J_6 : Int32) (H : Heap) (locs : List Loc) (ls : Array Slot), f_X1_canFollow_j63 mm x1 x2 y4J_6 z0J_6 = some o → Wd D dA bs LY mm H → va_S (Aq bs) s.heap H locs → lv_has ls 7 [(0, .ref (bs + 234)), (1, .int x1), (2, .int x2), (4, .int y4J_6)] → Wz p l e s m args below meth c D dA bs (some (.int out)) mm 1 21 H locs 63 ls [.int z0J_6] := by
          intro y4J_6 z0J_6 H locs ls hf hP hS hl
          unfold f_X1_canFollow_j63 at hf
          refine lv_istore (lv' := [(6, .int z0J_6), (0, .ref (bs + 234)), (1, .int x1), (2, .int x2), (4, .int y4J_6)]) hx hb dX1_canFollow_63 hl (by decide) rfl (fun ls hl => ?_)
          refine lv_iload hx hb dX1_canFollow_65 (lv_at hl 0 rfl) ?_
          refine lv_if_eq (tgt := 86) hx hb dX1_canFollow_67 (by decide) (fun c_3 => ?_) (fun c_3 => ?_)
          · have hf := itT hf c_3
            refine lv_iinc (v := (y4J_6 + 1)) (lv' := [(4, .int (y4J_6 + 1)), (6, .int z0J_6), (0, .ref (bs + 234)), (1, .int x1), (2, .int x2)]) hx hb dX1_canFollow_86 hl (k := 4) rfl rfl (by decide) rfl (fun ls hl => ?_)
            refine lv_goto (tgt := 21) hx hb dX1_canFollow_89 (by decide) ?_
            obtain rfl := Option.some.inj hf
            exact hB _ rfl H locs ls hP hS (lv_sub hl [2, 3, 4, 0] rfl)
          · have hf := itF hf c_3
            refine lv_aload_n hx hb dX1_canFollow_70 rfl (lv_at hl 1 rfl) ?_
            refine wd_getR (q := 235) X hP L234 fl_X1_9 rfl dX1_canFollow_71 ?_
            refine lv_iload hx hb dX1_canFollow_74 (lv_at hl 4 rfl) ?_
            have g_4 := gdN hf
            have hf := gdK hf
            refine wd_iald X hP L235 g_4 dX1_canFollow_76 ?_
            refine lv_iload_n hx hb dX1_canFollow_77 rfl (lv_at hl 3 rfl) ?_
            refine wd_cn X hP hS ml_X1_71 (c_X11_contains l D dA zz bs mm (mm.1 235 y4J_6.toNatClampNeg) x2 (f_X11_contains (mm.1 235 y4J_6.toNatClampNeg) x2) rfl) rfl ⟨Nat.le_of_ble_eq_true rfl, Nat.le_of_ble_eq_true rfl⟩ hl.1 rfl (rest := []) (Nat.le_of_ble_eq_true rfl) ⟨Nat.zero_le _, Nat.zero_le _⟩ dX1_canFollow_78 (fun H locs hP hS => ?_)
            refine W.eq (g2 := F0 m 81 ls [.int (f_X11_contains (mm.1 235 y4J_6.toNatClampNeg) x2)]) rfl ?_
            refine lv_if_ne (tgt := 86) hx hb dX1_canFollow_81 (by decide) (fun c_5 => ?_) (fun c_5 => ?_)
            · have hf := itF hf c_5
              refine lv_iinc (v := (y4J_6 + 1)) (lv' := [(4, .int (y4J_6 + 1)), (6, .int z0J_6), (0, .ref (bs + 234)), (1, .int x1), (2, .int x2)]) hx hb dX1_canFollow_86 hl (k := 4) rfl rfl (by decide) rfl (fun ls hl => ?_)
              refine lv_goto (tgt := 21) hx hb dX1_canFollow_89 (by decide) ?_
              obtain rfl := Option.some.inj hf
              exact hB _ rfl H locs ls hP hS (lv_sub hl [2, 3, 4, 0] rfl)
            · have hf := itT hf c_5
              obtain rfl := Option.some.inj hf
              exact hE _ rfl H locs ls hP hS (lv_sub hl [] rfl)
        have hJ62 : ∀ (y4J_7 : Int32) (H : Heap) (locs : List Loc) (ls : Array Slot), f_X1_canFollow_j62 mm x1 x2 y4J_7 = some o → Wd D dA bs LY mm H → va_S (Aq bs) s.heap H locs → lv_has ls 7 [(0, .ref (bs + 234)), (1, .int x1), (2, .int x2), (4, .int y4J_7)] → Wz p l e s m args below meth c D dA bs (some (.int out)) mm 1 21 H locs 62 ls [] := by
          intro y4J_7 H locs ls hf hP hS hl
          unfold f_X1_canFollow_j62 at hf
          refine lv_iconst (v := 0) hx hb dX1_canFollow_62 (by decide) ?_
          exact hJ63 y4J_7 (0 : Int32) H locs ls hf hP hS (lv_sub hl [0, 1, 2, 3] rfl)
        refine lv_iload hx hb dX1_canFollow_21 (lv_at hl 3 rfl) ?_
        refine lv_aload_n hx hb dX1_canFollow_23 rfl (lv_at hl 0 rfl) ?_
        refine wd_getI X hP L234 fl_X1_53 rfl dX1_canFollow_24 ?_
        refine lv_icmp_ge (tgt := 92) hx hb dX1_canFollow_27 (by decide) (fun c_8 => ?_) (fun c_8 => ?_)
        · have hf := itT hf c_8
          obtain rfl := Option.some.inj hf
          exact hE _ rfl H locs ls hP hS (lv_sub hl [] rfl)
        · have hf := itF hf c_8
          refine lv_iload_n hx hb dX1_canFollow_30 rfl (lv_at hl 1 rfl) ?_
          refine lv_aload_n hx hb dX1_canFollow_31 rfl (lv_at hl 0 rfl) ?_
          refine wd_getR (q := 235) X hP L234 fl_X1_9 rfl dX1_canFollow_32 ?_
          refine lv_iload hx hb dX1_canFollow_35 (lv_at hl 3 rfl) ?_
          have g_9 := gdN hf
          have hf := gdK hf
          refine wd_iald X hP L235 g_9 dX1_canFollow_37 ?_
          refine lv_iand hx hb dX1_canFollow_38 ?_
          refine lv_topi (fun x5_10 ex5_10 => ?_)
          have hf := vl hf ex5_10
          refine lv_istore (lv' := [(5, .int x5_10), (0, .ref (bs + 234)), (1, .int x1), (2, .int x2), (4, .int y4L_14)]) hx hb dX1_canFollow_39 hl (by decide) rfl (fun ls hl => ?_)
          refine lv_iload hx hb dX1_canFollow_41 (lv_at hl 0 rfl) ?_
          refine lv_if_eq (tgt := 62) hx hb dX1_canFollow_43 (by decide) (fun c_11 => ?_) (fun c_11 => ?_)
          · have hf := itT hf c_11
            exact hJ62 y4L_14 H locs ls hf hP hS (lv_sub hl [1, 2, 3, 4] rfl)
          · have hf := itF hf c_11
            refine lv_iload hx hb dX1_canFollow_46 (lv_at hl 0 rfl) ?_
            refine lv_aload_n hx hb dX1_canFollow_48 rfl (lv_at hl 1 rfl) ?_
            refine wd_getR (q := 235) X hP L234 fl_X1_9 rfl dX1_canFollow_49 ?_
            refine lv_iload hx hb dX1_canFollow_52 (lv_at hl 4 rfl) ?_
            have g_12 := gdN hf
            have hf := gdK hf
            refine wd_iald X hP L235 g_12 dX1_canFollow_54 ?_
            refine lv_icmp_eq (tgt := 62) hx hb dX1_canFollow_55 (by decide) (fun c_13 => ?_) (fun c_13 => ?_)
            · have hf := itT hf c_13
              exact hJ62 y4L_14 H locs ls hf hP hS (lv_sub hl [1, 2, 3, 4] rfl)
            · have hf := itF hf c_13
              refine lv_iconst (v := 1) hx hb dX1_canFollow_58 (by decide) ?_
              refine lv_goto (tgt := 63) hx hb dX1_canFollow_59 (by decide) ?_
              exact hJ63 y4L_14 (1 : Int32) H locs ls hf hP hS (lv_sub hl [1, 2, 3, 4] rfl)
      · rcases q_15 with ⟨⟩ | ⟨⟩
        · dsimp only at hf
          intro H locs ls hP hS hl
          refine lv_iconst (v := 0) hx hb dX1_canFollow_84 (by decide) ?_
          obtain rfl := Option.some.inj hf
          exact wd_zret X hP hS hr0 (by decide) dX1_canFollow_85 ⟨rfl, rfl⟩
        · dsimp only at hf
          intro H locs ls hP hS hl
          refine lv_iconst (v := 1) hx hb dX1_canFollow_92 (by decide) ?_
          obtain rfl := Option.some.inj hf
          exact wd_zret X hP hS hr0 (by decide) dX1_canFollow_93 ⟨rfl, rfl⟩
    · have hf := itT hf c_2
      refine lv_iconst (v := 0) hx hb dX1_canFollow_16 (by decide) ?_
      obtain rfl := Option.some.inj hf
      exact wd_zret X hP hS hr0 (by decide) dX1_canFollow_17 ⟨rfl, rfl⟩

noncomputable def f_X1_waysBehind_s5 (mm : Mm) (y1 : Int32) (y2 : Int32) : (Int32 × Int32) → Option ((Int32 × Int32) ⊕ (Int32)) :=
  fun q => match q with
  | (y3, y4) =>
    if (8 : Int32) ≤ y4 then
      some (.inr y3)
    else
      bi1 (f_X1_canFollow mm y1 y4 y2) fun r_3 =>
        if r_3 = 0 then
          some (.inl (y3, (y4 + 1)))
        else
          if (y1 ||| ((1 : Int32) <<< (y4 &&& 31))) < 0 ∨ 256 ≤ (y1 ||| ((1 : Int32) <<< (y4 &&& 31))).toNatClampNeg then none else
            vlet (y3 + (mm.1 236 (y1 ||| ((1 : Int32) <<< (y4 &&& 31))).toNatClampNeg)) fun (x3_6 : Int32) => some (.inl (x3_6, (y4 + 1)))
noncomputable def f_X1_waysBehind (mm : Mm) (x1 : Int32) (x2 : Int32) : Option (Int32) :=
  bi1 (lp (f_X1_waysBehind_s5 mm x1 x2) ((0 : Int32), (0 : Int32))) fun w3_8 =>
    some w3_8
set_option maxHeartbeats 4000000 in
set_option maxRecDepth 100000 in
theorem c_X1_waysBehind (l : Launch) (D : va_G) (dA : Nat → ClassId) (zz : (Nat → Nat) × (Nat → Nat)) (bs : Nat) (mm : Mm) (x1 : Int32) (x2 : Int32) (out : Int32) (hf : f_X1_waysBehind mm x1 x2 = some out) : Mw l D dA zz bs LY yX1_waysBehind cX1_waysBehind 5 (some .int) 2 47 [.ref (bs + 234), .int x1, .int x2] mm (some (.int out)) mm := by
  refine Mw.of (own := RX1) (by decide) rfl (Nat.le_of_ble_eq_true rfl) ?_
  intro p e s m args below meth c X hr0 hP hS ls hl
  have hx := X.1
  have hb := X.2.1
  obtain ⟨H, hH⟩ : ∃ z : Heap, z = s.heap := ⟨_, rfl⟩
  obtain ⟨locs, hL⟩ : ∃ z : List Loc, z = [] := ⟨_, rfl⟩
  rw [← hH, ← hL]
  have hS : va_S (Aq bs) s.heap H locs := by rw [hH, hL]; exact hS
  have hP : Wd D dA bs LY mm H := by rw [hH]; exact hP
  have hl : lv_has ls 5 [(0, .ref (bs + 234)), (1, .int x1), (2, .int x2)] := hl
  unfold f_X1_waysBehind at hf
  refine lv_iconst (v := 0) hx hb dX1_waysBehind_0 (by decide) ?_
  refine lv_istore_n (lv' := [(3, .int (0 : Int32)), (0, .ref (bs + 234)), (1, .int x1), (2, .int x2)]) hx hb dX1_waysBehind_1 rfl hl (by decide) rfl (fun ls hl => ?_)
  refine lv_iconst (v := 0) hx hb dX1_waysBehind_2 (by decide) ?_
  refine lv_istore (lv' := [(4, .int (0 : Int32)), (3, .int (0 : Int32)), (0, .ref (bs + 234)), (1, .int x1), (2, .int x2)]) hx hb dX1_waysBehind_3 hl (by decide) rfl (fun ls hl => ?_)
  obtain ⟨q_9, hlp_10, hf⟩ := bi1S hf
  refine lp_walk (Wh := (fun z => match z with | (y3L_7, y4L_7) => ∀ (H : Heap) (locs : List Loc) (ls : Array Slot), Wd D dA bs LY mm H → va_S (Aq bs) s.heap H locs → lv_has ls 5 [(0, .ref (bs + 234)), (1, .int x1), (2, .int x2), (3, .int y3L_7), (4, .int y4L_7)] → Wz p l e s m args below meth c D dA bs (some (.int out)) mm 2 47 H locs 5 ls [])) (Ph := (fun w3_8 => ∀ (H : Heap) (locs : List Loc) (ls : Array Slot), Wd D dA bs LY mm H → va_S (Aq bs) s.heap H locs → lv_has ls 5 [(3, .int w3_8)] → Wz p l e s m args below meth c D dA bs (some (.int out)) mm 2 47 H locs 43 ls [])) ?_ hlp_10 ?_ H locs ls hP hS (lv_sub hl [2, 3, 4, 1, 0] rfl)
  · intro z o hf hB hE
    obtain ⟨y3L_7, y4L_7⟩ := z
    intro H locs ls hP hS hl
    have hf : f_X1_waysBehind_s5 mm x1 x2 (y3L_7, y4L_7) = some o := hf
    unfold f_X1_waysBehind_s5 at hf
    dsimp only at hf
    refine lv_iload hx hb dX1_waysBehind_5 (lv_at hl 4 rfl) ?_
    refine lv_bipush (v := 8) hx hb dX1_waysBehind_7 (by decide) ?_
    refine lv_icmp_ge (tgt := 43) hx hb dX1_waysBehind_9 (by decide) (fun c_1 => ?_) (fun c_1 => ?_)
    · have hf := itT hf c_1
      obtain rfl := Option.some.inj hf
      exact hE _ rfl H locs ls hP hS (lv_sub hl [3] rfl)
    · have hf := itF hf c_1
      refine lv_aload_n hx hb dX1_waysBehind_12 rfl (lv_at hl 0 rfl) ?_
      refine lv_iload_n hx hb dX1_waysBehind_13 rfl (lv_at hl 1 rfl) ?_
      refine lv_iload hx hb dX1_waysBehind_14 (lv_at hl 4 rfl) ?_
      refine lv_iload_n hx hb dX1_waysBehind_16 rfl (lv_at hl 2 rfl) ?_
      obtain ⟨r_3, hc_2, hf⟩ := bi1S hf
      refine wd_cv X hP hS L234 ml_X1_78 ⟨_, _, rfl⟩ (c_X1_canFollow l D dA zz bs mm x1 y4L_7 x2 r_3 hc_2) rfl ⟨Nat.le_of_ble_eq_true rfl, Nat.le_of_ble_eq_true rfl⟩ hl.1 rfl (rest := []) (Nat.le_of_ble_eq_true rfl) ⟨Nat.zero_le _, Nat.zero_le _⟩ dX1_waysBehind_17 (fun H locs hP hS => ?_)
      refine W.eq (g2 := F0 m 20 ls [.int r_3]) rfl ?_
      refine lv_if_eq (tgt := 37) hx hb dX1_waysBehind_20 (by decide) (fun c_4 => ?_) (fun c_4 => ?_)
      · have hf := itT hf c_4
        refine lv_iinc (v := (y4L_7 + 1)) (lv' := [(4, .int (y4L_7 + 1)), (0, .ref (bs + 234)), (1, .int x1), (2, .int x2), (3, .int y3L_7)]) hx hb dX1_waysBehind_37 hl (k := 4) rfl rfl (by decide) rfl (fun ls hl => ?_)
        refine lv_goto (tgt := 5) hx hb dX1_waysBehind_40 (by decide) ?_
        obtain rfl := Option.some.inj hf
        exact hB _ rfl H locs ls hP hS (lv_sub hl [1, 2, 3, 4, 0] rfl)
      · have hf := itF hf c_4
        refine lv_iload_n hx hb dX1_waysBehind_23 rfl (lv_at hl 3 rfl) ?_
        refine lv_aload_n hx hb dX1_waysBehind_24 rfl (lv_at hl 0 rfl) ?_
        refine wd_getR (q := 236) X hP L234 fl_X1_15 rfl dX1_waysBehind_25 ?_
        refine lv_iload_n hx hb dX1_waysBehind_28 rfl (lv_at hl 1 rfl) ?_
        refine lv_iconst (v := 1) hx hb dX1_waysBehind_29 (by decide) ?_
        refine lv_iload hx hb dX1_waysBehind_30 (lv_at hl 4 rfl) ?_
        refine lv_ishl hx hb dX1_waysBehind_32 ?_
        refine lv_ior hx hb dX1_waysBehind_33 ?_
        have g_5 := gdN hf
        have hf := gdK hf
        refine wd_iald X hP L236 g_5 dX1_waysBehind_34 ?_
        refine lv_iadd hx hb dX1_waysBehind_35 ?_
        refine lv_topi (fun x3_6 ex3_6 => ?_)
        have hf := vl hf ex3_6
        refine lv_istore_n (lv' := [(3, .int x3_6), (0, .ref (bs + 234)), (1, .int x1), (2, .int x2), (4, .int y4L_7)]) hx hb dX1_waysBehind_36 rfl hl (by decide) rfl (fun ls hl => ?_)
        refine lv_iinc (v := (y4L_7 + 1)) (lv' := [(4, .int (y4L_7 + 1)), (3, .int x3_6), (0, .ref (bs + 234)), (1, .int x1), (2, .int x2)]) hx hb dX1_waysBehind_37 hl (k := 4) rfl rfl (by decide) rfl (fun ls hl => ?_)
        refine lv_goto (tgt := 5) hx hb dX1_waysBehind_40 (by decide) ?_
        obtain rfl := Option.some.inj hf
        exact hB _ rfl H locs ls hP hS (lv_sub hl [2, 3, 4, 1, 0] rfl)
  · obtain ⟨w3_8, e_w3_8⟩ : ∃ z, z = q_9 := ⟨_, rfl⟩
    subst e_w3_8
    intro H locs ls hP hS hl
    refine lv_iload_n hx hb dX1_waysBehind_43 rfl (lv_at hl 0 rfl) ?_
    obtain rfl := Option.some.inj hf
    exact wd_iret X hP hS hr0 dX1_waysBehind_44 ⟨rfl, rfl⟩

noncomputable def f_X1_findFirst_s18 (mm : Mm) (y1 : Int32) (y2 : Int32) (y3 : Int32) : (Int32) → Option ((Int32) ⊕ ((Int32) ⊕ (Unit))) :=
  fun (y4 : Int32) =>
    if (8 : Int32) ≤ y4 then
      some (.inr (.inr (())))
    else
      bi1 (f_X1_canFollow mm y2 y4 y1) fun r_5 =>
        if r_5 = 0 then
          some (.inl (y4 + 1))
        else
          if (y2 ||| ((1 : Int32) <<< (y4 &&& 31))) < 0 ∨ 256 ≤ (y2 ||| ((1 : Int32) <<< (y4 &&& 31))).toNatClampNeg then none else
            if (mm.1 236 (y2 ||| ((1 : Int32) <<< (y4 &&& 31))).toNatClampNeg) ≤ 0 then
              some (.inl (y4 + 1))
            else
              some (.inr (.inl y4))
noncomputable def f_X1_findFirst_s4 (y1 : Int32) : (Int32 × Int32 × Mm) → Option ((Int32 × Int32 × Mm) ⊕ (Mm)) :=
  fun q => match q with
  | (y2, y3, mm) =>
    if (8 : Int32) ≤ y3 then
      some (.inr mm)
    else
      if y2 = y1 then
        some (.inr mm)
      else
        bi1 (lp (f_X1_findFirst_s18 mm y1 y2 y3) (0 : Int32)) fun q => match q with
        | .inl w4_10 =>
          if y3 < 0 ∨ 8 ≤ y3.toNatClampNeg then none else
            vlet (wI mm 237 y3.toNatClampNeg w4_10) fun mm_11 =>
              vlet (wI mm_11 234 5 (y3 + (1 : Int32))) fun mm_13 =>
                vlet (y2 ||| ((1 : Int32) <<< (w4_10 &&& 31))) fun (x2_14 : Int32) => some (.inl (x2_14, (y3 + 1), mm_13))
        | .inr (()) =>
          some (.inl (y2, (y3 + 1), mm))
noncomputable def f_X1_findFirst (mm : Mm) (x1 : Int32) : Option (Mm) :=
  bi1 (lp (f_X1_findFirst_s4 x1) ((0 : Int32), (0 : Int32), mm)) fun mm_18 =>
    some mm_18
set_option maxHeartbeats 4000000 in
set_option maxRecDepth 100000 in
theorem c_X1_findFirst (l : Launch) (D : va_G) (dA : Nat → ClassId) (zz : (Nat → Nat) × (Nat → Nat)) (bs : Nat) (mm : Mm) (x1 : Int32) (m1 : Mm) (hf : f_X1_findFirst mm x1 = some m1) : Mw l D dA zz bs LY yX1_findFirst cX1_findFirst 5 none 2 47 [.ref (bs + 234), .int x1] mm none m1 := by
  refine Mw.of (own := RX1) (by decide) rfl (Nat.le_of_ble_eq_true rfl) ?_
  intro p e s m args below meth c X hr0 hP hS ls hl
  have hx := X.1
  have hb := X.2.1
  obtain ⟨H, hH⟩ : ∃ z : Heap, z = s.heap := ⟨_, rfl⟩
  obtain ⟨locs, hL⟩ : ∃ z : List Loc, z = [] := ⟨_, rfl⟩
  rw [← hH, ← hL]
  have hS : va_S (Aq bs) s.heap H locs := by rw [hH, hL]; exact hS
  have hP : Wd D dA bs LY mm H := by rw [hH]; exact hP
  have hl : lv_has ls 5 [(0, .ref (bs + 234)), (1, .int x1)] := hl
  unfold f_X1_findFirst at hf
  refine lv_iconst (v := 0) hx hb dX1_findFirst_0 (by decide) ?_
  refine lv_istore_n (lv' := [(2, .int (0 : Int32)), (0, .ref (bs + 234)), (1, .int x1)]) hx hb dX1_findFirst_1 rfl hl (by decide) rfl (fun ls hl => ?_)
  refine lv_iconst (v := 0) hx hb dX1_findFirst_2 (by decide) ?_
  refine lv_istore_n (lv' := [(3, .int (0 : Int32)), (2, .int (0 : Int32)), (0, .ref (bs + 234)), (1, .int x1)]) hx hb dX1_findFirst_3 rfl hl (by decide) rfl (fun ls hl => ?_)
  obtain ⟨q_19, hlp_20, hf⟩ := bi1S hf
  refine lp_walk (Wh := (fun z => match z with | (y2L_17, y3L_17, mmL_17) => ∀ (H : Heap) (locs : List Loc) (ls : Array Slot), Wd D dA bs LY mmL_17 H → va_S (Aq bs) s.heap H locs → lv_has ls 5 [(0, .ref (bs + 234)), (1, .int x1), (2, .int y2L_17), (3, .int y3L_17)] → Wz p l e s m args below meth c D dA bs none m1 2 47 H locs 4 ls [])) (Ph := (fun mm_18 => ∀ (H : Heap) (locs : List Loc) (ls : Array Slot), Wd D dA bs LY mm_18 H → va_S (Aq bs) s.heap H locs → lv_has ls 5 [] → Wz p l e s m args below meth c D dA bs none m1 2 47 H locs 87 ls [])) ?_ hlp_20 ?_ H locs ls hP hS (lv_sub hl [2, 3, 1, 0] rfl)
  · intro z o hf hB hE
    obtain ⟨y2L_17, y3L_17, mmL_17⟩ := z
    intro H locs ls hP hS hl
    have hf : f_X1_findFirst_s4 x1 (y2L_17, y3L_17, mmL_17) = some o := hf
    unfold f_X1_findFirst_s4 at hf
    dsimp only at hf
    refine lv_iload_n hx hb dX1_findFirst_4 rfl (lv_at hl 3 rfl) ?_
    refine lv_bipush (v := 8) hx hb dX1_findFirst_5 (by decide) ?_
    refine lv_icmp_ge (tgt := 87) hx hb dX1_findFirst_7 (by decide) (fun c_1 => ?_) (fun c_1 => ?_)
    · have hf := itT hf c_1
      obtain rfl := Option.some.inj hf
      exact hE _ rfl H locs ls hP hS (lv_sub hl [] rfl)
    · have hf := itF hf c_1
      refine lv_iload_n hx hb dX1_findFirst_10 rfl (lv_at hl 2 rfl) ?_
      refine lv_iload_n hx hb dX1_findFirst_11 rfl (lv_at hl 1 rfl) ?_
      refine lv_icmp_eq (tgt := 87) hx hb dX1_findFirst_12 (by decide) (fun c_2 => ?_) (fun c_2 => ?_)
      · have hf := itT hf c_2
        obtain rfl := Option.some.inj hf
        exact hE _ rfl H locs ls hP hS (lv_sub hl [] rfl)
      · have hf := itF hf c_2
        refine lv_iconst (v := 0) hx hb dX1_findFirst_15 (by decide) ?_
        refine lv_istore (lv' := [(4, .int (0 : Int32)), (0, .ref (bs + 234)), (1, .int x1), (2, .int y2L_17), (3, .int y3L_17)]) hx hb dX1_findFirst_16 hl (by decide) rfl (fun ls hl => ?_)
        obtain ⟨q_15, hlp_16, hf⟩ := bi1S hf
        refine lp_walk (Wh := (fun y4L_9 => ∀ (H : Heap) (locs : List Loc) (ls : Array Slot), Wd D dA bs LY mmL_17 H → va_S (Aq bs) s.heap H locs → lv_has ls 5 [(0, .ref (bs + 234)), (1, .int x1), (2, .int y2L_17), (3, .int y3L_17), (4, .int y4L_9)] → Wz p l e s m args below meth c D dA bs none m1 2 47 H locs 18 ls [])) (Ph := (fun z => match z with | .inl w4_10 => ∀ (H : Heap) (locs : List Loc) (ls : Array Slot), Wd D dA bs LY mmL_17 H → va_S (Aq bs) s.heap H locs → lv_has ls 5 [(0, .ref (bs + 234)), (1, .int x1), (2, .int y2L_17), (3, .int y3L_17), (4, .int w4_10)] → Wz p l e s m args below meth c D dA bs none m1 2 47 H locs 50 ls [] | .inr (()) => ∀ (H : Heap) (locs : List Loc) (ls : Array Slot), Wd D dA bs LY mmL_17 H → va_S (Aq bs) s.heap H locs → lv_has ls 5 [(0, .ref (bs + 234)), (1, .int x1), (2, .int y2L_17), (3, .int y3L_17)] → Wz p l e s m args below meth c D dA bs none m1 2 47 H locs 81 ls [])) ?_ hlp_16 ?_ H locs ls hP hS (lv_sub hl [1, 2, 3, 4, 0] rfl)
        · intro y4L_9 o hf hB hE
          intro H locs ls hP hS hl
          have hf : f_X1_findFirst_s18 mmL_17 x1 y2L_17 y3L_17 y4L_9 = some o := hf
          unfold f_X1_findFirst_s18 at hf
          refine lv_iload hx hb dX1_findFirst_18 (lv_at hl 4 rfl) ?_
          refine lv_bipush (v := 8) hx hb dX1_findFirst_20 (by decide) ?_
          refine lv_icmp_ge (tgt := 81) hx hb dX1_findFirst_22 (by decide) (fun c_3 => ?_) (fun c_3 => ?_)
          · have hf := itT hf c_3
            obtain rfl := Option.some.inj hf
            exact hE _ rfl H locs ls hP hS (lv_sub hl [0, 1, 2, 3] rfl)
          · have hf := itF hf c_3
            refine lv_aload_n hx hb dX1_findFirst_25 rfl (lv_at hl 0 rfl) ?_
            refine lv_iload_n hx hb dX1_findFirst_26 rfl (lv_at hl 2 rfl) ?_
            refine lv_iload hx hb dX1_findFirst_27 (lv_at hl 4 rfl) ?_
            refine lv_iload_n hx hb dX1_findFirst_29 rfl (lv_at hl 1 rfl) ?_
            obtain ⟨r_5, hc_4, hf⟩ := bi1S hf
            refine wd_cv X hP hS L234 ml_X1_78 ⟨_, _, rfl⟩ (c_X1_canFollow l D dA zz bs mmL_17 y2L_17 y4L_9 x1 r_5 hc_4) rfl ⟨Nat.le_of_ble_eq_true rfl, Nat.le_of_ble_eq_true rfl⟩ hl.1 rfl (rest := []) (Nat.le_of_ble_eq_true rfl) ⟨Nat.zero_le _, Nat.zero_le _⟩ dX1_findFirst_30 (fun H locs hP hS => ?_)
            refine W.eq (g2 := F0 m 33 ls [.int r_5]) rfl ?_
            refine lv_if_eq (tgt := 75) hx hb dX1_findFirst_33 (by decide) (fun c_6 => ?_) (fun c_6 => ?_)
            · have hf := itT hf c_6
              refine lv_iinc (v := (y4L_9 + 1)) (lv' := [(4, .int (y4L_9 + 1)), (0, .ref (bs + 234)), (1, .int x1), (2, .int y2L_17), (3, .int y3L_17)]) hx hb dX1_findFirst_75 hl (k := 4) rfl rfl (by decide) rfl (fun ls hl => ?_)
              refine lv_goto (tgt := 18) hx hb dX1_findFirst_78 (by decide) ?_
              obtain rfl := Option.some.inj hf
              exact hB _ rfl H locs ls hP hS (lv_sub hl [1, 2, 3, 4, 0] rfl)
            · have hf := itF hf c_6
              refine lv_aload_n hx hb dX1_findFirst_36 rfl (lv_at hl 0 rfl) ?_
              refine wd_getR (q := 236) X hP L234 fl_X1_15 rfl dX1_findFirst_37 ?_
              refine lv_iload_n hx hb dX1_findFirst_40 rfl (lv_at hl 2 rfl) ?_
              refine lv_iconst (v := 1) hx hb dX1_findFirst_41 (by decide) ?_
              refine lv_iload hx hb dX1_findFirst_42 (lv_at hl 4 rfl) ?_
              refine lv_ishl hx hb dX1_findFirst_44 ?_
              refine lv_ior hx hb dX1_findFirst_45 ?_
              have g_7 := gdN hf
              have hf := gdK hf
              refine wd_iald X hP L236 g_7 dX1_findFirst_46 ?_
              refine lv_if_le (tgt := 75) hx hb dX1_findFirst_47 (by decide) (fun c_8 => ?_) (fun c_8 => ?_)
              · have hf := itT hf c_8
                refine lv_iinc (v := (y4L_9 + 1)) (lv' := [(4, .int (y4L_9 + 1)), (0, .ref (bs + 234)), (1, .int x1), (2, .int y2L_17), (3, .int y3L_17)]) hx hb dX1_findFirst_75 hl (k := 4) rfl rfl (by decide) rfl (fun ls hl => ?_)
                refine lv_goto (tgt := 18) hx hb dX1_findFirst_78 (by decide) ?_
                obtain rfl := Option.some.inj hf
                exact hB _ rfl H locs ls hP hS (lv_sub hl [1, 2, 3, 4, 0] rfl)
              · have hf := itF hf c_8
                obtain rfl := Option.some.inj hf
                exact hE _ rfl H locs ls hP hS (lv_sub hl [0, 1, 2, 3, 4] rfl)
        · rcases q_15 with w4_10 | ⟨⟩
          · dsimp only at hf
            intro H locs ls hP hS hl
            refine lv_aload_n hx hb dX1_findFirst_50 rfl (lv_at hl 0 rfl) ?_
            refine wd_getR (q := 237) X hP L234 fl_X1_18 rfl dX1_findFirst_51 ?_
            refine lv_iload_n hx hb dX1_findFirst_54 rfl (lv_at hl 3 rfl) ?_
            refine lv_iload hx hb dX1_findFirst_55 (lv_at hl 4 rfl) ?_
            have g_12 := gdN hf
            have hf := gdK hf
            refine wd_iast X hP hS L237 g_12 dX1_findFirst_57 (fun H locs mm_11 emm_11 hP hS => ?_)
            have hf := vl hf emm_11
            refine lv_aload_n hx hb dX1_findFirst_58 rfl (lv_at hl 0 rfl) ?_
            refine lv_iload_n hx hb dX1_findFirst_59 rfl (lv_at hl 3 rfl) ?_
            refine lv_iconst (v := 1) hx hb dX1_findFirst_60 (by decide) ?_
            refine lv_iadd hx hb dX1_findFirst_61 ?_
            refine wd_putI X hP hS L234 fp_X1_31 rfl dX1_findFirst_62 (fun H locs mm_13 emm_13 hP hS => ?_)
            have hf := vl hf emm_13
            refine lv_iload_n hx hb dX1_findFirst_65 rfl (lv_at hl 2 rfl) ?_
            refine lv_iconst (v := 1) hx hb dX1_findFirst_66 (by decide) ?_
            refine lv_iload hx hb dX1_findFirst_67 (lv_at hl 4 rfl) ?_
            refine lv_ishl hx hb dX1_findFirst_69 ?_
            refine lv_ior hx hb dX1_findFirst_70 ?_
            refine lv_topi (fun x2_14 ex2_14 => ?_)
            have hf := vl hf ex2_14
            refine lv_istore_n (lv' := [(2, .int x2_14), (0, .ref (bs + 234)), (1, .int x1), (3, .int y3L_17), (4, .int w4_10)]) hx hb dX1_findFirst_71 rfl hl (by decide) rfl (fun ls hl => ?_)
            refine lv_goto (tgt := 81) hx hb dX1_findFirst_72 (by decide) ?_
            refine lv_iinc (v := (y3L_17 + 1)) (lv' := [(3, .int (y3L_17 + 1)), (2, .int x2_14), (0, .ref (bs + 234)), (1, .int x1), (4, .int w4_10)]) hx hb dX1_findFirst_81 hl (k := 3) rfl rfl (by decide) rfl (fun ls hl => ?_)
            refine lv_goto (tgt := 4) hx hb dX1_findFirst_84 (by decide) ?_
            obtain rfl := Option.some.inj hf
            exact hB _ rfl H locs ls hP hS (lv_sub hl [2, 3, 1, 0] rfl)
          · dsimp only at hf
            intro H locs ls hP hS hl
            refine lv_iinc (v := (y3L_17 + 1)) (lv' := [(3, .int (y3L_17 + 1)), (0, .ref (bs + 234)), (1, .int x1), (2, .int y2L_17)]) hx hb dX1_findFirst_81 hl (k := 3) rfl rfl (by decide) rfl (fun ls hl => ?_)
            refine lv_goto (tgt := 4) hx hb dX1_findFirst_84 (by decide) ?_
            obtain rfl := Option.some.inj hf
            exact hB _ rfl H locs ls hP hS (lv_sub hl [1, 2, 3, 0] rfl)
  · obtain ⟨mm_18, e_mm_18⟩ : ∃ z, z = q_19 := ⟨_, rfl⟩
    subst e_mm_18
    intro H locs ls hP hS hl
    obtain rfl := Option.some.inj hf
    exact wd_vret X hP hS hr0 dX1_findFirst_87 ⟨rfl, rfl⟩

noncomputable def f_X1_find_j74 (mm : Mm) (y1 : Int32) (y2 : Int32) (z0 : Int32) (z1 : Int32) : Option ((Int32 × Mm) ⊕ (Mm)) :=
  if z1 < 0 ∨ 256 ≤ z1.toNatClampNeg then none else
    vlet (wI mm 236 z1.toNatClampNeg z0) fun mm_12 => some (.inl ((y2 + (-1)), mm_12))
noncomputable def f_X1_find_s42 (y1 : Int32) : (Int32 × Mm) → Option ((Int32 × Mm) ⊕ (Mm)) :=
  fun q => match q with
  | (y2, mm) =>
    if y2 < 0 then
      some (.inr mm)
    else
      if (y2 &&& (y1 ^^^ (-1 : Int32))) = 0 then
        if y2 = y1 then
          f_X1_find_j74 mm y1 y2 (1 : Int32) y2
        else
          bi1 (f_X1_waysBehind mm y2 y1) fun r_19 => f_X1_find_j74 mm y1 y2 r_19 y2
      else
        some (.inl ((y2 + (-1)), mm))
noncomputable def f_X1_find (mm : Mm) : Option (Mm) :=
  bi1 (f_X4_thingsAt mm 33 27 (0 : Int32)) fun r_2 =>
    vlet (wI mm 234 5 (0 : Int32)) fun mm_3 =>
      vlet (wI mm_3 234 6 (0 : Int32)) fun mm_4 =>
        bi1 (f_X4_lift mm_4 33 27 r_2 (0 : Int32)) fun r_6 =>
          if r_6 < 0 then
            some mm_4
          else
            bi2 (f_X1_findGroups mm_4 r_2) fun r_10 mm_8 =>
              if r_10 = 0 then
                some mm_8
              else
                bi1 (lp (f_X1_find_s42 r_2) (r_2, mm_8)) fun mm_21 =>
                  vlet (wI mm_21 234 6 (mm_21.1 236 0)) fun mm_22 => bi1 (f_X1_findFirst mm_22 r_2) fun mm_23 => some mm_23
set_option maxHeartbeats 4000000 in
set_option maxRecDepth 100000 in
theorem c_X1_find (l : Launch) (D : va_G) (dA : Nat → ClassId) (zz : (Nat → Nat) × (Nat → Nat)) (bs : Nat) (mm : Mm) (m1 : Mm) (hf : f_X1_find mm = some m1) : Mw l D dA zz bs LY yX1_find cX1_find 3 none 3 89 [.ref (bs + 234)] mm none m1 := by
  refine Mw.of (own := RX1) (by decide) rfl (Nat.le_of_ble_eq_true rfl) ?_
  intro p e s m args below meth c X hr0 hP hS ls hl
  have hx := X.1
  have hb := X.2.1
  obtain ⟨H, hH⟩ : ∃ z : Heap, z = s.heap := ⟨_, rfl⟩
  obtain ⟨locs, hL⟩ : ∃ z : List Loc, z = [] := ⟨_, rfl⟩
  rw [← hH, ← hL]
  have hS : va_S (Aq bs) s.heap H locs := by rw [hH, hL]; exact hS
  have hP : Wd D dA bs LY mm H := by rw [hH]; exact hP
  have hl : lv_has ls 3 [(0, .ref (bs + 234))] := hl
  unfold f_X1_find at hf
  refine lv_aload_n hx hb dX1_find_0 rfl (lv_at hl 0 rfl) ?_
  refine wd_getR (q := 33) X hP L234 fl_X1_21 rfl dX1_find_1 ?_
  refine lv_iconst (v := 0) hx hb dX1_find_4 (by decide) ?_
  obtain ⟨r_2, hc_1, hf⟩ := bi1S hf
  refine wd_cv X hP hS (isRaft.a0 R33) ml_X1_25 ⟨_, _, rfl⟩ (c_X4_thingsAt l D dA zz bs mm 33 27 R33 (0 : Int32) r_2 hc_1) rfl ⟨Nat.le_of_ble_eq_true rfl, Nat.le_of_ble_eq_true rfl⟩ hl.1 rfl (rest := []) (Nat.le_of_ble_eq_true rfl) ⟨Nat.zero_le _, Nat.zero_le _⟩ dX1_find_5 (fun H locs hP hS => ?_)
  refine W.eq (g2 := F0 m 8 ls [.int r_2]) rfl ?_
  refine lv_istore_n (lv' := [(1, .int r_2), (0, .ref (bs + 234))]) hx hb dX1_find_8 rfl hl (by decide) rfl (fun ls hl => ?_)
  refine lv_aload_n hx hb dX1_find_9 rfl (lv_at hl 1 rfl) ?_
  refine lv_iconst (v := 0) hx hb dX1_find_10 (by decide) ?_
  refine wd_putI X hP hS L234 fp_X1_31 rfl dX1_find_11 (fun H locs mm_3 emm_3 hP hS => ?_)
  have hf := vl hf emm_3
  refine lv_aload_n hx hb dX1_find_14 rfl (lv_at hl 1 rfl) ?_
  refine lv_iconst (v := 0) hx hb dX1_find_15 (by decide) ?_
  refine wd_putI X hP hS L234 fp_X1_35 rfl dX1_find_16 (fun H locs mm_4 emm_4 hP hS => ?_)
  have hf := vl hf emm_4
  refine lv_aload_n hx hb dX1_find_19 rfl (lv_at hl 1 rfl) ?_
  refine wd_getR (q := 33) X hP L234 fl_X1_21 rfl dX1_find_20 ?_
  refine lv_iload_n hx hb dX1_find_23 rfl (lv_at hl 0 rfl) ?_
  refine lv_iconst (v := 0) hx hb dX1_find_24 (by decide) ?_
  obtain ⟨r_6, hc_5, hf⟩ := bi1S hf
  refine wd_cv X hP hS (isRaft.a0 R33) ml_X1_38 ⟨_, _, rfl⟩ (c_X4_lift l D dA zz bs mm_4 33 27 R33 r_2 (0 : Int32) r_6 hc_5) rfl ⟨Nat.le_of_ble_eq_true rfl, Nat.le_of_ble_eq_true rfl⟩ hl.1 rfl (rest := []) (Nat.le_of_ble_eq_true rfl) ⟨Nat.zero_le _, Nat.zero_le _⟩ dX1_find_25 (fun H locs hP hS => ?_)
  refine W.eq (g2 := F0 m 28 ls [.int r_6]) rfl ?_
  refine lv_if_lt (tgt := 39) hx hb dX1_find_28 (by decide) (fun c_7 => ?_) (fun c_7 => ?_)
  · have hf := itT hf c_7
    obtain rfl := Option.some.inj hf
    exact wd_vret X hP hS hr0 dX1_find_39 ⟨rfl, rfl⟩
  · have hf := itF hf c_7
    refine lv_aload_n hx hb dX1_find_31 rfl (lv_at hl 1 rfl) ?_
    refine lv_iload_n hx hb dX1_find_32 rfl (lv_at hl 0 rfl) ?_
    obtain ⟨r_10, mm_8, hc_9, hf⟩ := bi2S hf
    refine wd_cv X hP hS L234 ml_X1_42 ⟨_, _, rfl⟩ (c_X1_findGroups l D dA zz bs mm_4 r_2 r_10 mm_8 hc_9) rfl ⟨Nat.le_of_ble_eq_true rfl, Nat.le_of_ble_eq_true rfl⟩ hl.1 rfl (rest := []) (Nat.le_of_ble_eq_true rfl) ⟨Nat.zero_le _, Nat.zero_le _⟩ dX1_find_33 (fun H locs hP hS => ?_)
    refine W.eq (g2 := F0 m 36 ls [.int r_10]) rfl ?_
    refine lv_if_ne (tgt := 40) hx hb dX1_find_36 (by decide) (fun c_11 => ?_) (fun c_11 => ?_)
    · have hf := itF hf c_11
      refine lv_iload_n hx hb dX1_find_40 rfl (lv_at hl 0 rfl) ?_
      refine lv_istore_n (lv' := [(2, .int r_2), (1, .int r_2), (0, .ref (bs + 234))]) hx hb dX1_find_41 rfl hl (by decide) rfl (fun ls hl => ?_)
      obtain ⟨q_25, hlp_26, hf⟩ := bi1S hf
      refine lp_walk (Wh := (fun z => match z with | (y2L_20, mmL_20) => ∀ (H : Heap) (locs : List Loc) (ls : Array Slot), Wd D dA bs LY mmL_20 H → va_S (Aq bs) s.heap H locs → lv_has ls 3 [(0, .ref (bs + 234)), (1, .int r_2), (2, .int y2L_20)] → Wz p l e s m args below meth c D dA bs none m1 3 89 H locs 42 ls [])) (Ph := (fun mm_21 => ∀ (H : Heap) (locs : List Loc) (ls : Array Slot), Wd D dA bs LY mm_21 H → va_S (Aq bs) s.heap H locs → lv_has ls 3 [(0, .ref (bs + 234)), (1, .int r_2)] → Wz p l e s m args below meth c D dA bs none m1 3 89 H locs 81 ls [])) ?_ hlp_26 ?_ H locs ls hP hS (lv_sub hl [2, 1, 0] rfl)
      · intro z o hf hB hE
        obtain ⟨y2L_20, mmL_20⟩ := z
        intro H locs ls hP hS hl
        have hf : f_X1_find_s42 r_2 (y2L_20, mmL_20) = some o := hf
        unfold f_X1_find_s42 at hf
        dsimp only at hf
        have hJ74 : ∀ (mmJ_14 : Mm) (y2J_14 : Int32) (z0J_14 : Int32) (z1J_14 : Int32) (H : Heap) (locs : List Loc) (ls : Array Slot), f_X1_find_j74 mmJ_14 r_2 y2J_14 z0J_14 z1J_14 = some o → Wd D dA bs LY mmJ_14 H → va_S (Aq bs) s.heap H locs → lv_has ls 3 [(0, .ref (bs + 234)), (1, .int r_2), (2, .int y2J_14)] → Wz p l e s m args below meth c D dA bs none m1 3 89 H locs 74 ls [.int z0J_14, .int z1J_14, .ref (bs + 236)] := by
          intro mmJ_14 y2J_14 z0J_14 z1J_14 H locs ls hf hP hS hl
          unfold f_X1_find_j74 at hf
          have g_13 := gdN hf
          have hf := gdK hf
          refine wd_iast X hP hS L236 g_13 dX1_find_74 (fun H locs mm_12 emm_12 hP hS => ?_)
          have hf := vl hf emm_12
          refine lv_iinc (v := (y2J_14 + (-1))) (lv' := [(2, .int (y2J_14 + (-1))), (0, .ref (bs + 234)), (1, .int r_2)]) hx hb dX1_find_75 hl (k := 2) rfl rfl (by decide) rfl (fun ls hl => ?_)
          refine lv_goto (tgt := 42) hx hb dX1_find_78 (by decide) ?_
          obtain rfl := Option.some.inj hf
          exact hB _ rfl H locs ls hP hS (lv_sub hl [1, 2, 0] rfl)
        refine lv_iload_n hx hb dX1_find_42 rfl (lv_at hl 2 rfl) ?_
        refine lv_if_lt (tgt := 81) hx hb dX1_find_43 (by decide) (fun c_15 => ?_) (fun c_15 => ?_)
        · have hf := itT hf c_15
          obtain rfl := Option.some.inj hf
          exact hE _ rfl H locs ls hP hS (lv_sub hl [0, 1] rfl)
        · have hf := itF hf c_15
          refine lv_iload_n hx hb dX1_find_46 rfl (lv_at hl 2 rfl) ?_
          refine lv_iload_n hx hb dX1_find_47 rfl (lv_at hl 1 rfl) ?_
          refine lv_iconst (v := -1) hx hb dX1_find_48 (by decide) ?_
          refine lv_ixor hx hb dX1_find_49 ?_
          refine lv_iand hx hb dX1_find_50 ?_
          refine lv_if_ne (tgt := 75) hx hb dX1_find_51 (by decide) (fun c_16 => ?_) (fun c_16 => ?_)
          · have hf := itF hf c_16
            refine lv_iinc (v := (y2L_20 + (-1))) (lv' := [(2, .int (y2L_20 + (-1))), (0, .ref (bs + 234)), (1, .int r_2)]) hx hb dX1_find_75 hl (k := 2) rfl rfl (by decide) rfl (fun ls hl => ?_)
            refine lv_goto (tgt := 42) hx hb dX1_find_78 (by decide) ?_
            obtain rfl := Option.some.inj hf
            exact hB _ rfl H locs ls hP hS (lv_sub hl [1, 2, 0] rfl)
          · have hf := itT hf c_16
            refine lv_aload_n hx hb dX1_find_54 rfl (lv_at hl 0 rfl) ?_
            refine wd_getR (q := 236) X hP L234 fl_X1_15 rfl dX1_find_55 ?_
            refine lv_iload_n hx hb dX1_find_58 rfl (lv_at hl 2 rfl) ?_
            refine lv_iload_n hx hb dX1_find_59 rfl (lv_at hl 2 rfl) ?_
            refine lv_iload_n hx hb dX1_find_60 rfl (lv_at hl 1 rfl) ?_
            refine lv_icmp_ne (tgt := 68) hx hb dX1_find_61 (by decide) (fun c_17 => ?_) (fun c_17 => ?_)
            · have hf := itF hf c_17
              refine lv_aload_n hx hb dX1_find_68 rfl (lv_at hl 0 rfl) ?_
              refine lv_iload_n hx hb dX1_find_69 rfl (lv_at hl 2 rfl) ?_
              refine lv_iload_n hx hb dX1_find_70 rfl (lv_at hl 1 rfl) ?_
              obtain ⟨r_19, hc_18, hf⟩ := bi1S hf
              refine wd_cv X hP hS L234 ml_X1_46 ⟨_, _, rfl⟩ (c_X1_waysBehind l D dA zz bs mmL_20 y2L_20 r_2 r_19 hc_18) rfl ⟨Nat.le_of_ble_eq_true rfl, Nat.le_of_ble_eq_true rfl⟩ hl.1 rfl (rest := [.int y2L_20, .ref (bs + 236)]) (Nat.le_of_ble_eq_true rfl) ⟨Nat.zero_le _, Nat.zero_le _⟩ dX1_find_71 (fun H locs hP hS => ?_)
              refine W.eq (g2 := F0 m 74 ls [.int r_19, .int y2L_20, .ref (bs + 236)]) rfl ?_
              exact hJ74 mmL_20 y2L_20 r_19 y2L_20 H locs ls hf hP hS (lv_sub hl [0, 1, 2] rfl)
            · have hf := itT hf c_17
              refine lv_iconst (v := 1) hx hb dX1_find_64 (by decide) ?_
              refine lv_goto (tgt := 74) hx hb dX1_find_65 (by decide) ?_
              exact hJ74 mmL_20 y2L_20 (1 : Int32) y2L_20 H locs ls hf hP hS (lv_sub hl [0, 1, 2] rfl)
      · obtain ⟨mm_21, e_mm_21⟩ : ∃ z, z = q_25 := ⟨_, rfl⟩
        subst e_mm_21
        intro H locs ls hP hS hl
        refine lv_aload_n hx hb dX1_find_81 rfl (lv_at hl 0 rfl) ?_
        refine lv_aload_n hx hb dX1_find_82 rfl (lv_at hl 0 rfl) ?_
        refine wd_getR (q := 236) X hP L234 fl_X1_15 rfl dX1_find_83 ?_
        refine lv_iconst (v := 0) hx hb dX1_find_86 (by decide) ?_
        refine wd_ialdK (k := 0) X hP L236 (by decide) (by decide) dX1_find_87 ?_
        refine wd_putI X hP hS L234 fp_X1_35 rfl dX1_find_88 (fun H locs mm_22 emm_22 hP hS => ?_)
        have hf := vl hf emm_22
        refine lv_aload_n hx hb dX1_find_91 rfl (lv_at hl 0 rfl) ?_
        refine lv_iload_n hx hb dX1_find_92 rfl (lv_at hl 1 rfl) ?_
        obtain ⟨mm_23, hc_24, hf⟩ := bi1S hf
        refine wd_cv X hP hS L234 ml_X1_49 ⟨_, _, rfl⟩ (c_X1_findFirst l D dA zz bs mm_22 r_2 mm_23 hc_24) rfl ⟨Nat.le_of_ble_eq_true rfl, Nat.le_of_ble_eq_true rfl⟩ hl.1 rfl (rest := []) (Nat.le_of_ble_eq_true rfl) ⟨Nat.zero_le _, Nat.zero_le _⟩ dX1_find_93 (fun H locs hP hS => ?_)
        refine W.eq (g2 := F0 m 96 ls []) rfl ?_
        obtain rfl := Option.some.inj hf
        exact wd_vret X hP hS hr0 dX1_find_96 ⟨rfl, rfl⟩
    · have hf := itT hf c_11
      obtain rfl := Option.some.inj hf
      exact wd_vret X hP hS hr0 dX1_find_39 ⟨rfl, rfl⟩

noncomputable def f_X2_unite_s33 (y3 : Int32) : (Int32 × Mm) → Option ((Int32 × Mm) ⊕ (Mm)) :=
  fun q => match q with
  | (y4, mm) =>
    if (8 : Int32) ≤ y4 then
      some (.inr mm)
    else
      if (f_X11_contains y3 y4) = 0 then
        some (.inl ((y4 + 1), mm))
      else
        if y4 < 0 ∨ 8 ≤ y4.toNatClampNeg then none else
          vlet (wI mm 230 y4.toNatClampNeg y3) fun mm_9 => some (.inl ((y4 + 1), mm_9))
noncomputable def f_X2_unite (mm : Mm) (x1 : Int32) (x2 : Int32) : Option (Mm) :=
  if x1 < 0 ∨ 8 ≤ x1.toNatClampNeg then none else
    if x2 < 0 ∨ 8 ≤ x2.toNatClampNeg then none else
      if (mm.1 230 x1.toNatClampNeg) = (mm.1 230 x2.toNatClampNeg) then
        some mm
      else
        if x1 < 0 ∨ 8 ≤ x1.toNatClampNeg then none else
          if x2 < 0 ∨ 8 ≤ x2.toNatClampNeg then none else
            vlet ((mm.1 230 x1.toNatClampNeg) ||| (mm.1 230 x2.toNatClampNeg)) fun (x3_6 : Int32) =>
              bi1 (lp (f_X2_unite_s33 x3_6) ((0 : Int32), mm)) fun mm_12 =>
                some mm_12
set_option maxHeartbeats 4000000 in
set_option maxRecDepth 100000 in
theorem c_X2_unite (l : Launch) (D : va_G) (dA : Nat → ClassId) (zz : (Nat → Nat) × (Nat → Nat)) (bs : Nat) (mm : Mm) (x1 : Int32) (x2 : Int32) (m1 : Mm) (hf : f_X2_unite mm x1 x2 = some m1) : Mw l D dA zz bs LY yX2_unite cX2_unite 5 none 1 21 [.ref (bs + 229), .int x1, .int x2] mm none m1 := by
  refine Mw.of (own := RX2) (by decide) rfl (Nat.le_of_ble_eq_true rfl) ?_
  intro p e s m args below meth c X hr0 hP hS ls hl
  have hx := X.1
  have hb := X.2.1
  obtain ⟨H, hH⟩ : ∃ z : Heap, z = s.heap := ⟨_, rfl⟩
  obtain ⟨locs, hL⟩ : ∃ z : List Loc, z = [] := ⟨_, rfl⟩
  rw [← hH, ← hL]
  have hS : va_S (Aq bs) s.heap H locs := by rw [hH, hL]; exact hS
  have hP : Wd D dA bs LY mm H := by rw [hH]; exact hP
  have hl : lv_has ls 5 [(0, .ref (bs + 229)), (1, .int x1), (2, .int x2)] := hl
  unfold f_X2_unite at hf
  refine lv_aload_n hx hb dX2_unite_0 rfl (lv_at hl 0 rfl) ?_
  refine wd_getR (q := 230) X hP L229 fl_X2_9 rfl dX2_unite_1 ?_
  refine lv_iload_n hx hb dX2_unite_4 rfl (lv_at hl 1 rfl) ?_
  have g_1 := gdN hf
  have hf := gdK hf
  refine wd_iald X hP L230 g_1 dX2_unite_5 ?_
  refine lv_aload_n hx hb dX2_unite_6 rfl (lv_at hl 0 rfl) ?_
  refine wd_getR (q := 230) X hP L229 fl_X2_9 rfl dX2_unite_7 ?_
  refine lv_iload_n hx hb dX2_unite_10 rfl (lv_at hl 2 rfl) ?_
  have g_2 := gdN hf
  have hf := gdK hf
  refine wd_iald X hP L230 g_2 dX2_unite_11 ?_
  refine lv_icmp_ne (tgt := 16) hx hb dX2_unite_12 (by decide) (fun c_3 => ?_) (fun c_3 => ?_)
  · have hf := itF hf c_3
    refine lv_aload_n hx hb dX2_unite_16 rfl (lv_at hl 0 rfl) ?_
    refine wd_getR (q := 230) X hP L229 fl_X2_9 rfl dX2_unite_17 ?_
    refine lv_iload_n hx hb dX2_unite_20 rfl (lv_at hl 1 rfl) ?_
    have g_4 := gdN hf
    have hf := gdK hf
    refine wd_iald X hP L230 g_4 dX2_unite_21 ?_
    refine lv_aload_n hx hb dX2_unite_22 rfl (lv_at hl 0 rfl) ?_
    refine wd_getR (q := 230) X hP L229 fl_X2_9 rfl dX2_unite_23 ?_
    refine lv_iload_n hx hb dX2_unite_26 rfl (lv_at hl 2 rfl) ?_
    have g_5 := gdN hf
    have hf := gdK hf
    refine wd_iald X hP L230 g_5 dX2_unite_27 ?_
    refine lv_ior hx hb dX2_unite_28 ?_
    refine lv_topi (fun x3_6 ex3_6 => ?_)
    have hf := vl hf ex3_6
    refine lv_istore_n (lv' := [(3, .int x3_6), (0, .ref (bs + 229)), (1, .int x1), (2, .int x2)]) hx hb dX2_unite_29 rfl hl (by decide) rfl (fun ls hl => ?_)
    refine lv_iconst (v := 0) hx hb dX2_unite_30 (by decide) ?_
    refine lv_istore (lv' := [(4, .int (0 : Int32)), (3, .int x3_6), (0, .ref (bs + 229)), (1, .int x1), (2, .int x2)]) hx hb dX2_unite_31 hl (by decide) rfl (fun ls hl => ?_)
    obtain ⟨q_13, hlp_14, hf⟩ := bi1S hf
    refine lp_walk (Wh := (fun z => match z with | (y4L_11, mmL_11) => ∀ (H : Heap) (locs : List Loc) (ls : Array Slot), Wd D dA bs LY mmL_11 H → va_S (Aq bs) s.heap H locs → lv_has ls 5 [(0, .ref (bs + 229)), (3, .int x3_6), (4, .int y4L_11)] → Wz p l e s m args below meth c D dA bs none m1 1 21 H locs 33 ls [])) (Ph := (fun mm_12 => ∀ (H : Heap) (locs : List Loc) (ls : Array Slot), Wd D dA bs LY mm_12 H → va_S (Aq bs) s.heap H locs → lv_has ls 5 [] → Wz p l e s m args below meth c D dA bs none m1 1 21 H locs 63 ls [])) ?_ hlp_14 ?_ H locs ls hP hS (lv_sub hl [2, 1, 0] rfl)
    · intro z o hf hB hE
      obtain ⟨y4L_11, mmL_11⟩ := z
      intro H locs ls hP hS hl
      have hf : f_X2_unite_s33 x3_6 (y4L_11, mmL_11) = some o := hf
      unfold f_X2_unite_s33 at hf
      dsimp only at hf
      refine lv_iload hx hb dX2_unite_33 (lv_at hl 2 rfl) ?_
      refine lv_bipush (v := 8) hx hb dX2_unite_35 (by decide) ?_
      refine lv_icmp_ge (tgt := 63) hx hb dX2_unite_37 (by decide) (fun c_7 => ?_) (fun c_7 => ?_)
      · have hf := itT hf c_7
        obtain rfl := Option.some.inj hf
        exact hE _ rfl H locs ls hP hS (lv_sub hl [] rfl)
      · have hf := itF hf c_7
        refine lv_iload_n hx hb dX2_unite_40 rfl (lv_at hl 1 rfl) ?_
        refine lv_iload hx hb dX2_unite_41 (lv_at hl 2 rfl) ?_
        refine wd_cn X hP hS ml_X2_53 (c_X11_contains l D dA zz bs mmL_11 x3_6 y4L_11 (f_X11_contains x3_6 y4L_11) rfl) rfl ⟨Nat.le_of_ble_eq_true rfl, Nat.le_of_ble_eq_true rfl⟩ hl.1 rfl (rest := []) (Nat.le_of_ble_eq_true rfl) ⟨Nat.zero_le _, Nat.zero_le _⟩ dX2_unite_43 (fun H locs hP hS => ?_)
        refine W.eq (g2 := F0 m 46 ls [.int (f_X11_contains x3_6 y4L_11)]) rfl ?_
        refine lv_if_eq (tgt := 57) hx hb dX2_unite_46 (by decide) (fun c_8 => ?_) (fun c_8 => ?_)
        · have hf := itT hf c_8
          refine lv_iinc (v := (y4L_11 + 1)) (lv' := [(4, .int (y4L_11 + 1)), (0, .ref (bs + 229)), (3, .int x3_6)]) hx hb dX2_unite_57 hl (k := 2) rfl rfl (by decide) rfl (fun ls hl => ?_)
          refine lv_goto (tgt := 33) hx hb dX2_unite_60 (by decide) ?_
          obtain rfl := Option.some.inj hf
          exact hB _ rfl H locs ls hP hS (lv_sub hl [1, 2, 0] rfl)
        · have hf := itF hf c_8
          refine lv_aload_n hx hb dX2_unite_49 rfl (lv_at hl 0 rfl) ?_
          refine wd_getR (q := 230) X hP L229 fl_X2_9 rfl dX2_unite_50 ?_
          refine lv_iload hx hb dX2_unite_53 (lv_at hl 2 rfl) ?_
          refine lv_iload_n hx hb dX2_unite_55 rfl (lv_at hl 1 rfl) ?_
          have g_10 := gdN hf
          have hf := gdK hf
          refine wd_iast X hP hS L230 g_10 dX2_unite_56 (fun H locs mm_9 emm_9 hP hS => ?_)
          have hf := vl hf emm_9
          refine lv_iinc (v := (y4L_11 + 1)) (lv' := [(4, .int (y4L_11 + 1)), (0, .ref (bs + 229)), (3, .int x3_6)]) hx hb dX2_unite_57 hl (k := 2) rfl rfl (by decide) rfl (fun ls hl => ?_)
          refine lv_goto (tgt := 33) hx hb dX2_unite_60 (by decide) ?_
          obtain rfl := Option.some.inj hf
          exact hB _ rfl H locs ls hP hS (lv_sub hl [1, 2, 0] rfl)
    · obtain ⟨mm_12, e_mm_12⟩ : ∃ z, z = q_13 := ⟨_, rfl⟩
      subst e_mm_12
      intro H locs ls hP hS hl
      obtain rfl := Option.some.inj hf
      exact wd_vret X hP hS hr0 dX2_unite_63 ⟨rfl, rfl⟩
  · have hf := itT hf c_3
    obtain rfl := Option.some.inj hf
    exact wd_vret X hP hS hr0 dX2_unite_15 ⟨rfl, rfl⟩

noncomputable def f_X2_join_j40 (r : Nat) (v : Nat) (mm : Mm) (y2 : Int32) (y3 : Int32) (z0 : Int32) (z1 : Int32) : Option ((Int32 × Mm) ⊕ (Mm)) :=
  if z1 < 0 ∨ 8 ≤ z1.toNatClampNeg then none else
    vlet (wI mm 230 z1.toNatClampNeg z0) fun mm_1 => some (.inl ((y3 + 1), mm_1))
noncomputable def f_X2_join_j39 (r : Nat) (v : Nat) (mm : Mm) (y2 : Int32) (y3 : Int32) (z0 : Int32) : Option ((Int32 × Mm) ⊕ (Mm)) :=
  f_X2_join_j40 r v mm y2 y3 (0 : Int32) z0
noncomputable def f_X2_join_s2 (r : Nat) (v : Nat) (y2 : Int32) : (Int32 × Mm) → Option ((Int32 × Mm) ⊕ (Mm)) :=
  fun q => match q with
  | (y3, mm) =>
    if (8 : Int32) ≤ y3 then
      some (.inr mm)
    else
      if (mm.1 v 2) ≤ y3 then
        f_X2_join_j39 r v mm y2 y3 y3
      else
        if y3 < 0 ∨ 8 ≤ y3.toNatClampNeg then none else
          if (mm.1 (r + 4) y3.toNatClampNeg) = 0 then
            f_X2_join_j40 r v mm y2 y3 ((1 : Int32) <<< (y3 &&& 31)) y3
          else
            f_X2_join_j39 r v mm y2 y3 y3
noncomputable def f_X2_join_s49 (r : Nat) (v : Nat) (y2 : Int32) : (Int32 × Mm) → Option ((Int32 × Mm) ⊕ (Mm)) :=
  fun q => match q with
  | (y3, mm) =>
    if (mm.1 r 3) ≤ y3 then
      some (.inr mm)
    else
      if (f_X11_contains y2 y3) = 0 then
        if y3 < 0 ∨ 12 ≤ y3.toNatClampNeg then none else
          if y3 < 0 ∨ 12 ≤ y3.toNatClampNeg then none else
            bi1 (f_X2_unite mm (mm.1 (r + 6) y3.toNatClampNeg) (mm.1 (r + 7) y3.toNatClampNeg)) fun mm_15 => some (.inl ((y3 + 1), mm_15))
      else
        some (.inl ((y3 + 1), mm))
noncomputable def f_X2_join (mm : Mm) (r : Nat) (v : Nat) (x2 : Int32) : Option (Mm) :=
  bi1 (lp (f_X2_join_s2 r v x2) ((0 : Int32), mm)) fun mm_10 =>
    bi1 (lp (f_X2_join_s49 r v x2) ((0 : Int32), mm_10)) fun mm_18 =>
      some mm_18
set_option maxHeartbeats 4000000 in
set_option maxRecDepth 100000 in
theorem c_X2_join (l : Launch) (D : va_G) (dA : Nat → ClassId) (zz : (Nat → Nat) × (Nat → Nat)) (bs : Nat) (mm : Mm) (r : Nat) (v : Nat) (hr : isRaft r v) (x2 : Int32) (m1 : Mm) (hf : f_X2_join mm r v x2 = some m1) : Mw l D dA zz bs LY yX2_join cX2_join 4 none 2 45 [.ref (bs + 229), .ref (bs + r), .int x2] mm none m1 := by
  refine Mw.of (own := RX2) (by decide) rfl (Nat.le_of_ble_eq_true rfl) ?_
  intro p e s m args below meth c X hr0 hP hS ls hl
  have hx := X.1
  have hb := X.2.1
  obtain ⟨H, hH⟩ : ∃ z : Heap, z = s.heap := ⟨_, rfl⟩
  obtain ⟨locs, hL⟩ : ∃ z : List Loc, z = [] := ⟨_, rfl⟩
  rw [← hH, ← hL]
  have hS : va_S (Aq bs) s.heap H locs := by rw [hH, hL]; exact hS
  have hP : Wd D dA bs LY mm H := by rw [hH]; exact hP
  have hl : lv_has ls 4 [(0, .ref (bs + 229)), (1, .ref (bs + r)), (2, .int x2)] := hl
  unfold f_X2_join at hf
  refine lv_iconst (v := 0) hx hb dX2_join_0 (by decide) ?_
  refine lv_istore_n (lv' := [(3, .int (0 : Int32)), (0, .ref (bs + 229)), (1, .ref (bs + r)), (2, .int x2)]) hx hb dX2_join_1 rfl hl (by decide) rfl (fun ls hl => ?_)
  obtain ⟨q_21, hlp_22, hf⟩ := bi1S hf
  refine lp_walk (Wh := (fun z => match z with | (y3L_9, mmL_9) => ∀ (H : Heap) (locs : List Loc) (ls : Array Slot), Wd D dA bs LY mmL_9 H → va_S (Aq bs) s.heap H locs → lv_has ls 4 [(0, .ref (bs + 229)), (1, .ref (bs + r)), (2, .int x2), (3, .int y3L_9)] → Wz p l e s m args below meth c D dA bs none m1 2 45 H locs 2 ls [])) (Ph := (fun mm_10 => ∀ (H : Heap) (locs : List Loc) (ls : Array Slot), Wd D dA bs LY mm_10 H → va_S (Aq bs) s.heap H locs → lv_has ls 4 [(0, .ref (bs + 229)), (1, .ref (bs + r)), (2, .int x2)] → Wz p l e s m args below meth c D dA bs none m1 2 45 H locs 47 ls [])) ?_ hlp_22 ?_ H locs ls hP hS (lv_sub hl [1, 2, 3, 0] rfl)
  · intro z o hf hB hE
    obtain ⟨y3L_9, mmL_9⟩ := z
    intro H locs ls hP hS hl
    have hf : f_X2_join_s2 r v x2 (y3L_9, mmL_9) = some o := hf
    unfold f_X2_join_s2 at hf
    dsimp only at hf
    have hJ40 : ∀ (mmJ_3 : Mm) (y3J_3 : Int32) (z0J_3 : Int32) (z1J_3 : Int32) (H : Heap) (locs : List Loc) (ls : Array Slot), f_X2_join_j40 r v mmJ_3 x2 y3J_3 z0J_3 z1J_3 = some o → Wd D dA bs LY mmJ_3 H → va_S (Aq bs) s.heap H locs → lv_has ls 4 [(0, .ref (bs + 229)), (1, .ref (bs + r)), (2, .int x2), (3, .int y3J_3)] → Wz p l e s m args below meth c D dA bs none m1 2 45 H locs 40 ls [.int z0J_3, .int z1J_3, .ref (bs + 230)] := by
      intro mmJ_3 y3J_3 z0J_3 z1J_3 H locs ls hf hP hS hl
      unfold f_X2_join_j40 at hf
      have g_2 := gdN hf
      have hf := gdK hf
      refine wd_iast X hP hS L230 g_2 dX2_join_40 (fun H locs mm_1 emm_1 hP hS => ?_)
      have hf := vl hf emm_1
      refine lv_iinc (v := (y3J_3 + 1)) (lv' := [(3, .int (y3J_3 + 1)), (0, .ref (bs + 229)), (1, .ref (bs + r)), (2, .int x2)]) hx hb dX2_join_41 hl (k := 3) rfl rfl (by decide) rfl (fun ls hl => ?_)
      refine lv_goto (tgt := 2) hx hb dX2_join_44 (by decide) ?_
      obtain rfl := Option.some.inj hf
      exact hB _ rfl H locs ls hP hS (lv_sub hl [1, 2, 3, 0] rfl)
    have hJ39 : ∀ (mmJ_4 : Mm) (y3J_4 : Int32) (z0J_4 : Int32) (H : Heap) (locs : List Loc) (ls : Array Slot), f_X2_join_j39 r v mmJ_4 x2 y3J_4 z0J_4 = some o → Wd D dA bs LY mmJ_4 H → va_S (Aq bs) s.heap H locs → lv_has ls 4 [(0, .ref (bs + 229)), (1, .ref (bs + r)), (2, .int x2), (3, .int y3J_4)] → Wz p l e s m args below meth c D dA bs none m1 2 45 H locs 39 ls [.int z0J_4, .ref (bs + 230)] := by
      intro mmJ_4 y3J_4 z0J_4 H locs ls hf hP hS hl
      unfold f_X2_join_j39 at hf
      refine lv_iconst (v := 0) hx hb dX2_join_39 (by decide) ?_
      exact hJ40 mmJ_4 y3J_4 (0 : Int32) z0J_4 H locs ls hf hP hS (lv_sub hl [0, 1, 2, 3] rfl)
    refine lv_iload_n hx hb dX2_join_2 rfl (lv_at hl 3 rfl) ?_
    refine lv_bipush (v := 8) hx hb dX2_join_3 (by decide) ?_
    refine lv_icmp_ge (tgt := 47) hx hb dX2_join_5 (by decide) (fun c_5 => ?_) (fun c_5 => ?_)
    · have hf := itT hf c_5
      obtain rfl := Option.some.inj hf
      exact hE _ rfl H locs ls hP hS (lv_sub hl [0, 1, 2] rfl)
    · have hf := itF hf c_5
      refine lv_aload_n hx hb dX2_join_8 rfl (lv_at hl 0 rfl) ?_
      refine wd_getR (q := 230) X hP L229 fl_X2_9 rfl dX2_join_9 ?_
      refine lv_iload_n hx hb dX2_join_12 rfl (lv_at hl 3 rfl) ?_
      refine lv_iload_n hx hb dX2_join_13 rfl (lv_at hl 3 rfl) ?_
      refine lv_aload_n hx hb dX2_join_14 rfl (lv_at hl 1 rfl) ?_
      refine wd_getR (q := v) X hP (isRaft.a0 hr) fl_X2_22 rfl dX2_join_15 ?_
      refine wd_getI X hP (isRiver.a0 (isRaft.a9 hr)) fl_X2_44 rfl dX2_join_18 ?_
      refine lv_icmp_ge (tgt := 39) hx hb dX2_join_21 (by decide) (fun c_6 => ?_) (fun c_6 => ?_)
      · have hf := itT hf c_6
        exact hJ39 mmL_9 y3L_9 y3L_9 H locs ls hf hP hS (lv_sub hl [0, 1, 2, 3] rfl)
      · have hf := itF hf c_6
        refine lv_aload_n hx hb dX2_join_24 rfl (lv_at hl 1 rfl) ?_
        refine wd_getR (q := r + 4) X hP (isRaft.a0 hr) fl_X2_47 rfl dX2_join_25 ?_
        refine lv_iload_n hx hb dX2_join_28 rfl (lv_at hl 3 rfl) ?_
        have g_7 := gdN hf
        have hf := gdK hf
        refine wd_iald X hP (isRaft.a4 hr) g_7 dX2_join_29 ?_
        refine lv_if_ne (tgt := 39) hx hb dX2_join_30 (by decide) (fun c_8 => ?_) (fun c_8 => ?_)
        · have hf := itF hf c_8
          exact hJ39 mmL_9 y3L_9 y3L_9 H locs ls hf hP hS (lv_sub hl [0, 1, 2, 3] rfl)
        · have hf := itT hf c_8
          refine lv_iconst (v := 1) hx hb dX2_join_33 (by decide) ?_
          refine lv_iload_n hx hb dX2_join_34 rfl (lv_at hl 3 rfl) ?_
          refine lv_ishl hx hb dX2_join_35 ?_
          refine lv_goto (tgt := 40) hx hb dX2_join_36 (by decide) ?_
          exact hJ40 mmL_9 y3L_9 ((1 : Int32) <<< (y3L_9 &&& 31)) y3L_9 H locs ls hf hP hS (lv_sub hl [0, 1, 2, 3] rfl)
  · obtain ⟨mm_10, e_mm_10⟩ : ∃ z, z = q_21 := ⟨_, rfl⟩
    subst e_mm_10
    intro H locs ls hP hS hl
    refine lv_iconst (v := 0) hx hb dX2_join_47 (by decide) ?_
    refine lv_istore_n (lv' := [(3, .int (0 : Int32)), (0, .ref (bs + 229)), (1, .ref (bs + r)), (2, .int x2)]) hx hb dX2_join_48 rfl hl (by decide) rfl (fun ls hl => ?_)
    obtain ⟨q_19, hlp_20, hf⟩ := bi1S hf
    refine lp_walk (Wh := (fun z => match z with | (y3L_17, mmL_17) => ∀ (H : Heap) (locs : List Loc) (ls : Array Slot), Wd D dA bs LY mmL_17 H → va_S (Aq bs) s.heap H locs → lv_has ls 4 [(0, .ref (bs + 229)), (1, .ref (bs + r)), (2, .int x2), (3, .int y3L_17)] → Wz p l e s m args below meth c D dA bs none m1 2 45 H locs 49 ls [])) (Ph := (fun mm_18 => ∀ (H : Heap) (locs : List Loc) (ls : Array Slot), Wd D dA bs LY mm_18 H → va_S (Aq bs) s.heap H locs → lv_has ls 4 [] → Wz p l e s m args below meth c D dA bs none m1 2 45 H locs 87 ls [])) ?_ hlp_20 ?_ H locs ls hP hS (lv_sub hl [1, 2, 3, 0] rfl)
    · intro z o hf hB hE
      obtain ⟨y3L_17, mmL_17⟩ := z
      intro H locs ls hP hS hl
      have hf : f_X2_join_s49 r v x2 (y3L_17, mmL_17) = some o := hf
      unfold f_X2_join_s49 at hf
      dsimp only at hf
      refine lv_iload_n hx hb dX2_join_49 rfl (lv_at hl 3 rfl) ?_
      refine lv_aload_n hx hb dX2_join_50 rfl (lv_at hl 1 rfl) ?_
      refine wd_getI X hP (isRaft.a0 hr) fl_X2_50 rfl dX2_join_51 ?_
      refine lv_icmp_ge (tgt := 87) hx hb dX2_join_54 (by decide) (fun c_11 => ?_) (fun c_11 => ?_)
      · have hf := itT hf c_11
        obtain rfl := Option.some.inj hf
        exact hE _ rfl H locs ls hP hS (lv_sub hl [] rfl)
      · have hf := itF hf c_11
        refine lv_iload_n hx hb dX2_join_57 rfl (lv_at hl 2 rfl) ?_
        refine lv_iload_n hx hb dX2_join_58 rfl (lv_at hl 3 rfl) ?_
        refine wd_cn X hP hS ml_X2_53 (c_X11_contains l D dA zz bs mmL_17 x2 y3L_17 (f_X11_contains x2 y3L_17) rfl) rfl ⟨Nat.le_of_ble_eq_true rfl, Nat.le_of_ble_eq_true rfl⟩ hl.1 rfl (rest := []) (Nat.le_of_ble_eq_true rfl) ⟨Nat.zero_le _, Nat.zero_le _⟩ dX2_join_59 (fun H locs hP hS => ?_)
        refine W.eq (g2 := F0 m 62 ls [.int (f_X11_contains x2 y3L_17)]) rfl ?_
        refine lv_if_ne (tgt := 81) hx hb dX2_join_62 (by decide) (fun c_12 => ?_) (fun c_12 => ?_)
        · have hf := itF hf c_12
          refine lv_iinc (v := (y3L_17 + 1)) (lv' := [(3, .int (y3L_17 + 1)), (0, .ref (bs + 229)), (1, .ref (bs + r)), (2, .int x2)]) hx hb dX2_join_81 hl (k := 3) rfl rfl (by decide) rfl (fun ls hl => ?_)
          refine lv_goto (tgt := 49) hx hb dX2_join_84 (by decide) ?_
          obtain rfl := Option.some.inj hf
          exact hB _ rfl H locs ls hP hS (lv_sub hl [1, 2, 3, 0] rfl)
        · have hf := itT hf c_12
          refine lv_aload_n hx hb dX2_join_65 rfl (lv_at hl 0 rfl) ?_
          refine lv_aload_n hx hb dX2_join_66 rfl (lv_at hl 1 rfl) ?_
          refine wd_getR (q := r + 6) X hP (isRaft.a0 hr) fl_X2_57 rfl dX2_join_67 ?_
          refine lv_iload_n hx hb dX2_join_70 rfl (lv_at hl 3 rfl) ?_
          have g_13 := gdN hf
          have hf := gdK hf
          refine wd_iald X hP (isRaft.a6 hr) g_13 dX2_join_71 ?_
          refine lv_aload_n hx hb dX2_join_72 rfl (lv_at hl 1 rfl) ?_
          refine wd_getR (q := r + 7) X hP (isRaft.a0 hr) fl_X2_60 rfl dX2_join_73 ?_
          refine lv_iload_n hx hb dX2_join_76 rfl (lv_at hl 3 rfl) ?_
          have g_14 := gdN hf
          have hf := gdK hf
          refine wd_iald X hP (isRaft.a7 hr) g_14 dX2_join_77 ?_
          obtain ⟨mm_15, hc_16, hf⟩ := bi1S hf
          refine wd_cv X hP hS L229 ml_X2_63 ⟨_, _, rfl⟩ (c_X2_unite l D dA zz bs mmL_17 (mmL_17.1 (r + 6) y3L_17.toNatClampNeg) (mmL_17.1 (r + 7) y3L_17.toNatClampNeg) mm_15 hc_16) rfl ⟨Nat.le_of_ble_eq_true rfl, Nat.le_of_ble_eq_true rfl⟩ hl.1 rfl (rest := []) (Nat.le_of_ble_eq_true rfl) ⟨Nat.zero_le _, Nat.zero_le _⟩ dX2_join_78 (fun H locs hP hS => ?_)
          refine W.eq (g2 := F0 m 81 ls []) rfl ?_
          refine lv_iinc (v := (y3L_17 + 1)) (lv' := [(3, .int (y3L_17 + 1)), (0, .ref (bs + 229)), (1, .ref (bs + r)), (2, .int x2)]) hx hb dX2_join_81 hl (k := 3) rfl rfl (by decide) rfl (fun ls hl => ?_)
          refine lv_goto (tgt := 49) hx hb dX2_join_84 (by decide) ?_
          obtain rfl := Option.some.inj hf
          exact hB _ rfl H locs ls hP hS (lv_sub hl [1, 2, 3, 0] rfl)
    · obtain ⟨mm_18, e_mm_18⟩ : ∃ z, z = q_19 := ⟨_, rfl⟩
      subst e_mm_18
      intro H locs ls hP hS hl
      obtain rfl := Option.some.inj hf
      exact wd_vret X hP hS hr0 dX2_join_87 ⟨rfl, rfl⟩

noncomputable def f_X4_thingsOf_s4 (r : Nat) (v : Nat) (mm : Mm) (y1 : Int32) : (Int32 × Int32) → Option ((Int32 × Int32) ⊕ (Int32)) :=
  fun q => match q with
  | (y2, y3) =>
    if (mm.1 v 2) ≤ y3 then
      some (.inr y2)
    else
      if y3 < 0 ∨ 8 ≤ y3.toNatClampNeg then none else
        if (mm.1 (r + 2) y3.toNatClampNeg) = y1 then
          if y3 < 0 ∨ 8 ≤ y3.toNatClampNeg then none else
            if (mm.1 (r + 4) y3.toNatClampNeg) = 0 then
              vlet (y2 ||| ((1 : Int32) <<< (y3 &&& 31))) fun (x2_6 : Int32) => some (.inl (x2_6, (y3 + 1)))
            else
              some (.inl (y2, (y3 + 1)))
        else
          some (.inl (y2, (y3 + 1)))
noncomputable def f_X4_thingsOf (mm : Mm) (r : Nat) (v : Nat) (x1 : Int32) : Option (Int32) :=
  bi1 (lp (f_X4_thingsOf_s4 r v mm x1) ((0 : Int32), (0 : Int32))) fun w2_8 =>
    some w2_8
set_option maxHeartbeats 4000000 in
set_option maxRecDepth 100000 in
theorem c_X4_thingsOf (l : Launch) (D : va_G) (dA : Nat → ClassId) (zz : (Nat → Nat) × (Nat → Nat)) (bs : Nat) (mm : Mm) (r : Nat) (v : Nat) (hr : isRaft r v) (x1 : Int32) (out : Int32) (hf : f_X4_thingsOf mm r v x1 = some out) : Mw l D dA zz bs LY yX4_thingsOf cX4_thingsOf 4 (some .int) 0 0 [.ref (bs + r), .int x1] mm (some (.int out)) mm := by
  refine Mw.of (own := RX4) (by decide) rfl (Nat.le_of_ble_eq_true rfl) ?_
  intro p e s m args below meth c X hr0 hP hS ls hl
  have hx := X.1
  have hb := X.2.1
  obtain ⟨H, hH⟩ : ∃ z : Heap, z = s.heap := ⟨_, rfl⟩
  obtain ⟨locs, hL⟩ : ∃ z : List Loc, z = [] := ⟨_, rfl⟩
  rw [← hH, ← hL]
  have hS : va_S (Aq bs) s.heap H locs := by rw [hH, hL]; exact hS
  have hP : Wd D dA bs LY mm H := by rw [hH]; exact hP
  have hl : lv_has ls 4 [(0, .ref (bs + r)), (1, .int x1)] := hl
  unfold f_X4_thingsOf at hf
  refine lv_iconst (v := 0) hx hb dX4_thingsOf_0 (by decide) ?_
  refine lv_istore_n (lv' := [(2, .int (0 : Int32)), (0, .ref (bs + r)), (1, .int x1)]) hx hb dX4_thingsOf_1 rfl hl (by decide) rfl (fun ls hl => ?_)
  refine lv_iconst (v := 0) hx hb dX4_thingsOf_2 (by decide) ?_
  refine lv_istore_n (lv' := [(3, .int (0 : Int32)), (2, .int (0 : Int32)), (0, .ref (bs + r)), (1, .int x1)]) hx hb dX4_thingsOf_3 rfl hl (by decide) rfl (fun ls hl => ?_)
  obtain ⟨q_9, hlp_10, hf⟩ := bi1S hf
  refine lp_walk (Wh := (fun z => match z with | (y2L_7, y3L_7) => ∀ (H : Heap) (locs : List Loc) (ls : Array Slot), Wd D dA bs LY mm H → va_S (Aq bs) s.heap H locs → lv_has ls 4 [(0, .ref (bs + r)), (1, .int x1), (2, .int y2L_7), (3, .int y3L_7)] → Wz p l e s m args below meth c D dA bs (some (.int out)) mm 0 0 H locs 4 ls [])) (Ph := (fun w2_8 => ∀ (H : Heap) (locs : List Loc) (ls : Array Slot), Wd D dA bs LY mm H → va_S (Aq bs) s.heap H locs → lv_has ls 4 [(2, .int w2_8)] → Wz p l e s m args below meth c D dA bs (some (.int out)) mm 0 0 H locs 46 ls [])) ?_ hlp_10 ?_ H locs ls hP hS (lv_sub hl [2, 3, 1, 0] rfl)
  · intro z o hf hB hE
    obtain ⟨y2L_7, y3L_7⟩ := z
    intro H locs ls hP hS hl
    have hf : f_X4_thingsOf_s4 r v mm x1 (y2L_7, y3L_7) = some o := hf
    unfold f_X4_thingsOf_s4 at hf
    dsimp only at hf
    refine lv_iload_n hx hb dX4_thingsOf_4 rfl (lv_at hl 3 rfl) ?_
    refine lv_aload_n hx hb dX4_thingsOf_5 rfl (lv_at hl 0 rfl) ?_
    refine wd_getR (q := v) X hP (isRaft.a0 hr) fl_X4_36 rfl dX4_thingsOf_6 ?_
    refine wd_getI X hP (isRiver.a0 (isRaft.a9 hr)) fl_X4_67 rfl dX4_thingsOf_9 ?_
    refine lv_icmp_ge (tgt := 46) hx hb dX4_thingsOf_12 (by decide) (fun c_1 => ?_) (fun c_1 => ?_)
    · have hf := itT hf c_1
      obtain rfl := Option.some.inj hf
      exact hE _ rfl H locs ls hP hS (lv_sub hl [2] rfl)
    · have hf := itF hf c_1
      refine lv_aload_n hx hb dX4_thingsOf_15 rfl (lv_at hl 0 rfl) ?_
      refine wd_getR (q := r + 2) X hP (isRaft.a0 hr) fl_X4_15 rfl dX4_thingsOf_16 ?_
      refine lv_iload_n hx hb dX4_thingsOf_19 rfl (lv_at hl 3 rfl) ?_
      have g_2 := gdN hf
      have hf := gdK hf
      refine wd_iald X hP (isRaft.a2 hr) g_2 dX4_thingsOf_20 ?_
      refine lv_iload_n hx hb dX4_thingsOf_21 rfl (lv_at hl 1 rfl) ?_
      refine lv_icmp_ne (tgt := 40) hx hb dX4_thingsOf_22 (by decide) (fun c_3 => ?_) (fun c_3 => ?_)
      · have hf := itF hf c_3
        refine lv_iinc (v := (y3L_7 + 1)) (lv' := [(3, .int (y3L_7 + 1)), (0, .ref (bs + r)), (1, .int x1), (2, .int y2L_7)]) hx hb dX4_thingsOf_40 hl (k := 3) rfl rfl (by decide) rfl (fun ls hl => ?_)
        refine lv_goto (tgt := 4) hx hb dX4_thingsOf_43 (by decide) ?_
        obtain rfl := Option.some.inj hf
        exact hB _ rfl H locs ls hP hS (lv_sub hl [1, 2, 3, 0] rfl)
      · have hf := itT hf c_3
        refine lv_aload_n hx hb dX4_thingsOf_25 rfl (lv_at hl 0 rfl) ?_
        refine wd_getR (q := r + 4) X hP (isRaft.a0 hr) fl_X4_21 rfl dX4_thingsOf_26 ?_
        refine lv_iload_n hx hb dX4_thingsOf_29 rfl (lv_at hl 3 rfl) ?_
        have g_4 := gdN hf
        have hf := gdK hf
        refine wd_iald X hP (isRaft.a4 hr) g_4 dX4_thingsOf_30 ?_
        refine lv_if_ne (tgt := 40) hx hb dX4_thingsOf_31 (by decide) (fun c_5 => ?_) (fun c_5 => ?_)
        · have hf := itF hf c_5
          refine lv_iinc (v := (y3L_7 + 1)) (lv' := [(3, .int (y3L_7 + 1)), (0, .ref (bs + r)), (1, .int x1), (2, .int y2L_7)]) hx hb dX4_thingsOf_40 hl (k := 3) rfl rfl (by decide) rfl (fun ls hl => ?_)
          refine lv_goto (tgt := 4) hx hb dX4_thingsOf_43 (by decide) ?_
          obtain rfl := Option.some.inj hf
          exact hB _ rfl H locs ls hP hS (lv_sub hl [1, 2, 3, 0] rfl)
        · have hf := itT hf c_5
          refine lv_iload_n hx hb dX4_thingsOf_34 rfl (lv_at hl 2 rfl) ?_
          refine lv_iconst (v := 1) hx hb dX4_thingsOf_35 (by decide) ?_
          refine lv_iload_n hx hb dX4_thingsOf_36 rfl (lv_at hl 3 rfl) ?_
          refine lv_ishl hx hb dX4_thingsOf_37 ?_
          refine lv_ior hx hb dX4_thingsOf_38 ?_
          refine lv_topi (fun x2_6 ex2_6 => ?_)
          have hf := vl hf ex2_6
          refine lv_istore_n (lv' := [(2, .int x2_6), (0, .ref (bs + r)), (1, .int x1), (3, .int y3L_7)]) hx hb dX4_thingsOf_39 rfl hl (by decide) rfl (fun ls hl => ?_)
          refine lv_iinc (v := (y3L_7 + 1)) (lv' := [(3, .int (y3L_7 + 1)), (2, .int x2_6), (0, .ref (bs + r)), (1, .int x1)]) hx hb dX4_thingsOf_40 hl (k := 3) rfl rfl (by decide) rfl (fun ls hl => ?_)
          refine lv_goto (tgt := 4) hx hb dX4_thingsOf_43 (by decide) ?_
          obtain rfl := Option.some.inj hf
          exact hB _ rfl H locs ls hP hS (lv_sub hl [2, 3, 1, 0] rfl)
  · obtain ⟨w2_8, e_w2_8⟩ : ∃ z, z = q_9 := ⟨_, rfl⟩
    subst e_w2_8
    intro H locs ls hP hS hl
    refine lv_iload_n hx hb dX4_thingsOf_46 rfl (lv_at hl 0 rfl) ?_
    obtain rfl := Option.some.inj hf
    exact wd_iret X hP hS hr0 dX4_thingsOf_47 ⟨rfl, rfl⟩

noncomputable def f_J6_bitCount_0f7a4 (x0 : Int32) : Int32 :=
  vlet (x0 - (((x0.toUInt32 >>> ((1 : Int32).toUInt32 &&& Int32.toUInt32 31)).toInt32) &&& (1431655765 : Int32))) fun (x0_1 : Int32) =>
    vlet ((x0_1 &&& (858993459 : Int32)) + (((x0_1.toUInt32 >>> ((2 : Int32).toUInt32 &&& Int32.toUInt32 31)).toInt32) &&& (858993459 : Int32))) fun (x0_2 : Int32) =>
      vlet ((x0_2 + ((x0_2.toUInt32 >>> ((4 : Int32).toUInt32 &&& Int32.toUInt32 31)).toInt32)) &&& (252645135 : Int32)) fun (x0_3 : Int32) =>
        vlet (x0_3 + ((x0_3.toUInt32 >>> ((8 : Int32).toUInt32 &&& Int32.toUInt32 31)).toInt32)) fun (x0_4 : Int32) =>
          vlet (x0_4 + ((x0_4.toUInt32 >>> ((16 : Int32).toUInt32 &&& Int32.toUInt32 31)).toInt32)) fun (x0_5 : Int32) => (x0_5 &&& (63 : Int32))
set_option maxHeartbeats 4000000 in
set_option maxRecDepth 100000 in
theorem c_J6_bitCount_0f7a4 (l : Launch) (D : va_G) (dA : Nat → ClassId) (zz : (Nat → Nat) × (Nat → Nat)) (bs : Nat) (mm : Mm) (x0 : Int32) (out : Int32) (hf : f_J6_bitCount_0f7a4 x0 = out) : Mw l D dA zz bs LY yJ6_bitCount_0f7a4 cJ6_bitCount_0f7a4 1 (some .int) 0 0 [.int x0] mm (some (.int out)) mm := by
  refine Mw.of (own := RJ6) (by decide) rfl (Nat.le_of_ble_eq_true rfl) ?_
  intro p e s m args below meth c X hr0 hP hS ls hl
  have hx := X.1
  have hb := X.2.1
  obtain ⟨H, hH⟩ : ∃ z : Heap, z = s.heap := ⟨_, rfl⟩
  obtain ⟨locs, hL⟩ : ∃ z : List Loc, z = [] := ⟨_, rfl⟩
  rw [← hH, ← hL]
  have hS : va_S (Aq bs) s.heap H locs := by rw [hH, hL]; exact hS
  have hP : Wd D dA bs LY mm H := by rw [hH]; exact hP
  have hl : lv_has ls 1 [(0, .int x0)] := hl
  unfold f_J6_bitCount_0f7a4 at hf
  refine lv_iload_n hx hb dJ6_bitCount_0f7a4_0 rfl (lv_at hl 0 rfl) ?_
  refine lv_iload_n hx hb dJ6_bitCount_0f7a4_1 rfl (lv_at hl 0 rfl) ?_
  refine lv_iconst (v := 1) hx hb dJ6_bitCount_0f7a4_2 (by decide) ?_
  refine lv_iushr hx hb dJ6_bitCount_0f7a4_3 rfl ?_
  refine lv_ldcw (own := RJ6) (v := 1431655765) hx hb X.2.2.2.1 (X.2.2.2.2.1 _ (tb_at 774 (by decide +kernel) (by decide +kernel))) dJ6_bitCount_0f7a4_4 ?_
  refine lv_iand hx hb dJ6_bitCount_0f7a4_7 ?_
  refine lv_isub hx hb dJ6_bitCount_0f7a4_8 ?_
  refine lv_topi (fun x0_1 ex0_1 => ?_)
  have hf := vl hf ex0_1
  refine lv_istore_n (lv' := [(0, .int x0_1)]) hx hb dJ6_bitCount_0f7a4_9 rfl hl (by decide) rfl (fun ls hl => ?_)
  refine lv_iload_n hx hb dJ6_bitCount_0f7a4_10 rfl (lv_at hl 0 rfl) ?_
  refine lv_ldcw (own := RJ6) (v := 858993459) hx hb X.2.2.2.1 (X.2.2.2.2.1 _ (tb_at 775 (by decide +kernel) (by decide +kernel))) dJ6_bitCount_0f7a4_11 ?_
  refine lv_iand hx hb dJ6_bitCount_0f7a4_14 ?_
  refine lv_iload_n hx hb dJ6_bitCount_0f7a4_15 rfl (lv_at hl 0 rfl) ?_
  refine lv_iconst (v := 2) hx hb dJ6_bitCount_0f7a4_16 (by decide) ?_
  refine lv_iushr hx hb dJ6_bitCount_0f7a4_17 rfl ?_
  refine lv_ldcw (own := RJ6) (v := 858993459) hx hb X.2.2.2.1 (X.2.2.2.2.1 _ (tb_at 775 (by decide +kernel) (by decide +kernel))) dJ6_bitCount_0f7a4_18 ?_
  refine lv_iand hx hb dJ6_bitCount_0f7a4_21 ?_
  refine lv_iadd hx hb dJ6_bitCount_0f7a4_22 ?_
  refine lv_topi (fun x0_2 ex0_2 => ?_)
  have hf := vl hf ex0_2
  refine lv_istore_n (lv' := [(0, .int x0_2)]) hx hb dJ6_bitCount_0f7a4_23 rfl hl (by decide) rfl (fun ls hl => ?_)
  refine lv_iload_n hx hb dJ6_bitCount_0f7a4_24 rfl (lv_at hl 0 rfl) ?_
  refine lv_iload_n hx hb dJ6_bitCount_0f7a4_25 rfl (lv_at hl 0 rfl) ?_
  refine lv_iconst (v := 4) hx hb dJ6_bitCount_0f7a4_26 (by decide) ?_
  refine lv_iushr hx hb dJ6_bitCount_0f7a4_27 rfl ?_
  refine lv_iadd hx hb dJ6_bitCount_0f7a4_28 ?_
  refine lv_ldcw (own := RJ6) (v := 252645135) hx hb X.2.2.2.1 (X.2.2.2.2.1 _ (tb_at 776 (by decide +kernel) (by decide +kernel))) dJ6_bitCount_0f7a4_29 ?_
  refine lv_iand hx hb dJ6_bitCount_0f7a4_32 ?_
  refine lv_topi (fun x0_3 ex0_3 => ?_)
  have hf := vl hf ex0_3
  refine lv_istore_n (lv' := [(0, .int x0_3)]) hx hb dJ6_bitCount_0f7a4_33 rfl hl (by decide) rfl (fun ls hl => ?_)
  refine lv_iload_n hx hb dJ6_bitCount_0f7a4_34 rfl (lv_at hl 0 rfl) ?_
  refine lv_iload_n hx hb dJ6_bitCount_0f7a4_35 rfl (lv_at hl 0 rfl) ?_
  refine lv_bipush (v := 8) hx hb dJ6_bitCount_0f7a4_36 (by decide) ?_
  refine lv_iushr hx hb dJ6_bitCount_0f7a4_38 rfl ?_
  refine lv_iadd hx hb dJ6_bitCount_0f7a4_39 ?_
  refine lv_topi (fun x0_4 ex0_4 => ?_)
  have hf := vl hf ex0_4
  refine lv_istore_n (lv' := [(0, .int x0_4)]) hx hb dJ6_bitCount_0f7a4_40 rfl hl (by decide) rfl (fun ls hl => ?_)
  refine lv_iload_n hx hb dJ6_bitCount_0f7a4_41 rfl (lv_at hl 0 rfl) ?_
  refine lv_iload_n hx hb dJ6_bitCount_0f7a4_42 rfl (lv_at hl 0 rfl) ?_
  refine lv_bipush (v := 16) hx hb dJ6_bitCount_0f7a4_43 (by decide) ?_
  refine lv_iushr hx hb dJ6_bitCount_0f7a4_45 rfl ?_
  refine lv_iadd hx hb dJ6_bitCount_0f7a4_46 ?_
  refine lv_topi (fun x0_5 ex0_5 => ?_)
  have hf := vl hf ex0_5
  refine lv_istore_n (lv' := [(0, .int x0_5)]) hx hb dJ6_bitCount_0f7a4_47 rfl hl (by decide) rfl (fun ls hl => ?_)
  refine lv_iload_n hx hb dJ6_bitCount_0f7a4_48 rfl (lv_at hl 0 rfl) ?_
  refine lv_bipush (v := 63) hx hb dJ6_bitCount_0f7a4_49 (by decide) ?_
  refine lv_iand hx hb dJ6_bitCount_0f7a4_51 ?_
  subst hf
  exact wd_iret X hP hS hr0 dJ6_bitCount_0f7a4_52 ⟨rfl, rfl⟩

noncomputable def f_X2_isLeast (mm : Mm) (x1 : Int32) : Option (Int32) :=
  vlet (((1 : Int32) <<< (x1 &&& 31)) - (1 : Int32)) fun (x2_1 : Int32) =>
    if x1 < 0 ∨ 8 ≤ x1.toNatClampNeg then none else
      if (mm.1 230 x1.toNatClampNeg) = 0 then
        some (0 : Int32)
      else
        if x1 < 0 ∨ 8 ≤ x1.toNatClampNeg then none else
          if ((mm.1 230 x1.toNatClampNeg) &&& x2_1) = 0 then
            some (1 : Int32)
          else
            some (0 : Int32)
set_option maxHeartbeats 4000000 in
set_option maxRecDepth 100000 in
theorem c_X2_isLeast (l : Launch) (D : va_G) (dA : Nat → ClassId) (zz : (Nat → Nat) × (Nat → Nat)) (bs : Nat) (mm : Mm) (x1 : Int32) (out : Int32) (hf : f_X2_isLeast mm x1 = some out) : Mw l D dA zz bs LY yX2_isLeast cX2_isLeast 3 (some .boolean) 0 0 [.ref (bs + 229), .int x1] mm (some (.int out)) mm := by
  refine Mw.of (own := RX2) (by decide) rfl (Nat.le_of_ble_eq_true rfl) ?_
  intro p e s m args below meth c X hr0 hP hS ls hl
  have hx := X.1
  have hb := X.2.1
  obtain ⟨H, hH⟩ : ∃ z : Heap, z = s.heap := ⟨_, rfl⟩
  obtain ⟨locs, hL⟩ : ∃ z : List Loc, z = [] := ⟨_, rfl⟩
  rw [← hH, ← hL]
  have hS : va_S (Aq bs) s.heap H locs := by rw [hH, hL]; exact hS
  have hP : Wd D dA bs LY mm H := by rw [hH]; exact hP
  have hl : lv_has ls 3 [(0, .ref (bs + 229)), (1, .int x1)] := hl
  unfold f_X2_isLeast at hf
  refine lv_iconst (v := 1) hx hb dX2_isLeast_0 (by decide) ?_
  refine lv_iload_n hx hb dX2_isLeast_1 rfl (lv_at hl 1 rfl) ?_
  refine lv_ishl hx hb dX2_isLeast_2 ?_
  refine lv_iconst (v := 1) hx hb dX2_isLeast_3 (by decide) ?_
  refine lv_isub hx hb dX2_isLeast_4 ?_
  refine lv_topi (fun x2_1 ex2_1 => ?_)
  have hf := vl hf ex2_1
  refine lv_istore_n (lv' := [(2, .int x2_1), (0, .ref (bs + 229)), (1, .int x1)]) hx hb dX2_isLeast_5 rfl hl (by decide) rfl (fun ls hl => ?_)
  refine lv_aload_n hx hb dX2_isLeast_6 rfl (lv_at hl 1 rfl) ?_
  refine wd_getR (q := 230) X hP L229 fl_X2_9 rfl dX2_isLeast_7 ?_
  refine lv_iload_n hx hb dX2_isLeast_10 rfl (lv_at hl 2 rfl) ?_
  have g_2 := gdN hf
  have hf := gdK hf
  refine wd_iald X hP L230 g_2 dX2_isLeast_11 ?_
  refine lv_if_eq (tgt := 30) hx hb dX2_isLeast_12 (by decide) (fun c_3 => ?_) (fun c_3 => ?_)
  · have hf := itT hf c_3
    refine lv_iconst (v := 0) hx hb dX2_isLeast_30 (by decide) ?_
    obtain rfl := Option.some.inj hf
    exact wd_zret X hP hS hr0 (by decide) dX2_isLeast_31 ⟨rfl, rfl⟩
  · have hf := itF hf c_3
    refine lv_aload_n hx hb dX2_isLeast_15 rfl (lv_at hl 1 rfl) ?_
    refine wd_getR (q := 230) X hP L229 fl_X2_9 rfl dX2_isLeast_16 ?_
    refine lv_iload_n hx hb dX2_isLeast_19 rfl (lv_at hl 2 rfl) ?_
    have g_4 := gdN hf
    have hf := gdK hf
    refine wd_iald X hP L230 g_4 dX2_isLeast_20 ?_
    refine lv_iload_n hx hb dX2_isLeast_21 rfl (lv_at hl 0 rfl) ?_
    refine lv_iand hx hb dX2_isLeast_22 ?_
    refine lv_if_ne (tgt := 30) hx hb dX2_isLeast_23 (by decide) (fun c_5 => ?_) (fun c_5 => ?_)
    · have hf := itF hf c_5
      refine lv_iconst (v := 0) hx hb dX2_isLeast_30 (by decide) ?_
      obtain rfl := Option.some.inj hf
      exact wd_zret X hP hS hr0 (by decide) dX2_isLeast_31 ⟨rfl, rfl⟩
    · have hf := itT hf c_5
      refine lv_iconst (v := 1) hx hb dX2_isLeast_26 (by decide) ?_
      refine lv_goto (tgt := 31) hx hb dX2_isLeast_27 (by decide) ?_
      obtain rfl := Option.some.inj hf
      exact wd_zret X hP hS hr0 (by decide) dX2_isLeast_31 ⟨rfl, rfl⟩

noncomputable def f_X2_withMostOf_s7 (mm : Mm) (y1 : Int32) : (Int32 × Int32 × Int32) → Option ((Int32 × Int32 × Int32) ⊕ (Int32)) :=
  fun q => match q with
  | (y2, y3, y4) =>
    if (8 : Int32) ≤ y4 then
      some (.inr y2)
    else
      if y4 < 0 ∨ 8 ≤ y4.toNatClampNeg then none else
        vlet (f_J6_bitCount_0f7a4 ((mm.1 230 y4.toNatClampNeg) &&& y1)) fun (x5_3 : Int32) =>
          bi1 (f_X2_isLeast mm y4) fun r_5 =>
            if r_5 = 0 then
              some (.inl (y2, y3, (y4 + 1)))
            else
              if x5_3 ≤ y3 then
                some (.inl (y2, y3, (y4 + 1)))
              else
                if y4 < 0 ∨ 8 ≤ y4.toNatClampNeg then none else
                  vlet (mm.1 230 y4.toNatClampNeg) fun (x2_9 : Int32) => some (.inl (x2_9, x5_3, (y4 + 1)))
noncomputable def f_X2_withMostOf (mm : Mm) (x1 : Int32) : Option (Int32) :=
  bi1 (lp (f_X2_withMostOf_s7 mm x1) ((0 : Int32), (0 : Int32), (0 : Int32))) fun w2_11 =>
    some w2_11
set_option maxHeartbeats 4000000 in
set_option maxRecDepth 100000 in
theorem c_X2_withMostOf (l : Launch) (D : va_G) (dA : Nat → ClassId) (zz : (Nat → Nat) × (Nat → Nat)) (bs : Nat) (mm : Mm) (x1 : Int32) (out : Int32) (hf : f_X2_withMostOf mm x1 = some out) : Mw l D dA zz bs LY yX2_withMostOf cX2_withMostOf 6 (some .int) 1 22 [.ref (bs + 229), .int x1] mm (some (.int out)) mm := by
  refine Mw.of (own := RX2) (by decide) rfl (Nat.le_of_ble_eq_true rfl) ?_
  intro p e s m args below meth c X hr0 hP hS ls hl
  have hx := X.1
  have hb := X.2.1
  obtain ⟨H, hH⟩ : ∃ z : Heap, z = s.heap := ⟨_, rfl⟩
  obtain ⟨locs, hL⟩ : ∃ z : List Loc, z = [] := ⟨_, rfl⟩
  rw [← hH, ← hL]
  have hS : va_S (Aq bs) s.heap H locs := by rw [hH, hL]; exact hS
  have hP : Wd D dA bs LY mm H := by rw [hH]; exact hP
  have hl : lv_has ls 6 [(0, .ref (bs + 229)), (1, .int x1)] := hl
  unfold f_X2_withMostOf at hf
  refine lv_iconst (v := 0) hx hb dX2_withMostOf_0 (by decide) ?_
  refine lv_istore_n (lv' := [(2, .int (0 : Int32)), (0, .ref (bs + 229)), (1, .int x1)]) hx hb dX2_withMostOf_1 rfl hl (by decide) rfl (fun ls hl => ?_)
  refine lv_iconst (v := 0) hx hb dX2_withMostOf_2 (by decide) ?_
  refine lv_istore_n (lv' := [(3, .int (0 : Int32)), (2, .int (0 : Int32)), (0, .ref (bs + 229)), (1, .int x1)]) hx hb dX2_withMostOf_3 rfl hl (by decide) rfl (fun ls hl => ?_)
  refine lv_iconst (v := 0) hx hb dX2_withMostOf_4 (by decide) ?_
  refine lv_istore (lv' := [(4, .int (0 : Int32)), (3, .int (0 : Int32)), (2, .int (0 : Int32)), (0, .ref (bs + 229)), (1, .int x1)]) hx hb dX2_withMostOf_5 hl (by decide) rfl (fun ls hl => ?_)
  obtain ⟨q_12, hlp_13, hf⟩ := bi1S hf
  refine lp_walk (Wh := (fun z => match z with | (y2L_10, y3L_10, y4L_10) => ∀ (H : Heap) (locs : List Loc) (ls : Array Slot), Wd D dA bs LY mm H → va_S (Aq bs) s.heap H locs → lv_has ls 6 [(0, .ref (bs + 229)), (1, .int x1), (2, .int y2L_10), (3, .int y3L_10), (4, .int y4L_10)] → Wz p l e s m args below meth c D dA bs (some (.int out)) mm 1 22 H locs 7 ls [])) (Ph := (fun w2_11 => ∀ (H : Heap) (locs : List Loc) (ls : Array Slot), Wd D dA bs LY mm H → va_S (Aq bs) s.heap H locs → lv_has ls 6 [(2, .int w2_11)] → Wz p l e s m args below meth c D dA bs (some (.int out)) mm 1 22 H locs 60 ls [])) ?_ hlp_13 ?_ H locs ls hP hS (lv_sub hl [3, 4, 2, 1, 0] rfl)
  · intro z o hf hB hE
    obtain ⟨y2L_10, y3L_10, y4L_10⟩ := z
    intro H locs ls hP hS hl
    have hf : f_X2_withMostOf_s7 mm x1 (y2L_10, y3L_10, y4L_10) = some o := hf
    unfold f_X2_withMostOf_s7 at hf
    dsimp only at hf
    refine lv_iload hx hb dX2_withMostOf_7 (lv_at hl 4 rfl) ?_
    refine lv_bipush (v := 8) hx hb dX2_withMostOf_9 (by decide) ?_
    refine lv_icmp_ge (tgt := 60) hx hb dX2_withMostOf_11 (by decide) (fun c_1 => ?_) (fun c_1 => ?_)
    · have hf := itT hf c_1
      obtain rfl := Option.some.inj hf
      exact hE _ rfl H locs ls hP hS (lv_sub hl [2] rfl)
    · have hf := itF hf c_1
      refine lv_aload_n hx hb dX2_withMostOf_14 rfl (lv_at hl 0 rfl) ?_
      refine wd_getR (q := 230) X hP L229 fl_X2_9 rfl dX2_withMostOf_15 ?_
      refine lv_iload hx hb dX2_withMostOf_18 (lv_at hl 4 rfl) ?_
      have g_2 := gdN hf
      have hf := gdK hf
      refine wd_iald X hP L230 g_2 dX2_withMostOf_20 ?_
      refine lv_iload_n hx hb dX2_withMostOf_21 rfl (lv_at hl 1 rfl) ?_
      refine lv_iand hx hb dX2_withMostOf_22 ?_
      refine wd_cs X hP hS ml_X2_71 (c_J6_bitCount_0f7a4 l D dA zz bs mm ((mm.1 230 y4L_10.toNatClampNeg) &&& x1) (f_J6_bitCount_0f7a4 ((mm.1 230 y4L_10.toNatClampNeg) &&& x1)) rfl) rfl ⟨Nat.le_of_ble_eq_true rfl, Nat.le_of_ble_eq_true rfl⟩ hl.1 rfl (rest := []) (Nat.le_of_ble_eq_true rfl) ⟨Nat.zero_le _, Nat.zero_le _⟩ dX2_withMostOf_23 (fun H locs hP hS => ?_)
      refine W.eq (g2 := F0 m 26 ls [.int (f_J6_bitCount_0f7a4 ((mm.1 230 y4L_10.toNatClampNeg) &&& x1))]) rfl ?_
      refine lv_topi (fun x5_3 ex5_3 => ?_)
      have hf := vl hf ex5_3
      refine lv_istore (lv' := [(5, .int x5_3), (0, .ref (bs + 229)), (1, .int x1), (2, .int y2L_10), (3, .int y3L_10), (4, .int y4L_10)]) hx hb dX2_withMostOf_26 hl (by decide) rfl (fun ls hl => ?_)
      refine lv_aload_n hx hb dX2_withMostOf_28 rfl (lv_at hl 1 rfl) ?_
      refine lv_iload hx hb dX2_withMostOf_29 (lv_at hl 5 rfl) ?_
      obtain ⟨r_5, hc_4, hf⟩ := bi1S hf
      refine wd_cv X hP hS L229 ml_X2_67 ⟨_, _, rfl⟩ (c_X2_isLeast l D dA zz bs mm y4L_10 r_5 hc_4) rfl ⟨Nat.le_of_ble_eq_true rfl, Nat.le_of_ble_eq_true rfl⟩ hl.1 rfl (rest := []) (Nat.le_of_ble_eq_true rfl) ⟨Nat.zero_le _, Nat.zero_le _⟩ dX2_withMostOf_31 (fun H locs hP hS => ?_)
      refine W.eq (g2 := F0 m 34 ls [.int r_5]) rfl ?_
      refine lv_if_eq (tgt := 54) hx hb dX2_withMostOf_34 (by decide) (fun c_6 => ?_) (fun c_6 => ?_)
      · have hf := itT hf c_6
        refine lv_iinc (v := (y4L_10 + 1)) (lv' := [(4, .int (y4L_10 + 1)), (5, .int x5_3), (0, .ref (bs + 229)), (1, .int x1), (2, .int y2L_10), (3, .int y3L_10)]) hx hb dX2_withMostOf_54 hl (k := 5) rfl rfl (by decide) rfl (fun ls hl => ?_)
        refine lv_goto (tgt := 7) hx hb dX2_withMostOf_57 (by decide) ?_
        obtain rfl := Option.some.inj hf
        exact hB _ rfl H locs ls hP hS (lv_sub hl [2, 3, 4, 5, 0] rfl)
      · have hf := itF hf c_6
        refine lv_iload hx hb dX2_withMostOf_37 (lv_at hl 0 rfl) ?_
        refine lv_iload_n hx hb dX2_withMostOf_39 rfl (lv_at hl 4 rfl) ?_
        refine lv_icmp_le (tgt := 54) hx hb dX2_withMostOf_40 (by decide) (fun c_7 => ?_) (fun c_7 => ?_)
        · have hf := itT hf c_7
          refine lv_iinc (v := (y4L_10 + 1)) (lv' := [(4, .int (y4L_10 + 1)), (5, .int x5_3), (0, .ref (bs + 229)), (1, .int x1), (2, .int y2L_10), (3, .int y3L_10)]) hx hb dX2_withMostOf_54 hl (k := 5) rfl rfl (by decide) rfl (fun ls hl => ?_)
          refine lv_goto (tgt := 7) hx hb dX2_withMostOf_57 (by decide) ?_
          obtain rfl := Option.some.inj hf
          exact hB _ rfl H locs ls hP hS (lv_sub hl [2, 3, 4, 5, 0] rfl)
        · have hf := itF hf c_7
          refine lv_iload hx hb dX2_withMostOf_43 (lv_at hl 0 rfl) ?_
          refine lv_istore_n (lv' := [(3, .int x5_3), (5, .int x5_3), (0, .ref (bs + 229)), (1, .int x1), (2, .int y2L_10), (4, .int y4L_10)]) hx hb dX2_withMostOf_45 rfl hl (by decide) rfl (fun ls hl => ?_)
          refine lv_aload_n hx hb dX2_withMostOf_46 rfl (lv_at hl 2 rfl) ?_
          refine wd_getR (q := 230) X hP L229 fl_X2_9 rfl dX2_withMostOf_47 ?_
          refine lv_iload hx hb dX2_withMostOf_50 (lv_at hl 5 rfl) ?_
          have g_8 := gdN hf
          have hf := gdK hf
          refine wd_iald X hP L230 g_8 dX2_withMostOf_52 ?_
          refine lv_topi (fun x2_9 ex2_9 => ?_)
          have hf := vl hf ex2_9
          refine lv_istore_n (lv' := [(2, .int x2_9), (3, .int x5_3), (5, .int x5_3), (0, .ref (bs + 229)), (1, .int x1), (4, .int y4L_10)]) hx hb dX2_withMostOf_53 rfl hl (by decide) rfl (fun ls hl => ?_)
          refine lv_iinc (v := (y4L_10 + 1)) (lv' := [(4, .int (y4L_10 + 1)), (2, .int x2_9), (3, .int x5_3), (5, .int x5_3), (0, .ref (bs + 229)), (1, .int x1)]) hx hb dX2_withMostOf_54 hl (k := 5) rfl rfl (by decide) rfl (fun ls hl => ?_)
          refine lv_goto (tgt := 7) hx hb dX2_withMostOf_57 (by decide) ?_
          obtain rfl := Option.some.inj hf
          exact hB _ rfl H locs ls hP hS (lv_sub hl [4, 5, 1, 2, 0] rfl)
  · obtain ⟨w2_11, e_w2_11⟩ : ∃ z, z = q_12 := ⟨_, rfl⟩
    subst e_w2_11
    intro H locs ls hP hS hl
    refine lv_iload_n hx hb dX2_withMostOf_60 rfl (lv_at hl 0 rfl) ?_
    obtain rfl := Option.some.inj hf
    exact wd_iret X hP hS hr0 dX2_withMostOf_61 ⟨rfl, rfl⟩

noncomputable def f_X2_find_j64 (r : Nat) (v : Nat) (mm : Mm) (y3 : Int32) (z0 : Int32) (z1 : Int32) : Option ((Int32 × Mm) ⊕ (Mm)) :=
  if z1 < 0 ∨ 6 ≤ z1.toNatClampNeg then none else
    vlet (wI mm 231 z1.toNatClampNeg z0) fun mm_3 => some (.inl ((y3 + 1), mm_3))
noncomputable def f_X2_find_j39 (r : Nat) (v : Nat) (mm : Mm) (y3 : Int32) (z0 : Int32) : Option ((Int32 × Mm) ⊕ (Mm)) :=
  if z0 = 0 then
    f_X2_find_j64 r v mm y3 (0 : Int32) y3
  else
    bi1 (f_X4_thingsOf mm r v y3) fun r_8 =>
      bi1 (f_X2_withMostOf mm r_8) fun r_10 => f_X2_find_j64 r v mm y3 r_10 y3
noncomputable def f_X2_find_j38 (r : Nat) (v : Nat) (mm : Mm) (y3 : Int32) : Option ((Int32 × Mm) ⊕ (Mm)) :=
  f_X2_find_j39 r v mm y3 (0 : Int32)
noncomputable def f_X2_find_s8 (r : Nat) (v : Nat) : (Int32 × Mm) → Option ((Int32 × Mm) ⊕ (Mm)) :=
  fun q => match q with
  | (y3, mm) =>
    if (6 : Int32) ≤ y3 then
      some (.inr mm)
    else
      if (mm.1 v 1) ≤ y3 then
        f_X2_find_j38 r v mm y3
      else
        if y3 < 0 ∨ 6 ≤ y3.toNatClampNeg then none else
          if (mm.1 (r + 1) y3.toNatClampNeg) = 0 then
            f_X2_find_j39 r v mm y3 (1 : Int32)
          else
            f_X2_find_j38 r v mm y3
noncomputable def f_X2_find (mm : Mm) (r : Nat) (v : Nat) (x2 : Int32) : Option (Mm) :=
  bi1 (f_X2_join mm r v x2) fun mm_1 =>
    bi1 (lp (f_X2_find_s8 r v) ((0 : Int32), mm_1)) fun mm_18 =>
      some mm_18
set_option maxHeartbeats 4000000 in
set_option maxRecDepth 100000 in
theorem c_X2_find (l : Launch) (D : va_G) (dA : Nat → ClassId) (zz : (Nat → Nat) × (Nat → Nat)) (bs : Nat) (mm : Mm) (r : Nat) (v : Nat) (hr : isRaft r v) (x2 : Int32) (m1 : Mm) (hf : f_X2_find mm r v x2 = some m1) : Mw l D dA zz bs LY yX2_find cX2_find 5 none 3 68 [.ref (bs + 229), .ref (bs + r), .int x2] mm none m1 := by
  refine Mw.of (own := RX2) (by decide) rfl (Nat.le_of_ble_eq_true rfl) ?_
  intro p e s m args below meth c X hr0 hP hS ls hl
  have hx := X.1
  have hb := X.2.1
  obtain ⟨H, hH⟩ : ∃ z : Heap, z = s.heap := ⟨_, rfl⟩
  obtain ⟨locs, hL⟩ : ∃ z : List Loc, z = [] := ⟨_, rfl⟩
  rw [← hH, ← hL]
  have hS : va_S (Aq bs) s.heap H locs := by rw [hH, hL]; exact hS
  have hP : Wd D dA bs LY mm H := by rw [hH]; exact hP
  have hl : lv_has ls 5 [(0, .ref (bs + 229)), (1, .ref (bs + r)), (2, .int x2)] := hl
  unfold f_X2_find at hf
  refine lv_aload_n hx hb dX2_find_0 rfl (lv_at hl 0 rfl) ?_
  refine lv_aload_n hx hb dX2_find_1 rfl (lv_at hl 1 rfl) ?_
  refine lv_iload_n hx hb dX2_find_2 rfl (lv_at hl 2 rfl) ?_
  obtain ⟨mm_1, hc_2, hf⟩ := bi1S hf
  refine wd_cv X hP hS L229 ml_X2_18 ⟨_, _, rfl⟩ (c_X2_join l D dA zz bs mm r v hr x2 mm_1 hc_2) rfl ⟨Nat.le_of_ble_eq_true rfl, Nat.le_of_ble_eq_true rfl⟩ hl.1 rfl (rest := []) (Nat.le_of_ble_eq_true rfl) ⟨Nat.zero_le _, Nat.zero_le _⟩ dX2_find_3 (fun H locs hP hS => ?_)
  refine W.eq (g2 := F0 m 6 ls []) rfl ?_
  refine lv_iconst (v := 0) hx hb dX2_find_6 (by decide) ?_
  refine lv_istore_n (lv' := [(3, .int (0 : Int32)), (0, .ref (bs + 229)), (1, .ref (bs + r)), (2, .int x2)]) hx hb dX2_find_7 rfl hl (by decide) rfl (fun ls hl => ?_)
  obtain ⟨q_19, hlp_20, hf⟩ := bi1S hf
  refine lp_walk (Wh := (fun z => match z with | (y3L_17, mmL_17) => ∀ (H : Heap) (locs : List Loc) (ls : Array Slot), Wd D dA bs LY mmL_17 H → va_S (Aq bs) s.heap H locs → lv_has ls 5 [(0, .ref (bs + 229)), (1, .ref (bs + r)), (3, .int y3L_17)] → Wz p l e s m args below meth c D dA bs none m1 3 68 H locs 8 ls [])) (Ph := (fun mm_18 => ∀ (H : Heap) (locs : List Loc) (ls : Array Slot), Wd D dA bs LY mm_18 H → va_S (Aq bs) s.heap H locs → lv_has ls 5 [] → Wz p l e s m args below meth c D dA bs none m1 3 68 H locs 71 ls [])) ?_ hlp_20 ?_ H locs ls hP hS (lv_sub hl [1, 2, 0] rfl)
  · intro z o hf hB hE
    obtain ⟨y3L_17, mmL_17⟩ := z
    intro H locs ls hP hS hl
    have hf : f_X2_find_s8 r v (y3L_17, mmL_17) = some o := hf
    unfold f_X2_find_s8 at hf
    dsimp only at hf
    have hJ64 : ∀ (mmJ_5 : Mm) (y3J_5 : Int32) (z0J_5 : Int32) (z1J_5 : Int32) (H : Heap) (locs : List Loc) (ls : Array Slot), f_X2_find_j64 r v mmJ_5 y3J_5 z0J_5 z1J_5 = some o → Wd D dA bs LY mmJ_5 H → va_S (Aq bs) s.heap H locs → lv_has ls 5 [(0, .ref (bs + 229)), (1, .ref (bs + r)), (3, .int y3J_5)] → Wz p l e s m args below meth c D dA bs none m1 3 68 H locs 64 ls [.int z0J_5, .int z1J_5, .ref (bs + 231)] := by
      intro mmJ_5 y3J_5 z0J_5 z1J_5 H locs ls hf hP hS hl
      unfold f_X2_find_j64 at hf
      have g_4 := gdN hf
      have hf := gdK hf
      refine wd_iast X hP hS L231 g_4 dX2_find_64 (fun H locs mm_3 emm_3 hP hS => ?_)
      have hf := vl hf emm_3
      refine lv_iinc (v := (y3J_5 + 1)) (lv' := [(3, .int (y3J_5 + 1)), (0, .ref (bs + 229)), (1, .ref (bs + r))]) hx hb dX2_find_65 hl (k := 2) rfl rfl (by decide) rfl (fun ls hl => ?_)
      refine lv_goto (tgt := 8) hx hb dX2_find_68 (by decide) ?_
      obtain rfl := Option.some.inj hf
      exact hB _ rfl H locs ls hP hS (lv_sub hl [1, 2, 0] rfl)
    have hJ39 : ∀ (mmJ_11 : Mm) (y3J_11 : Int32) (z0J_11 : Int32) (H : Heap) (locs : List Loc) (ls : Array Slot), f_X2_find_j39 r v mmJ_11 y3J_11 z0J_11 = some o → Wd D dA bs LY mmJ_11 H → va_S (Aq bs) s.heap H locs → lv_has ls 5 [(0, .ref (bs + 229)), (1, .ref (bs + r)), (3, .int y3J_11)] → Wz p l e s m args below meth c D dA bs none m1 3 68 H locs 39 ls [.int z0J_11] := by
      intro mmJ_11 y3J_11 z0J_11 H locs ls hf hP hS hl
      unfold f_X2_find_j39 at hf
      refine lv_istore (lv' := [(4, .int z0J_11), (0, .ref (bs + 229)), (1, .ref (bs + r)), (3, .int y3J_11)]) hx hb dX2_find_39 hl (by decide) rfl (fun ls hl => ?_)
      refine lv_aload_n hx hb dX2_find_41 rfl (lv_at hl 1 rfl) ?_
      refine wd_getR (q := 231) X hP L229 fl_X2_15 rfl dX2_find_42 ?_
      refine lv_iload_n hx hb dX2_find_45 rfl (lv_at hl 3 rfl) ?_
      refine lv_iload hx hb dX2_find_46 (lv_at hl 0 rfl) ?_
      refine lv_if_eq (tgt := 63) hx hb dX2_find_48 (by decide) (fun c_6 => ?_) (fun c_6 => ?_)
      · have hf := itT hf c_6
        refine lv_iconst (v := 0) hx hb dX2_find_63 (by decide) ?_
        exact hJ64 mmJ_11 y3J_11 (0 : Int32) y3J_11 H locs ls hf hP hS (lv_sub hl [1, 2, 3] rfl)
      · have hf := itF hf c_6
        refine lv_aload_n hx hb dX2_find_51 rfl (lv_at hl 1 rfl) ?_
        refine lv_aload_n hx hb dX2_find_52 rfl (lv_at hl 2 rfl) ?_
        refine lv_iload_n hx hb dX2_find_53 rfl (lv_at hl 3 rfl) ?_
        obtain ⟨r_8, hc_7, hf⟩ := bi1S hf
        refine wd_cv X hP hS (isRaft.a0 hr) ml_X2_37 ⟨_, _, rfl⟩ (c_X4_thingsOf l D dA zz bs mmJ_11 r v hr y3J_11 r_8 hc_7) rfl ⟨Nat.le_of_ble_eq_true rfl, Nat.le_of_ble_eq_true rfl⟩ hl.1 rfl (rest := [.ref (bs + 229), .int y3J_11, .ref (bs + 231)]) (Nat.le_of_ble_eq_true rfl) ⟨Nat.zero_le _, Nat.zero_le _⟩ dX2_find_54 (fun H locs hP hS => ?_)
        refine W.eq (g2 := F0 m 57 ls [.int r_8, .ref (bs + 229), .int y3J_11, .ref (bs + 231)]) rfl ?_
        obtain ⟨r_10, hc_9, hf⟩ := bi1S hf
        refine wd_cv X hP hS L229 ml_X2_41 ⟨_, _, rfl⟩ (c_X2_withMostOf l D dA zz bs mmJ_11 r_8 r_10 hc_9) rfl ⟨Nat.le_of_ble_eq_true rfl, Nat.le_of_ble_eq_true rfl⟩ hl.1 rfl (rest := [.int y3J_11, .ref (bs + 231)]) (Nat.le_of_ble_eq_true rfl) ⟨Nat.zero_le _, Nat.zero_le _⟩ dX2_find_57 (fun H locs hP hS => ?_)
        refine W.eq (g2 := F0 m 60 ls [.int r_10, .int y3J_11, .ref (bs + 231)]) rfl ?_
        refine lv_goto (tgt := 64) hx hb dX2_find_60 (by decide) ?_
        exact hJ64 mmJ_11 y3J_11 r_10 y3J_11 H locs ls hf hP hS (lv_sub hl [1, 2, 3] rfl)
    have hJ38 : ∀ (mmJ_12 : Mm) (y3J_12 : Int32) (H : Heap) (locs : List Loc) (ls : Array Slot), f_X2_find_j38 r v mmJ_12 y3J_12 = some o → Wd D dA bs LY mmJ_12 H → va_S (Aq bs) s.heap H locs → lv_has ls 5 [(0, .ref (bs + 229)), (1, .ref (bs + r)), (3, .int y3J_12)] → Wz p l e s m args below meth c D dA bs none m1 3 68 H locs 38 ls [] := by
      intro mmJ_12 y3J_12 H locs ls hf hP hS hl
      unfold f_X2_find_j38 at hf
      refine lv_iconst (v := 0) hx hb dX2_find_38 (by decide) ?_
      exact hJ39 mmJ_12 y3J_12 (0 : Int32) H locs ls hf hP hS (lv_sub hl [0, 1, 2] rfl)
    refine lv_iload_n hx hb dX2_find_8 rfl (lv_at hl 2 rfl) ?_
    refine lv_bipush (v := 6) hx hb dX2_find_9 (by decide) ?_
    refine lv_icmp_ge (tgt := 71) hx hb dX2_find_11 (by decide) (fun c_13 => ?_) (fun c_13 => ?_)
    · have hf := itT hf c_13
      obtain rfl := Option.some.inj hf
      exact hE _ rfl H locs ls hP hS (lv_sub hl [] rfl)
    · have hf := itF hf c_13
      refine lv_iload_n hx hb dX2_find_14 rfl (lv_at hl 2 rfl) ?_
      refine lv_aload_n hx hb dX2_find_15 rfl (lv_at hl 1 rfl) ?_
      refine wd_getR (q := v) X hP (isRaft.a0 hr) fl_X2_22 rfl dX2_find_16 ?_
      refine wd_getI X hP (isRiver.a0 (isRaft.a9 hr)) fl_X2_28 rfl dX2_find_19 ?_
      refine lv_icmp_ge (tgt := 38) hx hb dX2_find_22 (by decide) (fun c_14 => ?_) (fun c_14 => ?_)
      · have hf := itT hf c_14
        exact hJ38 mmL_17 y3L_17 H locs ls hf hP hS (lv_sub hl [0, 1, 2] rfl)
      · have hf := itF hf c_14
        refine lv_aload_n hx hb dX2_find_25 rfl (lv_at hl 1 rfl) ?_
        refine wd_getR (q := r + 1) X hP (isRaft.a0 hr) fl_X2_34 rfl dX2_find_26 ?_
        refine lv_iload_n hx hb dX2_find_29 rfl (lv_at hl 2 rfl) ?_
        have g_15 := gdN hf
        have hf := gdK hf
        refine wd_iald X hP (isRaft.a1 hr) g_15 dX2_find_30 ?_
        refine lv_if_ne (tgt := 38) hx hb dX2_find_31 (by decide) (fun c_16 => ?_) (fun c_16 => ?_)
        · have hf := itF hf c_16
          exact hJ38 mmL_17 y3L_17 H locs ls hf hP hS (lv_sub hl [0, 1, 2] rfl)
        · have hf := itT hf c_16
          refine lv_iconst (v := 1) hx hb dX2_find_34 (by decide) ?_
          refine lv_goto (tgt := 39) hx hb dX2_find_35 (by decide) ?_
          exact hJ39 mmL_17 y3L_17 (1 : Int32) H locs ls hf hP hS (lv_sub hl [0, 1, 2] rfl)
  · obtain ⟨mm_18, e_mm_18⟩ : ∃ z, z = q_19 := ⟨_, rfl⟩
    subst e_mm_18
    intro H locs ls hP hS hl
    obtain rfl := Option.some.inj hf
    exact wd_vret X hP hS hr0 dX2_find_71 ⟨rfl, rfl⟩

noncomputable def f_X2_howMany_s4 (mm : Mm) : (Int32 × Int32) → Option ((Int32 × Int32) ⊕ (Int32)) :=
  fun q => match q with
  | (y1, y2) =>
    if (8 : Int32) ≤ y2 then
      some (.inr y1)
    else
      bi1 (f_X2_isLeast mm y2) fun r_3 =>
        if r_3 = 0 then
          some (.inl (y1, (y2 + 1)))
        else
          some (.inl ((y1 + 1), (y2 + 1)))
noncomputable def f_X2_howMany (mm : Mm) : Option (Int32) :=
  bi1 (lp (f_X2_howMany_s4 mm) ((0 : Int32), (0 : Int32))) fun w1_6 =>
    some w1_6
set_option maxHeartbeats 4000000 in
set_option maxRecDepth 100000 in
theorem c_X2_howMany (l : Launch) (D : va_G) (dA : Nat → ClassId) (zz : (Nat → Nat) × (Nat → Nat)) (bs : Nat) (mm : Mm) (out : Int32) (hf : f_X2_howMany mm = some out) : Mw l D dA zz bs LY yX2_howMany cX2_howMany 3 (some .int) 1 22 [.ref (bs + 229)] mm (some (.int out)) mm := by
  refine Mw.of (own := RX2) (by decide) rfl (Nat.le_of_ble_eq_true rfl) ?_
  intro p e s m args below meth c X hr0 hP hS ls hl
  have hx := X.1
  have hb := X.2.1
  obtain ⟨H, hH⟩ : ∃ z : Heap, z = s.heap := ⟨_, rfl⟩
  obtain ⟨locs, hL⟩ : ∃ z : List Loc, z = [] := ⟨_, rfl⟩
  rw [← hH, ← hL]
  have hS : va_S (Aq bs) s.heap H locs := by rw [hH, hL]; exact hS
  have hP : Wd D dA bs LY mm H := by rw [hH]; exact hP
  have hl : lv_has ls 3 [(0, .ref (bs + 229))] := hl
  unfold f_X2_howMany at hf
  refine lv_iconst (v := 0) hx hb dX2_howMany_0 (by decide) ?_
  refine lv_istore_n (lv' := [(1, .int (0 : Int32)), (0, .ref (bs + 229))]) hx hb dX2_howMany_1 rfl hl (by decide) rfl (fun ls hl => ?_)
  refine lv_iconst (v := 0) hx hb dX2_howMany_2 (by decide) ?_
  refine lv_istore_n (lv' := [(2, .int (0 : Int32)), (1, .int (0 : Int32)), (0, .ref (bs + 229))]) hx hb dX2_howMany_3 rfl hl (by decide) rfl (fun ls hl => ?_)
  obtain ⟨q_7, hlp_8, hf⟩ := bi1S hf
  refine lp_walk (Wh := (fun z => match z with | (y1L_5, y2L_5) => ∀ (H : Heap) (locs : List Loc) (ls : Array Slot), Wd D dA bs LY mm H → va_S (Aq bs) s.heap H locs → lv_has ls 3 [(0, .ref (bs + 229)), (1, .int y1L_5), (2, .int y2L_5)] → Wz p l e s m args below meth c D dA bs (some (.int out)) mm 1 22 H locs 4 ls [])) (Ph := (fun w1_6 => ∀ (H : Heap) (locs : List Loc) (ls : Array Slot), Wd D dA bs LY mm H → va_S (Aq bs) s.heap H locs → lv_has ls 3 [(1, .int w1_6)] → Wz p l e s m args below meth c D dA bs (some (.int out)) mm 1 22 H locs 27 ls [])) ?_ hlp_8 ?_ H locs ls hP hS (lv_sub hl [2, 1, 0] rfl)
  · intro z o hf hB hE
    obtain ⟨y1L_5, y2L_5⟩ := z
    intro H locs ls hP hS hl
    have hf : f_X2_howMany_s4 mm (y1L_5, y2L_5) = some o := hf
    unfold f_X2_howMany_s4 at hf
    dsimp only at hf
    refine lv_iload_n hx hb dX2_howMany_4 rfl (lv_at hl 2 rfl) ?_
    refine lv_bipush (v := 8) hx hb dX2_howMany_5 (by decide) ?_
    refine lv_icmp_ge (tgt := 27) hx hb dX2_howMany_7 (by decide) (fun c_1 => ?_) (fun c_1 => ?_)
    · have hf := itT hf c_1
      obtain rfl := Option.some.inj hf
      exact hE _ rfl H locs ls hP hS (lv_sub hl [1] rfl)
    · have hf := itF hf c_1
      refine lv_aload_n hx hb dX2_howMany_10 rfl (lv_at hl 0 rfl) ?_
      refine lv_iload_n hx hb dX2_howMany_11 rfl (lv_at hl 2 rfl) ?_
      obtain ⟨r_3, hc_2, hf⟩ := bi1S hf
      refine wd_cv X hP hS L229 ml_X2_67 ⟨_, _, rfl⟩ (c_X2_isLeast l D dA zz bs mm y2L_5 r_3 hc_2) rfl ⟨Nat.le_of_ble_eq_true rfl, Nat.le_of_ble_eq_true rfl⟩ hl.1 rfl (rest := []) (Nat.le_of_ble_eq_true rfl) ⟨Nat.zero_le _, Nat.zero_le _⟩ dX2_howMany_12 (fun H locs hP hS => ?_)
      refine W.eq (g2 := F0 m 15 ls [.int r_3]) rfl ?_
      refine lv_if_eq (tgt := 21) hx hb dX2_howMany_15 (by decide) (fun c_4 => ?_) (fun c_4 => ?_)
      · have hf := itT hf c_4
        refine lv_iinc (v := (y2L_5 + 1)) (lv' := [(2, .int (y2L_5 + 1)), (0, .ref (bs + 229)), (1, .int y1L_5)]) hx hb dX2_howMany_21 hl (k := 2) rfl rfl (by decide) rfl (fun ls hl => ?_)
        refine lv_goto (tgt := 4) hx hb dX2_howMany_24 (by decide) ?_
        obtain rfl := Option.some.inj hf
        exact hB _ rfl H locs ls hP hS (lv_sub hl [1, 2, 0] rfl)
      · have hf := itF hf c_4
        refine lv_iinc (v := (y1L_5 + 1)) (lv' := [(1, .int (y1L_5 + 1)), (0, .ref (bs + 229)), (2, .int y2L_5)]) hx hb dX2_howMany_18 hl (k := 1) rfl rfl (by decide) rfl (fun ls hl => ?_)
        refine lv_iinc (v := (y2L_5 + 1)) (lv' := [(2, .int (y2L_5 + 1)), (1, .int (y1L_5 + 1)), (0, .ref (bs + 229))]) hx hb dX2_howMany_21 hl (k := 2) rfl rfl (by decide) rfl (fun ls hl => ?_)
        refine lv_goto (tgt := 4) hx hb dX2_howMany_24 (by decide) ?_
        obtain rfl := Option.some.inj hf
        exact hB _ rfl H locs ls hP hS (lv_sub hl [2, 1, 0] rfl)
  · obtain ⟨w1_6, e_w1_6⟩ : ∃ z, z = q_7 := ⟨_, rfl⟩
    subst e_w1_6
    intro H locs ls hP hS hl
    refine lv_iload_n hx hb dX2_howMany_27 rfl (lv_at hl 0 rfl) ?_
    obtain rfl := Option.some.inj hf
    exact wd_iret X hP hS hr0 dX2_howMany_28 ⟨rfl, rfl⟩

noncomputable def f_X2_ridersWeight_s5 (r : Nat) (v : Nat) (mm : Mm) (y2 : Int32) : (Int32 × Int32) → Option ((Int32 × Int32) ⊕ (Int32)) :=
  fun q => match q with
  | (y3, y4) =>
    if (mm.1 v 1) ≤ y4 then
      some (.inr y3)
    else
      if y4 < 0 ∨ 6 ≤ y4.toNatClampNeg then none else
        if (mm.1 231 y4.toNatClampNeg) = 0 then
          some (.inl (y3, (y4 + 1)))
        else
          if y4 < 0 ∨ 6 ≤ y4.toNatClampNeg then none else
            if (mm.1 231 y4.toNatClampNeg) = y2 then
              if y4 < 0 ∨ 6 ≤ y4.toNatClampNeg then none else
                vlet (y3 + (mm.1 (v + 2) y4.toNatClampNeg)) fun (x3_7 : Int32) => some (.inl (x3_7, (y4 + 1)))
            else
              some (.inl (y3, (y4 + 1)))
noncomputable def f_X2_ridersWeight (mm : Mm) (r : Nat) (v : Nat) (x2 : Int32) : Option (Int32) :=
  bi1 (lp (f_X2_ridersWeight_s5 r v mm x2) ((0 : Int32), (0 : Int32))) fun w3_9 =>
    some w3_9
set_option maxHeartbeats 4000000 in
set_option maxRecDepth 100000 in
theorem c_X2_ridersWeight (l : Launch) (D : va_G) (dA : Nat → ClassId) (zz : (Nat → Nat) × (Nat → Nat)) (bs : Nat) (mm : Mm) (r : Nat) (v : Nat) (hr : isRaft r v) (x2 : Int32) (out : Int32) (hf : f_X2_ridersWeight mm r v x2 = some out) : Mw l D dA zz bs LY yX2_ridersWeight cX2_ridersWeight 5 (some .int) 0 0 [.ref (bs + 229), .ref (bs + r), .int x2] mm (some (.int out)) mm := by
  refine Mw.of (own := RX2) (by decide) rfl (Nat.le_of_ble_eq_true rfl) ?_
  intro p e s m args below meth c X hr0 hP hS ls hl
  have hx := X.1
  have hb := X.2.1
  obtain ⟨H, hH⟩ : ∃ z : Heap, z = s.heap := ⟨_, rfl⟩
  obtain ⟨locs, hL⟩ : ∃ z : List Loc, z = [] := ⟨_, rfl⟩
  rw [← hH, ← hL]
  have hS : va_S (Aq bs) s.heap H locs := by rw [hH, hL]; exact hS
  have hP : Wd D dA bs LY mm H := by rw [hH]; exact hP
  have hl : lv_has ls 5 [(0, .ref (bs + 229)), (1, .ref (bs + r)), (2, .int x2)] := hl
  unfold f_X2_ridersWeight at hf
  refine lv_iconst (v := 0) hx hb dX2_ridersWeight_0 (by decide) ?_
  refine lv_istore_n (lv' := [(3, .int (0 : Int32)), (0, .ref (bs + 229)), (1, .ref (bs + r)), (2, .int x2)]) hx hb dX2_ridersWeight_1 rfl hl (by decide) rfl (fun ls hl => ?_)
  refine lv_iconst (v := 0) hx hb dX2_ridersWeight_2 (by decide) ?_
  refine lv_istore (lv' := [(4, .int (0 : Int32)), (3, .int (0 : Int32)), (0, .ref (bs + 229)), (1, .ref (bs + r)), (2, .int x2)]) hx hb dX2_ridersWeight_3 hl (by decide) rfl (fun ls hl => ?_)
  obtain ⟨q_10, hlp_11, hf⟩ := bi1S hf
  refine lp_walk (Wh := (fun z => match z with | (y3L_8, y4L_8) => ∀ (H : Heap) (locs : List Loc) (ls : Array Slot), Wd D dA bs LY mm H → va_S (Aq bs) s.heap H locs → lv_has ls 5 [(0, .ref (bs + 229)), (1, .ref (bs + r)), (2, .int x2), (3, .int y3L_8), (4, .int y4L_8)] → Wz p l e s m args below meth c D dA bs (some (.int out)) mm 0 0 H locs 5 ls [])) (Ph := (fun w3_9 => ∀ (H : Heap) (locs : List Loc) (ls : Array Slot), Wd D dA bs LY mm H → va_S (Aq bs) s.heap H locs → lv_has ls 5 [(3, .int w3_9)] → Wz p l e s m args below meth c D dA bs (some (.int out)) mm 0 0 H locs 57 ls [])) ?_ hlp_11 ?_ H locs ls hP hS (lv_sub hl [2, 3, 4, 1, 0] rfl)
  · intro z o hf hB hE
    obtain ⟨y3L_8, y4L_8⟩ := z
    intro H locs ls hP hS hl
    have hf : f_X2_ridersWeight_s5 r v mm x2 (y3L_8, y4L_8) = some o := hf
    unfold f_X2_ridersWeight_s5 at hf
    dsimp only at hf
    refine lv_iload hx hb dX2_ridersWeight_5 (lv_at hl 4 rfl) ?_
    refine lv_aload_n hx hb dX2_ridersWeight_7 rfl (lv_at hl 1 rfl) ?_
    refine wd_getR (q := v) X hP (isRaft.a0 hr) fl_X2_22 rfl dX2_ridersWeight_8 ?_
    refine wd_getI X hP (isRiver.a0 (isRaft.a9 hr)) fl_X2_28 rfl dX2_ridersWeight_11 ?_
    refine lv_icmp_ge (tgt := 57) hx hb dX2_ridersWeight_14 (by decide) (fun c_1 => ?_) (fun c_1 => ?_)
    · have hf := itT hf c_1
      obtain rfl := Option.some.inj hf
      exact hE _ rfl H locs ls hP hS (lv_sub hl [3] rfl)
    · have hf := itF hf c_1
      refine lv_aload_n hx hb dX2_ridersWeight_17 rfl (lv_at hl 0 rfl) ?_
      refine wd_getR (q := 231) X hP L229 fl_X2_15 rfl dX2_ridersWeight_18 ?_
      refine lv_iload hx hb dX2_ridersWeight_21 (lv_at hl 4 rfl) ?_
      have g_2 := gdN hf
      have hf := gdK hf
      refine wd_iald X hP L231 g_2 dX2_ridersWeight_23 ?_
      refine lv_if_eq (tgt := 51) hx hb dX2_ridersWeight_24 (by decide) (fun c_3 => ?_) (fun c_3 => ?_)
      · have hf := itT hf c_3
        refine lv_iinc (v := (y4L_8 + 1)) (lv' := [(4, .int (y4L_8 + 1)), (0, .ref (bs + 229)), (1, .ref (bs + r)), (2, .int x2), (3, .int y3L_8)]) hx hb dX2_ridersWeight_51 hl (k := 4) rfl rfl (by decide) rfl (fun ls hl => ?_)
        refine lv_goto (tgt := 5) hx hb dX2_ridersWeight_54 (by decide) ?_
        obtain rfl := Option.some.inj hf
        exact hB _ rfl H locs ls hP hS (lv_sub hl [1, 2, 3, 4, 0] rfl)
      · have hf := itF hf c_3
        refine lv_aload_n hx hb dX2_ridersWeight_27 rfl (lv_at hl 0 rfl) ?_
        refine wd_getR (q := 231) X hP L229 fl_X2_15 rfl dX2_ridersWeight_28 ?_
        refine lv_iload hx hb dX2_ridersWeight_31 (lv_at hl 4 rfl) ?_
        have g_4 := gdN hf
        have hf := gdK hf
        refine wd_iald X hP L231 g_4 dX2_ridersWeight_33 ?_
        refine lv_iload_n hx hb dX2_ridersWeight_34 rfl (lv_at hl 2 rfl) ?_
        refine lv_icmp_ne (tgt := 51) hx hb dX2_ridersWeight_35 (by decide) (fun c_5 => ?_) (fun c_5 => ?_)
        · have hf := itF hf c_5
          refine lv_iinc (v := (y4L_8 + 1)) (lv' := [(4, .int (y4L_8 + 1)), (0, .ref (bs + 229)), (1, .ref (bs + r)), (2, .int x2), (3, .int y3L_8)]) hx hb dX2_ridersWeight_51 hl (k := 4) rfl rfl (by decide) rfl (fun ls hl => ?_)
          refine lv_goto (tgt := 5) hx hb dX2_ridersWeight_54 (by decide) ?_
          obtain rfl := Option.some.inj hf
          exact hB _ rfl H locs ls hP hS (lv_sub hl [1, 2, 3, 4, 0] rfl)
        · have hf := itT hf c_5
          refine lv_iload_n hx hb dX2_ridersWeight_38 rfl (lv_at hl 3 rfl) ?_
          refine lv_aload_n hx hb dX2_ridersWeight_39 rfl (lv_at hl 1 rfl) ?_
          refine wd_getR (q := v) X hP (isRaft.a0 hr) fl_X2_22 rfl dX2_ridersWeight_40 ?_
          refine wd_getR (q := v + 2) X hP (isRiver.a0 (isRaft.a9 hr)) fl_X2_76 rfl dX2_ridersWeight_43 ?_
          refine lv_iload hx hb dX2_ridersWeight_46 (lv_at hl 4 rfl) ?_
          have g_6 := gdN hf
          have hf := gdK hf
          refine wd_iald X hP (isRiver.a2 (isRaft.a9 hr)) g_6 dX2_ridersWeight_48 ?_
          refine lv_iadd hx hb dX2_ridersWeight_49 ?_
          refine lv_topi (fun x3_7 ex3_7 => ?_)
          have hf := vl hf ex3_7
          refine lv_istore_n (lv' := [(3, .int x3_7), (0, .ref (bs + 229)), (1, .ref (bs + r)), (2, .int x2), (4, .int y4L_8)]) hx hb dX2_ridersWeight_50 rfl hl (by decide) rfl (fun ls hl => ?_)
          refine lv_iinc (v := (y4L_8 + 1)) (lv' := [(4, .int (y4L_8 + 1)), (3, .int x3_7), (0, .ref (bs + 229)), (1, .ref (bs + r)), (2, .int x2)]) hx hb dX2_ridersWeight_51 hl (k := 4) rfl rfl (by decide) rfl (fun ls hl => ?_)
          refine lv_goto (tgt := 5) hx hb dX2_ridersWeight_54 (by decide) ?_
          obtain rfl := Option.some.inj hf
          exact hB _ rfl H locs ls hP hS (lv_sub hl [2, 3, 4, 1, 0] rfl)
  · obtain ⟨w3_9, e_w3_9⟩ : ∃ z, z = q_10 := ⟨_, rfl⟩
    subst e_w3_9
    intro H locs ls hP hS hl
    refine lv_iload_n hx hb dX2_ridersWeight_57 rfl (lv_at hl 0 rfl) ?_
    obtain rfl := Option.some.inj hf
    exact wd_iret X hP hS hr0 dX2_ridersWeight_58 ⟨rfl, rfl⟩

noncomputable def f_X2_marginOf (mm : Mm) (r : Nat) (v : Nat) (x2 : Int32) : Option (Int32) :=
  bi1 (f_X4_lift mm r v x2 (0 : Int32)) fun r_2 =>
    bi1 (f_X2_ridersWeight mm r v x2) fun r_4 => some (r_2 - r_4)
set_option maxHeartbeats 4000000 in
set_option maxRecDepth 100000 in
theorem c_X2_marginOf (l : Launch) (D : va_G) (dA : Nat → ClassId) (zz : (Nat → Nat) × (Nat → Nat)) (bs : Nat) (mm : Mm) (r : Nat) (v : Nat) (hr : isRaft r v) (x2 : Int32) (out : Int32) (hf : f_X2_marginOf mm r v x2 = some out) : Mw l D dA zz bs LY yX2_marginOf cX2_marginOf 3 (some .int) 2 64 [.ref (bs + 229), .ref (bs + r), .int x2] mm (some (.int out)) mm := by
  refine Mw.of (own := RX2) (by decide) rfl (Nat.le_of_ble_eq_true rfl) ?_
  intro p e s m args below meth c X hr0 hP hS ls hl
  have hx := X.1
  have hb := X.2.1
  obtain ⟨H, hH⟩ : ∃ z : Heap, z = s.heap := ⟨_, rfl⟩
  obtain ⟨locs, hL⟩ : ∃ z : List Loc, z = [] := ⟨_, rfl⟩
  rw [← hH, ← hL]
  have hS : va_S (Aq bs) s.heap H locs := by rw [hH, hL]; exact hS
  have hP : Wd D dA bs LY mm H := by rw [hH]; exact hP
  have hl : lv_has ls 3 [(0, .ref (bs + 229)), (1, .ref (bs + r)), (2, .int x2)] := hl
  unfold f_X2_marginOf at hf
  refine lv_aload_n hx hb dX2_marginOf_0 rfl (lv_at hl 1 rfl) ?_
  refine lv_iload_n hx hb dX2_marginOf_1 rfl (lv_at hl 2 rfl) ?_
  refine lv_iconst (v := 0) hx hb dX2_marginOf_2 (by decide) ?_
  obtain ⟨r_2, hc_1, hf⟩ := bi1S hf
  refine wd_cv X hP hS (isRaft.a0 hr) ml_X2_79 ⟨_, _, rfl⟩ (c_X4_lift l D dA zz bs mm r v hr x2 (0 : Int32) r_2 hc_1) rfl ⟨Nat.le_of_ble_eq_true rfl, Nat.le_of_ble_eq_true rfl⟩ hl.1 rfl (rest := []) (Nat.le_of_ble_eq_true rfl) ⟨Nat.zero_le _, Nat.zero_le _⟩ dX2_marginOf_3 (fun H locs hP hS => ?_)
  refine W.eq (g2 := F0 m 6 ls [.int r_2]) rfl ?_
  refine lv_aload_n hx hb dX2_marginOf_6 rfl (lv_at hl 0 rfl) ?_
  refine lv_aload_n hx hb dX2_marginOf_7 rfl (lv_at hl 1 rfl) ?_
  refine lv_iload_n hx hb dX2_marginOf_8 rfl (lv_at hl 2 rfl) ?_
  obtain ⟨r_4, hc_3, hf⟩ := bi1S hf
  refine wd_cv X hP hS L229 ml_X2_83 ⟨_, _, rfl⟩ (c_X2_ridersWeight l D dA zz bs mm r v hr x2 r_4 hc_3) rfl ⟨Nat.le_of_ble_eq_true rfl, Nat.le_of_ble_eq_true rfl⟩ hl.1 rfl (rest := [.int r_2]) (Nat.le_of_ble_eq_true rfl) ⟨Nat.zero_le _, Nat.zero_le _⟩ dX2_marginOf_9 (fun H locs hP hS => ?_)
  refine W.eq (g2 := F0 m 12 ls [.int r_4, .int r_2]) rfl ?_
  refine lv_isub hx hb dX2_marginOf_12 ?_
  obtain rfl := Option.some.inj hf
  exact wd_iret X hP hS hr0 dX2_marginOf_13 ⟨rfl, rfl⟩

noncomputable def f_X2_notFloating_s4 (r : Nat) (v : Nat) (mm : Mm) : (Int32 × Int32) → Option ((Int32 × Int32) ⊕ (Int32)) :=
  fun q => match q with
  | (y2, y3) =>
    if (8 : Int32) ≤ y3 then
      some (.inr y2)
    else
      bi1 (f_X2_isLeast mm y3) fun r_3 =>
        if r_3 = 0 then
          some (.inl (y2, (y3 + 1)))
        else
          if y3 < 0 ∨ 8 ≤ y3.toNatClampNeg then none else
            bi1 (f_X2_marginOf mm r v (mm.1 230 y3.toNatClampNeg)) fun r_7 =>
              if 0 ≤ r_7 then
                some (.inl (y2, (y3 + 1)))
              else
                if y3 < 0 ∨ 8 ≤ y3.toNatClampNeg then none else
                  vlet (y2 ||| (mm.1 230 y3.toNatClampNeg)) fun (x2_10 : Int32) => some (.inl (x2_10, (y3 + 1)))
noncomputable def f_X2_notFloating (mm : Mm) (r : Nat) (v : Nat) : Option (Int32) :=
  bi1 (lp (f_X2_notFloating_s4 r v mm) ((0 : Int32), (0 : Int32))) fun w2_12 =>
    some w2_12
set_option maxHeartbeats 4000000 in
set_option maxRecDepth 100000 in
theorem c_X2_notFloating (l : Launch) (D : va_G) (dA : Nat → ClassId) (zz : (Nat → Nat) × (Nat → Nat)) (bs : Nat) (mm : Mm) (r : Nat) (v : Nat) (hr : isRaft r v) (out : Int32) (hf : f_X2_notFloating mm r v = some out) : Mw l D dA zz bs LY yX2_notFloating cX2_notFloating 4 (some .int) 3 86 [.ref (bs + 229), .ref (bs + r)] mm (some (.int out)) mm := by
  refine Mw.of (own := RX2) (by decide) rfl (Nat.le_of_ble_eq_true rfl) ?_
  intro p e s m args below meth c X hr0 hP hS ls hl
  have hx := X.1
  have hb := X.2.1
  obtain ⟨H, hH⟩ : ∃ z : Heap, z = s.heap := ⟨_, rfl⟩
  obtain ⟨locs, hL⟩ : ∃ z : List Loc, z = [] := ⟨_, rfl⟩
  rw [← hH, ← hL]
  have hS : va_S (Aq bs) s.heap H locs := by rw [hH, hL]; exact hS
  have hP : Wd D dA bs LY mm H := by rw [hH]; exact hP
  have hl : lv_has ls 4 [(0, .ref (bs + 229)), (1, .ref (bs + r))] := hl
  unfold f_X2_notFloating at hf
  refine lv_iconst (v := 0) hx hb dX2_notFloating_0 (by decide) ?_
  refine lv_istore_n (lv' := [(2, .int (0 : Int32)), (0, .ref (bs + 229)), (1, .ref (bs + r))]) hx hb dX2_notFloating_1 rfl hl (by decide) rfl (fun ls hl => ?_)
  refine lv_iconst (v := 0) hx hb dX2_notFloating_2 (by decide) ?_
  refine lv_istore_n (lv' := [(3, .int (0 : Int32)), (2, .int (0 : Int32)), (0, .ref (bs + 229)), (1, .ref (bs + r))]) hx hb dX2_notFloating_3 rfl hl (by decide) rfl (fun ls hl => ?_)
  obtain ⟨q_13, hlp_14, hf⟩ := bi1S hf
  refine lp_walk (Wh := (fun z => match z with | (y2L_11, y3L_11) => ∀ (H : Heap) (locs : List Loc) (ls : Array Slot), Wd D dA bs LY mm H → va_S (Aq bs) s.heap H locs → lv_has ls 4 [(0, .ref (bs + 229)), (1, .ref (bs + r)), (2, .int y2L_11), (3, .int y3L_11)] → Wz p l e s m args below meth c D dA bs (some (.int out)) mm 3 86 H locs 4 ls [])) (Ph := (fun w2_12 => ∀ (H : Heap) (locs : List Loc) (ls : Array Slot), Wd D dA bs LY mm H → va_S (Aq bs) s.heap H locs → lv_has ls 4 [(2, .int w2_12)] → Wz p l e s m args below meth c D dA bs (some (.int out)) mm 3 86 H locs 47 ls [])) ?_ hlp_14 ?_ H locs ls hP hS (lv_sub hl [2, 3, 1, 0] rfl)
  · intro z o hf hB hE
    obtain ⟨y2L_11, y3L_11⟩ := z
    intro H locs ls hP hS hl
    have hf : f_X2_notFloating_s4 r v mm (y2L_11, y3L_11) = some o := hf
    unfold f_X2_notFloating_s4 at hf
    dsimp only at hf
    refine lv_iload_n hx hb dX2_notFloating_4 rfl (lv_at hl 3 rfl) ?_
    refine lv_bipush (v := 8) hx hb dX2_notFloating_5 (by decide) ?_
    refine lv_icmp_ge (tgt := 47) hx hb dX2_notFloating_7 (by decide) (fun c_1 => ?_) (fun c_1 => ?_)
    · have hf := itT hf c_1
      obtain rfl := Option.some.inj hf
      exact hE _ rfl H locs ls hP hS (lv_sub hl [2] rfl)
    · have hf := itF hf c_1
      refine lv_aload_n hx hb dX2_notFloating_10 rfl (lv_at hl 0 rfl) ?_
      refine lv_iload_n hx hb dX2_notFloating_11 rfl (lv_at hl 3 rfl) ?_
      obtain ⟨r_3, hc_2, hf⟩ := bi1S hf
      refine wd_cv X hP hS L229 ml_X2_67 ⟨_, _, rfl⟩ (c_X2_isLeast l D dA zz bs mm y3L_11 r_3 hc_2) rfl ⟨Nat.le_of_ble_eq_true rfl, Nat.le_of_ble_eq_true rfl⟩ hl.1 rfl (rest := []) (Nat.le_of_ble_eq_true rfl) ⟨Nat.zero_le _, Nat.zero_le _⟩ dX2_notFloating_12 (fun H locs hP hS => ?_)
      refine W.eq (g2 := F0 m 15 ls [.int r_3]) rfl ?_
      refine lv_if_eq (tgt := 41) hx hb dX2_notFloating_15 (by decide) (fun c_4 => ?_) (fun c_4 => ?_)
      · have hf := itT hf c_4
        refine lv_iinc (v := (y3L_11 + 1)) (lv' := [(3, .int (y3L_11 + 1)), (0, .ref (bs + 229)), (1, .ref (bs + r)), (2, .int y2L_11)]) hx hb dX2_notFloating_41 hl (k := 3) rfl rfl (by decide) rfl (fun ls hl => ?_)
        refine lv_goto (tgt := 4) hx hb dX2_notFloating_44 (by decide) ?_
        obtain rfl := Option.some.inj hf
        exact hB _ rfl H locs ls hP hS (lv_sub hl [1, 2, 3, 0] rfl)
      · have hf := itF hf c_4
        refine lv_aload_n hx hb dX2_notFloating_18 rfl (lv_at hl 0 rfl) ?_
        refine lv_aload_n hx hb dX2_notFloating_19 rfl (lv_at hl 1 rfl) ?_
        refine lv_aload_n hx hb dX2_notFloating_20 rfl (lv_at hl 0 rfl) ?_
        refine wd_getR (q := 230) X hP L229 fl_X2_9 rfl dX2_notFloating_21 ?_
        refine lv_iload_n hx hb dX2_notFloating_24 rfl (lv_at hl 3 rfl) ?_
        have g_5 := gdN hf
        have hf := gdK hf
        refine wd_iald X hP L230 g_5 dX2_notFloating_25 ?_
        obtain ⟨r_7, hc_6, hf⟩ := bi1S hf
        refine wd_cv X hP hS L229 ml_X2_87 ⟨_, _, rfl⟩ (c_X2_marginOf l D dA zz bs mm r v hr (mm.1 230 y3L_11.toNatClampNeg) r_7 hc_6) rfl ⟨Nat.le_of_ble_eq_true rfl, Nat.le_of_ble_eq_true rfl⟩ hl.1 rfl (rest := []) (Nat.le_of_ble_eq_true rfl) ⟨Nat.zero_le _, Nat.zero_le _⟩ dX2_notFloating_26 (fun H locs hP hS => ?_)
        refine W.eq (g2 := F0 m 29 ls [.int r_7]) rfl ?_
        refine lv_if_ge (tgt := 41) hx hb dX2_notFloating_29 (by decide) (fun c_8 => ?_) (fun c_8 => ?_)
        · have hf := itT hf c_8
          refine lv_iinc (v := (y3L_11 + 1)) (lv' := [(3, .int (y3L_11 + 1)), (0, .ref (bs + 229)), (1, .ref (bs + r)), (2, .int y2L_11)]) hx hb dX2_notFloating_41 hl (k := 3) rfl rfl (by decide) rfl (fun ls hl => ?_)
          refine lv_goto (tgt := 4) hx hb dX2_notFloating_44 (by decide) ?_
          obtain rfl := Option.some.inj hf
          exact hB _ rfl H locs ls hP hS (lv_sub hl [1, 2, 3, 0] rfl)
        · have hf := itF hf c_8
          refine lv_iload_n hx hb dX2_notFloating_32 rfl (lv_at hl 2 rfl) ?_
          refine lv_aload_n hx hb dX2_notFloating_33 rfl (lv_at hl 0 rfl) ?_
          refine wd_getR (q := 230) X hP L229 fl_X2_9 rfl dX2_notFloating_34 ?_
          refine lv_iload_n hx hb dX2_notFloating_37 rfl (lv_at hl 3 rfl) ?_
          have g_9 := gdN hf
          have hf := gdK hf
          refine wd_iald X hP L230 g_9 dX2_notFloating_38 ?_
          refine lv_ior hx hb dX2_notFloating_39 ?_
          refine lv_topi (fun x2_10 ex2_10 => ?_)
          have hf := vl hf ex2_10
          refine lv_istore_n (lv' := [(2, .int x2_10), (0, .ref (bs + 229)), (1, .ref (bs + r)), (3, .int y3L_11)]) hx hb dX2_notFloating_40 rfl hl (by decide) rfl (fun ls hl => ?_)
          refine lv_iinc (v := (y3L_11 + 1)) (lv' := [(3, .int (y3L_11 + 1)), (2, .int x2_10), (0, .ref (bs + 229)), (1, .ref (bs + r))]) hx hb dX2_notFloating_41 hl (k := 3) rfl rfl (by decide) rfl (fun ls hl => ?_)
          refine lv_goto (tgt := 4) hx hb dX2_notFloating_44 (by decide) ?_
          obtain rfl := Option.some.inj hf
          exact hB _ rfl H locs ls hP hS (lv_sub hl [2, 3, 1, 0] rfl)
  · obtain ⟨w2_12, e_w2_12⟩ : ∃ z, z = q_13 := ⟨_, rfl⟩
    subst e_w2_12
    intro H locs ls hP hS hl
    refine lv_iload_n hx hb dX2_notFloating_47 rfl (lv_at hl 0 rfl) ?_
    obtain rfl := Option.some.inj hf
    exact wd_iret X hP hS hr0 dX2_notFloating_48 ⟨rfl, rfl⟩

noncomputable def f_X3_fewestBearers_j70 (mm : Mm) (y1 : Int32) (y2 : Int32) (y4 : Int32) : Option ((Int32 × Int32) ⊕ (Int32)) :=
  some (.inl (y4, (y4 + 1)))
noncomputable def f_X3_fewestBearers_s18 (mm : Mm) (y1 : Int32) (y2 : Int32) : (Int32 × Int32) → Option ((Int32 × Int32) ⊕ (Int32)) :=
  fun q => match q with
  | (y3, y4) =>
    if (256 : Int32) ≤ y4 then
      some (.inr y3)
    else
      if (y4 &&& (y2 ^^^ (-1 : Int32))) = 0 then
        bi1 (f_X4_lift mm 33 27 (y1 ||| y4) (0 : Int32)) fun r_8 =>
          if 0 ≤ r_8 then
            if y3 = (-1 : Int32) then
              f_X3_fewestBearers_j70 mm y1 y2 y4
            else
              if (f_J6_bitCount_0f7a4 y3) ≤ (f_J6_bitCount_0f7a4 y4) then
                some (.inl (y3, (y4 + 1)))
              else
                f_X3_fewestBearers_j70 mm y1 y2 y4
          else
            some (.inl (y3, (y4 + 1)))
      else
        some (.inl (y3, (y4 + 1)))
noncomputable def f_X3_fewestBearers (mm : Mm) (x1 : Int32) : Option (Int32) :=
  bi1 (f_X4_thingsAt mm 33 27 (0 : Int32)) fun r_2 =>
    vlet (r_2 &&& (x1 ^^^ (-1 : Int32))) fun (x2_3 : Int32) =>
      bi1 (lp (f_X3_fewestBearers_s18 mm x1 x2_3) ((-1 : Int32), (0 : Int32))) fun w3_13 =>
        some w3_13
set_option maxHeartbeats 4000000 in
set_option maxRecDepth 100000 in
theorem c_X3_fewestBearers (l : Launch) (D : va_G) (dA : Nat → ClassId) (zz : (Nat → Nat) × (Nat → Nat)) (bs : Nat) (mm : Mm) (x1 : Int32) (out : Int32) (hf : f_X3_fewestBearers mm x1 = some out) : Mw l D dA zz bs LY yX3_fewestBearers cX3_fewestBearers 5 (some .int) 2 64 [.ref (bs + 232), .int x1] mm (some (.int out)) mm := by
  refine Mw.of (own := RX3) (by decide) rfl (Nat.le_of_ble_eq_true rfl) ?_
  intro p e s m args below meth c X hr0 hP hS ls hl
  have hx := X.1
  have hb := X.2.1
  obtain ⟨H, hH⟩ : ∃ z : Heap, z = s.heap := ⟨_, rfl⟩
  obtain ⟨locs, hL⟩ : ∃ z : List Loc, z = [] := ⟨_, rfl⟩
  rw [← hH, ← hL]
  have hS : va_S (Aq bs) s.heap H locs := by rw [hH, hL]; exact hS
  have hP : Wd D dA bs LY mm H := by rw [hH]; exact hP
  have hl : lv_has ls 5 [(0, .ref (bs + 232)), (1, .int x1)] := hl
  unfold f_X3_fewestBearers at hf
  refine lv_aload_n hx hb dX3_fewestBearers_0 rfl (lv_at hl 0 rfl) ?_
  refine wd_getR (q := 33) X hP L232 fl_X3_25 rfl dX3_fewestBearers_1 ?_
  refine lv_iconst (v := 0) hx hb dX3_fewestBearers_4 (by decide) ?_
  obtain ⟨r_2, hc_1, hf⟩ := bi1S hf
  refine wd_cv X hP hS (isRaft.a0 R33) ml_X3_30 ⟨_, _, rfl⟩ (c_X4_thingsAt l D dA zz bs mm 33 27 R33 (0 : Int32) r_2 hc_1) rfl ⟨Nat.le_of_ble_eq_true rfl, Nat.le_of_ble_eq_true rfl⟩ hl.1 rfl (rest := []) (Nat.le_of_ble_eq_true rfl) ⟨Nat.zero_le _, Nat.zero_le _⟩ dX3_fewestBearers_5 (fun H locs hP hS => ?_)
  refine W.eq (g2 := F0 m 8 ls [.int r_2]) rfl ?_
  refine lv_iload_n hx hb dX3_fewestBearers_8 rfl (lv_at hl 1 rfl) ?_
  refine lv_iconst (v := -1) hx hb dX3_fewestBearers_9 (by decide) ?_
  refine lv_ixor hx hb dX3_fewestBearers_10 ?_
  refine lv_iand hx hb dX3_fewestBearers_11 ?_
  refine lv_topi (fun x2_3 ex2_3 => ?_)
  have hf := vl hf ex2_3
  refine lv_istore_n (lv' := [(2, .int x2_3), (0, .ref (bs + 232)), (1, .int x1)]) hx hb dX3_fewestBearers_12 rfl hl (by decide) rfl (fun ls hl => ?_)
  refine lv_iconst (v := -1) hx hb dX3_fewestBearers_13 (by decide) ?_
  refine lv_istore_n (lv' := [(3, .int (-1 : Int32)), (2, .int x2_3), (0, .ref (bs + 232)), (1, .int x1)]) hx hb dX3_fewestBearers_14 rfl hl (by decide) rfl (fun ls hl => ?_)
  refine lv_iconst (v := 0) hx hb dX3_fewestBearers_15 (by decide) ?_
  refine lv_istore (lv' := [(4, .int (0 : Int32)), (3, .int (-1 : Int32)), (2, .int x2_3), (0, .ref (bs + 232)), (1, .int x1)]) hx hb dX3_fewestBearers_16 hl (by decide) rfl (fun ls hl => ?_)
  obtain ⟨q_14, hlp_15, hf⟩ := bi1S hf
  refine lp_walk (Wh := (fun z => match z with | (y3L_12, y4L_12) => ∀ (H : Heap) (locs : List Loc) (ls : Array Slot), Wd D dA bs LY mm H → va_S (Aq bs) s.heap H locs → lv_has ls 5 [(0, .ref (bs + 232)), (1, .int x1), (2, .int x2_3), (3, .int y3L_12), (4, .int y4L_12)] → Wz p l e s m args below meth c D dA bs (some (.int out)) mm 2 64 H locs 18 ls [])) (Ph := (fun w3_13 => ∀ (H : Heap) (locs : List Loc) (ls : Array Slot), Wd D dA bs LY mm H → va_S (Aq bs) s.heap H locs → lv_has ls 5 [(3, .int w3_13)] → Wz p l e s m args below meth c D dA bs (some (.int out)) mm 2 64 H locs 79 ls [])) ?_ hlp_15 ?_ H locs ls hP hS (lv_sub hl [3, 4, 2, 1, 0] rfl)
  · intro z o hf hB hE
    obtain ⟨y3L_12, y4L_12⟩ := z
    intro H locs ls hP hS hl
    have hf : f_X3_fewestBearers_s18 mm x1 x2_3 (y3L_12, y4L_12) = some o := hf
    unfold f_X3_fewestBearers_s18 at hf
    dsimp only at hf
    have hJ70 : ∀ (y4J_4 : Int32) (H : Heap) (locs : List Loc) (ls : Array Slot), f_X3_fewestBearers_j70 mm x1 x2_3 y4J_4 = some o → Wd D dA bs LY mm H → va_S (Aq bs) s.heap H locs → lv_has ls 5 [(0, .ref (bs + 232)), (1, .int x1), (2, .int x2_3), (4, .int y4J_4)] → Wz p l e s m args below meth c D dA bs (some (.int out)) mm 2 64 H locs 70 ls [] := by
      intro y4J_4 H locs ls hf hP hS hl
      unfold f_X3_fewestBearers_j70 at hf
      refine lv_iload hx hb dX3_fewestBearers_70 (lv_at hl 3 rfl) ?_
      refine lv_istore_n (lv' := [(3, .int y4J_4), (0, .ref (bs + 232)), (1, .int x1), (2, .int x2_3), (4, .int y4J_4)]) hx hb dX3_fewestBearers_72 rfl hl (by decide) rfl (fun ls hl => ?_)
      refine lv_iinc (v := (y4J_4 + 1)) (lv' := [(4, .int (y4J_4 + 1)), (3, .int y4J_4), (0, .ref (bs + 232)), (1, .int x1), (2, .int x2_3)]) hx hb dX3_fewestBearers_73 hl (k := 4) rfl rfl (by decide) rfl (fun ls hl => ?_)
      refine lv_goto (tgt := 18) hx hb dX3_fewestBearers_76 (by decide) ?_
      obtain rfl := Option.some.inj hf
      exact hB _ rfl H locs ls hP hS (lv_sub hl [2, 3, 4, 1, 0] rfl)
    refine lv_iload hx hb dX3_fewestBearers_18 (lv_at hl 4 rfl) ?_
    refine lv_sipush (v := 256) hx hb dX3_fewestBearers_20 (by decide) ?_
    refine lv_icmp_ge (tgt := 79) hx hb dX3_fewestBearers_23 (by decide) (fun c_5 => ?_) (fun c_5 => ?_)
    · have hf := itT hf c_5
      obtain rfl := Option.some.inj hf
      exact hE _ rfl H locs ls hP hS (lv_sub hl [3] rfl)
    · have hf := itF hf c_5
      refine lv_iload hx hb dX3_fewestBearers_26 (lv_at hl 4 rfl) ?_
      refine lv_iload_n hx hb dX3_fewestBearers_28 rfl (lv_at hl 2 rfl) ?_
      refine lv_iconst (v := -1) hx hb dX3_fewestBearers_29 (by decide) ?_
      refine lv_ixor hx hb dX3_fewestBearers_30 ?_
      refine lv_iand hx hb dX3_fewestBearers_31 ?_
      refine lv_if_ne (tgt := 73) hx hb dX3_fewestBearers_32 (by decide) (fun c_6 => ?_) (fun c_6 => ?_)
      · have hf := itF hf c_6
        refine lv_iinc (v := (y4L_12 + 1)) (lv' := [(4, .int (y4L_12 + 1)), (0, .ref (bs + 232)), (1, .int x1), (2, .int x2_3), (3, .int y3L_12)]) hx hb dX3_fewestBearers_73 hl (k := 4) rfl rfl (by decide) rfl (fun ls hl => ?_)
        refine lv_goto (tgt := 18) hx hb dX3_fewestBearers_76 (by decide) ?_
        obtain rfl := Option.some.inj hf
        exact hB _ rfl H locs ls hP hS (lv_sub hl [1, 2, 3, 4, 0] rfl)
      · have hf := itT hf c_6
        refine lv_aload_n hx hb dX3_fewestBearers_35 rfl (lv_at hl 0 rfl) ?_
        refine wd_getR (q := 33) X hP L232 fl_X3_25 rfl dX3_fewestBearers_36 ?_
        refine lv_iload_n hx hb dX3_fewestBearers_39 rfl (lv_at hl 1 rfl) ?_
        refine lv_iload hx hb dX3_fewestBearers_40 (lv_at hl 4 rfl) ?_
        refine lv_ior hx hb dX3_fewestBearers_42 ?_
        refine lv_iconst (v := 0) hx hb dX3_fewestBearers_43 (by decide) ?_
        obtain ⟨r_8, hc_7, hf⟩ := bi1S hf
        refine wd_cv X hP hS (isRaft.a0 R33) ml_X3_36 ⟨_, _, rfl⟩ (c_X4_lift l D dA zz bs mm 33 27 R33 (x1 ||| y4L_12) (0 : Int32) r_8 hc_7) rfl ⟨Nat.le_of_ble_eq_true rfl, Nat.le_of_ble_eq_true rfl⟩ hl.1 rfl (rest := []) (Nat.le_of_ble_eq_true rfl) ⟨Nat.zero_le _, Nat.zero_le _⟩ dX3_fewestBearers_44 (fun H locs hP hS => ?_)
        refine W.eq (g2 := F0 m 47 ls [.int r_8]) rfl ?_
        refine lv_if_ge (tgt := 53) hx hb dX3_fewestBearers_47 (by decide) (fun c_9 => ?_) (fun c_9 => ?_)
        · have hf := itT hf c_9
          refine lv_iload_n hx hb dX3_fewestBearers_53 rfl (lv_at hl 3 rfl) ?_
          refine lv_iconst (v := -1) hx hb dX3_fewestBearers_54 (by decide) ?_
          refine lv_icmp_eq (tgt := 70) hx hb dX3_fewestBearers_55 (by decide) (fun c_10 => ?_) (fun c_10 => ?_)
          · have hf := itT hf c_10
            exact hJ70 y4L_12 H locs ls hf hP hS (lv_sub hl [0, 1, 2, 4] rfl)
          · have hf := itF hf c_10
            refine lv_iload hx hb dX3_fewestBearers_58 (lv_at hl 4 rfl) ?_
            refine wd_cs X hP hS ml_X3_40 (c_J6_bitCount_0f7a4 l D dA zz bs mm y4L_12 (f_J6_bitCount_0f7a4 y4L_12) rfl) rfl ⟨Nat.le_of_ble_eq_true rfl, Nat.le_of_ble_eq_true rfl⟩ hl.1 rfl (rest := []) (Nat.le_of_ble_eq_true rfl) ⟨Nat.zero_le _, Nat.zero_le _⟩ dX3_fewestBearers_60 (fun H locs hP hS => ?_)
            refine W.eq (g2 := F0 m 63 ls [.int (f_J6_bitCount_0f7a4 y4L_12)]) rfl ?_
            refine lv_iload_n hx hb dX3_fewestBearers_63 rfl (lv_at hl 3 rfl) ?_
            refine wd_cs X hP hS ml_X3_40 (c_J6_bitCount_0f7a4 l D dA zz bs mm y3L_12 (f_J6_bitCount_0f7a4 y3L_12) rfl) rfl ⟨Nat.le_of_ble_eq_true rfl, Nat.le_of_ble_eq_true rfl⟩ hl.1 rfl (rest := [.int (f_J6_bitCount_0f7a4 y4L_12)]) (Nat.le_of_ble_eq_true rfl) ⟨Nat.zero_le _, Nat.zero_le _⟩ dX3_fewestBearers_64 (fun H locs hP hS => ?_)
            refine W.eq (g2 := F0 m 67 ls [.int (f_J6_bitCount_0f7a4 y3L_12), .int (f_J6_bitCount_0f7a4 y4L_12)]) rfl ?_
            refine lv_icmp_ge (tgt := 73) hx hb dX3_fewestBearers_67 (by decide) (fun c_11 => ?_) (fun c_11 => ?_)
            · have hf := itT hf c_11
              refine lv_iinc (v := (y4L_12 + 1)) (lv' := [(4, .int (y4L_12 + 1)), (0, .ref (bs + 232)), (1, .int x1), (2, .int x2_3), (3, .int y3L_12)]) hx hb dX3_fewestBearers_73 hl (k := 4) rfl rfl (by decide) rfl (fun ls hl => ?_)
              refine lv_goto (tgt := 18) hx hb dX3_fewestBearers_76 (by decide) ?_
              obtain rfl := Option.some.inj hf
              exact hB _ rfl H locs ls hP hS (lv_sub hl [1, 2, 3, 4, 0] rfl)
            · have hf := itF hf c_11
              exact hJ70 y4L_12 H locs ls hf hP hS (lv_sub hl [0, 1, 2, 4] rfl)
        · have hf := itF hf c_9
          refine lv_goto (tgt := 73) hx hb dX3_fewestBearers_50 (by decide) ?_
          refine lv_iinc (v := (y4L_12 + 1)) (lv' := [(4, .int (y4L_12 + 1)), (0, .ref (bs + 232)), (1, .int x1), (2, .int x2_3), (3, .int y3L_12)]) hx hb dX3_fewestBearers_73 hl (k := 4) rfl rfl (by decide) rfl (fun ls hl => ?_)
          refine lv_goto (tgt := 18) hx hb dX3_fewestBearers_76 (by decide) ?_
          obtain rfl := Option.some.inj hf
          exact hB _ rfl H locs ls hP hS (lv_sub hl [1, 2, 3, 4, 0] rfl)
  · obtain ⟨w3_13, e_w3_13⟩ : ∃ z, z = q_14 := ⟨_, rfl⟩
    subst e_w3_13
    intro H locs ls hP hS hl
    refine lv_iload_n hx hb dX3_fewestBearers_79 rfl (lv_at hl 0 rfl) ?_
    obtain rfl := Option.some.inj hf
    exact wd_iret X hP hS hr0 dX3_fewestBearers_80 ⟨rfl, rfl⟩

noncomputable def f_X3_findSawn_j81 (mm : Mm) (y1 : Int32) (y2 : Int32) : Option ((Int32 × Mm) ⊕ (Mm)) :=
  vlet (wI mm 232 4 ((mm.1 232 4) + (1 : Int32))) fun mm_3 => some (.inl ((y2 + 1), mm_3))
noncomputable def f_X3_findSawn_j76 (mm : Mm) (y1 : Int32) (y2 : Int32) : Option ((Int32 × Mm) ⊕ (Mm)) :=
  vlet (wI mm 232 5 y2) fun mm_5 => f_X3_findSawn_j81 mm_5 y1 y2
noncomputable def f_X3_findSawn_s12 (y1 : Int32) : (Int32 × Mm) → Option ((Int32 × Mm) ⊕ (Mm)) :=
  fun q => match q with
  | (y2, mm) =>
    if ((1 : Int32) <<< ((mm.1 33 3) &&& 31)) ≤ y2 then
      some (.inr mm)
    else
      bi1 (f_X2_find mm 33 27 y2) fun mm_8 =>
        bi1 (f_X2_notFloating mm_8 33 27) fun r_11 =>
          if r_11 = y1 then
            if (mm_8.1 232 4) = 0 then
              f_X3_findSawn_j76 mm_8 y1 y2
            else
              if (f_J6_bitCount_0f7a4 (mm_8.1 232 5)) ≤ (f_J6_bitCount_0f7a4 y2) then
                f_X3_findSawn_j81 mm_8 y1 y2
              else
                f_X3_findSawn_j76 mm_8 y1 y2
          else
            some (.inl ((y2 + 1), mm_8))
noncomputable def f_X3_findSawn (mm : Mm) (x1 : Int32) : Option (Mm) :=
  vlet (wI mm 232 4 (0 : Int32)) fun mm_1 =>
    vlet (wI mm_1 232 5 (0 : Int32)) fun mm_2 =>
      bi1 (lp (f_X3_findSawn_s12 x1) ((0 : Int32), mm_2)) fun mm_16 =>
        some mm_16
set_option maxHeartbeats 4000000 in
set_option maxRecDepth 100000 in
theorem c_X3_findSawn (l : Launch) (D : va_G) (dA : Nat → ClassId) (zz : (Nat → Nat) × (Nat → Nat)) (bs : Nat) (mm : Mm) (x1 : Int32) (m1 : Mm) (hf : f_X3_findSawn mm x1 = some m1) : Mw l D dA zz bs LY yX3_findSawn cX3_findSawn 3 none 4 109 [.ref (bs + 232), .int x1] mm none m1 := by
  refine Mw.of (own := RX3) (by decide) rfl (Nat.le_of_ble_eq_true rfl) ?_
  intro p e s m args below meth c X hr0 hP hS ls hl
  have hx := X.1
  have hb := X.2.1
  obtain ⟨H, hH⟩ : ∃ z : Heap, z = s.heap := ⟨_, rfl⟩
  obtain ⟨locs, hL⟩ : ∃ z : List Loc, z = [] := ⟨_, rfl⟩
  rw [← hH, ← hL]
  have hS : va_S (Aq bs) s.heap H locs := by rw [hH, hL]; exact hS
  have hP : Wd D dA bs LY mm H := by rw [hH]; exact hP
  have hl : lv_has ls 3 [(0, .ref (bs + 232)), (1, .int x1)] := hl
  unfold f_X3_findSawn at hf
  refine lv_aload_n hx hb dX3_findSawn_0 rfl (lv_at hl 0 rfl) ?_
  refine lv_iconst (v := 0) hx hb dX3_findSawn_1 (by decide) ?_
  refine wd_putI X hP hS L232 fp_X3_45 rfl dX3_findSawn_2 (fun H locs mm_1 emm_1 hP hS => ?_)
  have hf := vl hf emm_1
  refine lv_aload_n hx hb dX3_findSawn_5 rfl (lv_at hl 0 rfl) ?_
  refine lv_iconst (v := 0) hx hb dX3_findSawn_6 (by decide) ?_
  refine wd_putI X hP hS L232 fp_X3_49 rfl dX3_findSawn_7 (fun H locs mm_2 emm_2 hP hS => ?_)
  have hf := vl hf emm_2
  refine lv_iconst (v := 0) hx hb dX3_findSawn_10 (by decide) ?_
  refine lv_istore_n (lv' := [(2, .int (0 : Int32)), (0, .ref (bs + 232)), (1, .int x1)]) hx hb dX3_findSawn_11 rfl hl (by decide) rfl (fun ls hl => ?_)
  obtain ⟨q_17, hlp_18, hf⟩ := bi1S hf
  refine lp_walk (Wh := (fun z => match z with | (y2L_15, mmL_15) => ∀ (H : Heap) (locs : List Loc) (ls : Array Slot), Wd D dA bs LY mmL_15 H → va_S (Aq bs) s.heap H locs → lv_has ls 3 [(0, .ref (bs + 232)), (1, .int x1), (2, .int y2L_15)] → Wz p l e s m args below meth c D dA bs none m1 4 109 H locs 12 ls [])) (Ph := (fun mm_16 => ∀ (H : Heap) (locs : List Loc) (ls : Array Slot), Wd D dA bs LY mm_16 H → va_S (Aq bs) s.heap H locs → lv_has ls 3 [] → Wz p l e s m args below meth c D dA bs none m1 4 109 H locs 97 ls [])) ?_ hlp_18 ?_ H locs ls hP hS (lv_sub hl [1, 2, 0] rfl)
  · intro z o hf hB hE
    obtain ⟨y2L_15, mmL_15⟩ := z
    intro H locs ls hP hS hl
    have hf : f_X3_findSawn_s12 x1 (y2L_15, mmL_15) = some o := hf
    unfold f_X3_findSawn_s12 at hf
    dsimp only at hf
    have hJ81 : ∀ (mmJ_4 : Mm) (y2J_4 : Int32) (H : Heap) (locs : List Loc) (ls : Array Slot), f_X3_findSawn_j81 mmJ_4 x1 y2J_4 = some o → Wd D dA bs LY mmJ_4 H → va_S (Aq bs) s.heap H locs → lv_has ls 3 [(0, .ref (bs + 232)), (1, .int x1), (2, .int y2J_4)] → Wz p l e s m args below meth c D dA bs none m1 4 109 H locs 81 ls [] := by
      intro mmJ_4 y2J_4 H locs ls hf hP hS hl
      unfold f_X3_findSawn_j81 at hf
      refine lv_aload_n hx hb dX3_findSawn_81 rfl (lv_at hl 0 rfl) ?_
      refine lv_dup hx hb dX3_findSawn_82 rfl ?_
      refine wd_getI X hP L232 fl_X3_45 rfl dX3_findSawn_83 ?_
      refine lv_iconst (v := 1) hx hb dX3_findSawn_86 (by decide) ?_
      refine lv_iadd hx hb dX3_findSawn_87 ?_
      refine wd_putI X hP hS L232 fp_X3_45 rfl dX3_findSawn_88 (fun H locs mm_3 emm_3 hP hS => ?_)
      have hf := vl hf emm_3
      refine lv_iinc (v := (y2J_4 + 1)) (lv' := [(2, .int (y2J_4 + 1)), (0, .ref (bs + 232)), (1, .int x1)]) hx hb dX3_findSawn_91 hl (k := 2) rfl rfl (by decide) rfl (fun ls hl => ?_)
      refine lv_goto (tgt := 12) hx hb dX3_findSawn_94 (by decide) ?_
      obtain rfl := Option.some.inj hf
      exact hB _ rfl H locs ls hP hS (lv_sub hl [1, 2, 0] rfl)
    have hJ76 : ∀ (mmJ_6 : Mm) (y2J_6 : Int32) (H : Heap) (locs : List Loc) (ls : Array Slot), f_X3_findSawn_j76 mmJ_6 x1 y2J_6 = some o → Wd D dA bs LY mmJ_6 H → va_S (Aq bs) s.heap H locs → lv_has ls 3 [(0, .ref (bs + 232)), (1, .int x1), (2, .int y2J_6)] → Wz p l e s m args below meth c D dA bs none m1 4 109 H locs 76 ls [] := by
      intro mmJ_6 y2J_6 H locs ls hf hP hS hl
      unfold f_X3_findSawn_j76 at hf
      refine lv_aload_n hx hb dX3_findSawn_76 rfl (lv_at hl 0 rfl) ?_
      refine lv_iload_n hx hb dX3_findSawn_77 rfl (lv_at hl 2 rfl) ?_
      refine wd_putI X hP hS L232 fp_X3_49 rfl dX3_findSawn_78 (fun H locs mm_5 emm_5 hP hS => ?_)
      have hf := vl hf emm_5
      exact hJ81 mm_5 y2J_6 H locs ls hf hP hS (lv_sub hl [0, 1, 2] rfl)
    refine lv_iload_n hx hb dX3_findSawn_12 rfl (lv_at hl 2 rfl) ?_
    refine lv_iconst (v := 1) hx hb dX3_findSawn_13 (by decide) ?_
    refine lv_aload_n hx hb dX3_findSawn_14 rfl (lv_at hl 0 rfl) ?_
    refine wd_getR (q := 33) X hP L232 fl_X3_25 rfl dX3_findSawn_15 ?_
    refine wd_getI X hP (isRaft.a0 R33) fl_X3_52 rfl dX3_findSawn_18 ?_
    refine lv_ishl hx hb dX3_findSawn_21 ?_
    refine lv_icmp_ge (tgt := 97) hx hb dX3_findSawn_22 (by decide) (fun c_7 => ?_) (fun c_7 => ?_)
    · have hf := itT hf c_7
      obtain rfl := Option.some.inj hf
      exact hE _ rfl H locs ls hP hS (lv_sub hl [] rfl)
    · have hf := itF hf c_7
      refine lv_aload_n hx hb dX3_findSawn_25 rfl (lv_at hl 0 rfl) ?_
      refine wd_getR (q := 229) X hP L232 fl_X3_26 rfl dX3_findSawn_26 ?_
      refine lv_aload_n hx hb dX3_findSawn_29 rfl (lv_at hl 0 rfl) ?_
      refine wd_getR (q := 33) X hP L232 fl_X3_25 rfl dX3_findSawn_30 ?_
      refine lv_iload_n hx hb dX3_findSawn_33 rfl (lv_at hl 2 rfl) ?_
      obtain ⟨mm_8, hc_9, hf⟩ := bi1S hf
      refine wd_cv X hP hS L229 ml_X3_55 ⟨_, _, rfl⟩ (c_X2_find l D dA zz bs mmL_15 33 27 R33 y2L_15 mm_8 hc_9) rfl ⟨Nat.le_of_ble_eq_true rfl, Nat.le_of_ble_eq_true rfl⟩ hl.1 rfl (rest := []) (Nat.le_of_ble_eq_true rfl) ⟨Nat.zero_le _, Nat.zero_le _⟩ dX3_findSawn_34 (fun H locs hP hS => ?_)
      refine W.eq (g2 := F0 m 37 ls []) rfl ?_
      refine lv_aload_n hx hb dX3_findSawn_37 rfl (lv_at hl 0 rfl) ?_
      refine wd_getR (q := 229) X hP L232 fl_X3_26 rfl dX3_findSawn_38 ?_
      refine lv_aload_n hx hb dX3_findSawn_41 rfl (lv_at hl 0 rfl) ?_
      refine wd_getR (q := 33) X hP L232 fl_X3_25 rfl dX3_findSawn_42 ?_
      obtain ⟨r_11, hc_10, hf⟩ := bi1S hf
      refine wd_cv X hP hS L229 ml_X3_61 ⟨_, _, rfl⟩ (c_X2_notFloating l D dA zz bs mm_8 33 27 R33 r_11 hc_10) rfl ⟨Nat.le_of_ble_eq_true rfl, Nat.le_of_ble_eq_true rfl⟩ hl.1 rfl (rest := []) (Nat.le_of_ble_eq_true rfl) ⟨Nat.zero_le _, Nat.zero_le _⟩ dX3_findSawn_45 (fun H locs hP hS => ?_)
      refine W.eq (g2 := F0 m 48 ls [.int r_11]) rfl ?_
      refine lv_iload_n hx hb dX3_findSawn_48 rfl (lv_at hl 1 rfl) ?_
      refine lv_icmp_eq (tgt := 55) hx hb dX3_findSawn_49 (by decide) (fun c_12 => ?_) (fun c_12 => ?_)
      · have hf := itT hf c_12
        refine lv_aload_n hx hb dX3_findSawn_55 rfl (lv_at hl 0 rfl) ?_
        refine wd_getI X hP L232 fl_X3_45 rfl dX3_findSawn_56 ?_
        refine lv_if_eq (tgt := 76) hx hb dX3_findSawn_59 (by decide) (fun c_13 => ?_) (fun c_13 => ?_)
        · have hf := itT hf c_13
          exact hJ76 mm_8 y2L_15 H locs ls hf hP hS (lv_sub hl [0, 1, 2] rfl)
        · have hf := itF hf c_13
          refine lv_iload_n hx hb dX3_findSawn_62 rfl (lv_at hl 2 rfl) ?_
          refine wd_cs X hP hS ml_X3_40 (c_J6_bitCount_0f7a4 l D dA zz bs mm_8 y2L_15 (f_J6_bitCount_0f7a4 y2L_15) rfl) rfl ⟨Nat.le_of_ble_eq_true rfl, Nat.le_of_ble_eq_true rfl⟩ hl.1 rfl (rest := []) (Nat.le_of_ble_eq_true rfl) ⟨Nat.zero_le _, Nat.zero_le _⟩ dX3_findSawn_63 (fun H locs hP hS => ?_)
          refine W.eq (g2 := F0 m 66 ls [.int (f_J6_bitCount_0f7a4 y2L_15)]) rfl ?_
          refine lv_aload_n hx hb dX3_findSawn_66 rfl (lv_at hl 0 rfl) ?_
          refine wd_getI X hP L232 fl_X3_49 rfl dX3_findSawn_67 ?_
          refine wd_cs X hP hS ml_X3_40 (c_J6_bitCount_0f7a4 l D dA zz bs mm_8 (mm_8.1 232 5) (f_J6_bitCount_0f7a4 (mm_8.1 232 5)) rfl) rfl ⟨Nat.le_of_ble_eq_true rfl, Nat.le_of_ble_eq_true rfl⟩ hl.1 rfl (rest := [.int (f_J6_bitCount_0f7a4 y2L_15)]) (Nat.le_of_ble_eq_true rfl) ⟨Nat.zero_le _, Nat.zero_le _⟩ dX3_findSawn_70 (fun H locs hP hS => ?_)
          refine W.eq (g2 := F0 m 73 ls [.int (f_J6_bitCount_0f7a4 (mm_8.1 232 5)), .int (f_J6_bitCount_0f7a4 y2L_15)]) rfl ?_
          refine lv_icmp_ge (tgt := 81) hx hb dX3_findSawn_73 (by decide) (fun c_14 => ?_) (fun c_14 => ?_)
          · have hf := itT hf c_14
            exact hJ81 mm_8 y2L_15 H locs ls hf hP hS (lv_sub hl [0, 1, 2] rfl)
          · have hf := itF hf c_14
            exact hJ76 mm_8 y2L_15 H locs ls hf hP hS (lv_sub hl [0, 1, 2] rfl)
      · have hf := itF hf c_12
        refine lv_goto (tgt := 91) hx hb dX3_findSawn_52 (by decide) ?_
        refine lv_iinc (v := (y2L_15 + 1)) (lv' := [(2, .int (y2L_15 + 1)), (0, .ref (bs + 232)), (1, .int x1)]) hx hb dX3_findSawn_91 hl (k := 2) rfl rfl (by decide) rfl (fun ls hl => ?_)
        refine lv_goto (tgt := 12) hx hb dX3_findSawn_94 (by decide) ?_
        obtain rfl := Option.some.inj hf
        exact hB _ rfl H locs ls hP hS (lv_sub hl [1, 2, 0] rfl)
  · obtain ⟨mm_16, e_mm_16⟩ : ∃ z, z = q_17 := ⟨_, rfl⟩
    subst e_mm_16
    intro H locs ls hP hS hl
    obtain rfl := Option.some.inj hf
    exact wd_vret X hP hS hr0 dX3_findSawn_97 ⟨rfl, rfl⟩

noncomputable def f_X3_bindCheapest_j128 (mm : Mm) (y4 : Int32) (y5 : Int32) (y6 : Int32) : Option ((Int32 × Int32 × Int32 × Int32) ⊕ (Int32 × Int32 × Int32)) :=
  some (.inl (y6, y4, y5, (y5 + 1)))
noncomputable def f_X3_bindCheapest_s22 (mm : Mm) (y4 : Int32) : (Int32 × Int32 × Int32 × Int32) → Option ((Int32 × Int32 × Int32 × Int32) ⊕ (Int32 × Int32 × Int32)) :=
  fun q => match q with
  | (y1, y2, y3, y5) =>
    if (8 : Int32) ≤ y5 then
      some (.inr (y1, y2, y3))
    else
      if y4 < 0 ∨ 8 ≤ y4.toNatClampNeg then none else
        if (mm.1 230 y4.toNatClampNeg) = 0 then
          some (.inl (y1, y2, y3, (y5 + 1)))
        else
          if y5 < 0 ∨ 8 ≤ y5.toNatClampNeg then none else
            if (mm.1 230 y5.toNatClampNeg) = 0 then
              some (.inl (y1, y2, y3, (y5 + 1)))
            else
              if y4 < 0 ∨ 8 ≤ y4.toNatClampNeg then none else
                if y5 < 0 ∨ 8 ≤ y5.toNatClampNeg then none else
                  if (mm.1 230 y4.toNatClampNeg) = (mm.1 230 y5.toNatClampNeg) then
                    some (.inl (y1, y2, y3, (y5 + 1)))
                  else
                    if y4 < 0 ∨ 8 ≤ y4.toNatClampNeg then none else
                      if y5 < 0 ∨ 8 ≤ y5.toNatClampNeg then none else
                        vlet ((1 : Int32) + ((if 0 ≤ ((mm.1 30 y4.toNatClampNeg) - (mm.1 30 y5.toNatClampNeg)) then ((mm.1 30 y4.toNatClampNeg) - (mm.1 30 y5.toNatClampNeg)) else 0 - ((mm.1 30 y4.toNatClampNeg) - (mm.1 30 y5.toNatClampNeg))) / (5 : Int32))) fun (x6_13 : Int32) =>
                          if y1 = (-1 : Int32) then
                            f_X3_bindCheapest_j128 mm y4 y5 x6_13
                          else
                            if y1 ≤ x6_13 then
                              some (.inl (y1, y2, y3, (y5 + 1)))
                            else
                              f_X3_bindCheapest_j128 mm y4 y5 x6_13
noncomputable def f_X3_bindCheapest_s9 (mm : Mm) : (Int32 × Int32 × Int32 × Int32) → Option ((Int32 × Int32 × Int32 × Int32) ⊕ (Int32 × Int32 × Int32)) :=
  fun q => match q with
  | (y1, y2, y3, y4) =>
    if (8 : Int32) ≤ y4 then
      some (.inr (y1, y2, y3))
    else
      bi1 (lp (f_X3_bindCheapest_s22 mm y4) (y1, y2, y3, (y4 + (1 : Int32)))) fun q => match q with
      | (w1_17, w2_18, w3_19) =>
        some (.inl (w1_17, w2_18, w3_19, (y4 + 1)))
noncomputable def f_X3_bindCheapest (mm : Mm) : Option (Mm) :=
  bi1 (lp (f_X3_bindCheapest_s9 mm) ((-1 : Int32), (0 : Int32), (0 : Int32), (0 : Int32))) fun q => match q with
  | (w1_23, w2_24, w3_25) =>
    if w1_23 = (-1 : Int32) then
      some mm
    else
      bi1 (f_X2_unite mm w2_24 w3_25) fun mm_27 =>
        vlet (wI mm_27 232 6 ((mm_27.1 232 6) + w1_23)) fun mm_29 =>
          vlet (wI mm_29 232 7 ((mm_29.1 232 7) + (1 : Int32))) fun mm_30 => some mm_30
set_option maxHeartbeats 4000000 in
set_option maxRecDepth 100000 in
theorem c_X3_bindCheapest (l : Launch) (D : va_G) (dA : Nat → ClassId) (zz : (Nat → Nat) × (Nat → Nat)) (bs : Nat) (mm : Mm) (m1 : Mm) (hf : f_X3_bindCheapest mm = some m1) : Mw l D dA zz bs LY yX3_bindCheapest cX3_bindCheapest 7 none 2 45 [.ref (bs + 232)] mm none m1 := by
  refine Mw.of (own := RX3) (by decide) rfl (Nat.le_of_ble_eq_true rfl) ?_
  intro p e s m args below meth c X hr0 hP hS ls hl
  have hx := X.1
  have hb := X.2.1
  obtain ⟨H, hH⟩ : ∃ z : Heap, z = s.heap := ⟨_, rfl⟩
  obtain ⟨locs, hL⟩ : ∃ z : List Loc, z = [] := ⟨_, rfl⟩
  rw [← hH, ← hL]
  have hS : va_S (Aq bs) s.heap H locs := by rw [hH, hL]; exact hS
  have hP : Wd D dA bs LY mm H := by rw [hH]; exact hP
  have hl : lv_has ls 7 [(0, .ref (bs + 232))] := hl
  unfold f_X3_bindCheapest at hf
  refine lv_iconst (v := -1) hx hb dX3_bindCheapest_0 (by decide) ?_
  refine lv_istore_n (lv' := [(1, .int (-1 : Int32)), (0, .ref (bs + 232))]) hx hb dX3_bindCheapest_1 rfl hl (by decide) rfl (fun ls hl => ?_)
  refine lv_iconst (v := 0) hx hb dX3_bindCheapest_2 (by decide) ?_
  refine lv_istore_n (lv' := [(2, .int (0 : Int32)), (1, .int (-1 : Int32)), (0, .ref (bs + 232))]) hx hb dX3_bindCheapest_3 rfl hl (by decide) rfl (fun ls hl => ?_)
  refine lv_iconst (v := 0) hx hb dX3_bindCheapest_4 (by decide) ?_
  refine lv_istore_n (lv' := [(3, .int (0 : Int32)), (2, .int (0 : Int32)), (1, .int (-1 : Int32)), (0, .ref (bs + 232))]) hx hb dX3_bindCheapest_5 rfl hl (by decide) rfl (fun ls hl => ?_)
  refine lv_iconst (v := 0) hx hb dX3_bindCheapest_6 (by decide) ?_
  refine lv_istore (lv' := [(4, .int (0 : Int32)), (3, .int (0 : Int32)), (2, .int (0 : Int32)), (1, .int (-1 : Int32)), (0, .ref (bs + 232))]) hx hb dX3_bindCheapest_7 hl (by decide) rfl (fun ls hl => ?_)
  obtain ⟨q_31, hlp_32, hf⟩ := bi1S hf
  refine lp_walk (Wh := (fun z => match z with | (y1L_22, y2L_22, y3L_22, y4L_22) => ∀ (H : Heap) (locs : List Loc) (ls : Array Slot), Wd D dA bs LY mm H → va_S (Aq bs) s.heap H locs → lv_has ls 7 [(0, .ref (bs + 232)), (1, .int y1L_22), (2, .int y2L_22), (3, .int y3L_22), (4, .int y4L_22)] → Wz p l e s m args below meth c D dA bs none m1 2 45 H locs 9 ls [])) (Ph := (fun z => match z with | (w1_23, w2_24, w3_25) => ∀ (H : Heap) (locs : List Loc) (ls : Array Slot), Wd D dA bs LY mm H → va_S (Aq bs) s.heap H locs → lv_has ls 7 [(0, .ref (bs + 232)), (1, .int w1_23), (2, .int w2_24), (3, .int w3_25)] → Wz p l e s m args below meth c D dA bs none m1 2 45 H locs 149 ls [])) ?_ hlp_32 ?_ H locs ls hP hS (lv_sub hl [4, 3, 2, 1, 0] rfl)
  · intro z o hf hB hE
    obtain ⟨y1L_22, y2L_22, y3L_22, y4L_22⟩ := z
    intro H locs ls hP hS hl
    have hf : f_X3_bindCheapest_s9 mm (y1L_22, y2L_22, y3L_22, y4L_22) = some o := hf
    unfold f_X3_bindCheapest_s9 at hf
    dsimp only at hf
    refine lv_iload hx hb dX3_bindCheapest_9 (lv_at hl 4 rfl) ?_
    refine lv_bipush (v := 8) hx hb dX3_bindCheapest_11 (by decide) ?_
    refine lv_icmp_ge (tgt := 149) hx hb dX3_bindCheapest_13 (by decide) (fun c_1 => ?_) (fun c_1 => ?_)
    · have hf := itT hf c_1
      obtain rfl := Option.some.inj hf
      exact hE _ rfl H locs ls hP hS (lv_sub hl [0, 1, 2, 3] rfl)
    · have hf := itF hf c_1
      refine lv_iload hx hb dX3_bindCheapest_16 (lv_at hl 4 rfl) ?_
      refine lv_iconst (v := 1) hx hb dX3_bindCheapest_18 (by decide) ?_
      refine lv_iadd hx hb dX3_bindCheapest_19 ?_
      refine lv_istore (lv' := [(5, .int (y4L_22 + (1 : Int32))), (0, .ref (bs + 232)), (1, .int y1L_22), (2, .int y2L_22), (3, .int y3L_22), (4, .int y4L_22)]) hx hb dX3_bindCheapest_20 hl (by decide) rfl (fun ls hl => ?_)
      obtain ⟨q_20, hlp_21, hf⟩ := bi1S hf
      refine lp_walk (Wh := (fun z => match z with | (y1L_16, y2L_16, y3L_16, y5L_16) => ∀ (H : Heap) (locs : List Loc) (ls : Array Slot), Wd D dA bs LY mm H → va_S (Aq bs) s.heap H locs → lv_has ls 7 [(0, .ref (bs + 232)), (1, .int y1L_16), (2, .int y2L_16), (3, .int y3L_16), (4, .int y4L_22), (5, .int y5L_16)] → Wz p l e s m args below meth c D dA bs none m1 2 45 H locs 22 ls [])) (Ph := (fun z => match z with | (w1_17, w2_18, w3_19) => ∀ (H : Heap) (locs : List Loc) (ls : Array Slot), Wd D dA bs LY mm H → va_S (Aq bs) s.heap H locs → lv_has ls 7 [(0, .ref (bs + 232)), (1, .int w1_17), (2, .int w2_18), (3, .int w3_19), (4, .int y4L_22)] → Wz p l e s m args below meth c D dA bs none m1 2 45 H locs 143 ls [])) ?_ hlp_21 ?_ H locs ls hP hS (lv_sub hl [1, 2, 3, 4, 5, 0] rfl)
      · intro z o hf hB hE
        obtain ⟨y1L_16, y2L_16, y3L_16, y5L_16⟩ := z
        intro H locs ls hP hS hl
        have hf : f_X3_bindCheapest_s22 mm y4L_22 (y1L_16, y2L_16, y3L_16, y5L_16) = some o := hf
        unfold f_X3_bindCheapest_s22 at hf
        dsimp only at hf
        have hJ128 : ∀ (y5J_2 : Int32) (y6J_2 : Int32) (H : Heap) (locs : List Loc) (ls : Array Slot), f_X3_bindCheapest_j128 mm y4L_22 y5J_2 y6J_2 = some o → Wd D dA bs LY mm H → va_S (Aq bs) s.heap H locs → lv_has ls 7 [(0, .ref (bs + 232)), (4, .int y4L_22), (5, .int y5J_2), (6, .int y6J_2)] → Wz p l e s m args below meth c D dA bs none m1 2 45 H locs 128 ls [] := by
          intro y5J_2 y6J_2 H locs ls hf hP hS hl
          unfold f_X3_bindCheapest_j128 at hf
          refine lv_iload hx hb dX3_bindCheapest_128 (lv_at hl 3 rfl) ?_
          refine lv_istore_n (lv' := [(1, .int y6J_2), (0, .ref (bs + 232)), (4, .int y4L_22), (5, .int y5J_2), (6, .int y6J_2)]) hx hb dX3_bindCheapest_130 rfl hl (by decide) rfl (fun ls hl => ?_)
          refine lv_iload hx hb dX3_bindCheapest_131 (lv_at hl 2 rfl) ?_
          refine lv_istore_n (lv' := [(2, .int y4L_22), (1, .int y6J_2), (0, .ref (bs + 232)), (4, .int y4L_22), (5, .int y5J_2), (6, .int y6J_2)]) hx hb dX3_bindCheapest_133 rfl hl (by decide) rfl (fun ls hl => ?_)
          refine lv_iload hx hb dX3_bindCheapest_134 (lv_at hl 4 rfl) ?_
          refine lv_istore_n (lv' := [(3, .int y5J_2), (2, .int y4L_22), (1, .int y6J_2), (0, .ref (bs + 232)), (4, .int y4L_22), (5, .int y5J_2), (6, .int y6J_2)]) hx hb dX3_bindCheapest_136 rfl hl (by decide) rfl (fun ls hl => ?_)
          refine lv_iinc (v := (y5J_2 + 1)) (lv' := [(5, .int (y5J_2 + 1)), (3, .int y5J_2), (2, .int y4L_22), (1, .int y6J_2), (0, .ref (bs + 232)), (4, .int y4L_22), (6, .int y6J_2)]) hx hb dX3_bindCheapest_137 hl (k := 5) rfl rfl (by decide) rfl (fun ls hl => ?_)
          refine lv_goto (tgt := 22) hx hb dX3_bindCheapest_140 (by decide) ?_
          obtain rfl := Option.some.inj hf
          exact hB _ rfl H locs ls hP hS (lv_sub hl [4, 3, 2, 1, 5, 0] rfl)
        refine lv_iload hx hb dX3_bindCheapest_22 (lv_at hl 5 rfl) ?_
        refine lv_bipush (v := 8) hx hb dX3_bindCheapest_24 (by decide) ?_
        refine lv_icmp_ge (tgt := 143) hx hb dX3_bindCheapest_26 (by decide) (fun c_3 => ?_) (fun c_3 => ?_)
        · have hf := itT hf c_3
          obtain rfl := Option.some.inj hf
          exact hE _ rfl H locs ls hP hS (lv_sub hl [0, 1, 2, 3, 4] rfl)
        · have hf := itF hf c_3
          refine lv_aload_n hx hb dX3_bindCheapest_29 rfl (lv_at hl 0 rfl) ?_
          refine wd_getR (q := 229) X hP L232 fl_X3_26 rfl dX3_bindCheapest_30 ?_
          refine wd_getR (q := 230) X hP L229 fl_X3_81 rfl dX3_bindCheapest_33 ?_
          refine lv_iload hx hb dX3_bindCheapest_36 (lv_at hl 4 rfl) ?_
          have g_4 := gdN hf
          have hf := gdK hf
          refine wd_iald X hP L230 g_4 dX3_bindCheapest_38 ?_
          refine lv_if_eq (tgt := 137) hx hb dX3_bindCheapest_39 (by decide) (fun c_5 => ?_) (fun c_5 => ?_)
          · have hf := itT hf c_5
            refine lv_iinc (v := (y5L_16 + 1)) (lv' := [(5, .int (y5L_16 + 1)), (0, .ref (bs + 232)), (1, .int y1L_16), (2, .int y2L_16), (3, .int y3L_16), (4, .int y4L_22)]) hx hb dX3_bindCheapest_137 hl (k := 5) rfl rfl (by decide) rfl (fun ls hl => ?_)
            refine lv_goto (tgt := 22) hx hb dX3_bindCheapest_140 (by decide) ?_
            obtain rfl := Option.some.inj hf
            exact hB _ rfl H locs ls hP hS (lv_sub hl [1, 2, 3, 4, 5, 0] rfl)
          · have hf := itF hf c_5
            refine lv_aload_n hx hb dX3_bindCheapest_42 rfl (lv_at hl 0 rfl) ?_
            refine wd_getR (q := 229) X hP L232 fl_X3_26 rfl dX3_bindCheapest_43 ?_
            refine wd_getR (q := 230) X hP L229 fl_X3_81 rfl dX3_bindCheapest_46 ?_
            refine lv_iload hx hb dX3_bindCheapest_49 (lv_at hl 5 rfl) ?_
            have g_6 := gdN hf
            have hf := gdK hf
            refine wd_iald X hP L230 g_6 dX3_bindCheapest_51 ?_
            refine lv_if_eq (tgt := 137) hx hb dX3_bindCheapest_52 (by decide) (fun c_7 => ?_) (fun c_7 => ?_)
            · have hf := itT hf c_7
              refine lv_iinc (v := (y5L_16 + 1)) (lv' := [(5, .int (y5L_16 + 1)), (0, .ref (bs + 232)), (1, .int y1L_16), (2, .int y2L_16), (3, .int y3L_16), (4, .int y4L_22)]) hx hb dX3_bindCheapest_137 hl (k := 5) rfl rfl (by decide) rfl (fun ls hl => ?_)
              refine lv_goto (tgt := 22) hx hb dX3_bindCheapest_140 (by decide) ?_
              obtain rfl := Option.some.inj hf
              exact hB _ rfl H locs ls hP hS (lv_sub hl [1, 2, 3, 4, 5, 0] rfl)
            · have hf := itF hf c_7
              refine lv_aload_n hx hb dX3_bindCheapest_55 rfl (lv_at hl 0 rfl) ?_
              refine wd_getR (q := 229) X hP L232 fl_X3_26 rfl dX3_bindCheapest_56 ?_
              refine wd_getR (q := 230) X hP L229 fl_X3_81 rfl dX3_bindCheapest_59 ?_
              refine lv_iload hx hb dX3_bindCheapest_62 (lv_at hl 4 rfl) ?_
              have g_8 := gdN hf
              have hf := gdK hf
              refine wd_iald X hP L230 g_8 dX3_bindCheapest_64 ?_
              refine lv_aload_n hx hb dX3_bindCheapest_65 rfl (lv_at hl 0 rfl) ?_
              refine wd_getR (q := 229) X hP L232 fl_X3_26 rfl dX3_bindCheapest_66 ?_
              refine wd_getR (q := 230) X hP L229 fl_X3_81 rfl dX3_bindCheapest_69 ?_
              refine lv_iload hx hb dX3_bindCheapest_72 (lv_at hl 5 rfl) ?_
              have g_9 := gdN hf
              have hf := gdK hf
              refine wd_iald X hP L230 g_9 dX3_bindCheapest_74 ?_
              refine lv_icmp_ne (tgt := 81) hx hb dX3_bindCheapest_75 (by decide) (fun c_10 => ?_) (fun c_10 => ?_)
              · have hf := itF hf c_10
                refine lv_iconst (v := 1) hx hb dX3_bindCheapest_81 (by decide) ?_
                refine lv_aload_n hx hb dX3_bindCheapest_82 rfl (lv_at hl 0 rfl) ?_
                refine wd_getR (q := 33) X hP L232 fl_X3_25 rfl dX3_bindCheapest_83 ?_
                refine wd_getR (q := 27) X hP (isRaft.a0 R33) fl_X3_84 rfl dX3_bindCheapest_86 ?_
                refine wd_getR (q := 30) X hP (isRiver.a0 V27) fl_X3_88 rfl dX3_bindCheapest_89 ?_
                refine lv_iload hx hb dX3_bindCheapest_92 (lv_at hl 4 rfl) ?_
                have g_11 := gdN hf
                have hf := gdK hf
                refine wd_iald X hP (isRiver.a3 V27) g_11 dX3_bindCheapest_94 ?_
                refine lv_aload_n hx hb dX3_bindCheapest_95 rfl (lv_at hl 0 rfl) ?_
                refine wd_getR (q := 33) X hP L232 fl_X3_25 rfl dX3_bindCheapest_96 ?_
                refine wd_getR (q := 27) X hP (isRaft.a0 R33) fl_X3_84 rfl dX3_bindCheapest_99 ?_
                refine wd_getR (q := 30) X hP (isRiver.a0 V27) fl_X3_88 rfl dX3_bindCheapest_102 ?_
                refine lv_iload hx hb dX3_bindCheapest_105 (lv_at hl 5 rfl) ?_
                have g_12 := gdN hf
                have hf := gdK hf
                refine wd_iald X hP (isRiver.a3 V27) g_12 dX3_bindCheapest_107 ?_
                refine lv_isub hx hb dX3_bindCheapest_108 ?_
                refine va_mabs (own := RX3) hx hb (X.2.2.1.trans hl.1.symm) X.2.2.2.1 (X.2.2.2.2.1 _ (tb_at 1051 (by decide +kernel) (by decide +kernel))) (X.2.2.2.2.1 _ (tb_at 1052 (by decide +kernel) (by decide +kernel))) (X.2.2.2.2.1 _ (tb_at 19 (by decide +kernel) (by decide +kernel))) (X.2.2.2.2.1 _ (tb_at 1053 (by decide +kernel) (by decide +kernel))) (by decide) (Nat.le_of_ble_eq_true rfl) (Nat.zero_le _) (Nat.zero_le _) dX3_bindCheapest_109 ?_
                refine lv_iconst (v := 5) hx hb dX3_bindCheapest_112 (by decide) ?_
                refine lv_idiv hx hb dX3_bindCheapest_113 (by decide) ?_
                refine lv_iadd hx hb dX3_bindCheapest_114 ?_
                refine lv_topi (fun x6_13 ex6_13 => ?_)
                have hf := vl hf ex6_13
                refine lv_istore (lv' := [(6, .int x6_13), (0, .ref (bs + 232)), (1, .int y1L_16), (2, .int y2L_16), (3, .int y3L_16), (4, .int y4L_22), (5, .int y5L_16)]) hx hb dX3_bindCheapest_115 hl (by decide) rfl (fun ls hl => ?_)
                refine lv_iload_n hx hb dX3_bindCheapest_117 rfl (lv_at hl 2 rfl) ?_
                refine lv_iconst (v := -1) hx hb dX3_bindCheapest_118 (by decide) ?_
                refine lv_icmp_eq (tgt := 128) hx hb dX3_bindCheapest_119 (by decide) (fun c_14 => ?_) (fun c_14 => ?_)
                · have hf := itT hf c_14
                  exact hJ128 y5L_16 x6_13 H locs ls hf hP hS (lv_sub hl [1, 5, 6, 0] rfl)
                · have hf := itF hf c_14
                  refine lv_iload hx hb dX3_bindCheapest_122 (lv_at hl 0 rfl) ?_
                  refine lv_iload_n hx hb dX3_bindCheapest_124 rfl (lv_at hl 2 rfl) ?_
                  refine lv_icmp_ge (tgt := 137) hx hb dX3_bindCheapest_125 (by decide) (fun c_15 => ?_) (fun c_15 => ?_)
                  · have hf := itT hf c_15
                    refine lv_iinc (v := (y5L_16 + 1)) (lv' := [(5, .int (y5L_16 + 1)), (6, .int x6_13), (0, .ref (bs + 232)), (1, .int y1L_16), (2, .int y2L_16), (3, .int y3L_16), (4, .int y4L_22)]) hx hb dX3_bindCheapest_137 hl (k := 6) rfl rfl (by decide) rfl (fun ls hl => ?_)
                    refine lv_goto (tgt := 22) hx hb dX3_bindCheapest_140 (by decide) ?_
                    obtain rfl := Option.some.inj hf
                    exact hB _ rfl H locs ls hP hS (lv_sub hl [2, 3, 4, 5, 6, 0] rfl)
                  · have hf := itF hf c_15
                    exact hJ128 y5L_16 x6_13 H locs ls hf hP hS (lv_sub hl [1, 5, 6, 0] rfl)
              · have hf := itT hf c_10
                refine lv_goto (tgt := 137) hx hb dX3_bindCheapest_78 (by decide) ?_
                refine lv_iinc (v := (y5L_16 + 1)) (lv' := [(5, .int (y5L_16 + 1)), (0, .ref (bs + 232)), (1, .int y1L_16), (2, .int y2L_16), (3, .int y3L_16), (4, .int y4L_22)]) hx hb dX3_bindCheapest_137 hl (k := 5) rfl rfl (by decide) rfl (fun ls hl => ?_)
                refine lv_goto (tgt := 22) hx hb dX3_bindCheapest_140 (by decide) ?_
                obtain rfl := Option.some.inj hf
                exact hB _ rfl H locs ls hP hS (lv_sub hl [1, 2, 3, 4, 5, 0] rfl)
      · obtain ⟨w1_17, w2_18, w3_19⟩ := q_20
        dsimp only at hf
        intro H locs ls hP hS hl
        refine lv_iinc (v := (y4L_22 + 1)) (lv' := [(4, .int (y4L_22 + 1)), (0, .ref (bs + 232)), (1, .int w1_17), (2, .int w2_18), (3, .int w3_19)]) hx hb dX3_bindCheapest_143 hl (k := 4) rfl rfl (by decide) rfl (fun ls hl => ?_)
        refine lv_goto (tgt := 9) hx hb dX3_bindCheapest_146 (by decide) ?_
        obtain rfl := Option.some.inj hf
        exact hB _ rfl H locs ls hP hS (lv_sub hl [1, 2, 3, 4, 0] rfl)
  · obtain ⟨w1_23, w2_24, w3_25⟩ := q_31
    dsimp only at hf
    intro H locs ls hP hS hl
    refine lv_iload_n hx hb dX3_bindCheapest_149 rfl (lv_at hl 1 rfl) ?_
    refine lv_iconst (v := -1) hx hb dX3_bindCheapest_150 (by decide) ?_
    refine lv_icmp_eq (tgt := 183) hx hb dX3_bindCheapest_151 (by decide) (fun c_26 => ?_) (fun c_26 => ?_)
    · have hf := itT hf c_26
      obtain rfl := Option.some.inj hf
      exact wd_vret X hP hS hr0 dX3_bindCheapest_183 ⟨rfl, rfl⟩
    · have hf := itF hf c_26
      refine lv_aload_n hx hb dX3_bindCheapest_154 rfl (lv_at hl 0 rfl) ?_
      refine wd_getR (q := 229) X hP L232 fl_X3_26 rfl dX3_bindCheapest_155 ?_
      refine lv_iload_n hx hb dX3_bindCheapest_158 rfl (lv_at hl 2 rfl) ?_
      refine lv_iload_n hx hb dX3_bindCheapest_159 rfl (lv_at hl 3 rfl) ?_
      obtain ⟨mm_27, hc_28, hf⟩ := bi1S hf
      refine wd_cv X hP hS L229 ml_X3_98 ⟨_, _, rfl⟩ (c_X2_unite l D dA zz bs mm w2_24 w3_25 mm_27 hc_28) rfl ⟨Nat.le_of_ble_eq_true rfl, Nat.le_of_ble_eq_true rfl⟩ hl.1 rfl (rest := []) (Nat.le_of_ble_eq_true rfl) ⟨Nat.zero_le _, Nat.zero_le _⟩ dX3_bindCheapest_160 (fun H locs hP hS => ?_)
      refine W.eq (g2 := F0 m 163 ls []) rfl ?_
      refine lv_aload_n hx hb dX3_bindCheapest_163 rfl (lv_at hl 0 rfl) ?_
      refine lv_dup hx hb dX3_bindCheapest_164 rfl ?_
      refine wd_getI X hP L232 fl_X3_65 rfl dX3_bindCheapest_165 ?_
      refine lv_iload_n hx hb dX3_bindCheapest_168 rfl (lv_at hl 1 rfl) ?_
      refine lv_iadd hx hb dX3_bindCheapest_169 ?_
      refine wd_putI X hP hS L232 fp_X3_65 rfl dX3_bindCheapest_170 (fun H locs mm_29 emm_29 hP hS => ?_)
      have hf := vl hf emm_29
      refine lv_aload_n hx hb dX3_bindCheapest_173 rfl (lv_at hl 0 rfl) ?_
      refine lv_dup hx hb dX3_bindCheapest_174 rfl ?_
      refine wd_getI X hP L232 fl_X3_68 rfl dX3_bindCheapest_175 ?_
      refine lv_iconst (v := 1) hx hb dX3_bindCheapest_178 (by decide) ?_
      refine lv_iadd hx hb dX3_bindCheapest_179 ?_
      refine wd_putI X hP hS L232 fp_X3_68 rfl dX3_bindCheapest_180 (fun H locs mm_30 emm_30 hP hS => ?_)
      have hf := vl hf emm_30
      obtain rfl := Option.some.inj hf
      exact wd_vret X hP hS hr0 dX3_bindCheapest_183 ⟨rfl, rfl⟩

noncomputable def f_X3_findDelta_s34 (y1 : Int32) : (Int32 × Mm) → Option ((Int32 × Mm) ⊕ (Mm)) :=
  fun q => match q with
  | (y2, mm) =>
    if y1 ≤ y2 then
      some (.inr mm)
    else
      bi1 (f_X3_bindCheapest mm) fun mm_8 => some (.inl ((y2 + 1), mm_8))
noncomputable def f_X3_findDelta (mm : Mm) : Option (Mm) :=
  vlet (wI mm 232 6 (0 : Int32)) fun mm_1 =>
    vlet (wI mm_1 232 7 (0 : Int32)) fun mm_2 =>
      bi1 (f_X2_join mm_2 33 27 (0 : Int32)) fun mm_3 =>
        bi1 (f_X2_howMany mm_3) fun r_6 =>
          bi1 (lp (f_X3_findDelta_s34 (r_6 - (1 : Int32))) ((0 : Int32), mm_3)) fun mm_11 =>
            some mm_11
set_option maxHeartbeats 4000000 in
set_option maxRecDepth 100000 in
theorem c_X3_findDelta (l : Launch) (D : va_G) (dA : Nat → ClassId) (zz : (Nat → Nat) × (Nat → Nat)) (bs : Nat) (mm : Mm) (m1 : Mm) (hf : f_X3_findDelta mm = some m1) : Mw l D dA zz bs LY yX3_findDelta cX3_findDelta 3 none 3 71 [.ref (bs + 232)] mm none m1 := by
  refine Mw.of (own := RX3) (by decide) rfl (Nat.le_of_ble_eq_true rfl) ?_
  intro p e s m args below meth c X hr0 hP hS ls hl
  have hx := X.1
  have hb := X.2.1
  obtain ⟨H, hH⟩ : ∃ z : Heap, z = s.heap := ⟨_, rfl⟩
  obtain ⟨locs, hL⟩ : ∃ z : List Loc, z = [] := ⟨_, rfl⟩
  rw [← hH, ← hL]
  have hS : va_S (Aq bs) s.heap H locs := by rw [hH, hL]; exact hS
  have hP : Wd D dA bs LY mm H := by rw [hH]; exact hP
  have hl : lv_has ls 3 [(0, .ref (bs + 232))] := hl
  unfold f_X3_findDelta at hf
  refine lv_aload_n hx hb dX3_findDelta_0 rfl (lv_at hl 0 rfl) ?_
  refine lv_iconst (v := 0) hx hb dX3_findDelta_1 (by decide) ?_
  refine wd_putI X hP hS L232 fp_X3_65 rfl dX3_findDelta_2 (fun H locs mm_1 emm_1 hP hS => ?_)
  have hf := vl hf emm_1
  refine lv_aload_n hx hb dX3_findDelta_5 rfl (lv_at hl 0 rfl) ?_
  refine lv_iconst (v := 0) hx hb dX3_findDelta_6 (by decide) ?_
  refine wd_putI X hP hS L232 fp_X3_68 rfl dX3_findDelta_7 (fun H locs mm_2 emm_2 hP hS => ?_)
  have hf := vl hf emm_2
  refine lv_aload_n hx hb dX3_findDelta_10 rfl (lv_at hl 0 rfl) ?_
  refine wd_getR (q := 229) X hP L232 fl_X3_26 rfl dX3_findDelta_11 ?_
  refine lv_aload_n hx hb dX3_findDelta_14 rfl (lv_at hl 0 rfl) ?_
  refine wd_getR (q := 33) X hP L232 fl_X3_25 rfl dX3_findDelta_15 ?_
  refine lv_iconst (v := 0) hx hb dX3_findDelta_18 (by decide) ?_
  obtain ⟨mm_3, hc_4, hf⟩ := bi1S hf
  refine wd_cv X hP hS L229 ml_X3_71 ⟨_, _, rfl⟩ (c_X2_join l D dA zz bs mm_2 33 27 R33 (0 : Int32) mm_3 hc_4) rfl ⟨Nat.le_of_ble_eq_true rfl, Nat.le_of_ble_eq_true rfl⟩ hl.1 rfl (rest := []) (Nat.le_of_ble_eq_true rfl) ⟨Nat.zero_le _, Nat.zero_le _⟩ dX3_findDelta_19 (fun H locs hP hS => ?_)
  refine W.eq (g2 := F0 m 22 ls []) rfl ?_
  refine lv_aload_n hx hb dX3_findDelta_22 rfl (lv_at hl 0 rfl) ?_
  refine wd_getR (q := 229) X hP L232 fl_X3_26 rfl dX3_findDelta_23 ?_
  obtain ⟨r_6, hc_5, hf⟩ := bi1S hf
  refine wd_cv X hP hS L229 ml_X3_74 ⟨_, _, rfl⟩ (c_X2_howMany l D dA zz bs mm_3 r_6 hc_5) rfl ⟨Nat.le_of_ble_eq_true rfl, Nat.le_of_ble_eq_true rfl⟩ hl.1 rfl (rest := []) (Nat.le_of_ble_eq_true rfl) ⟨Nat.zero_le _, Nat.zero_le _⟩ dX3_findDelta_26 (fun H locs hP hS => ?_)
  refine W.eq (g2 := F0 m 29 ls [.int r_6]) rfl ?_
  refine lv_iconst (v := 1) hx hb dX3_findDelta_29 (by decide) ?_
  refine lv_isub hx hb dX3_findDelta_30 ?_
  refine lv_istore_n (lv' := [(1, .int (r_6 - (1 : Int32))), (0, .ref (bs + 232))]) hx hb dX3_findDelta_31 rfl hl (by decide) rfl (fun ls hl => ?_)
  refine lv_iconst (v := 0) hx hb dX3_findDelta_32 (by decide) ?_
  refine lv_istore_n (lv' := [(2, .int (0 : Int32)), (1, .int (r_6 - (1 : Int32))), (0, .ref (bs + 232))]) hx hb dX3_findDelta_33 rfl hl (by decide) rfl (fun ls hl => ?_)
  obtain ⟨q_12, hlp_13, hf⟩ := bi1S hf
  refine lp_walk (Wh := (fun z => match z with | (y2L_10, mmL_10) => ∀ (H : Heap) (locs : List Loc) (ls : Array Slot), Wd D dA bs LY mmL_10 H → va_S (Aq bs) s.heap H locs → lv_has ls 3 [(0, .ref (bs + 232)), (1, .int (r_6 - (1 : Int32))), (2, .int y2L_10)] → Wz p l e s m args below meth c D dA bs none m1 3 71 H locs 34 ls [])) (Ph := (fun mm_11 => ∀ (H : Heap) (locs : List Loc) (ls : Array Slot), Wd D dA bs LY mm_11 H → va_S (Aq bs) s.heap H locs → lv_has ls 3 [] → Wz p l e s m args below meth c D dA bs none m1 3 71 H locs 49 ls [])) ?_ hlp_13 ?_ H locs ls hP hS (lv_sub hl [2, 1, 0] rfl)
  · intro z o hf hB hE
    obtain ⟨y2L_10, mmL_10⟩ := z
    intro H locs ls hP hS hl
    have hf : f_X3_findDelta_s34 (r_6 - (1 : Int32)) (y2L_10, mmL_10) = some o := hf
    unfold f_X3_findDelta_s34 at hf
    dsimp only at hf
    refine lv_iload_n hx hb dX3_findDelta_34 rfl (lv_at hl 2 rfl) ?_
    refine lv_iload_n hx hb dX3_findDelta_35 rfl (lv_at hl 1 rfl) ?_
    refine lv_icmp_ge (tgt := 49) hx hb dX3_findDelta_36 (by decide) (fun c_7 => ?_) (fun c_7 => ?_)
    · have hf := itT hf c_7
      obtain rfl := Option.some.inj hf
      exact hE _ rfl H locs ls hP hS (lv_sub hl [] rfl)
    · have hf := itF hf c_7
      refine lv_aload_n hx hb dX3_findDelta_39 rfl (lv_at hl 0 rfl) ?_
      obtain ⟨mm_8, hc_9, hf⟩ := bi1S hf
      refine wd_cv X hP hS L232 ml_X3_78 ⟨_, _, rfl⟩ (c_X3_bindCheapest l D dA zz bs mmL_10 mm_8 hc_9) rfl ⟨Nat.le_of_ble_eq_true rfl, Nat.le_of_ble_eq_true rfl⟩ hl.1 rfl (rest := []) (Nat.le_of_ble_eq_true rfl) ⟨Nat.zero_le _, Nat.zero_le _⟩ dX3_findDelta_40 (fun H locs hP hS => ?_)
      refine W.eq (g2 := F0 m 43 ls []) rfl ?_
      refine lv_iinc (v := (y2L_10 + 1)) (lv' := [(2, .int (y2L_10 + 1)), (0, .ref (bs + 232)), (1, .int (r_6 - (1 : Int32)))]) hx hb dX3_findDelta_43 hl (k := 2) rfl rfl (by decide) rfl (fun ls hl => ?_)
      refine lv_goto (tgt := 34) hx hb dX3_findDelta_46 (by decide) ?_
      obtain rfl := Option.some.inj hf
      exact hB _ rfl H locs ls hP hS (lv_sub hl [1, 2, 0] rfl)
  · obtain ⟨mm_11, e_mm_11⟩ : ∃ z, z = q_12 := ⟨_, rfl⟩
    subst e_mm_11
    intro H locs ls hP hS hl
    obtain rfl := Option.some.inj hf
    exact wd_vret X hP hS hr0 dX3_findDelta_49 ⟨rfl, rfl⟩

noncomputable def f_X3_weakRopes_s4  : (Int32 × Int32 × Mm) → Option ((Int32 × Int32 × Mm) ⊕ (Int32 × Mm)) :=
  fun q => match q with
  | (y1, y2, mm) =>
    if (mm.1 33 3) ≤ y2 then
      some (.inr (y1, mm))
    else
      bi1 (f_X2_join mm 33 27 ((1 : Int32) <<< (y2 &&& 31))) fun mm_2 =>
        if y2 < 0 ∨ 12 ≤ y2.toNatClampNeg then none else
          if (mm_2.1 39 y2.toNatClampNeg) < 0 ∨ 8 ≤ (mm_2.1 39 y2.toNatClampNeg).toNatClampNeg then none else
            if y2 < 0 ∨ 12 ≤ y2.toNatClampNeg then none else
              if (f_X11_contains (mm_2.1 230 (mm_2.1 39 y2.toNatClampNeg).toNatClampNeg) (mm_2.1 40 y2.toNatClampNeg)) = 0 then
                vlet (y1 ||| ((1 : Int32) <<< (y2 &&& 31))) fun (x1_8 : Int32) => some (.inl (x1_8, (y2 + 1), mm_2))
              else
                some (.inl (y1, (y2 + 1), mm_2))
noncomputable def f_X3_weakRopes (mm : Mm) : Option (Int32 × Mm) :=
  bi1 (lp (f_X3_weakRopes_s4) ((0 : Int32), (0 : Int32), mm)) fun q => match q with
  | (w1_10, mm_11) =>
    some (w1_10, mm_11)
set_option maxHeartbeats 4000000 in
set_option maxRecDepth 100000 in
theorem c_X3_weakRopes (l : Launch) (D : va_G) (dA : Nat → ClassId) (zz : (Nat → Nat) × (Nat → Nat)) (bs : Nat) (mm : Mm) (out : Int32) (m1 : Mm) (hf : f_X3_weakRopes mm = some (out, m1)) : Mw l D dA zz bs LY yX3_weakRopes cX3_weakRopes 3 (some .int) 3 68 [.ref (bs + 232)] mm (some (.int out)) m1 := by
  refine Mw.of (own := RX3) (by decide) rfl (Nat.le_of_ble_eq_true rfl) ?_
  intro p e s m args below meth c X hr0 hP hS ls hl
  have hx := X.1
  have hb := X.2.1
  obtain ⟨H, hH⟩ : ∃ z : Heap, z = s.heap := ⟨_, rfl⟩
  obtain ⟨locs, hL⟩ : ∃ z : List Loc, z = [] := ⟨_, rfl⟩
  rw [← hH, ← hL]
  have hS : va_S (Aq bs) s.heap H locs := by rw [hH, hL]; exact hS
  have hP : Wd D dA bs LY mm H := by rw [hH]; exact hP
  have hl : lv_has ls 3 [(0, .ref (bs + 232))] := hl
  unfold f_X3_weakRopes at hf
  refine lv_iconst (v := 0) hx hb dX3_weakRopes_0 (by decide) ?_
  refine lv_istore_n (lv' := [(1, .int (0 : Int32)), (0, .ref (bs + 232))]) hx hb dX3_weakRopes_1 rfl hl (by decide) rfl (fun ls hl => ?_)
  refine lv_iconst (v := 0) hx hb dX3_weakRopes_2 (by decide) ?_
  refine lv_istore_n (lv' := [(2, .int (0 : Int32)), (1, .int (0 : Int32)), (0, .ref (bs + 232))]) hx hb dX3_weakRopes_3 rfl hl (by decide) rfl (fun ls hl => ?_)
  obtain ⟨q_12, hlp_13, hf⟩ := bi1S hf
  refine lp_walk (Wh := (fun z => match z with | (y1L_9, y2L_9, mmL_9) => ∀ (H : Heap) (locs : List Loc) (ls : Array Slot), Wd D dA bs LY mmL_9 H → va_S (Aq bs) s.heap H locs → lv_has ls 3 [(0, .ref (bs + 232)), (1, .int y1L_9), (2, .int y2L_9)] → Wz p l e s m args below meth c D dA bs (some (.int out)) m1 3 68 H locs 4 ls [])) (Ph := (fun z => match z with | (w1_10, mm_11) => ∀ (H : Heap) (locs : List Loc) (ls : Array Slot), Wd D dA bs LY mm_11 H → va_S (Aq bs) s.heap H locs → lv_has ls 3 [(1, .int w1_10)] → Wz p l e s m args below meth c D dA bs (some (.int out)) m1 3 68 H locs 73 ls [])) ?_ hlp_13 ?_ H locs ls hP hS (lv_sub hl [2, 1, 0] rfl)
  · intro z o hf hB hE
    obtain ⟨y1L_9, y2L_9, mmL_9⟩ := z
    intro H locs ls hP hS hl
    have hf : f_X3_weakRopes_s4 (y1L_9, y2L_9, mmL_9) = some o := hf
    unfold f_X3_weakRopes_s4 at hf
    dsimp only at hf
    refine lv_iload_n hx hb dX3_weakRopes_4 rfl (lv_at hl 2 rfl) ?_
    refine lv_aload_n hx hb dX3_weakRopes_5 rfl (lv_at hl 0 rfl) ?_
    refine wd_getR (q := 33) X hP L232 fl_X3_25 rfl dX3_weakRopes_6 ?_
    refine wd_getI X hP (isRaft.a0 R33) fl_X3_52 rfl dX3_weakRopes_9 ?_
    refine lv_icmp_ge (tgt := 73) hx hb dX3_weakRopes_12 (by decide) (fun c_1 => ?_) (fun c_1 => ?_)
    · have hf := itT hf c_1
      obtain rfl := Option.some.inj hf
      exact hE _ rfl H locs ls hP hS (lv_sub hl [1] rfl)
    · have hf := itF hf c_1
      refine lv_aload_n hx hb dX3_weakRopes_15 rfl (lv_at hl 0 rfl) ?_
      refine wd_getR (q := 229) X hP L232 fl_X3_26 rfl dX3_weakRopes_16 ?_
      refine lv_aload_n hx hb dX3_weakRopes_19 rfl (lv_at hl 0 rfl) ?_
      refine wd_getR (q := 33) X hP L232 fl_X3_25 rfl dX3_weakRopes_20 ?_
      refine lv_iconst (v := 1) hx hb dX3_weakRopes_23 (by decide) ?_
      refine lv_iload_n hx hb dX3_weakRopes_24 rfl (lv_at hl 2 rfl) ?_
      refine lv_ishl hx hb dX3_weakRopes_25 ?_
      obtain ⟨mm_2, hc_3, hf⟩ := bi1S hf
      refine wd_cv X hP hS L229 ml_X3_71 ⟨_, _, rfl⟩ (c_X2_join l D dA zz bs mmL_9 33 27 R33 ((1 : Int32) <<< (y2L_9 &&& 31)) mm_2 hc_3) rfl ⟨Nat.le_of_ble_eq_true rfl, Nat.le_of_ble_eq_true rfl⟩ hl.1 rfl (rest := []) (Nat.le_of_ble_eq_true rfl) ⟨Nat.zero_le _, Nat.zero_le _⟩ dX3_weakRopes_26 (fun H locs hP hS => ?_)
      refine W.eq (g2 := F0 m 29 ls []) rfl ?_
      refine lv_aload_n hx hb dX3_weakRopes_29 rfl (lv_at hl 0 rfl) ?_
      refine wd_getR (q := 229) X hP L232 fl_X3_26 rfl dX3_weakRopes_30 ?_
      refine wd_getR (q := 230) X hP L229 fl_X3_81 rfl dX3_weakRopes_33 ?_
      refine lv_aload_n hx hb dX3_weakRopes_36 rfl (lv_at hl 0 rfl) ?_
      refine wd_getR (q := 33) X hP L232 fl_X3_25 rfl dX3_weakRopes_37 ?_
      refine wd_getR (q := 39) X hP (isRaft.a0 R33) fl_X3_102 rfl dX3_weakRopes_40 ?_
      refine lv_iload_n hx hb dX3_weakRopes_43 rfl (lv_at hl 2 rfl) ?_
      have g_4 := gdN hf
      have hf := gdK hf
      refine wd_iald X hP (isRaft.a6 R33) g_4 dX3_weakRopes_44 ?_
      have g_5 := gdN hf
      have hf := gdK hf
      refine wd_iald X hP L230 g_5 dX3_weakRopes_45 ?_
      refine lv_aload_n hx hb dX3_weakRopes_46 rfl (lv_at hl 0 rfl) ?_
      refine wd_getR (q := 33) X hP L232 fl_X3_25 rfl dX3_weakRopes_47 ?_
      refine wd_getR (q := 40) X hP (isRaft.a0 R33) fl_X3_105 rfl dX3_weakRopes_50 ?_
      refine lv_iload_n hx hb dX3_weakRopes_53 rfl (lv_at hl 2 rfl) ?_
      have g_6 := gdN hf
      have hf := gdK hf
      refine wd_iald X hP (isRaft.a7 R33) g_6 dX3_weakRopes_54 ?_
      refine wd_cn X hP hS ml_X3_108 (c_X11_contains l D dA zz bs mm_2 (mm_2.1 230 (mm_2.1 39 y2L_9.toNatClampNeg).toNatClampNeg) (mm_2.1 40 y2L_9.toNatClampNeg) (f_X11_contains (mm_2.1 230 (mm_2.1 39 y2L_9.toNatClampNeg).toNatClampNeg) (mm_2.1 40 y2L_9.toNatClampNeg)) rfl) rfl ⟨Nat.le_of_ble_eq_true rfl, Nat.le_of_ble_eq_true rfl⟩ hl.1 rfl (rest := []) (Nat.le_of_ble_eq_true rfl) ⟨Nat.zero_le _, Nat.zero_le _⟩ dX3_weakRopes_55 (fun H locs hP hS => ?_)
      refine W.eq (g2 := F0 m 58 ls [.int (f_X11_contains (mm_2.1 230 (mm_2.1 39 y2L_9.toNatClampNeg).toNatClampNeg) (mm_2.1 40 y2L_9.toNatClampNeg))]) rfl ?_
      refine lv_if_ne (tgt := 67) hx hb dX3_weakRopes_58 (by decide) (fun c_7 => ?_) (fun c_7 => ?_)
      · have hf := itF hf c_7
        refine lv_iinc (v := (y2L_9 + 1)) (lv' := [(2, .int (y2L_9 + 1)), (0, .ref (bs + 232)), (1, .int y1L_9)]) hx hb dX3_weakRopes_67 hl (k := 2) rfl rfl (by decide) rfl (fun ls hl => ?_)
        refine lv_goto (tgt := 4) hx hb dX3_weakRopes_70 (by decide) ?_
        obtain rfl := Option.some.inj hf
        exact hB _ rfl H locs ls hP hS (lv_sub hl [1, 2, 0] rfl)
      · have hf := itT hf c_7
        refine lv_iload_n hx hb dX3_weakRopes_61 rfl (lv_at hl 1 rfl) ?_
        refine lv_iconst (v := 1) hx hb dX3_weakRopes_62 (by decide) ?_
        refine lv_iload_n hx hb dX3_weakRopes_63 rfl (lv_at hl 2 rfl) ?_
        refine lv_ishl hx hb dX3_weakRopes_64 ?_
        refine lv_ior hx hb dX3_weakRopes_65 ?_
        refine lv_topi (fun x1_8 ex1_8 => ?_)
        have hf := vl hf ex1_8
        refine lv_istore_n (lv' := [(1, .int x1_8), (0, .ref (bs + 232)), (2, .int y2L_9)]) hx hb dX3_weakRopes_66 rfl hl (by decide) rfl (fun ls hl => ?_)
        refine lv_iinc (v := (y2L_9 + 1)) (lv' := [(2, .int (y2L_9 + 1)), (1, .int x1_8), (0, .ref (bs + 232))]) hx hb dX3_weakRopes_67 hl (k := 2) rfl rfl (by decide) rfl (fun ls hl => ?_)
        refine lv_goto (tgt := 4) hx hb dX3_weakRopes_70 (by decide) ?_
        obtain rfl := Option.some.inj hf
        exact hB _ rfl H locs ls hP hS (lv_sub hl [2, 1, 0] rfl)
  · obtain ⟨w1_10, mm_11⟩ := q_12
    dsimp only at hf
    intro H locs ls hP hS hl
    refine lv_iload_n hx hb dX3_weakRopes_73 rfl (lv_at hl 0 rfl) ?_
    obtain ⟨rfl, rfl⟩ := Prod.mk.inj (Option.some.inj hf)
    exact wd_iret X hP hS hr0 dX3_weakRopes_74 ⟨rfl, rfl⟩

noncomputable def f_X4_ropesOf_j38 (r : Nat) (v : Nat) (mm : Mm) (y1 : Int32) (y2 : Int32) (y3 : Int32) : Option ((Int32 × Int32) ⊕ (Int32)) :=
  vlet (y2 ||| ((1 : Int32) <<< (y3 &&& 31))) fun (x2_1 : Int32) => some (.inl (x2_1, (y3 + 1)))
noncomputable def f_X4_ropesOf_s4 (r : Nat) (v : Nat) (mm : Mm) (y1 : Int32) : (Int32 × Int32) → Option ((Int32 × Int32) ⊕ (Int32)) :=
  fun q => match q with
  | (y2, y3) =>
    if (mm.1 r 3) ≤ y3 then
      some (.inr y2)
    else
      if y3 < 0 ∨ 12 ≤ y3.toNatClampNeg then none else
        if (f_X11_contains y1 (mm.1 (r + 6) y3.toNatClampNeg)) = 0 then
          if y3 < 0 ∨ 12 ≤ y3.toNatClampNeg then none else
            if (f_X11_contains y1 (mm.1 (r + 7) y3.toNatClampNeg)) = 0 then
              some (.inl (y2, (y3 + 1)))
            else
              f_X4_ropesOf_j38 r v mm y1 y2 y3
        else
          f_X4_ropesOf_j38 r v mm y1 y2 y3
noncomputable def f_X4_ropesOf (mm : Mm) (r : Nat) (v : Nat) (x1 : Int32) : Option (Int32) :=
  bi1 (lp (f_X4_ropesOf_s4 r v mm x1) ((0 : Int32), (0 : Int32))) fun w2_9 =>
    some w2_9
set_option maxHeartbeats 4000000 in
set_option maxRecDepth 100000 in
theorem c_X4_ropesOf (l : Launch) (D : va_G) (dA : Nat → ClassId) (zz : (Nat → Nat) × (Nat → Nat)) (bs : Nat) (mm : Mm) (r : Nat) (v : Nat) (hr : isRaft r v) (x1 : Int32) (out : Int32) (hf : f_X4_ropesOf mm r v x1 = some out) : Mw l D dA zz bs LY yX4_ropesOf cX4_ropesOf 4 (some .int) 1 21 [.ref (bs + r), .int x1] mm (some (.int out)) mm := by
  refine Mw.of (own := RX4) (by decide) rfl (Nat.le_of_ble_eq_true rfl) ?_
  intro p e s m args below meth c X hr0 hP hS ls hl
  have hx := X.1
  have hb := X.2.1
  obtain ⟨H, hH⟩ : ∃ z : Heap, z = s.heap := ⟨_, rfl⟩
  obtain ⟨locs, hL⟩ : ∃ z : List Loc, z = [] := ⟨_, rfl⟩
  rw [← hH, ← hL]
  have hS : va_S (Aq bs) s.heap H locs := by rw [hH, hL]; exact hS
  have hP : Wd D dA bs LY mm H := by rw [hH]; exact hP
  have hl : lv_has ls 4 [(0, .ref (bs + r)), (1, .int x1)] := hl
  unfold f_X4_ropesOf at hf
  refine lv_iconst (v := 0) hx hb dX4_ropesOf_0 (by decide) ?_
  refine lv_istore_n (lv' := [(2, .int (0 : Int32)), (0, .ref (bs + r)), (1, .int x1)]) hx hb dX4_ropesOf_1 rfl hl (by decide) rfl (fun ls hl => ?_)
  refine lv_iconst (v := 0) hx hb dX4_ropesOf_2 (by decide) ?_
  refine lv_istore_n (lv' := [(3, .int (0 : Int32)), (2, .int (0 : Int32)), (0, .ref (bs + r)), (1, .int x1)]) hx hb dX4_ropesOf_3 rfl hl (by decide) rfl (fun ls hl => ?_)
  obtain ⟨q_10, hlp_11, hf⟩ := bi1S hf
  refine lp_walk (Wh := (fun z => match z with | (y2L_8, y3L_8) => ∀ (H : Heap) (locs : List Loc) (ls : Array Slot), Wd D dA bs LY mm H → va_S (Aq bs) s.heap H locs → lv_has ls 4 [(0, .ref (bs + r)), (1, .int x1), (2, .int y2L_8), (3, .int y3L_8)] → Wz p l e s m args below meth c D dA bs (some (.int out)) mm 1 21 H locs 4 ls [])) (Ph := (fun w2_9 => ∀ (H : Heap) (locs : List Loc) (ls : Array Slot), Wd D dA bs LY mm H → va_S (Aq bs) s.heap H locs → lv_has ls 4 [(2, .int w2_9)] → Wz p l e s m args below meth c D dA bs (some (.int out)) mm 1 21 H locs 50 ls [])) ?_ hlp_11 ?_ H locs ls hP hS (lv_sub hl [2, 3, 1, 0] rfl)
  · intro z o hf hB hE
    obtain ⟨y2L_8, y3L_8⟩ := z
    intro H locs ls hP hS hl
    have hf : f_X4_ropesOf_s4 r v mm x1 (y2L_8, y3L_8) = some o := hf
    unfold f_X4_ropesOf_s4 at hf
    dsimp only at hf
    have hJ38 : ∀ (y2J_2 : Int32) (y3J_2 : Int32) (H : Heap) (locs : List Loc) (ls : Array Slot), f_X4_ropesOf_j38 r v mm x1 y2J_2 y3J_2 = some o → Wd D dA bs LY mm H → va_S (Aq bs) s.heap H locs → lv_has ls 4 [(0, .ref (bs + r)), (1, .int x1), (2, .int y2J_2), (3, .int y3J_2)] → Wz p l e s m args below meth c D dA bs (some (.int out)) mm 1 21 H locs 38 ls [] := by
      intro y2J_2 y3J_2 H locs ls hf hP hS hl
      unfold f_X4_ropesOf_j38 at hf
      refine lv_iload_n hx hb dX4_ropesOf_38 rfl (lv_at hl 2 rfl) ?_
      refine lv_iconst (v := 1) hx hb dX4_ropesOf_39 (by decide) ?_
      refine lv_iload_n hx hb dX4_ropesOf_40 rfl (lv_at hl 3 rfl) ?_
      refine lv_ishl hx hb dX4_ropesOf_41 ?_
      refine lv_ior hx hb dX4_ropesOf_42 ?_
      refine lv_topi (fun x2_1 ex2_1 => ?_)
      have hf := vl hf ex2_1
      refine lv_istore_n (lv' := [(2, .int x2_1), (0, .ref (bs + r)), (1, .int x1), (3, .int y3J_2)]) hx hb dX4_ropesOf_43 rfl hl (by decide) rfl (fun ls hl => ?_)
      refine lv_iinc (v := (y3J_2 + 1)) (lv' := [(3, .int (y3J_2 + 1)), (2, .int x2_1), (0, .ref (bs + r)), (1, .int x1)]) hx hb dX4_ropesOf_44 hl (k := 3) rfl rfl (by decide) rfl (fun ls hl => ?_)
      refine lv_goto (tgt := 4) hx hb dX4_ropesOf_47 (by decide) ?_
      obtain rfl := Option.some.inj hf
      exact hB _ rfl H locs ls hP hS (lv_sub hl [2, 3, 1, 0] rfl)
    refine lv_iload_n hx hb dX4_ropesOf_4 rfl (lv_at hl 3 rfl) ?_
    refine lv_aload_n hx hb dX4_ropesOf_5 rfl (lv_at hl 0 rfl) ?_
    refine wd_getI X hP (isRaft.a0 hr) fl_X4_47 rfl dX4_ropesOf_6 ?_
    refine lv_icmp_ge (tgt := 50) hx hb dX4_ropesOf_9 (by decide) (fun c_3 => ?_) (fun c_3 => ?_)
    · have hf := itT hf c_3
      obtain rfl := Option.some.inj hf
      exact hE _ rfl H locs ls hP hS (lv_sub hl [2] rfl)
    · have hf := itF hf c_3
      refine lv_iload_n hx hb dX4_ropesOf_12 rfl (lv_at hl 1 rfl) ?_
      refine lv_aload_n hx hb dX4_ropesOf_13 rfl (lv_at hl 0 rfl) ?_
      refine wd_getR (q := r + 6) X hP (isRaft.a0 hr) fl_X4_27 rfl dX4_ropesOf_14 ?_
      refine lv_iload_n hx hb dX4_ropesOf_17 rfl (lv_at hl 3 rfl) ?_
      have g_4 := gdN hf
      have hf := gdK hf
      refine wd_iald X hP (isRaft.a6 hr) g_4 dX4_ropesOf_18 ?_
      refine wd_cn X hP hS ml_X4_76 (c_X11_contains l D dA zz bs mm x1 (mm.1 (r + 6) y3L_8.toNatClampNeg) (f_X11_contains x1 (mm.1 (r + 6) y3L_8.toNatClampNeg)) rfl) rfl ⟨Nat.le_of_ble_eq_true rfl, Nat.le_of_ble_eq_true rfl⟩ hl.1 rfl (rest := []) (Nat.le_of_ble_eq_true rfl) ⟨Nat.zero_le _, Nat.zero_le _⟩ dX4_ropesOf_19 (fun H locs hP hS => ?_)
      refine W.eq (g2 := F0 m 22 ls [.int (f_X11_contains x1 (mm.1 (r + 6) y3L_8.toNatClampNeg))]) rfl ?_
      refine lv_if_ne (tgt := 38) hx hb dX4_ropesOf_22 (by decide) (fun c_5 => ?_) (fun c_5 => ?_)
      · have hf := itF hf c_5
        exact hJ38 y2L_8 y3L_8 H locs ls hf hP hS (lv_sub hl [0, 1, 2, 3] rfl)
      · have hf := itT hf c_5
        refine lv_iload_n hx hb dX4_ropesOf_25 rfl (lv_at hl 1 rfl) ?_
        refine lv_aload_n hx hb dX4_ropesOf_26 rfl (lv_at hl 0 rfl) ?_
        refine wd_getR (q := r + 7) X hP (isRaft.a0 hr) fl_X4_30 rfl dX4_ropesOf_27 ?_
        refine lv_iload_n hx hb dX4_ropesOf_30 rfl (lv_at hl 3 rfl) ?_
        have g_6 := gdN hf
        have hf := gdK hf
        refine wd_iald X hP (isRaft.a7 hr) g_6 dX4_ropesOf_31 ?_
        refine wd_cn X hP hS ml_X4_76 (c_X11_contains l D dA zz bs mm x1 (mm.1 (r + 7) y3L_8.toNatClampNeg) (f_X11_contains x1 (mm.1 (r + 7) y3L_8.toNatClampNeg)) rfl) rfl ⟨Nat.le_of_ble_eq_true rfl, Nat.le_of_ble_eq_true rfl⟩ hl.1 rfl (rest := []) (Nat.le_of_ble_eq_true rfl) ⟨Nat.zero_le _, Nat.zero_le _⟩ dX4_ropesOf_32 (fun H locs hP hS => ?_)
        refine W.eq (g2 := F0 m 35 ls [.int (f_X11_contains x1 (mm.1 (r + 7) y3L_8.toNatClampNeg))]) rfl ?_
        refine lv_if_eq (tgt := 44) hx hb dX4_ropesOf_35 (by decide) (fun c_7 => ?_) (fun c_7 => ?_)
        · have hf := itT hf c_7
          refine lv_iinc (v := (y3L_8 + 1)) (lv' := [(3, .int (y3L_8 + 1)), (0, .ref (bs + r)), (1, .int x1), (2, .int y2L_8)]) hx hb dX4_ropesOf_44 hl (k := 3) rfl rfl (by decide) rfl (fun ls hl => ?_)
          refine lv_goto (tgt := 4) hx hb dX4_ropesOf_47 (by decide) ?_
          obtain rfl := Option.some.inj hf
          exact hB _ rfl H locs ls hP hS (lv_sub hl [1, 2, 3, 0] rfl)
        · have hf := itF hf c_7
          exact hJ38 y2L_8 y3L_8 H locs ls hf hP hS (lv_sub hl [0, 1, 2, 3] rfl)
  · obtain ⟨w2_9, e_w2_9⟩ : ∃ z, z = q_10 := ⟨_, rfl⟩
    subst e_w2_9
    intro H locs ls hP hS hl
    refine lv_iload_n hx hb dX4_ropesOf_50 rfl (lv_at hl 0 rfl) ?_
    obtain rfl := Option.some.inj hf
    exact wd_iret X hP hS hr0 dX4_ropesOf_51 ⟨rfl, rfl⟩

noncomputable def f_X11_leastOf_s2 (mm : Mm) (y0 : Int32) : (Int32) → Option ((Int32) ⊕ ((Int32) ⊕ (Unit))) :=
  fun (y1 : Int32) =>
    if (8 : Int32) ≤ y1 then
      some (.inr (.inr (())))
    else
      if (f_X11_contains y0 y1) = 0 then
        some (.inl (y1 + 1))
      else
        some (.inr (.inl y1))
noncomputable def f_X11_leastOf (mm : Mm) (x0 : Int32) : Option (Int32) :=
  bi1 (lp (f_X11_leastOf_s2 mm x0) (0 : Int32)) fun q => match q with
  | .inl w1_4 =>
    some w1_4
  | .inr (()) =>
    some (-1 : Int32)
set_option maxHeartbeats 4000000 in
set_option maxRecDepth 100000 in
theorem c_X11_leastOf (l : Launch) (D : va_G) (dA : Nat → ClassId) (zz : (Nat → Nat) × (Nat → Nat)) (bs : Nat) (mm : Mm) (x0 : Int32) (out : Int32) (hf : f_X11_leastOf mm x0 = some out) : Mw l D dA zz bs LY yX11_leastOf cX11_leastOf 2 (some .int) 1 21 [.int x0] mm (some (.int out)) mm := by
  refine Mw.of (own := RX11) (by decide) rfl (Nat.le_of_ble_eq_true rfl) ?_
  intro p e s m args below meth c X hr0 hP hS ls hl
  have hx := X.1
  have hb := X.2.1
  obtain ⟨H, hH⟩ : ∃ z : Heap, z = s.heap := ⟨_, rfl⟩
  obtain ⟨locs, hL⟩ : ∃ z : List Loc, z = [] := ⟨_, rfl⟩
  rw [← hH, ← hL]
  have hS : va_S (Aq bs) s.heap H locs := by rw [hH, hL]; exact hS
  have hP : Wd D dA bs LY mm H := by rw [hH]; exact hP
  have hl : lv_has ls 2 [(0, .int x0)] := hl
  unfold f_X11_leastOf at hf
  refine lv_iconst (v := 0) hx hb dX11_leastOf_0 (by decide) ?_
  refine lv_istore_n (lv' := [(1, .int (0 : Int32)), (0, .int x0)]) hx hb dX11_leastOf_1 rfl hl (by decide) rfl (fun ls hl => ?_)
  obtain ⟨q_5, hlp_6, hf⟩ := bi1S hf
  refine lp_walk (Wh := (fun y1L_3 => ∀ (H : Heap) (locs : List Loc) (ls : Array Slot), Wd D dA bs LY mm H → va_S (Aq bs) s.heap H locs → lv_has ls 2 [(0, .int x0), (1, .int y1L_3)] → Wz p l e s m args below meth c D dA bs (some (.int out)) mm 1 21 H locs 2 ls [])) (Ph := (fun z => match z with | .inl w1_4 => ∀ (H : Heap) (locs : List Loc) (ls : Array Slot), Wd D dA bs LY mm H → va_S (Aq bs) s.heap H locs → lv_has ls 2 [(1, .int w1_4)] → Wz p l e s m args below meth c D dA bs (some (.int out)) mm 1 21 H locs 16 ls [] | .inr (()) => ∀ (H : Heap) (locs : List Loc) (ls : Array Slot), Wd D dA bs LY mm H → va_S (Aq bs) s.heap H locs → lv_has ls 2 [] → Wz p l e s m args below meth c D dA bs (some (.int out)) mm 1 21 H locs 24 ls [])) ?_ hlp_6 ?_ H locs ls hP hS (lv_sub hl [1, 0] rfl)
  · intro y1L_3 o hf hB hE
    intro H locs ls hP hS hl
    have hf : f_X11_leastOf_s2 mm x0 y1L_3 = some o := hf
    unfold f_X11_leastOf_s2 at hf
    refine lv_iload_n hx hb dX11_leastOf_2 rfl (lv_at hl 1 rfl) ?_
    refine lv_bipush (v := 8) hx hb dX11_leastOf_3 (by decide) ?_
    refine lv_icmp_ge (tgt := 24) hx hb dX11_leastOf_5 (by decide) (fun c_1 => ?_) (fun c_1 => ?_)
    · have hf := itT hf c_1
      obtain rfl := Option.some.inj hf
      exact hE _ rfl H locs ls hP hS (lv_sub hl [] rfl)
    · have hf := itF hf c_1
      refine lv_iload_n hx hb dX11_leastOf_8 rfl (lv_at hl 0 rfl) ?_
      refine lv_iload_n hx hb dX11_leastOf_9 rfl (lv_at hl 1 rfl) ?_
      refine wd_cs X hP hS ml_X11_371 (c_X11_contains l D dA zz bs mm x0 y1L_3 (f_X11_contains x0 y1L_3) rfl) rfl ⟨Nat.le_of_ble_eq_true rfl, Nat.le_of_ble_eq_true rfl⟩ hl.1 rfl (rest := []) (Nat.le_of_ble_eq_true rfl) ⟨Nat.zero_le _, Nat.zero_le _⟩ dX11_leastOf_10 (fun H locs hP hS => ?_)
      refine W.eq (g2 := F0 m 13 ls [.int (f_X11_contains x0 y1L_3)]) rfl ?_
      refine lv_if_eq (tgt := 18) hx hb dX11_leastOf_13 (by decide) (fun c_2 => ?_) (fun c_2 => ?_)
      · have hf := itT hf c_2
        refine lv_iinc (v := (y1L_3 + 1)) (lv' := [(1, .int (y1L_3 + 1)), (0, .int x0)]) hx hb dX11_leastOf_18 hl (k := 1) rfl rfl (by decide) rfl (fun ls hl => ?_)
        refine lv_goto (tgt := 2) hx hb dX11_leastOf_21 (by decide) ?_
        obtain rfl := Option.some.inj hf
        exact hB _ rfl H locs ls hP hS (lv_sub hl [1, 0] rfl)
      · have hf := itF hf c_2
        obtain rfl := Option.some.inj hf
        exact hE _ rfl H locs ls hP hS (lv_sub hl [1] rfl)
  · rcases q_5 with w1_4 | ⟨⟩
    · dsimp only at hf
      intro H locs ls hP hS hl
      refine lv_iload_n hx hb dX11_leastOf_16 rfl (lv_at hl 0 rfl) ?_
      obtain rfl := Option.some.inj hf
      exact wd_iret X hP hS hr0 dX11_leastOf_17 ⟨rfl, rfl⟩
    · dsimp only at hf
      intro H locs ls hP hS hl
      refine lv_iconst (v := -1) hx hb dX11_leastOf_24 (by decide) ?_
      obtain rfl := Option.some.inj hf
      exact wd_iret X hP hS hr0 dX11_leastOf_25 ⟨rfl, rfl⟩

noncomputable def f_X3_weakThings_s4  : (Int32 × Int32 × Mm) → Option ((Int32 × Int32 × Mm) ⊕ (Int32 × Mm)) :=
  fun q => match q with
  | (y1, y2, mm) =>
    if (mm.1 27 2) ≤ y2 then
      some (.inr (y1, mm))
    else
      bi1 (f_X2_join mm 33 27 (0 : Int32)) fun mm_2 =>
        if y2 < 0 ∨ 8 ≤ y2.toNatClampNeg then none else
          vlet ((mm_2.1 230 y2.toNatClampNeg) &&& (((1 : Int32) <<< (y2 &&& 31)) ^^^ (-1 : Int32))) fun (x3_5 : Int32) =>
            bi1 (f_X4_ropesOf mm_2 33 27 ((1 : Int32) <<< (y2 &&& 31))) fun r_7 =>
              bi1 (f_X2_join mm_2 33 27 r_7) fun mm_8 =>
                bi1 (f_X11_leastOf mm_8 x3_5) fun r_11 =>
                  if r_11 = (-1 : Int32) then
                    some (.inl (y1, (y2 + 1), mm_8))
                  else
                    if r_11 < 0 ∨ 8 ≤ r_11.toNatClampNeg then none else
                      if (mm_8.1 230 r_11.toNatClampNeg) = x3_5 then
                        some (.inl (y1, (y2 + 1), mm_8))
                      else
                        vlet (y1 ||| ((1 : Int32) <<< (y2 &&& 31))) fun (x1_15 : Int32) => some (.inl (x1_15, (y2 + 1), mm_8))
noncomputable def f_X3_weakThings (mm : Mm) : Option (Int32 × Mm) :=
  bi1 (lp (f_X3_weakThings_s4) ((0 : Int32), (0 : Int32), mm)) fun q => match q with
  | (w1_17, mm_18) =>
    some (w1_17, mm_18)
set_option maxHeartbeats 4000000 in
set_option maxRecDepth 100000 in
theorem c_X3_weakThings (l : Launch) (D : va_G) (dA : Nat → ClassId) (zz : (Nat → Nat) × (Nat → Nat)) (bs : Nat) (mm : Mm) (out : Int32) (m1 : Mm) (hf : f_X3_weakThings mm = some (out, m1)) : Mw l D dA zz bs LY yX3_weakThings cX3_weakThings 5 (some .int) 3 68 [.ref (bs + 232)] mm (some (.int out)) m1 := by
  refine Mw.of (own := RX3) (by decide) rfl (Nat.le_of_ble_eq_true rfl) ?_
  intro p e s m args below meth c X hr0 hP hS ls hl
  have hx := X.1
  have hb := X.2.1
  obtain ⟨H, hH⟩ : ∃ z : Heap, z = s.heap := ⟨_, rfl⟩
  obtain ⟨locs, hL⟩ : ∃ z : List Loc, z = [] := ⟨_, rfl⟩
  rw [← hH, ← hL]
  have hS : va_S (Aq bs) s.heap H locs := by rw [hH, hL]; exact hS
  have hP : Wd D dA bs LY mm H := by rw [hH]; exact hP
  have hl : lv_has ls 5 [(0, .ref (bs + 232))] := hl
  unfold f_X3_weakThings at hf
  refine lv_iconst (v := 0) hx hb dX3_weakThings_0 (by decide) ?_
  refine lv_istore_n (lv' := [(1, .int (0 : Int32)), (0, .ref (bs + 232))]) hx hb dX3_weakThings_1 rfl hl (by decide) rfl (fun ls hl => ?_)
  refine lv_iconst (v := 0) hx hb dX3_weakThings_2 (by decide) ?_
  refine lv_istore_n (lv' := [(2, .int (0 : Int32)), (1, .int (0 : Int32)), (0, .ref (bs + 232))]) hx hb dX3_weakThings_3 rfl hl (by decide) rfl (fun ls hl => ?_)
  obtain ⟨q_19, hlp_20, hf⟩ := bi1S hf
  refine lp_walk (Wh := (fun z => match z with | (y1L_16, y2L_16, mmL_16) => ∀ (H : Heap) (locs : List Loc) (ls : Array Slot), Wd D dA bs LY mmL_16 H → va_S (Aq bs) s.heap H locs → lv_has ls 5 [(0, .ref (bs + 232)), (1, .int y1L_16), (2, .int y2L_16)] → Wz p l e s m args below meth c D dA bs (some (.int out)) m1 3 68 H locs 4 ls [])) (Ph := (fun z => match z with | (w1_17, mm_18) => ∀ (H : Heap) (locs : List Loc) (ls : Array Slot), Wd D dA bs LY mm_18 H → va_S (Aq bs) s.heap H locs → lv_has ls 5 [(1, .int w1_17)] → Wz p l e s m args below meth c D dA bs (some (.int out)) m1 3 68 H locs 105 ls [])) ?_ hlp_20 ?_ H locs ls hP hS (lv_sub hl [2, 1, 0] rfl)
  · intro z o hf hB hE
    obtain ⟨y1L_16, y2L_16, mmL_16⟩ := z
    intro H locs ls hP hS hl
    have hf : f_X3_weakThings_s4 (y1L_16, y2L_16, mmL_16) = some o := hf
    unfold f_X3_weakThings_s4 at hf
    dsimp only at hf
    refine lv_iload_n hx hb dX3_weakThings_4 rfl (lv_at hl 2 rfl) ?_
    refine lv_aload_n hx hb dX3_weakThings_5 rfl (lv_at hl 0 rfl) ?_
    refine wd_getR (q := 33) X hP L232 fl_X3_25 rfl dX3_weakThings_6 ?_
    refine wd_getR (q := 27) X hP (isRaft.a0 R33) fl_X3_84 rfl dX3_weakThings_9 ?_
    refine wd_getI X hP (isRiver.a0 V27) fl_X3_112 rfl dX3_weakThings_12 ?_
    refine lv_icmp_ge (tgt := 105) hx hb dX3_weakThings_15 (by decide) (fun c_1 => ?_) (fun c_1 => ?_)
    · have hf := itT hf c_1
      obtain rfl := Option.some.inj hf
      exact hE _ rfl H locs ls hP hS (lv_sub hl [1] rfl)
    · have hf := itF hf c_1
      refine lv_aload_n hx hb dX3_weakThings_18 rfl (lv_at hl 0 rfl) ?_
      refine wd_getR (q := 229) X hP L232 fl_X3_26 rfl dX3_weakThings_19 ?_
      refine lv_aload_n hx hb dX3_weakThings_22 rfl (lv_at hl 0 rfl) ?_
      refine wd_getR (q := 33) X hP L232 fl_X3_25 rfl dX3_weakThings_23 ?_
      refine lv_iconst (v := 0) hx hb dX3_weakThings_26 (by decide) ?_
      obtain ⟨mm_2, hc_3, hf⟩ := bi1S hf
      refine wd_cv X hP hS L229 ml_X3_71 ⟨_, _, rfl⟩ (c_X2_join l D dA zz bs mmL_16 33 27 R33 (0 : Int32) mm_2 hc_3) rfl ⟨Nat.le_of_ble_eq_true rfl, Nat.le_of_ble_eq_true rfl⟩ hl.1 rfl (rest := []) (Nat.le_of_ble_eq_true rfl) ⟨Nat.zero_le _, Nat.zero_le _⟩ dX3_weakThings_27 (fun H locs hP hS => ?_)
      refine W.eq (g2 := F0 m 30 ls []) rfl ?_
      refine lv_aload_n hx hb dX3_weakThings_30 rfl (lv_at hl 0 rfl) ?_
      refine wd_getR (q := 229) X hP L232 fl_X3_26 rfl dX3_weakThings_31 ?_
      refine wd_getR (q := 230) X hP L229 fl_X3_81 rfl dX3_weakThings_34 ?_
      refine lv_iload_n hx hb dX3_weakThings_37 rfl (lv_at hl 2 rfl) ?_
      have g_4 := gdN hf
      have hf := gdK hf
      refine wd_iald X hP L230 g_4 dX3_weakThings_38 ?_
      refine lv_iconst (v := 1) hx hb dX3_weakThings_39 (by decide) ?_
      refine lv_iload_n hx hb dX3_weakThings_40 rfl (lv_at hl 2 rfl) ?_
      refine lv_ishl hx hb dX3_weakThings_41 ?_
      refine lv_iconst (v := -1) hx hb dX3_weakThings_42 (by decide) ?_
      refine lv_ixor hx hb dX3_weakThings_43 ?_
      refine lv_iand hx hb dX3_weakThings_44 ?_
      refine lv_topi (fun x3_5 ex3_5 => ?_)
      have hf := vl hf ex3_5
      refine lv_istore_n (lv' := [(3, .int x3_5), (0, .ref (bs + 232)), (1, .int y1L_16), (2, .int y2L_16)]) hx hb dX3_weakThings_45 rfl hl (by decide) rfl (fun ls hl => ?_)
      refine lv_aload_n hx hb dX3_weakThings_46 rfl (lv_at hl 1 rfl) ?_
      refine wd_getR (q := 229) X hP L232 fl_X3_26 rfl dX3_weakThings_47 ?_
      refine lv_aload_n hx hb dX3_weakThings_50 rfl (lv_at hl 1 rfl) ?_
      refine wd_getR (q := 33) X hP L232 fl_X3_25 rfl dX3_weakThings_51 ?_
      refine lv_aload_n hx hb dX3_weakThings_54 rfl (lv_at hl 1 rfl) ?_
      refine wd_getR (q := 33) X hP L232 fl_X3_25 rfl dX3_weakThings_55 ?_
      refine lv_iconst (v := 1) hx hb dX3_weakThings_58 (by decide) ?_
      refine lv_iload_n hx hb dX3_weakThings_59 rfl (lv_at hl 3 rfl) ?_
      refine lv_ishl hx hb dX3_weakThings_60 ?_
      obtain ⟨r_7, hc_6, hf⟩ := bi1S hf
      refine wd_cv X hP hS (isRaft.a0 R33) ml_X3_115 ⟨_, _, rfl⟩ (c_X4_ropesOf l D dA zz bs mm_2 33 27 R33 ((1 : Int32) <<< (y2L_16 &&& 31)) r_7 hc_6) rfl ⟨Nat.le_of_ble_eq_true rfl, Nat.le_of_ble_eq_true rfl⟩ hl.1 rfl (rest := [.ref (bs + 33), .ref (bs + 229)]) (Nat.le_of_ble_eq_true rfl) ⟨Nat.zero_le _, Nat.zero_le _⟩ dX3_weakThings_61 (fun H locs hP hS => ?_)
      refine W.eq (g2 := F0 m 64 ls [.int r_7, .ref (bs + 33), .ref (bs + 229)]) rfl ?_
      obtain ⟨mm_8, hc_9, hf⟩ := bi1S hf
      refine wd_cv X hP hS L229 ml_X3_71 ⟨_, _, rfl⟩ (c_X2_join l D dA zz bs mm_2 33 27 R33 r_7 mm_8 hc_9) rfl ⟨Nat.le_of_ble_eq_true rfl, Nat.le_of_ble_eq_true rfl⟩ hl.1 rfl (rest := []) (Nat.le_of_ble_eq_true rfl) ⟨Nat.zero_le _, Nat.zero_le _⟩ dX3_weakThings_64 (fun H locs hP hS => ?_)
      refine W.eq (g2 := F0 m 67 ls []) rfl ?_
      refine lv_iload_n hx hb dX3_weakThings_67 rfl (lv_at hl 0 rfl) ?_
      obtain ⟨r_11, hc_10, hf⟩ := bi1S hf
      refine wd_cn X hP hS ml_X3_118 (c_X11_leastOf l D dA zz bs mm_8 x3_5 r_11 hc_10) rfl ⟨Nat.le_of_ble_eq_true rfl, Nat.le_of_ble_eq_true rfl⟩ hl.1 rfl (rest := []) (Nat.le_of_ble_eq_true rfl) ⟨Nat.zero_le _, Nat.zero_le _⟩ dX3_weakThings_68 (fun H locs hP hS => ?_)
      refine W.eq (g2 := F0 m 71 ls [.int r_11]) rfl ?_
      refine lv_istore (lv' := [(4, .int r_11), (3, .int x3_5), (0, .ref (bs + 232)), (1, .int y1L_16), (2, .int y2L_16)]) hx hb dX3_weakThings_71 hl (by decide) rfl (fun ls hl => ?_)
      refine lv_iload hx hb dX3_weakThings_73 (lv_at hl 0 rfl) ?_
      refine lv_iconst (v := -1) hx hb dX3_weakThings_75 (by decide) ?_
      refine lv_icmp_eq (tgt := 99) hx hb dX3_weakThings_76 (by decide) (fun c_12 => ?_) (fun c_12 => ?_)
      · have hf := itT hf c_12
        refine lv_iinc (v := (y2L_16 + 1)) (lv' := [(2, .int (y2L_16 + 1)), (4, .int r_11), (3, .int x3_5), (0, .ref (bs + 232)), (1, .int y1L_16)]) hx hb dX3_weakThings_99 hl (k := 4) rfl rfl (by decide) rfl (fun ls hl => ?_)
        refine lv_goto (tgt := 4) hx hb dX3_weakThings_102 (by decide) ?_
        obtain rfl := Option.some.inj hf
        exact hB _ rfl H locs ls hP hS (lv_sub hl [3, 4, 0] rfl)
      · have hf := itF hf c_12
        refine lv_aload_n hx hb dX3_weakThings_79 rfl (lv_at hl 2 rfl) ?_
        refine wd_getR (q := 229) X hP L232 fl_X3_26 rfl dX3_weakThings_80 ?_
        refine wd_getR (q := 230) X hP L229 fl_X3_81 rfl dX3_weakThings_83 ?_
        refine lv_iload hx hb dX3_weakThings_86 (lv_at hl 0 rfl) ?_
        have g_13 := gdN hf
        have hf := gdK hf
        refine wd_iald X hP L230 g_13 dX3_weakThings_88 ?_
        refine lv_iload_n hx hb dX3_weakThings_89 rfl (lv_at hl 1 rfl) ?_
        refine lv_icmp_eq (tgt := 99) hx hb dX3_weakThings_90 (by decide) (fun c_14 => ?_) (fun c_14 => ?_)
        · have hf := itT hf c_14
          refine lv_iinc (v := (y2L_16 + 1)) (lv' := [(2, .int (y2L_16 + 1)), (4, .int r_11), (3, .int x3_5), (0, .ref (bs + 232)), (1, .int y1L_16)]) hx hb dX3_weakThings_99 hl (k := 4) rfl rfl (by decide) rfl (fun ls hl => ?_)
          refine lv_goto (tgt := 4) hx hb dX3_weakThings_102 (by decide) ?_
          obtain rfl := Option.some.inj hf
          exact hB _ rfl H locs ls hP hS (lv_sub hl [3, 4, 0] rfl)
        · have hf := itF hf c_14
          refine lv_iload_n hx hb dX3_weakThings_93 rfl (lv_at hl 3 rfl) ?_
          refine lv_iconst (v := 1) hx hb dX3_weakThings_94 (by decide) ?_
          refine lv_iload_n hx hb dX3_weakThings_95 rfl (lv_at hl 4 rfl) ?_
          refine lv_ishl hx hb dX3_weakThings_96 ?_
          refine lv_ior hx hb dX3_weakThings_97 ?_
          refine lv_topi (fun x1_15 ex1_15 => ?_)
          have hf := vl hf ex1_15
          refine lv_istore_n (lv' := [(1, .int x1_15), (4, .int r_11), (3, .int x3_5), (0, .ref (bs + 232)), (2, .int y2L_16)]) hx hb dX3_weakThings_98 rfl hl (by decide) rfl (fun ls hl => ?_)
          refine lv_iinc (v := (y2L_16 + 1)) (lv' := [(2, .int (y2L_16 + 1)), (1, .int x1_15), (4, .int r_11), (3, .int x3_5), (0, .ref (bs + 232))]) hx hb dX3_weakThings_99 hl (k := 4) rfl rfl (by decide) rfl (fun ls hl => ?_)
          refine lv_goto (tgt := 4) hx hb dX3_weakThings_102 (by decide) ?_
          obtain rfl := Option.some.inj hf
          exact hB _ rfl H locs ls hP hS (lv_sub hl [4, 1, 0] rfl)
  · obtain ⟨w1_17, mm_18⟩ := q_19
    dsimp only at hf
    intro H locs ls hP hS hl
    refine lv_iload_n hx hb dX3_weakThings_105 rfl (lv_at hl 0 rfl) ?_
    obtain ⟨rfl, rfl⟩ := Prod.mk.inj (Option.some.inj hf)
    exact wd_iret X hP hS hr0 dX3_weakThings_106 ⟨rfl, rfl⟩

noncomputable def f_X3_milesAfloat_j87 (mm : Mm) (y1 : Int32) (y2 : Int32) (y3 : Int32) (y4 : Int32) (y5 : Int32) : Option ((Int32) ⊕ ((Int32) ⊕ (Unit))) :=
  if 0 ≤ y5 then
    some (.inl (y4 + 1))
  else
    some (.inr (.inl y4))
noncomputable def f_X3_milesAfloat_s16 (mm : Mm) (y1 : Int32) (y2 : Int32) (y3 : Int32) : (Int32) → Option ((Int32) ⊕ ((Int32) ⊕ (Unit))) :=
  fun (y4 : Int32) =>
    if (100 : Int32) ≤ y4 then
      some (.inr (.inr (())))
    else
      bi1 (f_X4_lift mm 33 27 y1 y4) fun r_7 =>
        if y2 = (-1 : Int32) then
          f_X3_milesAfloat_j87 mm y1 y2 y3 y4 (r_7 - y3)
        else
          if y2 < 0 ∨ 6 ≤ y2.toNatClampNeg then none else
            if y2 < 0 ∨ 6 ≤ y2.toNatClampNeg then none else
              vlet ((mm.1 44 y2.toNatClampNeg) - (y4 * (mm.1 45 y2.toNatClampNeg))) fun (x6_11 : Int32) =>
                if y2 < 0 ∨ 6 ≤ y2.toNatClampNeg then none else
                  vlet ((r_7 - y3) + ((if (0 : Int32) < x6_11 then x6_11 else (0 : Int32)) - (mm.1 43 y2.toNatClampNeg))) fun (x5_13 : Int32) => f_X3_milesAfloat_j87 mm y1 y2 y3 y4 x5_13
noncomputable def f_X3_milesAfloat (mm : Mm) (x1 : Int32) (x2 : Int32) : Option (Int32) :=
  bi1 (f_X2_ridersWeight mm 33 27 x1) fun r_2 =>
    bi1 (lp (f_X3_milesAfloat_s16 mm x1 x2 r_2) (0 : Int32)) fun q => match q with
    | .inl w4_15 =>
      some w4_15
    | .inr (()) =>
      some (100 : Int32)
set_option maxHeartbeats 4000000 in
set_option maxRecDepth 100000 in
theorem c_X3_milesAfloat (l : Launch) (D : va_G) (dA : Nat → ClassId) (zz : (Nat → Nat) × (Nat → Nat)) (bs : Nat) (mm : Mm) (x1 : Int32) (x2 : Int32) (out : Int32) (hf : f_X3_milesAfloat mm x1 x2 = some out) : Mw l D dA zz bs LY yX3_milesAfloat cX3_milesAfloat 7 (some .int) 2 64 [.ref (bs + 232), .int x1, .int x2] mm (some (.int out)) mm := by
  refine Mw.of (own := RX3) (by decide) rfl (Nat.le_of_ble_eq_true rfl) ?_
  intro p e s m args below meth c X hr0 hP hS ls hl
  have hx := X.1
  have hb := X.2.1
  obtain ⟨H, hH⟩ : ∃ z : Heap, z = s.heap := ⟨_, rfl⟩
  obtain ⟨locs, hL⟩ : ∃ z : List Loc, z = [] := ⟨_, rfl⟩
  rw [← hH, ← hL]
  have hS : va_S (Aq bs) s.heap H locs := by rw [hH, hL]; exact hS
  have hP : Wd D dA bs LY mm H := by rw [hH]; exact hP
  have hl : lv_has ls 7 [(0, .ref (bs + 232)), (1, .int x1), (2, .int x2)] := hl
  unfold f_X3_milesAfloat at hf
  refine lv_aload_n hx hb dX3_milesAfloat_0 rfl (lv_at hl 0 rfl) ?_
  refine wd_getR (q := 229) X hP L232 fl_X3_26 rfl dX3_milesAfloat_1 ?_
  refine lv_aload_n hx hb dX3_milesAfloat_4 rfl (lv_at hl 0 rfl) ?_
  refine wd_getR (q := 33) X hP L232 fl_X3_25 rfl dX3_milesAfloat_5 ?_
  refine lv_iload_n hx hb dX3_milesAfloat_8 rfl (lv_at hl 1 rfl) ?_
  obtain ⟨r_2, hc_1, hf⟩ := bi1S hf
  refine wd_cv X hP hS L229 ml_X3_133 ⟨_, _, rfl⟩ (c_X2_ridersWeight l D dA zz bs mm 33 27 R33 x1 r_2 hc_1) rfl ⟨Nat.le_of_ble_eq_true rfl, Nat.le_of_ble_eq_true rfl⟩ hl.1 rfl (rest := []) (Nat.le_of_ble_eq_true rfl) ⟨Nat.zero_le _, Nat.zero_le _⟩ dX3_milesAfloat_9 (fun H locs hP hS => ?_)
  refine W.eq (g2 := F0 m 12 ls [.int r_2]) rfl ?_
  refine lv_istore_n (lv' := [(3, .int r_2), (0, .ref (bs + 232)), (1, .int x1), (2, .int x2)]) hx hb dX3_milesAfloat_12 rfl hl (by decide) rfl (fun ls hl => ?_)
  refine lv_iconst (v := 0) hx hb dX3_milesAfloat_13 (by decide) ?_
  refine lv_istore (lv' := [(4, .int (0 : Int32)), (3, .int r_2), (0, .ref (bs + 232)), (1, .int x1), (2, .int x2)]) hx hb dX3_milesAfloat_14 hl (by decide) rfl (fun ls hl => ?_)
  obtain ⟨q_16, hlp_17, hf⟩ := bi1S hf
  refine lp_walk (Wh := (fun y4L_14 => ∀ (H : Heap) (locs : List Loc) (ls : Array Slot), Wd D dA bs LY mm H → va_S (Aq bs) s.heap H locs → lv_has ls 7 [(0, .ref (bs + 232)), (1, .int x1), (2, .int x2), (3, .int r_2), (4, .int y4L_14)] → Wz p l e s m args below meth c D dA bs (some (.int out)) mm 2 64 H locs 16 ls [])) (Ph := (fun z => match z with | .inl w4_15 => ∀ (H : Heap) (locs : List Loc) (ls : Array Slot), Wd D dA bs LY mm H → va_S (Aq bs) s.heap H locs → lv_has ls 7 [(4, .int w4_15)] → Wz p l e s m args below meth c D dA bs (some (.int out)) mm 2 64 H locs 92 ls [] | .inr (()) => ∀ (H : Heap) (locs : List Loc) (ls : Array Slot), Wd D dA bs LY mm H → va_S (Aq bs) s.heap H locs → lv_has ls 7 [] → Wz p l e s m args below meth c D dA bs (some (.int out)) mm 2 64 H locs 101 ls [])) ?_ hlp_17 ?_ H locs ls hP hS (lv_sub hl [2, 3, 4, 1, 0] rfl)
  · intro y4L_14 o hf hB hE
    intro H locs ls hP hS hl
    have hf : f_X3_milesAfloat_s16 mm x1 x2 r_2 y4L_14 = some o := hf
    unfold f_X3_milesAfloat_s16 at hf
    have hJ87 : ∀ (y4J_4 : Int32) (y5J_4 : Int32) (H : Heap) (locs : List Loc) (ls : Array Slot), f_X3_milesAfloat_j87 mm x1 x2 r_2 y4J_4 y5J_4 = some o → Wd D dA bs LY mm H → va_S (Aq bs) s.heap H locs → lv_has ls 7 [(0, .ref (bs + 232)), (1, .int x1), (2, .int x2), (3, .int r_2), (4, .int y4J_4), (5, .int y5J_4)] → Wz p l e s m args below meth c D dA bs (some (.int out)) mm 2 64 H locs 87 ls [] := by
      intro y4J_4 y5J_4 H locs ls hf hP hS hl
      unfold f_X3_milesAfloat_j87 at hf
      refine lv_iload hx hb dX3_milesAfloat_87 (lv_at hl 5 rfl) ?_
      refine lv_if_ge (tgt := 95) hx hb dX3_milesAfloat_89 (by decide) (fun c_3 => ?_) (fun c_3 => ?_)
      · have hf := itT hf c_3
        refine lv_iinc (v := (y4J_4 + 1)) (lv' := [(4, .int (y4J_4 + 1)), (0, .ref (bs + 232)), (1, .int x1), (2, .int x2), (3, .int r_2), (5, .int y5J_4)]) hx hb dX3_milesAfloat_95 hl (k := 4) rfl rfl (by decide) rfl (fun ls hl => ?_)
        refine lv_goto (tgt := 16) hx hb dX3_milesAfloat_98 (by decide) ?_
        obtain rfl := Option.some.inj hf
        exact hB _ rfl H locs ls hP hS (lv_sub hl [1, 2, 3, 4, 0] rfl)
      · have hf := itF hf c_3
        obtain rfl := Option.some.inj hf
        exact hE _ rfl H locs ls hP hS (lv_sub hl [4] rfl)
    refine lv_iload hx hb dX3_milesAfloat_16 (lv_at hl 4 rfl) ?_
    refine lv_bipush (v := 100) hx hb dX3_milesAfloat_18 (by decide) ?_
    refine lv_icmp_ge (tgt := 101) hx hb dX3_milesAfloat_20 (by decide) (fun c_5 => ?_) (fun c_5 => ?_)
    · have hf := itT hf c_5
      obtain rfl := Option.some.inj hf
      exact hE _ rfl H locs ls hP hS (lv_sub hl [] rfl)
    · have hf := itF hf c_5
      refine lv_aload_n hx hb dX3_milesAfloat_23 rfl (lv_at hl 0 rfl) ?_
      refine wd_getR (q := 33) X hP L232 fl_X3_25 rfl dX3_milesAfloat_24 ?_
      refine lv_iload_n hx hb dX3_milesAfloat_27 rfl (lv_at hl 1 rfl) ?_
      refine lv_iload hx hb dX3_milesAfloat_28 (lv_at hl 4 rfl) ?_
      obtain ⟨r_7, hc_6, hf⟩ := bi1S hf
      refine wd_cv X hP hS (isRaft.a0 R33) ml_X3_36 ⟨_, _, rfl⟩ (c_X4_lift l D dA zz bs mm 33 27 R33 x1 y4L_14 r_7 hc_6) rfl ⟨Nat.le_of_ble_eq_true rfl, Nat.le_of_ble_eq_true rfl⟩ hl.1 rfl (rest := []) (Nat.le_of_ble_eq_true rfl) ⟨Nat.zero_le _, Nat.zero_le _⟩ dX3_milesAfloat_30 (fun H locs hP hS => ?_)
      refine W.eq (g2 := F0 m 33 ls [.int r_7]) rfl ?_
      refine lv_iload_n hx hb dX3_milesAfloat_33 rfl (lv_at hl 3 rfl) ?_
      refine lv_isub hx hb dX3_milesAfloat_34 ?_
      refine lv_istore (lv' := [(5, .int (r_7 - r_2)), (0, .ref (bs + 232)), (1, .int x1), (2, .int x2), (3, .int r_2), (4, .int y4L_14)]) hx hb dX3_milesAfloat_35 hl (by decide) rfl (fun ls hl => ?_)
      refine lv_iload_n hx hb dX3_milesAfloat_37 rfl (lv_at hl 3 rfl) ?_
      refine lv_iconst (v := -1) hx hb dX3_milesAfloat_38 (by decide) ?_
      refine lv_icmp_eq (tgt := 87) hx hb dX3_milesAfloat_39 (by decide) (fun c_8 => ?_) (fun c_8 => ?_)
      · have hf := itT hf c_8
        exact hJ87 y4L_14 (r_7 - r_2) H locs ls hf hP hS (lv_sub hl [1, 2, 3, 4, 5, 0] rfl)
      · have hf := itF hf c_8
        refine lv_aload_n hx hb dX3_milesAfloat_42 rfl (lv_at hl 1 rfl) ?_
        refine wd_getR (q := 26) X hP L232 fl_X3_15 rfl dX3_milesAfloat_43 ?_
        refine wd_getR (q := 44) X hP (isState.a0 S26) fl_X3_137 rfl dX3_milesAfloat_46 ?_
        refine lv_iload_n hx hb dX3_milesAfloat_49 rfl (lv_at hl 3 rfl) ?_
        have g_9 := gdN hf
        have hf := gdK hf
        refine wd_iald X hP (isState.a5 S26) g_9 dX3_milesAfloat_50 ?_
        refine lv_iload hx hb dX3_milesAfloat_51 (lv_at hl 5 rfl) ?_
        refine lv_aload_n hx hb dX3_milesAfloat_53 rfl (lv_at hl 1 rfl) ?_
        refine wd_getR (q := 26) X hP L232 fl_X3_15 rfl dX3_milesAfloat_54 ?_
        refine wd_getR (q := 45) X hP (isState.a0 S26) fl_X3_140 rfl dX3_milesAfloat_57 ?_
        refine lv_iload_n hx hb dX3_milesAfloat_60 rfl (lv_at hl 3 rfl) ?_
        have g_10 := gdN hf
        have hf := gdK hf
        refine wd_iald X hP (isState.a6 S26) g_10 dX3_milesAfloat_61 ?_
        refine lv_imul hx hb dX3_milesAfloat_62 ?_
        refine lv_isub hx hb dX3_milesAfloat_63 ?_
        refine lv_topi (fun x6_11 ex6_11 => ?_)
        have hf := vl hf ex6_11
        refine lv_istore (lv' := [(6, .int x6_11), (5, .int (r_7 - r_2)), (0, .ref (bs + 232)), (1, .int x1), (2, .int x2), (3, .int r_2), (4, .int y4L_14)]) hx hb dX3_milesAfloat_64 hl (by decide) rfl (fun ls hl => ?_)
        refine lv_iload hx hb dX3_milesAfloat_66 (lv_at hl 1 rfl) ?_
        refine lv_iconst (v := 0) hx hb dX3_milesAfloat_68 (by decide) ?_
        refine lv_iload hx hb dX3_milesAfloat_69 (lv_at hl 0 rfl) ?_
        refine va_mmax (own := RX3) hx hb (X.2.2.1.trans hl.1.symm) X.2.2.2.1 (X.2.2.2.2.1 _ (tb_at 1091 (by decide +kernel) (by decide +kernel))) (X.2.2.2.2.1 _ (tb_at 637 (by decide +kernel) (by decide +kernel))) (X.2.2.2.2.1 _ (tb_at 19 (by decide +kernel) (by decide +kernel))) (X.2.2.2.2.1 _ (tb_at 638 (by decide +kernel) (by decide +kernel))) (by decide) (Nat.le_of_ble_eq_true rfl) (Nat.zero_le _) (Nat.zero_le _) dX3_milesAfloat_71 ?_
        refine lv_aload_n hx hb dX3_milesAfloat_74 rfl (lv_at hl 2 rfl) ?_
        refine wd_getR (q := 26) X hP L232 fl_X3_15 rfl dX3_milesAfloat_75 ?_
        refine wd_getR (q := 43) X hP (isState.a0 S26) fl_X3_146 rfl dX3_milesAfloat_78 ?_
        refine lv_iload_n hx hb dX3_milesAfloat_81 rfl (lv_at hl 4 rfl) ?_
        have g_12 := gdN hf
        have hf := gdK hf
        refine wd_iald X hP (isState.a4 S26) g_12 dX3_milesAfloat_82 ?_
        refine lv_isub hx hb dX3_milesAfloat_83 ?_
        refine lv_iadd hx hb dX3_milesAfloat_84 ?_
        refine lv_topi (fun x5_13 ex5_13 => ?_)
        have hf := vl hf ex5_13
        refine lv_istore (lv' := [(5, .int x5_13), (6, .int x6_11), (0, .ref (bs + 232)), (1, .int x1), (2, .int x2), (3, .int r_2), (4, .int y4L_14)]) hx hb dX3_milesAfloat_85 hl (by decide) rfl (fun ls hl => ?_)
        exact hJ87 y4L_14 x5_13 H locs ls hf hP hS (lv_sub hl [2, 3, 4, 5, 6, 0] rfl)
  · rcases q_16 with w4_15 | ⟨⟩
    · dsimp only at hf
      intro H locs ls hP hS hl
      refine lv_iload hx hb dX3_milesAfloat_92 (lv_at hl 0 rfl) ?_
      obtain rfl := Option.some.inj hf
      exact wd_iret X hP hS hr0 dX3_milesAfloat_94 ⟨rfl, rfl⟩
    · dsimp only at hf
      intro H locs ls hP hS hl
      refine lv_bipush (v := 100) hx hb dX3_milesAfloat_101 (by decide) ?_
      obtain rfl := Option.some.inj hf
      exact wd_iret X hP hS hr0 dX3_milesAfloat_103 ⟨rfl, rfl⟩

noncomputable def f_X3_findTake_s39 (y2 : Int32) : (Int32 × Mm) → Option ((Int32 × Mm) ⊕ (Mm)) :=
  fun q => match q with
  | (y3, mm) =>
    if (mm.1 26 5) ≤ y3 then
      some (.inr mm)
    else
      bi1 (f_X3_milesAfloat mm y2 y3) fun r_11 =>
        if r_11 ≤ (mm.1 232 9) then
          some (.inl ((y3 + 1), mm))
        else
          vlet (wI mm 232 9 r_11) fun mm_13 =>
            vlet (wI mm_13 232 8 y3) fun mm_14 => some (.inl ((y3 + 1), mm_14))
noncomputable def f_X3_findTake (mm : Mm) (x1 : Int32) : Option (Mm) :=
  bi1 (f_X2_find mm 33 27 (0 : Int32)) fun mm_1 =>
    if x1 < 0 ∨ 8 ≤ x1.toNatClampNeg then none else
      vlet (mm_1.1 230 x1.toNatClampNeg) fun (x2_4 : Int32) =>
        vlet (wI mm_1 232 8 (-1 : Int32)) fun mm_5 =>
          bi1 (f_X3_milesAfloat mm_5 x2_4 (-1 : Int32)) fun r_7 =>
            vlet (wI mm_5 232 9 r_7) fun mm_8 =>
              bi1 (lp (f_X3_findTake_s39 x2_4) ((0 : Int32), mm_8)) fun mm_16 =>
                some mm_16
set_option maxHeartbeats 4000000 in
set_option maxRecDepth 100000 in
theorem c_X3_findTake (l : Launch) (D : va_G) (dA : Nat → ClassId) (zz : (Nat → Nat) × (Nat → Nat)) (bs : Nat) (mm : Mm) (x1 : Int32) (m1 : Mm) (hf : f_X3_findTake mm x1 = some m1) : Mw l D dA zz bs LY yX3_findTake cX3_findTake 5 none 4 92 [.ref (bs + 232), .int x1] mm none m1 := by
  refine Mw.of (own := RX3) (by decide) rfl (Nat.le_of_ble_eq_true rfl) ?_
  intro p e s m args below meth c X hr0 hP hS ls hl
  have hx := X.1
  have hb := X.2.1
  obtain ⟨H, hH⟩ : ∃ z : Heap, z = s.heap := ⟨_, rfl⟩
  obtain ⟨locs, hL⟩ : ∃ z : List Loc, z = [] := ⟨_, rfl⟩
  rw [← hH, ← hL]
  have hS : va_S (Aq bs) s.heap H locs := by rw [hH, hL]; exact hS
  have hP : Wd D dA bs LY mm H := by rw [hH]; exact hP
  have hl : lv_has ls 5 [(0, .ref (bs + 232)), (1, .int x1)] := hl
  unfold f_X3_findTake at hf
  refine lv_aload_n hx hb dX3_findTake_0 rfl (lv_at hl 0 rfl) ?_
  refine wd_getR (q := 229) X hP L232 fl_X3_26 rfl dX3_findTake_1 ?_
  refine lv_aload_n hx hb dX3_findTake_4 rfl (lv_at hl 0 rfl) ?_
  refine wd_getR (q := 33) X hP L232 fl_X3_25 rfl dX3_findTake_5 ?_
  refine lv_iconst (v := 0) hx hb dX3_findTake_8 (by decide) ?_
  obtain ⟨mm_1, hc_2, hf⟩ := bi1S hf
  refine wd_cv X hP hS L229 ml_X3_55 ⟨_, _, rfl⟩ (c_X2_find l D dA zz bs mm 33 27 R33 (0 : Int32) mm_1 hc_2) rfl ⟨Nat.le_of_ble_eq_true rfl, Nat.le_of_ble_eq_true rfl⟩ hl.1 rfl (rest := []) (Nat.le_of_ble_eq_true rfl) ⟨Nat.zero_le _, Nat.zero_le _⟩ dX3_findTake_9 (fun H locs hP hS => ?_)
  refine W.eq (g2 := F0 m 12 ls []) rfl ?_
  refine lv_aload_n hx hb dX3_findTake_12 rfl (lv_at hl 0 rfl) ?_
  refine wd_getR (q := 229) X hP L232 fl_X3_26 rfl dX3_findTake_13 ?_
  refine wd_getR (q := 230) X hP L229 fl_X3_81 rfl dX3_findTake_16 ?_
  refine lv_iload_n hx hb dX3_findTake_19 rfl (lv_at hl 1 rfl) ?_
  have g_3 := gdN hf
  have hf := gdK hf
  refine wd_iald X hP L230 g_3 dX3_findTake_20 ?_
  refine lv_topi (fun x2_4 ex2_4 => ?_)
  have hf := vl hf ex2_4
  refine lv_istore_n (lv' := [(2, .int x2_4), (0, .ref (bs + 232)), (1, .int x1)]) hx hb dX3_findTake_21 rfl hl (by decide) rfl (fun ls hl => ?_)
  refine lv_aload_n hx hb dX3_findTake_22 rfl (lv_at hl 1 rfl) ?_
  refine lv_iconst (v := -1) hx hb dX3_findTake_23 (by decide) ?_
  refine wd_putI X hP hS L232 fp_X3_121 rfl dX3_findTake_24 (fun H locs mm_5 emm_5 hP hS => ?_)
  have hf := vl hf emm_5
  refine lv_aload_n hx hb dX3_findTake_27 rfl (lv_at hl 1 rfl) ?_
  refine lv_aload_n hx hb dX3_findTake_28 rfl (lv_at hl 1 rfl) ?_
  refine lv_iload_n hx hb dX3_findTake_29 rfl (lv_at hl 0 rfl) ?_
  refine lv_iconst (v := -1) hx hb dX3_findTake_30 (by decide) ?_
  obtain ⟨r_7, hc_6, hf⟩ := bi1S hf
  refine wd_cv X hP hS L232 ml_X3_124 ⟨_, _, rfl⟩ (c_X3_milesAfloat l D dA zz bs mm_5 x2_4 (-1 : Int32) r_7 hc_6) rfl ⟨Nat.le_of_ble_eq_true rfl, Nat.le_of_ble_eq_true rfl⟩ hl.1 rfl (rest := [.ref (bs + 232)]) (Nat.le_of_ble_eq_true rfl) ⟨Nat.zero_le _, Nat.zero_le _⟩ dX3_findTake_31 (fun H locs hP hS => ?_)
  refine W.eq (g2 := F0 m 34 ls [.int r_7, .ref (bs + 232)]) rfl ?_
  refine wd_putI X hP hS L232 fp_X3_127 rfl dX3_findTake_34 (fun H locs mm_8 emm_8 hP hS => ?_)
  have hf := vl hf emm_8
  refine lv_iconst (v := 0) hx hb dX3_findTake_37 (by decide) ?_
  refine lv_istore_n (lv' := [(3, .int (0 : Int32)), (2, .int x2_4), (0, .ref (bs + 232)), (1, .int x1)]) hx hb dX3_findTake_38 rfl hl (by decide) rfl (fun ls hl => ?_)
  obtain ⟨q_17, hlp_18, hf⟩ := bi1S hf
  refine lp_walk (Wh := (fun z => match z with | (y3L_15, mmL_15) => ∀ (H : Heap) (locs : List Loc) (ls : Array Slot), Wd D dA bs LY mmL_15 H → va_S (Aq bs) s.heap H locs → lv_has ls 5 [(0, .ref (bs + 232)), (2, .int x2_4), (3, .int y3L_15)] → Wz p l e s m args below meth c D dA bs none m1 4 92 H locs 39 ls [])) (Ph := (fun mm_16 => ∀ (H : Heap) (locs : List Loc) (ls : Array Slot), Wd D dA bs LY mm_16 H → va_S (Aq bs) s.heap H locs → lv_has ls 5 [] → Wz p l e s m args below meth c D dA bs none m1 4 92 H locs 84 ls [])) ?_ hlp_18 ?_ H locs ls hP hS (lv_sub hl [2, 1, 0] rfl)
  · intro z o hf hB hE
    obtain ⟨y3L_15, mmL_15⟩ := z
    intro H locs ls hP hS hl
    have hf : f_X3_findTake_s39 x2_4 (y3L_15, mmL_15) = some o := hf
    unfold f_X3_findTake_s39 at hf
    dsimp only at hf
    refine lv_iload_n hx hb dX3_findTake_39 rfl (lv_at hl 2 rfl) ?_
    refine lv_aload_n hx hb dX3_findTake_40 rfl (lv_at hl 0 rfl) ?_
    refine wd_getR (q := 26) X hP L232 fl_X3_15 rfl dX3_findTake_41 ?_
    refine wd_getI X hP (isState.a0 S26) fl_X3_130 rfl dX3_findTake_44 ?_
    refine lv_icmp_ge (tgt := 84) hx hb dX3_findTake_47 (by decide) (fun c_9 => ?_) (fun c_9 => ?_)
    · have hf := itT hf c_9
      obtain rfl := Option.some.inj hf
      exact hE _ rfl H locs ls hP hS (lv_sub hl [] rfl)
    · have hf := itF hf c_9
      refine lv_aload_n hx hb dX3_findTake_50 rfl (lv_at hl 0 rfl) ?_
      refine lv_iload_n hx hb dX3_findTake_51 rfl (lv_at hl 1 rfl) ?_
      refine lv_iload_n hx hb dX3_findTake_52 rfl (lv_at hl 2 rfl) ?_
      obtain ⟨r_11, hc_10, hf⟩ := bi1S hf
      refine wd_cv X hP hS L232 ml_X3_124 ⟨_, _, rfl⟩ (c_X3_milesAfloat l D dA zz bs mmL_15 x2_4 y3L_15 r_11 hc_10) rfl ⟨Nat.le_of_ble_eq_true rfl, Nat.le_of_ble_eq_true rfl⟩ hl.1 rfl (rest := []) (Nat.le_of_ble_eq_true rfl) ⟨Nat.zero_le _, Nat.zero_le _⟩ dX3_findTake_53 (fun H locs hP hS => ?_)
      refine W.eq (g2 := F0 m 56 ls [.int r_11]) rfl ?_
      refine lv_istore (lv' := [(4, .int r_11), (0, .ref (bs + 232)), (2, .int x2_4), (3, .int y3L_15)]) hx hb dX3_findTake_56 hl (by decide) rfl (fun ls hl => ?_)
      refine lv_iload hx hb dX3_findTake_58 (lv_at hl 0 rfl) ?_
      refine lv_aload_n hx hb dX3_findTake_60 rfl (lv_at hl 1 rfl) ?_
      refine wd_getI X hP L232 fl_X3_127 rfl dX3_findTake_61 ?_
      refine lv_icmp_le (tgt := 78) hx hb dX3_findTake_64 (by decide) (fun c_12 => ?_) (fun c_12 => ?_)
      · have hf := itT hf c_12
        refine lv_iinc (v := (y3L_15 + 1)) (lv' := [(3, .int (y3L_15 + 1)), (4, .int r_11), (0, .ref (bs + 232)), (2, .int x2_4)]) hx hb dX3_findTake_78 hl (k := 3) rfl rfl (by decide) rfl (fun ls hl => ?_)
        refine lv_goto (tgt := 39) hx hb dX3_findTake_81 (by decide) ?_
        obtain rfl := Option.some.inj hf
        exact hB _ rfl H locs ls hP hS (lv_sub hl [2, 3, 0] rfl)
      · have hf := itF hf c_12
        refine lv_aload_n hx hb dX3_findTake_67 rfl (lv_at hl 1 rfl) ?_
        refine lv_iload hx hb dX3_findTake_68 (lv_at hl 0 rfl) ?_
        refine wd_putI X hP hS L232 fp_X3_127 rfl dX3_findTake_70 (fun H locs mm_13 emm_13 hP hS => ?_)
        have hf := vl hf emm_13
        refine lv_aload_n hx hb dX3_findTake_73 rfl (lv_at hl 1 rfl) ?_
        refine lv_iload_n hx hb dX3_findTake_74 rfl (lv_at hl 3 rfl) ?_
        refine wd_putI X hP hS L232 fp_X3_121 rfl dX3_findTake_75 (fun H locs mm_14 emm_14 hP hS => ?_)
        have hf := vl hf emm_14
        refine lv_iinc (v := (y3L_15 + 1)) (lv' := [(3, .int (y3L_15 + 1)), (4, .int r_11), (0, .ref (bs + 232)), (2, .int x2_4)]) hx hb dX3_findTake_78 hl (k := 3) rfl rfl (by decide) rfl (fun ls hl => ?_)
        refine lv_goto (tgt := 39) hx hb dX3_findTake_81 (by decide) ?_
        obtain rfl := Option.some.inj hf
        exact hB _ rfl H locs ls hP hS (lv_sub hl [2, 3, 0] rfl)
  · obtain ⟨mm_16, e_mm_16⟩ : ∃ z, z = q_17 := ⟨_, rfl⟩
    subst e_mm_16
    intro H locs ls hP hS hl
    obtain rfl := Option.some.inj hf
    exact wd_vret X hP hS hr0 dX3_findTake_84 ⟨rfl, rfl⟩

noncomputable def f_X3_moveFrom_s2 (mm : Mm) (y1 : Int32) : (Int32) → Option ((Int32) ⊕ ((Int32) ⊕ (Unit))) :=
  fun (y2 : Int32) =>
    if (8 : Int32) ≤ y2 then
      some (.inr (.inr (())))
    else
      vlet (y1 &&& (((1 : Int32) <<< (y2 &&& 31)) ^^^ (-1 : Int32))) fun (x3_2 : Int32) =>
        if x3_2 = y1 then
          some (.inl (y2 + 1))
        else
          if x3_2 < 0 ∨ 256 ≤ x3_2.toNatClampNeg then none else
            if (mm.1 233 x3_2.toNatClampNeg) = (-1 : Int32) then
              bi1 (f_X4_lift mm 33 27 x3_2 (0 : Int32)) fun r_7 =>
                if r_7 < 0 then
                  some (.inl (y2 + 1))
                else
                  some (.inr (.inl y2))
            else
              some (.inl (y2 + 1))
noncomputable def f_X3_moveFrom (mm : Mm) (x1 : Int32) : Option (Int32) :=
  bi1 (lp (f_X3_moveFrom_s2 mm x1) (0 : Int32)) fun q => match q with
  | .inl w2_10 =>
    some w2_10
  | .inr (()) =>
    some (-1 : Int32)
set_option maxHeartbeats 4000000 in
set_option maxRecDepth 100000 in
theorem c_X3_moveFrom (l : Launch) (D : va_G) (dA : Nat → ClassId) (zz : (Nat → Nat) × (Nat → Nat)) (bs : Nat) (mm : Mm) (x1 : Int32) (out : Int32) (hf : f_X3_moveFrom mm x1 = some out) : Mw l D dA zz bs LY yX3_moveFrom cX3_moveFrom 4 (some .int) 2 64 [.ref (bs + 232), .int x1] mm (some (.int out)) mm := by
  refine Mw.of (own := RX3) (by decide) rfl (Nat.le_of_ble_eq_true rfl) ?_
  intro p e s m args below meth c X hr0 hP hS ls hl
  have hx := X.1
  have hb := X.2.1
  obtain ⟨H, hH⟩ : ∃ z : Heap, z = s.heap := ⟨_, rfl⟩
  obtain ⟨locs, hL⟩ : ∃ z : List Loc, z = [] := ⟨_, rfl⟩
  rw [← hH, ← hL]
  have hS : va_S (Aq bs) s.heap H locs := by rw [hH, hL]; exact hS
  have hP : Wd D dA bs LY mm H := by rw [hH]; exact hP
  have hl : lv_has ls 4 [(0, .ref (bs + 232)), (1, .int x1)] := hl
  unfold f_X3_moveFrom at hf
  refine lv_iconst (v := 0) hx hb dX3_moveFrom_0 (by decide) ?_
  refine lv_istore_n (lv' := [(2, .int (0 : Int32)), (0, .ref (bs + 232)), (1, .int x1)]) hx hb dX3_moveFrom_1 rfl hl (by decide) rfl (fun ls hl => ?_)
  obtain ⟨q_11, hlp_12, hf⟩ := bi1S hf
  refine lp_walk (Wh := (fun y2L_9 => ∀ (H : Heap) (locs : List Loc) (ls : Array Slot), Wd D dA bs LY mm H → va_S (Aq bs) s.heap H locs → lv_has ls 4 [(0, .ref (bs + 232)), (1, .int x1), (2, .int y2L_9)] → Wz p l e s m args below meth c D dA bs (some (.int out)) mm 2 64 H locs 2 ls [])) (Ph := (fun z => match z with | .inl w2_10 => ∀ (H : Heap) (locs : List Loc) (ls : Array Slot), Wd D dA bs LY mm H → va_S (Aq bs) s.heap H locs → lv_has ls 4 [(2, .int w2_10)] → Wz p l e s m args below meth c D dA bs (some (.int out)) mm 2 64 H locs 43 ls [] | .inr (()) => ∀ (H : Heap) (locs : List Loc) (ls : Array Slot), Wd D dA bs LY mm H → va_S (Aq bs) s.heap H locs → lv_has ls 4 [] → Wz p l e s m args below meth c D dA bs (some (.int out)) mm 2 64 H locs 51 ls [])) ?_ hlp_12 ?_ H locs ls hP hS (lv_sub hl [1, 2, 0] rfl)
  · intro y2L_9 o hf hB hE
    intro H locs ls hP hS hl
    have hf : f_X3_moveFrom_s2 mm x1 y2L_9 = some o := hf
    unfold f_X3_moveFrom_s2 at hf
    refine lv_iload_n hx hb dX3_moveFrom_2 rfl (lv_at hl 2 rfl) ?_
    refine lv_bipush (v := 8) hx hb dX3_moveFrom_3 (by decide) ?_
    refine lv_icmp_ge (tgt := 51) hx hb dX3_moveFrom_5 (by decide) (fun c_1 => ?_) (fun c_1 => ?_)
    · have hf := itT hf c_1
      obtain rfl := Option.some.inj hf
      exact hE _ rfl H locs ls hP hS (lv_sub hl [] rfl)
    · have hf := itF hf c_1
      refine lv_iload_n hx hb dX3_moveFrom_8 rfl (lv_at hl 1 rfl) ?_
      refine lv_iconst (v := 1) hx hb dX3_moveFrom_9 (by decide) ?_
      refine lv_iload_n hx hb dX3_moveFrom_10 rfl (lv_at hl 2 rfl) ?_
      refine lv_ishl hx hb dX3_moveFrom_11 ?_
      refine lv_iconst (v := -1) hx hb dX3_moveFrom_12 (by decide) ?_
      refine lv_ixor hx hb dX3_moveFrom_13 ?_
      refine lv_iand hx hb dX3_moveFrom_14 ?_
      refine lv_topi (fun x3_2 ex3_2 => ?_)
      have hf := vl hf ex3_2
      refine lv_istore_n (lv' := [(3, .int x3_2), (0, .ref (bs + 232)), (1, .int x1), (2, .int y2L_9)]) hx hb dX3_moveFrom_15 rfl hl (by decide) rfl (fun ls hl => ?_)
      refine lv_iload_n hx hb dX3_moveFrom_16 rfl (lv_at hl 0 rfl) ?_
      refine lv_iload_n hx hb dX3_moveFrom_17 rfl (lv_at hl 2 rfl) ?_
      refine lv_icmp_eq (tgt := 45) hx hb dX3_moveFrom_18 (by decide) (fun c_3 => ?_) (fun c_3 => ?_)
      · have hf := itT hf c_3
        refine lv_iinc (v := (y2L_9 + 1)) (lv' := [(2, .int (y2L_9 + 1)), (3, .int x3_2), (0, .ref (bs + 232)), (1, .int x1)]) hx hb dX3_moveFrom_45 hl (k := 3) rfl rfl (by decide) rfl (fun ls hl => ?_)
        refine lv_goto (tgt := 2) hx hb dX3_moveFrom_48 (by decide) ?_
        obtain rfl := Option.some.inj hf
        exact hB _ rfl H locs ls hP hS (lv_sub hl [2, 3, 0] rfl)
      · have hf := itF hf c_3
        refine lv_aload_n hx hb dX3_moveFrom_21 rfl (lv_at hl 1 rfl) ?_
        refine wd_getR (q := 233) X hP L232 fl_X3_9 rfl dX3_moveFrom_22 ?_
        refine lv_iload_n hx hb dX3_moveFrom_25 rfl (lv_at hl 0 rfl) ?_
        have g_4 := gdN hf
        have hf := gdK hf
        refine wd_iald X hP L233 g_4 dX3_moveFrom_26 ?_
        refine lv_iconst (v := -1) hx hb dX3_moveFrom_27 (by decide) ?_
        refine lv_icmp_ne (tgt := 45) hx hb dX3_moveFrom_28 (by decide) (fun c_5 => ?_) (fun c_5 => ?_)
        · have hf := itF hf c_5
          refine lv_iinc (v := (y2L_9 + 1)) (lv' := [(2, .int (y2L_9 + 1)), (3, .int x3_2), (0, .ref (bs + 232)), (1, .int x1)]) hx hb dX3_moveFrom_45 hl (k := 3) rfl rfl (by decide) rfl (fun ls hl => ?_)
          refine lv_goto (tgt := 2) hx hb dX3_moveFrom_48 (by decide) ?_
          obtain rfl := Option.some.inj hf
          exact hB _ rfl H locs ls hP hS (lv_sub hl [2, 3, 0] rfl)
        · have hf := itT hf c_5
          refine lv_aload_n hx hb dX3_moveFrom_31 rfl (lv_at hl 1 rfl) ?_
          refine wd_getR (q := 33) X hP L232 fl_X3_25 rfl dX3_moveFrom_32 ?_
          refine lv_iload_n hx hb dX3_moveFrom_35 rfl (lv_at hl 0 rfl) ?_
          refine lv_iconst (v := 0) hx hb dX3_moveFrom_36 (by decide) ?_
          obtain ⟨r_7, hc_6, hf⟩ := bi1S hf
          refine wd_cv X hP hS (isRaft.a0 R33) ml_X3_36 ⟨_, _, rfl⟩ (c_X4_lift l D dA zz bs mm 33 27 R33 x3_2 (0 : Int32) r_7 hc_6) rfl ⟨Nat.le_of_ble_eq_true rfl, Nat.le_of_ble_eq_true rfl⟩ hl.1 rfl (rest := []) (Nat.le_of_ble_eq_true rfl) ⟨Nat.zero_le _, Nat.zero_le _⟩ dX3_moveFrom_37 (fun H locs hP hS => ?_)
          refine W.eq (g2 := F0 m 40 ls [.int r_7]) rfl ?_
          refine lv_if_lt (tgt := 45) hx hb dX3_moveFrom_40 (by decide) (fun c_8 => ?_) (fun c_8 => ?_)
          · have hf := itT hf c_8
            refine lv_iinc (v := (y2L_9 + 1)) (lv' := [(2, .int (y2L_9 + 1)), (3, .int x3_2), (0, .ref (bs + 232)), (1, .int x1)]) hx hb dX3_moveFrom_45 hl (k := 3) rfl rfl (by decide) rfl (fun ls hl => ?_)
            refine lv_goto (tgt := 2) hx hb dX3_moveFrom_48 (by decide) ?_
            obtain rfl := Option.some.inj hf
            exact hB _ rfl H locs ls hP hS (lv_sub hl [2, 3, 0] rfl)
          · have hf := itF hf c_8
            obtain rfl := Option.some.inj hf
            exact hE _ rfl H locs ls hP hS (lv_sub hl [3] rfl)
  · rcases q_11 with w2_10 | ⟨⟩
    · dsimp only at hf
      intro H locs ls hP hS hl
      refine lv_iload_n hx hb dX3_moveFrom_43 rfl (lv_at hl 0 rfl) ?_
      obtain rfl := Option.some.inj hf
      exact wd_iret X hP hS hr0 dX3_moveFrom_44 ⟨rfl, rfl⟩
    · dsimp only at hf
      intro H locs ls hP hS hl
      refine lv_iconst (v := -1) hx hb dX3_moveFrom_51 (by decide) ?_
      obtain rfl := Option.some.inj hf
      exact wd_iret X hP hS hr0 dX3_moveFrom_52 ⟨rfl, rfl⟩

noncomputable def f_X3_winningMove_s24 (y2 : Int32) : (Int32 × Mm) → Option ((Int32 × Mm) ⊕ (Mm)) :=
  fun q => match q with
  | (y3, mm) =>
    if y2 < y3 then
      some (.inr mm)
    else
      if (y3 &&& (y2 ^^^ (-1 : Int32))) = 0 then
        bi1 (f_X3_moveFrom mm y3) fun r_8 =>
          if y3 < 0 ∨ 256 ≤ y3.toNatClampNeg then none else
            vlet (wI mm 233 y3.toNatClampNeg r_8) fun mm_9 => some (.inl ((y3 + 1), mm_9))
      else
        some (.inl ((y3 + 1), mm))
noncomputable def f_X3_winningMove (mm : Mm) (x1 : Int32) : Option (Int32 × Mm) :=
  bi1 (f_X2_join mm 33 27 (0 : Int32)) fun mm_1 =>
    if x1 < 0 ∨ 8 ≤ x1.toNatClampNeg then none else
      vlet (mm_1.1 230 x1.toNatClampNeg) fun (x2_4 : Int32) =>
        bi1 (lp (f_X3_winningMove_s24 x2_4) ((0 : Int32), mm_1)) fun mm_12 =>
          if x2_4 < 0 ∨ 256 ≤ x2_4.toNatClampNeg then none else some ((mm_12.1 233 x2_4.toNatClampNeg), mm_12)
set_option maxHeartbeats 4000000 in
set_option maxRecDepth 100000 in
theorem c_X3_winningMove (l : Launch) (D : va_G) (dA : Nat → ClassId) (zz : (Nat → Nat) × (Nat → Nat)) (bs : Nat) (mm : Mm) (x1 : Int32) (out : Int32) (m1 : Mm) (hf : f_X3_winningMove mm x1 = some (out, m1)) : Mw l D dA zz bs LY yX3_winningMove cX3_winningMove 4 (some .int) 3 87 [.ref (bs + 232), .int x1] mm (some (.int out)) m1 := by
  refine Mw.of (own := RX3) (by decide) rfl (Nat.le_of_ble_eq_true rfl) ?_
  intro p e s m args below meth c X hr0 hP hS ls hl
  have hx := X.1
  have hb := X.2.1
  obtain ⟨H, hH⟩ : ∃ z : Heap, z = s.heap := ⟨_, rfl⟩
  obtain ⟨locs, hL⟩ : ∃ z : List Loc, z = [] := ⟨_, rfl⟩
  rw [← hH, ← hL]
  have hS : va_S (Aq bs) s.heap H locs := by rw [hH, hL]; exact hS
  have hP : Wd D dA bs LY mm H := by rw [hH]; exact hP
  have hl : lv_has ls 4 [(0, .ref (bs + 232)), (1, .int x1)] := hl
  unfold f_X3_winningMove at hf
  refine lv_aload_n hx hb dX3_winningMove_0 rfl (lv_at hl 0 rfl) ?_
  refine wd_getR (q := 229) X hP L232 fl_X3_26 rfl dX3_winningMove_1 ?_
  refine lv_aload_n hx hb dX3_winningMove_4 rfl (lv_at hl 0 rfl) ?_
  refine wd_getR (q := 33) X hP L232 fl_X3_25 rfl dX3_winningMove_5 ?_
  refine lv_iconst (v := 0) hx hb dX3_winningMove_8 (by decide) ?_
  obtain ⟨mm_1, hc_2, hf⟩ := bi1S hf
  refine wd_cv X hP hS L229 ml_X3_71 ⟨_, _, rfl⟩ (c_X2_join l D dA zz bs mm 33 27 R33 (0 : Int32) mm_1 hc_2) rfl ⟨Nat.le_of_ble_eq_true rfl, Nat.le_of_ble_eq_true rfl⟩ hl.1 rfl (rest := []) (Nat.le_of_ble_eq_true rfl) ⟨Nat.zero_le _, Nat.zero_le _⟩ dX3_winningMove_9 (fun H locs hP hS => ?_)
  refine W.eq (g2 := F0 m 12 ls []) rfl ?_
  refine lv_aload_n hx hb dX3_winningMove_12 rfl (lv_at hl 0 rfl) ?_
  refine wd_getR (q := 229) X hP L232 fl_X3_26 rfl dX3_winningMove_13 ?_
  refine wd_getR (q := 230) X hP L229 fl_X3_81 rfl dX3_winningMove_16 ?_
  refine lv_iload_n hx hb dX3_winningMove_19 rfl (lv_at hl 1 rfl) ?_
  have g_3 := gdN hf
  have hf := gdK hf
  refine wd_iald X hP L230 g_3 dX3_winningMove_20 ?_
  refine lv_topi (fun x2_4 ex2_4 => ?_)
  have hf := vl hf ex2_4
  refine lv_istore_n (lv' := [(2, .int x2_4), (0, .ref (bs + 232)), (1, .int x1)]) hx hb dX3_winningMove_21 rfl hl (by decide) rfl (fun ls hl => ?_)
  refine lv_iconst (v := 0) hx hb dX3_winningMove_22 (by decide) ?_
  refine lv_istore_n (lv' := [(3, .int (0 : Int32)), (2, .int x2_4), (0, .ref (bs + 232)), (1, .int x1)]) hx hb dX3_winningMove_23 rfl hl (by decide) rfl (fun ls hl => ?_)
  obtain ⟨q_14, hlp_15, hf⟩ := bi1S hf
  refine lp_walk (Wh := (fun z => match z with | (y3L_11, mmL_11) => ∀ (H : Heap) (locs : List Loc) (ls : Array Slot), Wd D dA bs LY mmL_11 H → va_S (Aq bs) s.heap H locs → lv_has ls 4 [(0, .ref (bs + 232)), (2, .int x2_4), (3, .int y3L_11)] → Wz p l e s m args below meth c D dA bs (some (.int out)) m1 3 87 H locs 24 ls [])) (Ph := (fun mm_12 => ∀ (H : Heap) (locs : List Loc) (ls : Array Slot), Wd D dA bs LY mm_12 H → va_S (Aq bs) s.heap H locs → lv_has ls 4 [(0, .ref (bs + 232)), (2, .int x2_4)] → Wz p l e s m args below meth c D dA bs (some (.int out)) m1 3 87 H locs 54 ls [])) ?_ hlp_15 ?_ H locs ls hP hS (lv_sub hl [2, 1, 0] rfl)
  · intro z o hf hB hE
    obtain ⟨y3L_11, mmL_11⟩ := z
    intro H locs ls hP hS hl
    have hf : f_X3_winningMove_s24 x2_4 (y3L_11, mmL_11) = some o := hf
    unfold f_X3_winningMove_s24 at hf
    dsimp only at hf
    refine lv_iload_n hx hb dX3_winningMove_24 rfl (lv_at hl 2 rfl) ?_
    refine lv_iload_n hx hb dX3_winningMove_25 rfl (lv_at hl 1 rfl) ?_
    refine lv_icmp_gt (tgt := 54) hx hb dX3_winningMove_26 (by decide) (fun c_5 => ?_) (fun c_5 => ?_)
    · have hf := itT hf c_5
      obtain rfl := Option.some.inj hf
      exact hE _ rfl H locs ls hP hS (lv_sub hl [0, 1] rfl)
    · have hf := itF hf c_5
      refine lv_iload_n hx hb dX3_winningMove_29 rfl (lv_at hl 2 rfl) ?_
      refine lv_iload_n hx hb dX3_winningMove_30 rfl (lv_at hl 1 rfl) ?_
      refine lv_iconst (v := -1) hx hb dX3_winningMove_31 (by decide) ?_
      refine lv_ixor hx hb dX3_winningMove_32 ?_
      refine lv_iand hx hb dX3_winningMove_33 ?_
      refine lv_if_ne (tgt := 48) hx hb dX3_winningMove_34 (by decide) (fun c_6 => ?_) (fun c_6 => ?_)
      · have hf := itF hf c_6
        refine lv_iinc (v := (y3L_11 + 1)) (lv' := [(3, .int (y3L_11 + 1)), (0, .ref (bs + 232)), (2, .int x2_4)]) hx hb dX3_winningMove_48 hl (k := 2) rfl rfl (by decide) rfl (fun ls hl => ?_)
        refine lv_goto (tgt := 24) hx hb dX3_winningMove_51 (by decide) ?_
        obtain rfl := Option.some.inj hf
        exact hB _ rfl H locs ls hP hS (lv_sub hl [1, 2, 0] rfl)
      · have hf := itT hf c_6
        refine lv_aload_n hx hb dX3_winningMove_37 rfl (lv_at hl 0 rfl) ?_
        refine wd_getR (q := 233) X hP L232 fl_X3_9 rfl dX3_winningMove_38 ?_
        refine lv_iload_n hx hb dX3_winningMove_41 rfl (lv_at hl 2 rfl) ?_
        refine lv_aload_n hx hb dX3_winningMove_42 rfl (lv_at hl 0 rfl) ?_
        refine lv_iload_n hx hb dX3_winningMove_43 rfl (lv_at hl 2 rfl) ?_
        obtain ⟨r_8, hc_7, hf⟩ := bi1S hf
        refine wd_cv X hP hS L232 ml_X3_149 ⟨_, _, rfl⟩ (c_X3_moveFrom l D dA zz bs mmL_11 y3L_11 r_8 hc_7) rfl ⟨Nat.le_of_ble_eq_true rfl, Nat.le_of_ble_eq_true rfl⟩ hl.1 rfl (rest := [.int y3L_11, .ref (bs + 233)]) (Nat.le_of_ble_eq_true rfl) ⟨Nat.zero_le _, Nat.zero_le _⟩ dX3_winningMove_44 (fun H locs hP hS => ?_)
        refine W.eq (g2 := F0 m 47 ls [.int r_8, .int y3L_11, .ref (bs + 233)]) rfl ?_
        have g_10 := gdN hf
        have hf := gdK hf
        refine wd_iast X hP hS L233 g_10 dX3_winningMove_47 (fun H locs mm_9 emm_9 hP hS => ?_)
        have hf := vl hf emm_9
        refine lv_iinc (v := (y3L_11 + 1)) (lv' := [(3, .int (y3L_11 + 1)), (0, .ref (bs + 232)), (2, .int x2_4)]) hx hb dX3_winningMove_48 hl (k := 2) rfl rfl (by decide) rfl (fun ls hl => ?_)
        refine lv_goto (tgt := 24) hx hb dX3_winningMove_51 (by decide) ?_
        obtain rfl := Option.some.inj hf
        exact hB _ rfl H locs ls hP hS (lv_sub hl [1, 2, 0] rfl)
  · obtain ⟨mm_12, e_mm_12⟩ : ∃ z, z = q_14 := ⟨_, rfl⟩
    subst e_mm_12
    intro H locs ls hP hS hl
    refine lv_aload_n hx hb dX3_winningMove_54 rfl (lv_at hl 0 rfl) ?_
    refine wd_getR (q := 233) X hP L232 fl_X3_9 rfl dX3_winningMove_55 ?_
    refine lv_iload_n hx hb dX3_winningMove_58 rfl (lv_at hl 1 rfl) ?_
    have g_13 := gdN hf
    have hf := gdK hf
    refine wd_iald X hP L233 g_13 dX3_winningMove_59 ?_
    obtain ⟨rfl, rfl⟩ := Prod.mk.inj (Option.some.inj hf)
    exact wd_iret X hP hS hr0 dX3_winningMove_60 ⟨rfl, rfl⟩

noncomputable def f_X4_clear (mm : Mm) (r : Nat) (v : Nat) : Option (Mm) :=
  vlet (wI mm r 1 (0 : Int32)) fun mm_1 =>
    vlet (wI mm_1 r 2 (0 : Int32)) fun mm_2 =>
      vlet (wI mm_2 r 3 (0 : Int32)) fun mm_3 =>
        bi1 (f_J7_fill_53178 mm_3 (r + 1) 6 (0 : Int32)) fun mm_4 =>
          bi1 (f_J7_fill_53178 mm_4 (r + 4) 8 (0 : Int32)) fun mm_6 =>
            bi1 (f_J7_fill_53178 mm_6 (r + 5) 8 (0 : Int32)) fun mm_8 => some mm_8
set_option maxHeartbeats 4000000 in
set_option maxRecDepth 100000 in
theorem c_X4_clear (l : Launch) (D : va_G) (dA : Nat → ClassId) (zz : (Nat → Nat) × (Nat → Nat)) (bs : Nat) (mm : Mm) (r : Nat) (v : Nat) (hr : isRaft r v) (m1 : Mm) (hf : f_X4_clear mm r v = some m1) : Mw l D dA zz bs LY yX4_clear cX4_clear 1 none 1 23 [.ref (bs + r)] mm none m1 := by
  refine Mw.of (own := RX4) (by decide) rfl (Nat.le_of_ble_eq_true rfl) ?_
  intro p e s m args below meth c X hr0 hP hS ls hl
  have hx := X.1
  have hb := X.2.1
  obtain ⟨H, hH⟩ : ∃ z : Heap, z = s.heap := ⟨_, rfl⟩
  obtain ⟨locs, hL⟩ : ∃ z : List Loc, z = [] := ⟨_, rfl⟩
  rw [← hH, ← hL]
  have hS : va_S (Aq bs) s.heap H locs := by rw [hH, hL]; exact hS
  have hP : Wd D dA bs LY mm H := by rw [hH]; exact hP
  have hl : lv_has ls 1 [(0, .ref (bs + r))] := hl
  unfold f_X4_clear at hf
  refine lv_aload_n hx hb dX4_clear_0 rfl (lv_at hl 0 rfl) ?_
  refine lv_iconst (v := 0) hx hb dX4_clear_1 (by decide) ?_
  refine wd_putI X hP hS (isRaft.a0 hr) fp_X4_40 rfl dX4_clear_2 (fun H locs mm_1 emm_1 hP hS => ?_)
  have hf := vl hf emm_1
  refine lv_aload_n hx hb dX4_clear_5 rfl (lv_at hl 0 rfl) ?_
  refine lv_iconst (v := 0) hx hb dX4_clear_6 (by decide) ?_
  refine wd_putI X hP hS (isRaft.a0 hr) fp_X4_44 rfl dX4_clear_7 (fun H locs mm_2 emm_2 hP hS => ?_)
  have hf := vl hf emm_2
  refine lv_aload_n hx hb dX4_clear_10 rfl (lv_at hl 0 rfl) ?_
  refine lv_iconst (v := 0) hx hb dX4_clear_11 (by decide) ?_
  refine wd_putI X hP hS (isRaft.a0 hr) fp_X4_47 rfl dX4_clear_12 (fun H locs mm_3 emm_3 hP hS => ?_)
  have hf := vl hf emm_3
  refine lv_aload_n hx hb dX4_clear_15 rfl (lv_at hl 0 rfl) ?_
  refine wd_getR (q := r + 1) X hP (isRaft.a0 hr) fl_X4_9 rfl dX4_clear_16 ?_
  refine lv_iconst (v := 0) hx hb dX4_clear_19 (by decide) ?_
  obtain ⟨mm_4, hc_5, hf⟩ := bi1S hf
  refine wd_cs X hP hS ml_X4_50 (c_J7_fill_53178 l D dA zz bs mm_3 (r + 1) 6 (isRaft.a1 hr) (0 : Int32) mm_4 hc_5) rfl ⟨Nat.le_of_ble_eq_true rfl, Nat.le_of_ble_eq_true rfl⟩ hl.1 rfl (rest := []) (Nat.le_of_ble_eq_true rfl) ⟨Nat.zero_le _, Nat.zero_le _⟩ dX4_clear_20 (fun H locs hP hS => ?_)
  refine W.eq (g2 := F0 m 23 ls []) rfl ?_
  refine lv_aload_n hx hb dX4_clear_23 rfl (lv_at hl 0 rfl) ?_
  refine wd_getR (q := r + 4) X hP (isRaft.a0 hr) fl_X4_21 rfl dX4_clear_24 ?_
  refine lv_iconst (v := 0) hx hb dX4_clear_27 (by decide) ?_
  obtain ⟨mm_6, hc_7, hf⟩ := bi1S hf
  refine wd_cs X hP hS ml_X4_50 (c_J7_fill_53178 l D dA zz bs mm_4 (r + 4) 8 (isRaft.a4 hr) (0 : Int32) mm_6 hc_7) rfl ⟨Nat.le_of_ble_eq_true rfl, Nat.le_of_ble_eq_true rfl⟩ hl.1 rfl (rest := []) (Nat.le_of_ble_eq_true rfl) ⟨Nat.zero_le _, Nat.zero_le _⟩ dX4_clear_28 (fun H locs hP hS => ?_)
  refine W.eq (g2 := F0 m 31 ls []) rfl ?_
  refine lv_aload_n hx hb dX4_clear_31 rfl (lv_at hl 0 rfl) ?_
  refine wd_getR (q := r + 5) X hP (isRaft.a0 hr) fl_X4_24 rfl dX4_clear_32 ?_
  refine lv_iconst (v := 0) hx hb dX4_clear_35 (by decide) ?_
  obtain ⟨mm_8, hc_9, hf⟩ := bi1S hf
  refine wd_cs X hP hS ml_X4_50 (c_J7_fill_53178 l D dA zz bs mm_6 (r + 5) 8 (isRaft.a5 hr) (0 : Int32) mm_8 hc_9) rfl ⟨Nat.le_of_ble_eq_true rfl, Nat.le_of_ble_eq_true rfl⟩ hl.1 rfl (rest := []) (Nat.le_of_ble_eq_true rfl) ⟨Nat.zero_le _, Nat.zero_le _⟩ dX4_clear_36 (fun H locs hP hS => ?_)
  refine W.eq (g2 := F0 m 39 ls []) rfl ?_
  obtain rfl := Option.some.inj hf
  exact wd_vret X hP hS hr0 dX4_clear_39 ⟨rfl, rfl⟩

noncomputable def f_X4_copyFrom (mm : Mm) (r : Nat) (v : Nat) (r2 : Nat) (v2 : Nat) : Option (Mm) :=
  vlet (wI mm r 1 (mm.1 r2 1)) fun mm_1 =>
    vlet (wI mm_1 r 2 (mm_1.1 r2 2)) fun mm_2 =>
      vlet (wI mm_2 r 3 (mm_2.1 r2 3)) fun mm_3 =>
        vlet (wA mm_3 (r + 1) (va_cpy (mm_3.1 (r2 + 1)) (mm_3.1 (r + 1)) 0 0 6)) fun mm_4 =>
          vlet (wA mm_4 (r + 2) (va_cpy (mm_4.1 (r2 + 2)) (mm_4.1 (r + 2)) 0 0 8)) fun mm_5 =>
            vlet (wA mm_5 (r + 3) (va_cpy (mm_5.1 (r2 + 3)) (mm_5.1 (r + 3)) 0 0 8)) fun mm_6 =>
              vlet (wA mm_6 (r + 4) (va_cpy (mm_6.1 (r2 + 4)) (mm_6.1 (r + 4)) 0 0 8)) fun mm_7 =>
                vlet (wA mm_7 (r + 5) (va_cpy (mm_7.1 (r2 + 5)) (mm_7.1 (r + 5)) 0 0 8)) fun mm_8 =>
                  vlet (wA mm_8 (r + 6) (va_cpy (mm_8.1 (r2 + 6)) (mm_8.1 (r + 6)) 0 0 12)) fun mm_9 =>
                    vlet (wA mm_9 (r + 7) (va_cpy (mm_9.1 (r2 + 7)) (mm_9.1 (r + 7)) 0 0 12)) fun mm_10 =>
                      vlet (wA mm_10 (r + 8) (va_cpy (mm_10.1 (r2 + 8)) (mm_10.1 (r + 8)) 0 0 12)) fun mm_11 => some mm_11
set_option maxHeartbeats 4000000 in
set_option maxRecDepth 100000 in
theorem c_X4_copyFrom (l : Launch) (D : va_G) (dA : Nat → ClassId) (zz : (Nat → Nat) × (Nat → Nat)) (bs : Nat) (mm : Mm) (r : Nat) (v : Nat) (r2 : Nat) (v2 : Nat) (hr : isRaft r v) (hr2 : isRaft r2 v2) (m1 : Mm) (hf : f_X4_copyFrom mm r v r2 v2 = some m1) : Mw l D dA zz bs LY yX4_copyFrom cX4_copyFrom 2 none 1 60 [.ref (bs + r), .ref (bs + r2)] mm none m1 := by
  refine Mw.of (own := RX4) (by decide) rfl (Nat.le_of_ble_eq_true rfl) ?_
  intro p e s m args below meth c X hr0 hP hS ls hl
  have hx := X.1
  have hb := X.2.1
  obtain ⟨H, hH⟩ : ∃ z : Heap, z = s.heap := ⟨_, rfl⟩
  obtain ⟨locs, hL⟩ : ∃ z : List Loc, z = [] := ⟨_, rfl⟩
  rw [← hH, ← hL]
  have hS : va_S (Aq bs) s.heap H locs := by rw [hH, hL]; exact hS
  have hP : Wd D dA bs LY mm H := by rw [hH]; exact hP
  have hl : lv_has ls 2 [(0, .ref (bs + r)), (1, .ref (bs + r2))] := hl
  unfold f_X4_copyFrom at hf
  refine lv_aload_n hx hb dX4_copyFrom_0 rfl (lv_at hl 0 rfl) ?_
  refine lv_aload_n hx hb dX4_copyFrom_1 rfl (lv_at hl 1 rfl) ?_
  refine wd_getI X hP (isRaft.a0 hr2) fl_X4_40 rfl dX4_copyFrom_2 ?_
  refine wd_putI X hP hS (isRaft.a0 hr) fp_X4_40 rfl dX4_copyFrom_5 (fun H locs mm_1 emm_1 hP hS => ?_)
  have hf := vl hf emm_1
  refine lv_aload_n hx hb dX4_copyFrom_8 rfl (lv_at hl 0 rfl) ?_
  refine lv_aload_n hx hb dX4_copyFrom_9 rfl (lv_at hl 1 rfl) ?_
  refine wd_getI X hP (isRaft.a0 hr2) fl_X4_44 rfl dX4_copyFrom_10 ?_
  refine wd_putI X hP hS (isRaft.a0 hr) fp_X4_44 rfl dX4_copyFrom_13 (fun H locs mm_2 emm_2 hP hS => ?_)
  have hf := vl hf emm_2
  refine lv_aload_n hx hb dX4_copyFrom_16 rfl (lv_at hl 0 rfl) ?_
  refine lv_aload_n hx hb dX4_copyFrom_17 rfl (lv_at hl 1 rfl) ?_
  refine wd_getI X hP (isRaft.a0 hr2) fl_X4_47 rfl dX4_copyFrom_18 ?_
  refine wd_putI X hP hS (isRaft.a0 hr) fp_X4_47 rfl dX4_copyFrom_21 (fun H locs mm_3 emm_3 hP hS => ?_)
  have hf := vl hf emm_3
  refine lv_aload_n hx hb dX4_copyFrom_24 rfl (lv_at hl 1 rfl) ?_
  refine wd_getR (q := r2 + 1) X hP (isRaft.a0 hr2) fl_X4_9 rfl dX4_copyFrom_25 ?_
  refine lv_iconst (v := 0) hx hb dX4_copyFrom_28 (by decide) ?_
  refine lv_aload_n hx hb dX4_copyFrom_29 rfl (lv_at hl 0 rfl) ?_
  refine wd_getR (q := r + 1) X hP (isRaft.a0 hr) fl_X4_9 rfl dX4_copyFrom_30 ?_
  refine lv_iconst (v := 0) hx hb dX4_copyFrom_33 (by decide) ?_
  refine lv_bipush (v := 6) hx hb dX4_copyFrom_34 (by decide) ?_
  refine wd_copy (k := 6) X hP hS (isRaft.a1 hr2) (isRaft.a1 hr) ⟨(tb_at 671 (by decide +kernel) (by decide +kernel)), ac_n, ac_s, ac_i⟩ (by decide) (by decide) (by decide) hl.1 (by decide) (Nat.le_of_ble_eq_true rfl) dX4_copyFrom_36 (fun H locs mm_4 emm_4 hP hS => ?_)
  have hf := vl hf emm_4
  refine lv_aload_n hx hb dX4_copyFrom_39 rfl (lv_at hl 1 rfl) ?_
  refine wd_getR (q := r2 + 2) X hP (isRaft.a0 hr2) fl_X4_15 rfl dX4_copyFrom_40 ?_
  refine lv_iconst (v := 0) hx hb dX4_copyFrom_43 (by decide) ?_
  refine lv_aload_n hx hb dX4_copyFrom_44 rfl (lv_at hl 0 rfl) ?_
  refine wd_getR (q := r + 2) X hP (isRaft.a0 hr) fl_X4_15 rfl dX4_copyFrom_45 ?_
  refine lv_iconst (v := 0) hx hb dX4_copyFrom_48 (by decide) ?_
  refine lv_bipush (v := 8) hx hb dX4_copyFrom_49 (by decide) ?_
  refine wd_copy (k := 8) X hP hS (isRaft.a2 hr2) (isRaft.a2 hr) ⟨(tb_at 671 (by decide +kernel) (by decide +kernel)), ac_n, ac_s, ac_i⟩ (by decide) (by decide) (by decide) hl.1 (by decide) (Nat.le_of_ble_eq_true rfl) dX4_copyFrom_51 (fun H locs mm_5 emm_5 hP hS => ?_)
  have hf := vl hf emm_5
  refine lv_aload_n hx hb dX4_copyFrom_54 rfl (lv_at hl 1 rfl) ?_
  refine wd_getR (q := r2 + 3) X hP (isRaft.a0 hr2) fl_X4_18 rfl dX4_copyFrom_55 ?_
  refine lv_iconst (v := 0) hx hb dX4_copyFrom_58 (by decide) ?_
  refine lv_aload_n hx hb dX4_copyFrom_59 rfl (lv_at hl 0 rfl) ?_
  refine wd_getR (q := r + 3) X hP (isRaft.a0 hr) fl_X4_18 rfl dX4_copyFrom_60 ?_
  refine lv_iconst (v := 0) hx hb dX4_copyFrom_63 (by decide) ?_
  refine lv_bipush (v := 8) hx hb dX4_copyFrom_64 (by decide) ?_
  refine wd_copy (k := 8) X hP hS (isRaft.a3 hr2) (isRaft.a3 hr) ⟨(tb_at 671 (by decide +kernel) (by decide +kernel)), ac_n, ac_s, ac_i⟩ (by decide) (by decide) (by decide) hl.1 (by decide) (Nat.le_of_ble_eq_true rfl) dX4_copyFrom_66 (fun H locs mm_6 emm_6 hP hS => ?_)
  have hf := vl hf emm_6
  refine lv_aload_n hx hb dX4_copyFrom_69 rfl (lv_at hl 1 rfl) ?_
  refine wd_getR (q := r2 + 4) X hP (isRaft.a0 hr2) fl_X4_21 rfl dX4_copyFrom_70 ?_
  refine lv_iconst (v := 0) hx hb dX4_copyFrom_73 (by decide) ?_
  refine lv_aload_n hx hb dX4_copyFrom_74 rfl (lv_at hl 0 rfl) ?_
  refine wd_getR (q := r + 4) X hP (isRaft.a0 hr) fl_X4_21 rfl dX4_copyFrom_75 ?_
  refine lv_iconst (v := 0) hx hb dX4_copyFrom_78 (by decide) ?_
  refine lv_bipush (v := 8) hx hb dX4_copyFrom_79 (by decide) ?_
  refine wd_copy (k := 8) X hP hS (isRaft.a4 hr2) (isRaft.a4 hr) ⟨(tb_at 671 (by decide +kernel) (by decide +kernel)), ac_n, ac_s, ac_i⟩ (by decide) (by decide) (by decide) hl.1 (by decide) (Nat.le_of_ble_eq_true rfl) dX4_copyFrom_81 (fun H locs mm_7 emm_7 hP hS => ?_)
  have hf := vl hf emm_7
  refine lv_aload_n hx hb dX4_copyFrom_84 rfl (lv_at hl 1 rfl) ?_
  refine wd_getR (q := r2 + 5) X hP (isRaft.a0 hr2) fl_X4_24 rfl dX4_copyFrom_85 ?_
  refine lv_iconst (v := 0) hx hb dX4_copyFrom_88 (by decide) ?_
  refine lv_aload_n hx hb dX4_copyFrom_89 rfl (lv_at hl 0 rfl) ?_
  refine wd_getR (q := r + 5) X hP (isRaft.a0 hr) fl_X4_24 rfl dX4_copyFrom_90 ?_
  refine lv_iconst (v := 0) hx hb dX4_copyFrom_93 (by decide) ?_
  refine lv_bipush (v := 8) hx hb dX4_copyFrom_94 (by decide) ?_
  refine wd_copy (k := 8) X hP hS (isRaft.a5 hr2) (isRaft.a5 hr) ⟨(tb_at 671 (by decide +kernel) (by decide +kernel)), ac_n, ac_s, ac_i⟩ (by decide) (by decide) (by decide) hl.1 (by decide) (Nat.le_of_ble_eq_true rfl) dX4_copyFrom_96 (fun H locs mm_8 emm_8 hP hS => ?_)
  have hf := vl hf emm_8
  refine lv_aload_n hx hb dX4_copyFrom_99 rfl (lv_at hl 1 rfl) ?_
  refine wd_getR (q := r2 + 6) X hP (isRaft.a0 hr2) fl_X4_27 rfl dX4_copyFrom_100 ?_
  refine lv_iconst (v := 0) hx hb dX4_copyFrom_103 (by decide) ?_
  refine lv_aload_n hx hb dX4_copyFrom_104 rfl (lv_at hl 0 rfl) ?_
  refine wd_getR (q := r + 6) X hP (isRaft.a0 hr) fl_X4_27 rfl dX4_copyFrom_105 ?_
  refine lv_iconst (v := 0) hx hb dX4_copyFrom_108 (by decide) ?_
  refine lv_bipush (v := 12) hx hb dX4_copyFrom_109 (by decide) ?_
  refine wd_copy (k := 12) X hP hS (isRaft.a6 hr2) (isRaft.a6 hr) ⟨(tb_at 671 (by decide +kernel) (by decide +kernel)), ac_n, ac_s, ac_i⟩ (by decide) (by decide) (by decide) hl.1 (by decide) (Nat.le_of_ble_eq_true rfl) dX4_copyFrom_111 (fun H locs mm_9 emm_9 hP hS => ?_)
  have hf := vl hf emm_9
  refine lv_aload_n hx hb dX4_copyFrom_114 rfl (lv_at hl 1 rfl) ?_
  refine wd_getR (q := r2 + 7) X hP (isRaft.a0 hr2) fl_X4_30 rfl dX4_copyFrom_115 ?_
  refine lv_iconst (v := 0) hx hb dX4_copyFrom_118 (by decide) ?_
  refine lv_aload_n hx hb dX4_copyFrom_119 rfl (lv_at hl 0 rfl) ?_
  refine wd_getR (q := r + 7) X hP (isRaft.a0 hr) fl_X4_30 rfl dX4_copyFrom_120 ?_
  refine lv_iconst (v := 0) hx hb dX4_copyFrom_123 (by decide) ?_
  refine lv_bipush (v := 12) hx hb dX4_copyFrom_124 (by decide) ?_
  refine wd_copy (k := 12) X hP hS (isRaft.a7 hr2) (isRaft.a7 hr) ⟨(tb_at 671 (by decide +kernel) (by decide +kernel)), ac_n, ac_s, ac_i⟩ (by decide) (by decide) (by decide) hl.1 (by decide) (Nat.le_of_ble_eq_true rfl) dX4_copyFrom_126 (fun H locs mm_10 emm_10 hP hS => ?_)
  have hf := vl hf emm_10
  refine lv_aload_n hx hb dX4_copyFrom_129 rfl (lv_at hl 1 rfl) ?_
  refine wd_getR (q := r2 + 8) X hP (isRaft.a0 hr2) fl_X4_33 rfl dX4_copyFrom_130 ?_
  refine lv_iconst (v := 0) hx hb dX4_copyFrom_133 (by decide) ?_
  refine lv_aload_n hx hb dX4_copyFrom_134 rfl (lv_at hl 0 rfl) ?_
  refine wd_getR (q := r + 8) X hP (isRaft.a0 hr) fl_X4_33 rfl dX4_copyFrom_135 ?_
  refine lv_iconst (v := 0) hx hb dX4_copyFrom_138 (by decide) ?_
  refine lv_bipush (v := 12) hx hb dX4_copyFrom_139 (by decide) ?_
  refine wd_copy (k := 12) X hP hS (isRaft.a8 hr2) (isRaft.a8 hr) ⟨(tb_at 671 (by decide +kernel) (by decide +kernel)), ac_n, ac_s, ac_i⟩ (by decide) (by decide) (by decide) hl.1 (by decide) (Nat.le_of_ble_eq_true rfl) dX4_copyFrom_141 (fun H locs mm_11 emm_11 hP hS => ?_)
  have hf := vl hf emm_11
  obtain rfl := Option.some.inj hf
  exact wd_vret X hP hS hr0 dX4_copyFrom_144 ⟨rfl, rfl⟩

noncomputable def f_X4_milesLeft (mm : Mm) (r : Nat) (v : Nat) : Int32 :=
  ((mm.1 v 0) - (mm.1 r 1))
set_option maxHeartbeats 4000000 in
set_option maxRecDepth 100000 in
theorem c_X4_milesLeft (l : Launch) (D : va_G) (dA : Nat → ClassId) (zz : (Nat → Nat) × (Nat → Nat)) (bs : Nat) (mm : Mm) (r : Nat) (v : Nat) (hr : isRaft r v) (out : Int32) (hf : f_X4_milesLeft mm r v = out) : Mw l D dA zz bs LY yX4_milesLeft cX4_milesLeft 1 (some .int) 0 0 [.ref (bs + r)] mm (some (.int out)) mm := by
  refine Mw.of (own := RX4) (by decide) rfl (Nat.le_of_ble_eq_true rfl) ?_
  intro p e s m args below meth c X hr0 hP hS ls hl
  have hx := X.1
  have hb := X.2.1
  obtain ⟨H, hH⟩ : ∃ z : Heap, z = s.heap := ⟨_, rfl⟩
  obtain ⟨locs, hL⟩ : ∃ z : List Loc, z = [] := ⟨_, rfl⟩
  rw [← hH, ← hL]
  have hS : va_S (Aq bs) s.heap H locs := by rw [hH, hL]; exact hS
  have hP : Wd D dA bs LY mm H := by rw [hH]; exact hP
  have hl : lv_has ls 1 [(0, .ref (bs + r))] := hl
  unfold f_X4_milesLeft at hf
  refine lv_aload_n hx hb dX4_milesLeft_0 rfl (lv_at hl 0 rfl) ?_
  refine wd_getR (q := v) X hP (isRaft.a0 hr) fl_X4_36 rfl dX4_milesLeft_1 ?_
  refine wd_getI X hP (isRiver.a0 (isRaft.a9 hr)) fl_X4_62 rfl dX4_milesLeft_4 ?_
  refine lv_aload_n hx hb dX4_milesLeft_7 rfl (lv_at hl 0 rfl) ?_
  refine wd_getI X hP (isRaft.a0 hr) fl_X4_40 rfl dX4_milesLeft_8 ?_
  refine lv_isub hx hb dX4_milesLeft_11 ?_
  subst hf
  exact wd_iret X hP hS hr0 dX4_milesLeft_12 ⟨rfl, rfl⟩

noncomputable def f_X4_ownersOf_s4 (r : Nat) (v : Nat) (mm : Mm) (y1 : Int32) : (Int32 × Int32) → Option ((Int32 × Int32) ⊕ (Int32)) :=
  fun q => match q with
  | (y2, y3) =>
    if (mm.1 v 1) ≤ y3 then
      some (.inr y2)
    else
      if y3 < 0 ∨ 6 ≤ y3.toNatClampNeg then none else
        if (mm.1 (r + 1) y3.toNatClampNeg) = y1 then
          vlet (y2 ||| ((1 : Int32) <<< (y3 &&& 31))) fun (x2_4 : Int32) => some (.inl (x2_4, (y3 + 1)))
        else
          some (.inl (y2, (y3 + 1)))
noncomputable def f_X4_ownersOf (mm : Mm) (r : Nat) (v : Nat) (x1 : Int32) : Option (Int32) :=
  bi1 (lp (f_X4_ownersOf_s4 r v mm x1) ((0 : Int32), (0 : Int32))) fun w2_6 =>
    some w2_6
set_option maxHeartbeats 4000000 in
set_option maxRecDepth 100000 in
theorem c_X4_ownersOf (l : Launch) (D : va_G) (dA : Nat → ClassId) (zz : (Nat → Nat) × (Nat → Nat)) (bs : Nat) (mm : Mm) (r : Nat) (v : Nat) (hr : isRaft r v) (x1 : Int32) (out : Int32) (hf : f_X4_ownersOf mm r v x1 = some out) : Mw l D dA zz bs LY yX4_ownersOf cX4_ownersOf 4 (some .int) 0 0 [.ref (bs + r), .int x1] mm (some (.int out)) mm := by
  refine Mw.of (own := RX4) (by decide) rfl (Nat.le_of_ble_eq_true rfl) ?_
  intro p e s m args below meth c X hr0 hP hS ls hl
  have hx := X.1
  have hb := X.2.1
  obtain ⟨H, hH⟩ : ∃ z : Heap, z = s.heap := ⟨_, rfl⟩
  obtain ⟨locs, hL⟩ : ∃ z : List Loc, z = [] := ⟨_, rfl⟩
  rw [← hH, ← hL]
  have hS : va_S (Aq bs) s.heap H locs := by rw [hH, hL]; exact hS
  have hP : Wd D dA bs LY mm H := by rw [hH]; exact hP
  have hl : lv_has ls 4 [(0, .ref (bs + r)), (1, .int x1)] := hl
  unfold f_X4_ownersOf at hf
  refine lv_iconst (v := 0) hx hb dX4_ownersOf_0 (by decide) ?_
  refine lv_istore_n (lv' := [(2, .int (0 : Int32)), (0, .ref (bs + r)), (1, .int x1)]) hx hb dX4_ownersOf_1 rfl hl (by decide) rfl (fun ls hl => ?_)
  refine lv_iconst (v := 0) hx hb dX4_ownersOf_2 (by decide) ?_
  refine lv_istore_n (lv' := [(3, .int (0 : Int32)), (2, .int (0 : Int32)), (0, .ref (bs + r)), (1, .int x1)]) hx hb dX4_ownersOf_3 rfl hl (by decide) rfl (fun ls hl => ?_)
  obtain ⟨q_7, hlp_8, hf⟩ := bi1S hf
  refine lp_walk (Wh := (fun z => match z with | (y2L_5, y3L_5) => ∀ (H : Heap) (locs : List Loc) (ls : Array Slot), Wd D dA bs LY mm H → va_S (Aq bs) s.heap H locs → lv_has ls 4 [(0, .ref (bs + r)), (1, .int x1), (2, .int y2L_5), (3, .int y3L_5)] → Wz p l e s m args below meth c D dA bs (some (.int out)) mm 0 0 H locs 4 ls [])) (Ph := (fun w2_6 => ∀ (H : Heap) (locs : List Loc) (ls : Array Slot), Wd D dA bs LY mm H → va_S (Aq bs) s.heap H locs → lv_has ls 4 [(2, .int w2_6)] → Wz p l e s m args below meth c D dA bs (some (.int out)) mm 0 0 H locs 37 ls [])) ?_ hlp_8 ?_ H locs ls hP hS (lv_sub hl [2, 3, 1, 0] rfl)
  · intro z o hf hB hE
    obtain ⟨y2L_5, y3L_5⟩ := z
    intro H locs ls hP hS hl
    have hf : f_X4_ownersOf_s4 r v mm x1 (y2L_5, y3L_5) = some o := hf
    unfold f_X4_ownersOf_s4 at hf
    dsimp only at hf
    refine lv_iload_n hx hb dX4_ownersOf_4 rfl (lv_at hl 3 rfl) ?_
    refine lv_aload_n hx hb dX4_ownersOf_5 rfl (lv_at hl 0 rfl) ?_
    refine wd_getR (q := v) X hP (isRaft.a0 hr) fl_X4_36 rfl dX4_ownersOf_6 ?_
    refine wd_getI X hP (isRiver.a0 (isRaft.a9 hr)) fl_X4_70 rfl dX4_ownersOf_9 ?_
    refine lv_icmp_ge (tgt := 37) hx hb dX4_ownersOf_12 (by decide) (fun c_1 => ?_) (fun c_1 => ?_)
    · have hf := itT hf c_1
      obtain rfl := Option.some.inj hf
      exact hE _ rfl H locs ls hP hS (lv_sub hl [2] rfl)
    · have hf := itF hf c_1
      refine lv_aload_n hx hb dX4_ownersOf_15 rfl (lv_at hl 0 rfl) ?_
      refine wd_getR (q := r + 1) X hP (isRaft.a0 hr) fl_X4_9 rfl dX4_ownersOf_16 ?_
      refine lv_iload_n hx hb dX4_ownersOf_19 rfl (lv_at hl 3 rfl) ?_
      have g_2 := gdN hf
      have hf := gdK hf
      refine wd_iald X hP (isRaft.a1 hr) g_2 dX4_ownersOf_20 ?_
      refine lv_iload_n hx hb dX4_ownersOf_21 rfl (lv_at hl 1 rfl) ?_
      refine lv_icmp_ne (tgt := 31) hx hb dX4_ownersOf_22 (by decide) (fun c_3 => ?_) (fun c_3 => ?_)
      · have hf := itF hf c_3
        refine lv_iinc (v := (y3L_5 + 1)) (lv' := [(3, .int (y3L_5 + 1)), (0, .ref (bs + r)), (1, .int x1), (2, .int y2L_5)]) hx hb dX4_ownersOf_31 hl (k := 3) rfl rfl (by decide) rfl (fun ls hl => ?_)
        refine lv_goto (tgt := 4) hx hb dX4_ownersOf_34 (by decide) ?_
        obtain rfl := Option.some.inj hf
        exact hB _ rfl H locs ls hP hS (lv_sub hl [1, 2, 3, 0] rfl)
      · have hf := itT hf c_3
        refine lv_iload_n hx hb dX4_ownersOf_25 rfl (lv_at hl 2 rfl) ?_
        refine lv_iconst (v := 1) hx hb dX4_ownersOf_26 (by decide) ?_
        refine lv_iload_n hx hb dX4_ownersOf_27 rfl (lv_at hl 3 rfl) ?_
        refine lv_ishl hx hb dX4_ownersOf_28 ?_
        refine lv_ior hx hb dX4_ownersOf_29 ?_
        refine lv_topi (fun x2_4 ex2_4 => ?_)
        have hf := vl hf ex2_4
        refine lv_istore_n (lv' := [(2, .int x2_4), (0, .ref (bs + r)), (1, .int x1), (3, .int y3L_5)]) hx hb dX4_ownersOf_30 rfl hl (by decide) rfl (fun ls hl => ?_)
        refine lv_iinc (v := (y3L_5 + 1)) (lv' := [(3, .int (y3L_5 + 1)), (2, .int x2_4), (0, .ref (bs + r)), (1, .int x1)]) hx hb dX4_ownersOf_31 hl (k := 3) rfl rfl (by decide) rfl (fun ls hl => ?_)
        refine lv_goto (tgt := 4) hx hb dX4_ownersOf_34 (by decide) ?_
        obtain rfl := Option.some.inj hf
        exact hB _ rfl H locs ls hP hS (lv_sub hl [2, 3, 1, 0] rfl)
  · obtain ⟨w2_6, e_w2_6⟩ : ∃ z, z = q_7 := ⟨_, rfl⟩
    subst e_w2_6
    intro H locs ls hP hS hl
    refine lv_iload_n hx hb dX4_ownersOf_37 rfl (lv_at hl 0 rfl) ?_
    obtain rfl := Option.some.inj hf
    exact wd_iret X hP hS hr0 dX4_ownersOf_38 ⟨rfl, rfl⟩

noncomputable def f_X4_areBound_s2 (r : Nat) (v : Nat) (mm : Mm) (y1 : Int32) (y2 : Int32) : (Int32) → Option ((Int32) ⊕ ((Unit) ⊕ (Unit))) :=
  fun (y3 : Int32) =>
    if (mm.1 r 3) ≤ y3 then
      some (.inr (.inr (())))
    else
      if y3 < 0 ∨ 12 ≤ y3.toNatClampNeg then none else
        if (mm.1 (r + 6) y3.toNatClampNeg) = (if y2 < y1 then y2 else y1) then
          if y3 < 0 ∨ 12 ≤ y3.toNatClampNeg then none else
            if (mm.1 (r + 7) y3.toNatClampNeg) = (if y1 < y2 then y2 else y1) then
              some (.inr (.inl ()))
            else
              some (.inl (y3 + 1))
        else
          some (.inl (y3 + 1))
noncomputable def f_X4_areBound (mm : Mm) (r : Nat) (v : Nat) (x1 : Int32) (x2 : Int32) : Option (Int32) :=
  bi1 (lp (f_X4_areBound_s2 r v mm x1 x2) (0 : Int32)) fun q => match q with
  | .inl () =>
    some (1 : Int32)
  | .inr (()) =>
    some (0 : Int32)
set_option maxHeartbeats 4000000 in
set_option maxRecDepth 100000 in
theorem c_X4_areBound (l : Launch) (D : va_G) (dA : Nat → ClassId) (zz : (Nat → Nat) × (Nat → Nat)) (bs : Nat) (mm : Mm) (r : Nat) (v : Nat) (hr : isRaft r v) (x1 : Int32) (x2 : Int32) (out : Int32) (hf : f_X4_areBound mm r v x1 x2 = some out) : Mw l D dA zz bs LY yX4_areBound cX4_areBound 4 (some .boolean) 1 40 [.ref (bs + r), .int x1, .int x2] mm (some (.int out)) mm := by
  refine Mw.of (own := RX4) (by decide) rfl (Nat.le_of_ble_eq_true rfl) ?_
  intro p e s m args below meth c X hr0 hP hS ls hl
  have hx := X.1
  have hb := X.2.1
  obtain ⟨H, hH⟩ : ∃ z : Heap, z = s.heap := ⟨_, rfl⟩
  obtain ⟨locs, hL⟩ : ∃ z : List Loc, z = [] := ⟨_, rfl⟩
  rw [← hH, ← hL]
  have hS : va_S (Aq bs) s.heap H locs := by rw [hH, hL]; exact hS
  have hP : Wd D dA bs LY mm H := by rw [hH]; exact hP
  have hl : lv_has ls 4 [(0, .ref (bs + r)), (1, .int x1), (2, .int x2)] := hl
  unfold f_X4_areBound at hf
  refine lv_iconst (v := 0) hx hb dX4_areBound_0 (by decide) ?_
  refine lv_istore_n (lv' := [(3, .int (0 : Int32)), (0, .ref (bs + r)), (1, .int x1), (2, .int x2)]) hx hb dX4_areBound_1 rfl hl (by decide) rfl (fun ls hl => ?_)
  obtain ⟨q_7, hlp_8, hf⟩ := bi1S hf
  refine lp_walk (Wh := (fun y3L_6 => ∀ (H : Heap) (locs : List Loc) (ls : Array Slot), Wd D dA bs LY mm H → va_S (Aq bs) s.heap H locs → lv_has ls 4 [(0, .ref (bs + r)), (1, .int x1), (2, .int x2), (3, .int y3L_6)] → Wz p l e s m args below meth c D dA bs (some (.int out)) mm 1 40 H locs 2 ls [])) (Ph := (fun z => match z with | .inl () => ∀ (H : Heap) (locs : List Loc) (ls : Array Slot), Wd D dA bs LY mm H → va_S (Aq bs) s.heap H locs → lv_has ls 4 [] → Wz p l e s m args below meth c D dA bs (some (.int out)) mm 1 40 H locs 38 ls [] | .inr (()) => ∀ (H : Heap) (locs : List Loc) (ls : Array Slot), Wd D dA bs LY mm H → va_S (Aq bs) s.heap H locs → lv_has ls 4 [] → Wz p l e s m args below meth c D dA bs (some (.int out)) mm 1 40 H locs 46 ls [])) ?_ hlp_8 ?_ H locs ls hP hS (lv_sub hl [1, 2, 3, 0] rfl)
  · intro y3L_6 o hf hB hE
    intro H locs ls hP hS hl
    have hf : f_X4_areBound_s2 r v mm x1 x2 y3L_6 = some o := hf
    unfold f_X4_areBound_s2 at hf
    refine lv_iload_n hx hb dX4_areBound_2 rfl (lv_at hl 3 rfl) ?_
    refine lv_aload_n hx hb dX4_areBound_3 rfl (lv_at hl 0 rfl) ?_
    refine wd_getI X hP (isRaft.a0 hr) fl_X4_47 rfl dX4_areBound_4 ?_
    refine lv_icmp_ge (tgt := 46) hx hb dX4_areBound_7 (by decide) (fun c_1 => ?_) (fun c_1 => ?_)
    · have hf := itT hf c_1
      obtain rfl := Option.some.inj hf
      exact hE _ rfl H locs ls hP hS (lv_sub hl [] rfl)
    · have hf := itF hf c_1
      refine lv_aload_n hx hb dX4_areBound_10 rfl (lv_at hl 0 rfl) ?_
      refine wd_getR (q := r + 6) X hP (isRaft.a0 hr) fl_X4_27 rfl dX4_areBound_11 ?_
      refine lv_iload_n hx hb dX4_areBound_14 rfl (lv_at hl 3 rfl) ?_
      have g_2 := gdN hf
      have hf := gdK hf
      refine wd_iald X hP (isRaft.a6 hr) g_2 dX4_areBound_15 ?_
      refine lv_iload_n hx hb dX4_areBound_16 rfl (lv_at hl 1 rfl) ?_
      refine lv_iload_n hx hb dX4_areBound_17 rfl (lv_at hl 2 rfl) ?_
      refine va_mmin (own := RX4) hx hb (X.2.2.1.trans hl.1.symm) X.2.2.2.1 (X.2.2.2.2.1 _ (tb_at 633 (by decide +kernel) (by decide +kernel))) (X.2.2.2.2.1 _ (tb_at 634 (by decide +kernel) (by decide +kernel))) (X.2.2.2.2.1 _ (tb_at 19 (by decide +kernel) (by decide +kernel))) (X.2.2.2.2.1 _ (tb_at 635 (by decide +kernel) (by decide +kernel))) (by decide) (Nat.le_of_ble_eq_true rfl) (Nat.zero_le _) (Nat.zero_le _) dX4_areBound_18 ?_
      refine lv_icmp_ne (tgt := 40) hx hb dX4_areBound_21 (by decide) (fun c_3 => ?_) (fun c_3 => ?_)
      · have hf := itF hf c_3
        refine lv_iinc (v := (y3L_6 + 1)) (lv' := [(3, .int (y3L_6 + 1)), (0, .ref (bs + r)), (1, .int x1), (2, .int x2)]) hx hb dX4_areBound_40 hl (k := 3) rfl rfl (by decide) rfl (fun ls hl => ?_)
        refine lv_goto (tgt := 2) hx hb dX4_areBound_43 (by decide) ?_
        obtain rfl := Option.some.inj hf
        exact hB _ rfl H locs ls hP hS (lv_sub hl [1, 2, 3, 0] rfl)
      · have hf := itT hf c_3
        refine lv_aload_n hx hb dX4_areBound_24 rfl (lv_at hl 0 rfl) ?_
        refine wd_getR (q := r + 7) X hP (isRaft.a0 hr) fl_X4_30 rfl dX4_areBound_25 ?_
        refine lv_iload_n hx hb dX4_areBound_28 rfl (lv_at hl 3 rfl) ?_
        have g_4 := gdN hf
        have hf := gdK hf
        refine wd_iald X hP (isRaft.a7 hr) g_4 dX4_areBound_29 ?_
        refine lv_iload_n hx hb dX4_areBound_30 rfl (lv_at hl 1 rfl) ?_
        refine lv_iload_n hx hb dX4_areBound_31 rfl (lv_at hl 2 rfl) ?_
        refine va_mmax (own := RX4) hx hb (X.2.2.1.trans hl.1.symm) X.2.2.2.1 (X.2.2.2.2.1 _ (tb_at 636 (by decide +kernel) (by decide +kernel))) (X.2.2.2.2.1 _ (tb_at 637 (by decide +kernel) (by decide +kernel))) (X.2.2.2.2.1 _ (tb_at 19 (by decide +kernel) (by decide +kernel))) (X.2.2.2.2.1 _ (tb_at 638 (by decide +kernel) (by decide +kernel))) (by decide) (Nat.le_of_ble_eq_true rfl) (Nat.zero_le _) (Nat.zero_le _) dX4_areBound_32 ?_
        refine lv_icmp_ne (tgt := 40) hx hb dX4_areBound_35 (by decide) (fun c_5 => ?_) (fun c_5 => ?_)
        · have hf := itF hf c_5
          refine lv_iinc (v := (y3L_6 + 1)) (lv' := [(3, .int (y3L_6 + 1)), (0, .ref (bs + r)), (1, .int x1), (2, .int x2)]) hx hb dX4_areBound_40 hl (k := 3) rfl rfl (by decide) rfl (fun ls hl => ?_)
          refine lv_goto (tgt := 2) hx hb dX4_areBound_43 (by decide) ?_
          obtain rfl := Option.some.inj hf
          exact hB _ rfl H locs ls hP hS (lv_sub hl [1, 2, 3, 0] rfl)
        · have hf := itT hf c_5
          obtain rfl := Option.some.inj hf
          exact hE _ rfl H locs ls hP hS (lv_sub hl [] rfl)
  · rcases q_7 with ⟨⟩ | ⟨⟩
    · dsimp only at hf
      intro H locs ls hP hS hl
      refine lv_iconst (v := 1) hx hb dX4_areBound_38 (by decide) ?_
      obtain rfl := Option.some.inj hf
      exact wd_zret X hP hS hr0 (by decide) dX4_areBound_39 ⟨rfl, rfl⟩
    · dsimp only at hf
      intro H locs ls hP hS hl
      refine lv_iconst (v := 0) hx hb dX4_areBound_46 (by decide) ?_
      obtain rfl := Option.some.inj hf
      exact wd_zret X hP hS hr0 (by decide) dX4_areBound_47 ⟨rfl, rfl⟩

noncomputable def f_X4_canSpare (mm : Mm) (r : Nat) (v : Nat) (x1 : Int32) : Int32 :=
  if (12 : Int32) ≤ (mm.1 r 3) then
    (0 : Int32)
  else
    if (mm.1 r 2) < x1 then
      (0 : Int32)
    else
      (1 : Int32)
set_option maxHeartbeats 4000000 in
set_option maxRecDepth 100000 in
theorem c_X4_canSpare (l : Launch) (D : va_G) (dA : Nat → ClassId) (zz : (Nat → Nat) × (Nat → Nat)) (bs : Nat) (mm : Mm) (r : Nat) (v : Nat) (hr : isRaft r v) (x1 : Int32) (out : Int32) (hf : f_X4_canSpare mm r v x1 = out) : Mw l D dA zz bs LY yX4_canSpare cX4_canSpare 2 (some .boolean) 0 0 [.ref (bs + r), .int x1] mm (some (.int out)) mm := by
  refine Mw.of (own := RX4) (by decide) rfl (Nat.le_of_ble_eq_true rfl) ?_
  intro p e s m args below meth c X hr0 hP hS ls hl
  have hx := X.1
  have hb := X.2.1
  obtain ⟨H, hH⟩ : ∃ z : Heap, z = s.heap := ⟨_, rfl⟩
  obtain ⟨locs, hL⟩ : ∃ z : List Loc, z = [] := ⟨_, rfl⟩
  rw [← hH, ← hL]
  have hS : va_S (Aq bs) s.heap H locs := by rw [hH, hL]; exact hS
  have hP : Wd D dA bs LY mm H := by rw [hH]; exact hP
  have hl : lv_has ls 2 [(0, .ref (bs + r)), (1, .int x1)] := hl
  unfold f_X4_canSpare at hf
  refine lv_aload_n hx hb dX4_canSpare_0 rfl (lv_at hl 0 rfl) ?_
  refine wd_getI X hP (isRaft.a0 hr) fl_X4_47 rfl dX4_canSpare_1 ?_
  refine lv_bipush (v := 12) hx hb dX4_canSpare_4 (by decide) ?_
  refine lv_icmp_ge (tgt := 21) hx hb dX4_canSpare_6 (by decide) (fun c_1 => ?_) (fun c_1 => ?_)
  · have hf := itT hf c_1
    refine lv_iconst (v := 0) hx hb dX4_canSpare_21 (by decide) ?_
    subst hf
    exact wd_zret X hP hS hr0 (by decide) dX4_canSpare_22 ⟨rfl, rfl⟩
  · have hf := itF hf c_1
    refine lv_iload_n hx hb dX4_canSpare_9 rfl (lv_at hl 1 rfl) ?_
    refine lv_aload_n hx hb dX4_canSpare_10 rfl (lv_at hl 0 rfl) ?_
    refine wd_getI X hP (isRaft.a0 hr) fl_X4_44 rfl dX4_canSpare_11 ?_
    refine lv_icmp_gt (tgt := 21) hx hb dX4_canSpare_14 (by decide) (fun c_2 => ?_) (fun c_2 => ?_)
    · have hf := itT hf c_2
      refine lv_iconst (v := 0) hx hb dX4_canSpare_21 (by decide) ?_
      subst hf
      exact wd_zret X hP hS hr0 (by decide) dX4_canSpare_22 ⟨rfl, rfl⟩
    · have hf := itF hf c_2
      refine lv_iconst (v := 1) hx hb dX4_canSpare_17 (by decide) ?_
      refine lv_goto (tgt := 22) hx hb dX4_canSpare_18 (by decide) ?_
      subst hf
      exact wd_zret X hP hS hr0 (by decide) dX4_canSpare_22 ⟨rfl, rfl⟩

noncomputable def f_X4_tie (mm : Mm) (r : Nat) (v : Nat) (x1 : Int32) (x2 : Int32) (x3 : Int32) : Option (Mm) :=
  if (12 : Int32) ≤ (mm.1 r 3) then
    some mm
  else
    if (mm.1 r 3) < 0 ∨ 12 ≤ (mm.1 r 3).toNatClampNeg then none else
      vlet (wI mm (r + 6) (mm.1 r 3).toNatClampNeg (if x2 < x1 then x2 else x1)) fun mm_2 =>
        if (mm_2.1 r 3) < 0 ∨ 12 ≤ (mm_2.1 r 3).toNatClampNeg then none else
          vlet (wI mm_2 (r + 7) (mm_2.1 r 3).toNatClampNeg (if x1 < x2 then x2 else x1)) fun mm_4 =>
            if (mm_4.1 r 3) < 0 ∨ 12 ≤ (mm_4.1 r 3).toNatClampNeg then none else
              vlet (wI mm_4 (r + 8) (mm_4.1 r 3).toNatClampNeg x3) fun mm_6 =>
                vlet (wI mm_6 r 3 ((mm_6.1 r 3) + (1 : Int32))) fun mm_8 => some mm_8
set_option maxHeartbeats 4000000 in
set_option maxRecDepth 100000 in
theorem c_X4_tie (l : Launch) (D : va_G) (dA : Nat → ClassId) (zz : (Nat → Nat) × (Nat → Nat)) (bs : Nat) (mm : Mm) (r : Nat) (v : Nat) (hr : isRaft r v) (x1 : Int32) (x2 : Int32) (x3 : Int32) (m1 : Mm) (hf : f_X4_tie mm r v x1 x2 x3 = some m1) : Mw l D dA zz bs LY yX4_tie cX4_tie 4 none 1 40 [.ref (bs + r), .int x1, .int x2, .int x3] mm none m1 := by
  refine Mw.of (own := RX4) (by decide) rfl (Nat.le_of_ble_eq_true rfl) ?_
  intro p e s m args below meth c X hr0 hP hS ls hl
  have hx := X.1
  have hb := X.2.1
  obtain ⟨H, hH⟩ : ∃ z : Heap, z = s.heap := ⟨_, rfl⟩
  obtain ⟨locs, hL⟩ : ∃ z : List Loc, z = [] := ⟨_, rfl⟩
  rw [← hH, ← hL]
  have hS : va_S (Aq bs) s.heap H locs := by rw [hH, hL]; exact hS
  have hP : Wd D dA bs LY mm H := by rw [hH]; exact hP
  have hl : lv_has ls 4 [(0, .ref (bs + r)), (1, .int x1), (2, .int x2), (3, .int x3)] := hl
  unfold f_X4_tie at hf
  refine lv_aload_n hx hb dX4_tie_0 rfl (lv_at hl 0 rfl) ?_
  refine wd_getI X hP (isRaft.a0 hr) fl_X4_47 rfl dX4_tie_1 ?_
  refine lv_bipush (v := 12) hx hb dX4_tie_4 (by decide) ?_
  refine lv_icmp_ge (tgt := 57) hx hb dX4_tie_6 (by decide) (fun c_1 => ?_) (fun c_1 => ?_)
  · have hf := itT hf c_1
    obtain rfl := Option.some.inj hf
    exact wd_vret X hP hS hr0 dX4_tie_57 ⟨rfl, rfl⟩
  · have hf := itF hf c_1
    refine lv_aload_n hx hb dX4_tie_9 rfl (lv_at hl 0 rfl) ?_
    refine wd_getR (q := r + 6) X hP (isRaft.a0 hr) fl_X4_27 rfl dX4_tie_10 ?_
    refine lv_aload_n hx hb dX4_tie_13 rfl (lv_at hl 0 rfl) ?_
    refine wd_getI X hP (isRaft.a0 hr) fl_X4_47 rfl dX4_tie_14 ?_
    refine lv_iload_n hx hb dX4_tie_17 rfl (lv_at hl 1 rfl) ?_
    refine lv_iload_n hx hb dX4_tie_18 rfl (lv_at hl 2 rfl) ?_
    refine va_mmin (own := RX4) hx hb (X.2.2.1.trans hl.1.symm) X.2.2.2.1 (X.2.2.2.2.1 _ (tb_at 633 (by decide +kernel) (by decide +kernel))) (X.2.2.2.2.1 _ (tb_at 634 (by decide +kernel) (by decide +kernel))) (X.2.2.2.2.1 _ (tb_at 19 (by decide +kernel) (by decide +kernel))) (X.2.2.2.2.1 _ (tb_at 635 (by decide +kernel) (by decide +kernel))) (by decide) (Nat.le_of_ble_eq_true rfl) (Nat.zero_le _) (Nat.zero_le _) dX4_tie_19 ?_
    have g_3 := gdN hf
    have hf := gdK hf
    refine wd_iast X hP hS (isRaft.a6 hr) g_3 dX4_tie_22 (fun H locs mm_2 emm_2 hP hS => ?_)
    have hf := vl hf emm_2
    refine lv_aload_n hx hb dX4_tie_23 rfl (lv_at hl 0 rfl) ?_
    refine wd_getR (q := r + 7) X hP (isRaft.a0 hr) fl_X4_30 rfl dX4_tie_24 ?_
    refine lv_aload_n hx hb dX4_tie_27 rfl (lv_at hl 0 rfl) ?_
    refine wd_getI X hP (isRaft.a0 hr) fl_X4_47 rfl dX4_tie_28 ?_
    refine lv_iload_n hx hb dX4_tie_31 rfl (lv_at hl 1 rfl) ?_
    refine lv_iload_n hx hb dX4_tie_32 rfl (lv_at hl 2 rfl) ?_
    refine va_mmax (own := RX4) hx hb (X.2.2.1.trans hl.1.symm) X.2.2.2.1 (X.2.2.2.2.1 _ (tb_at 636 (by decide +kernel) (by decide +kernel))) (X.2.2.2.2.1 _ (tb_at 637 (by decide +kernel) (by decide +kernel))) (X.2.2.2.2.1 _ (tb_at 19 (by decide +kernel) (by decide +kernel))) (X.2.2.2.2.1 _ (tb_at 638 (by decide +kernel) (by decide +kernel))) (by decide) (Nat.le_of_ble_eq_true rfl) (Nat.zero_le _) (Nat.zero_le _) dX4_tie_33 ?_
    have g_5 := gdN hf
    have hf := gdK hf
    refine wd_iast X hP hS (isRaft.a7 hr) g_5 dX4_tie_36 (fun H locs mm_4 emm_4 hP hS => ?_)
    have hf := vl hf emm_4
    refine lv_aload_n hx hb dX4_tie_37 rfl (lv_at hl 0 rfl) ?_
    refine wd_getR (q := r + 8) X hP (isRaft.a0 hr) fl_X4_33 rfl dX4_tie_38 ?_
    refine lv_aload_n hx hb dX4_tie_41 rfl (lv_at hl 0 rfl) ?_
    refine wd_getI X hP (isRaft.a0 hr) fl_X4_47 rfl dX4_tie_42 ?_
    refine lv_iload_n hx hb dX4_tie_45 rfl (lv_at hl 3 rfl) ?_
    have g_7 := gdN hf
    have hf := gdK hf
    refine wd_iast X hP hS (isRaft.a8 hr) g_7 dX4_tie_46 (fun H locs mm_6 emm_6 hP hS => ?_)
    have hf := vl hf emm_6
    refine lv_aload_n hx hb dX4_tie_47 rfl (lv_at hl 0 rfl) ?_
    refine lv_dup hx hb dX4_tie_48 rfl ?_
    refine wd_getI X hP (isRaft.a0 hr) fl_X4_47 rfl dX4_tie_49 ?_
    refine lv_iconst (v := 1) hx hb dX4_tie_52 (by decide) ?_
    refine lv_iadd hx hb dX4_tie_53 ?_
    refine wd_putI X hP hS (isRaft.a0 hr) fp_X4_47 rfl dX4_tie_54 (fun H locs mm_8 emm_8 hP hS => ?_)
    have hf := vl hf emm_8
    obtain rfl := Option.some.inj hf
    exact wd_vret X hP hS hr0 dX4_tie_57 ⟨rfl, rfl⟩

noncomputable def f_X4_spend (mm : Mm) (r : Nat) (v : Nat) (x1 : Int32) (x2 : Int32) (x3 : Int32) : Option (Mm) :=
  bi1 (f_X4_tie mm r v x1 x2 x3) fun mm_1 =>
    vlet (wI mm_1 r 2 ((mm_1.1 r 2) - x3)) fun mm_3 => some mm_3
set_option maxHeartbeats 4000000 in
set_option maxRecDepth 100000 in
theorem c_X4_spend (l : Launch) (D : va_G) (dA : Nat → ClassId) (zz : (Nat → Nat) × (Nat → Nat)) (bs : Nat) (mm : Mm) (r : Nat) (v : Nat) (hr : isRaft r v) (x1 : Int32) (x2 : Int32) (x3 : Int32) (m1 : Mm) (hf : f_X4_spend mm r v x1 x2 x3 = some m1) : Mw l D dA zz bs LY yX4_spend cX4_spend 4 none 2 63 [.ref (bs + r), .int x1, .int x2, .int x3] mm none m1 := by
  refine Mw.of (own := RX4) (by decide) rfl (Nat.le_of_ble_eq_true rfl) ?_
  intro p e s m args below meth c X hr0 hP hS ls hl
  have hx := X.1
  have hb := X.2.1
  obtain ⟨H, hH⟩ : ∃ z : Heap, z = s.heap := ⟨_, rfl⟩
  obtain ⟨locs, hL⟩ : ∃ z : List Loc, z = [] := ⟨_, rfl⟩
  rw [← hH, ← hL]
  have hS : va_S (Aq bs) s.heap H locs := by rw [hH, hL]; exact hS
  have hP : Wd D dA bs LY mm H := by rw [hH]; exact hP
  have hl : lv_has ls 4 [(0, .ref (bs + r)), (1, .int x1), (2, .int x2), (3, .int x3)] := hl
  unfold f_X4_spend at hf
  refine lv_aload_n hx hb dX4_spend_0 rfl (lv_at hl 0 rfl) ?_
  refine lv_iload_n hx hb dX4_spend_1 rfl (lv_at hl 1 rfl) ?_
  refine lv_iload_n hx hb dX4_spend_2 rfl (lv_at hl 2 rfl) ?_
  refine lv_iload_n hx hb dX4_spend_3 rfl (lv_at hl 3 rfl) ?_
  obtain ⟨mm_1, hc_2, hf⟩ := bi1S hf
  refine wd_cv X hP hS (isRaft.a0 hr) ml_X4_89 ⟨_, _, rfl⟩ (c_X4_tie l D dA zz bs mm r v hr x1 x2 x3 mm_1 hc_2) rfl ⟨Nat.le_of_ble_eq_true rfl, Nat.le_of_ble_eq_true rfl⟩ hl.1 rfl (rest := []) (Nat.le_of_ble_eq_true rfl) ⟨Nat.zero_le _, Nat.zero_le _⟩ dX4_spend_4 (fun H locs hP hS => ?_)
  refine W.eq (g2 := F0 m 7 ls []) rfl ?_
  refine lv_aload_n hx hb dX4_spend_7 rfl (lv_at hl 0 rfl) ?_
  refine lv_dup hx hb dX4_spend_8 rfl ?_
  refine wd_getI X hP (isRaft.a0 hr) fl_X4_44 rfl dX4_spend_9 ?_
  refine lv_iload_n hx hb dX4_spend_12 rfl (lv_at hl 3 rfl) ?_
  refine lv_isub hx hb dX4_spend_13 ?_
  refine wd_putI X hP hS (isRaft.a0 hr) fp_X4_44 rfl dX4_spend_14 (fun H locs mm_3 emm_3 hP hS => ?_)
  have hf := vl hf emm_3
  obtain rfl := Option.some.inj hf
  exact wd_vret X hP hS hr0 dX4_spend_17 ⟨rfl, rfl⟩

noncomputable def f_X4_lose_s4 (r : Nat) (v : Nat) (y1 : Int32) : (Int32 × Int32 × Mm) → Option ((Int32 × Int32 × Mm) ⊕ (Int32 × Mm)) :=
  fun q => match q with
  | (y2, y3, mm) =>
    if (mm.1 r 3) ≤ y3 then
      some (.inr (y2, mm))
    else
      if (f_X11_contains y1 y3) = 0 then
        if y3 < 0 ∨ 12 ≤ y3.toNatClampNeg then none else
          if y2 < 0 ∨ 12 ≤ y2.toNatClampNeg then none else
            vlet (wI mm (r + 6) y2.toNatClampNeg (mm.1 (r + 6) y3.toNatClampNeg)) fun mm_4 =>
              if y3 < 0 ∨ 12 ≤ y3.toNatClampNeg then none else
                if y2 < 0 ∨ 12 ≤ y2.toNatClampNeg then none else
                  vlet (wI mm_4 (r + 7) y2.toNatClampNeg (mm_4.1 (r + 7) y3.toNatClampNeg)) fun mm_7 =>
                    if y3 < 0 ∨ 12 ≤ y3.toNatClampNeg then none else
                      if y2 < 0 ∨ 12 ≤ y2.toNatClampNeg then none else
                        vlet (wI mm_7 (r + 8) y2.toNatClampNeg (mm_7.1 (r + 8) y3.toNatClampNeg)) fun mm_10 => some (.inl ((y2 + 1), (y3 + 1), mm_10))
      else
        some (.inl (y2, (y3 + 1), mm))
noncomputable def f_X4_lose (mm : Mm) (r : Nat) (v : Nat) (x1 : Int32) : Option (Mm) :=
  bi1 (lp (f_X4_lose_s4 r v x1) ((0 : Int32), (0 : Int32), mm)) fun q => match q with
  | (w2_13, mm_14) =>
    vlet (wI mm_14 r 3 w2_13) fun mm_15 => some mm_15
set_option maxHeartbeats 4000000 in
set_option maxRecDepth 100000 in
theorem c_X4_lose (l : Launch) (D : va_G) (dA : Nat → ClassId) (zz : (Nat → Nat) × (Nat → Nat)) (bs : Nat) (mm : Mm) (r : Nat) (v : Nat) (hr : isRaft r v) (x1 : Int32) (m1 : Mm) (hf : f_X4_lose mm r v x1 = some m1) : Mw l D dA zz bs LY yX4_lose cX4_lose 4 none 1 21 [.ref (bs + r), .int x1] mm none m1 := by
  refine Mw.of (own := RX4) (by decide) rfl (Nat.le_of_ble_eq_true rfl) ?_
  intro p e s m args below meth c X hr0 hP hS ls hl
  have hx := X.1
  have hb := X.2.1
  obtain ⟨H, hH⟩ : ∃ z : Heap, z = s.heap := ⟨_, rfl⟩
  obtain ⟨locs, hL⟩ : ∃ z : List Loc, z = [] := ⟨_, rfl⟩
  rw [← hH, ← hL]
  have hS : va_S (Aq bs) s.heap H locs := by rw [hH, hL]; exact hS
  have hP : Wd D dA bs LY mm H := by rw [hH]; exact hP
  have hl : lv_has ls 4 [(0, .ref (bs + r)), (1, .int x1)] := hl
  unfold f_X4_lose at hf
  refine lv_iconst (v := 0) hx hb dX4_lose_0 (by decide) ?_
  refine lv_istore_n (lv' := [(2, .int (0 : Int32)), (0, .ref (bs + r)), (1, .int x1)]) hx hb dX4_lose_1 rfl hl (by decide) rfl (fun ls hl => ?_)
  refine lv_iconst (v := 0) hx hb dX4_lose_2 (by decide) ?_
  refine lv_istore_n (lv' := [(3, .int (0 : Int32)), (2, .int (0 : Int32)), (0, .ref (bs + r)), (1, .int x1)]) hx hb dX4_lose_3 rfl hl (by decide) rfl (fun ls hl => ?_)
  obtain ⟨q_16, hlp_17, hf⟩ := bi1S hf
  refine lp_walk (Wh := (fun z => match z with | (y2L_12, y3L_12, mmL_12) => ∀ (H : Heap) (locs : List Loc) (ls : Array Slot), Wd D dA bs LY mmL_12 H → va_S (Aq bs) s.heap H locs → lv_has ls 4 [(0, .ref (bs + r)), (1, .int x1), (2, .int y2L_12), (3, .int y3L_12)] → Wz p l e s m args below meth c D dA bs none m1 1 21 H locs 4 ls [])) (Ph := (fun z => match z with | (w2_13, mm_14) => ∀ (H : Heap) (locs : List Loc) (ls : Array Slot), Wd D dA bs LY mm_14 H → va_S (Aq bs) s.heap H locs → lv_has ls 4 [(0, .ref (bs + r)), (2, .int w2_13)] → Wz p l e s m args below meth c D dA bs none m1 1 21 H locs 68 ls [])) ?_ hlp_17 ?_ H locs ls hP hS (lv_sub hl [2, 3, 1, 0] rfl)
  · intro z o hf hB hE
    obtain ⟨y2L_12, y3L_12, mmL_12⟩ := z
    intro H locs ls hP hS hl
    have hf : f_X4_lose_s4 r v x1 (y2L_12, y3L_12, mmL_12) = some o := hf
    unfold f_X4_lose_s4 at hf
    dsimp only at hf
    refine lv_iload_n hx hb dX4_lose_4 rfl (lv_at hl 3 rfl) ?_
    refine lv_aload_n hx hb dX4_lose_5 rfl (lv_at hl 0 rfl) ?_
    refine wd_getI X hP (isRaft.a0 hr) fl_X4_47 rfl dX4_lose_6 ?_
    refine lv_icmp_ge (tgt := 68) hx hb dX4_lose_9 (by decide) (fun c_1 => ?_) (fun c_1 => ?_)
    · have hf := itT hf c_1
      obtain rfl := Option.some.inj hf
      exact hE _ rfl H locs ls hP hS (lv_sub hl [0, 2] rfl)
    · have hf := itF hf c_1
      refine lv_iload_n hx hb dX4_lose_12 rfl (lv_at hl 1 rfl) ?_
      refine lv_iload_n hx hb dX4_lose_13 rfl (lv_at hl 3 rfl) ?_
      refine wd_cn X hP hS ml_X4_76 (c_X11_contains l D dA zz bs mmL_12 x1 y3L_12 (f_X11_contains x1 y3L_12) rfl) rfl ⟨Nat.le_of_ble_eq_true rfl, Nat.le_of_ble_eq_true rfl⟩ hl.1 rfl (rest := []) (Nat.le_of_ble_eq_true rfl) ⟨Nat.zero_le _, Nat.zero_le _⟩ dX4_lose_14 (fun H locs hP hS => ?_)
      refine W.eq (g2 := F0 m 17 ls [.int (f_X11_contains x1 y3L_12)]) rfl ?_
      refine lv_if_eq (tgt := 23) hx hb dX4_lose_17 (by decide) (fun c_2 => ?_) (fun c_2 => ?_)
      · have hf := itT hf c_2
        refine lv_aload_n hx hb dX4_lose_23 rfl (lv_at hl 0 rfl) ?_
        refine wd_getR (q := r + 6) X hP (isRaft.a0 hr) fl_X4_27 rfl dX4_lose_24 ?_
        refine lv_iload_n hx hb dX4_lose_27 rfl (lv_at hl 2 rfl) ?_
        refine lv_aload_n hx hb dX4_lose_28 rfl (lv_at hl 0 rfl) ?_
        refine wd_getR (q := r + 6) X hP (isRaft.a0 hr) fl_X4_27 rfl dX4_lose_29 ?_
        refine lv_iload_n hx hb dX4_lose_32 rfl (lv_at hl 3 rfl) ?_
        have g_3 := gdN hf
        have hf := gdK hf
        refine wd_iald X hP (isRaft.a6 hr) g_3 dX4_lose_33 ?_
        have g_5 := gdN hf
        have hf := gdK hf
        refine wd_iast X hP hS (isRaft.a6 hr) g_5 dX4_lose_34 (fun H locs mm_4 emm_4 hP hS => ?_)
        have hf := vl hf emm_4
        refine lv_aload_n hx hb dX4_lose_35 rfl (lv_at hl 0 rfl) ?_
        refine wd_getR (q := r + 7) X hP (isRaft.a0 hr) fl_X4_30 rfl dX4_lose_36 ?_
        refine lv_iload_n hx hb dX4_lose_39 rfl (lv_at hl 2 rfl) ?_
        refine lv_aload_n hx hb dX4_lose_40 rfl (lv_at hl 0 rfl) ?_
        refine wd_getR (q := r + 7) X hP (isRaft.a0 hr) fl_X4_30 rfl dX4_lose_41 ?_
        refine lv_iload_n hx hb dX4_lose_44 rfl (lv_at hl 3 rfl) ?_
        have g_6 := gdN hf
        have hf := gdK hf
        refine wd_iald X hP (isRaft.a7 hr) g_6 dX4_lose_45 ?_
        have g_8 := gdN hf
        have hf := gdK hf
        refine wd_iast X hP hS (isRaft.a7 hr) g_8 dX4_lose_46 (fun H locs mm_7 emm_7 hP hS => ?_)
        have hf := vl hf emm_7
        refine lv_aload_n hx hb dX4_lose_47 rfl (lv_at hl 0 rfl) ?_
        refine wd_getR (q := r + 8) X hP (isRaft.a0 hr) fl_X4_33 rfl dX4_lose_48 ?_
        refine lv_iload_n hx hb dX4_lose_51 rfl (lv_at hl 2 rfl) ?_
        refine lv_aload_n hx hb dX4_lose_52 rfl (lv_at hl 0 rfl) ?_
        refine wd_getR (q := r + 8) X hP (isRaft.a0 hr) fl_X4_33 rfl dX4_lose_53 ?_
        refine lv_iload_n hx hb dX4_lose_56 rfl (lv_at hl 3 rfl) ?_
        have g_9 := gdN hf
        have hf := gdK hf
        refine wd_iald X hP (isRaft.a8 hr) g_9 dX4_lose_57 ?_
        have g_11 := gdN hf
        have hf := gdK hf
        refine wd_iast X hP hS (isRaft.a8 hr) g_11 dX4_lose_58 (fun H locs mm_10 emm_10 hP hS => ?_)
        have hf := vl hf emm_10
        refine lv_iinc (v := (y2L_12 + 1)) (lv' := [(2, .int (y2L_12 + 1)), (0, .ref (bs + r)), (1, .int x1), (3, .int y3L_12)]) hx hb dX4_lose_59 hl (k := 2) rfl rfl (by decide) rfl (fun ls hl => ?_)
        refine lv_iinc (v := (y3L_12 + 1)) (lv' := [(3, .int (y3L_12 + 1)), (2, .int (y2L_12 + 1)), (0, .ref (bs + r)), (1, .int x1)]) hx hb dX4_lose_62 hl (k := 3) rfl rfl (by decide) rfl (fun ls hl => ?_)
        refine lv_goto (tgt := 4) hx hb dX4_lose_65 (by decide) ?_
        obtain rfl := Option.some.inj hf
        exact hB _ rfl H locs ls hP hS (lv_sub hl [2, 3, 1, 0] rfl)
      · have hf := itF hf c_2
        refine lv_goto (tgt := 62) hx hb dX4_lose_20 (by decide) ?_
        refine lv_iinc (v := (y3L_12 + 1)) (lv' := [(3, .int (y3L_12 + 1)), (0, .ref (bs + r)), (1, .int x1), (2, .int y2L_12)]) hx hb dX4_lose_62 hl (k := 3) rfl rfl (by decide) rfl (fun ls hl => ?_)
        refine lv_goto (tgt := 4) hx hb dX4_lose_65 (by decide) ?_
        obtain rfl := Option.some.inj hf
        exact hB _ rfl H locs ls hP hS (lv_sub hl [1, 2, 3, 0] rfl)
  · obtain ⟨w2_13, mm_14⟩ := q_16
    dsimp only at hf
    intro H locs ls hP hS hl
    refine lv_aload_n hx hb dX4_lose_68 rfl (lv_at hl 0 rfl) ?_
    refine lv_iload_n hx hb dX4_lose_69 rfl (lv_at hl 1 rfl) ?_
    refine wd_putI X hP hS (isRaft.a0 hr) fp_X4_47 rfl dX4_lose_70 (fun H locs mm_15 emm_15 hP hS => ?_)
    have hf := vl hf emm_15
    obtain rfl := Option.some.inj hf
    exact wd_vret X hP hS hr0 dX4_lose_73 ⟨rfl, rfl⟩

noncomputable def f_X4_untie_s2 (r : Nat) (v : Nat) (y1 : Int32) : (Int32 × Mm) → Option ((Int32 × Mm) ⊕ (Mm)) :=
  fun q => match q with
  | (y2, mm) =>
    if (mm.1 r 3) ≤ y2 then
      some (.inr mm)
    else
      if (f_X11_contains y1 y2) = 0 then
        some (.inl ((y2 + 1), mm))
      else
        if y2 < 0 ∨ 12 ≤ y2.toNatClampNeg then none else
          vlet (wI mm r 2 ((mm.1 r 2) + (mm.1 (r + 8) y2.toNatClampNeg))) fun mm_4 => some (.inl ((y2 + 1), mm_4))
noncomputable def f_X4_untie (mm : Mm) (r : Nat) (v : Nat) (x1 : Int32) : Option (Mm) :=
  bi1 (lp (f_X4_untie_s2 r v x1) ((0 : Int32), mm)) fun mm_6 =>
    bi1 (f_X4_lose mm_6 r v x1) fun mm_7 => some mm_7
set_option maxHeartbeats 4000000 in
set_option maxRecDepth 100000 in
theorem c_X4_untie (l : Launch) (D : va_G) (dA : Nat → ClassId) (zz : (Nat → Nat) × (Nat → Nat)) (bs : Nat) (mm : Mm) (r : Nat) (v : Nat) (hr : isRaft r v) (x1 : Int32) (m1 : Mm) (hf : f_X4_untie mm r v x1 = some m1) : Mw l D dA zz bs LY yX4_untie cX4_untie 3 none 2 44 [.ref (bs + r), .int x1] mm none m1 := by
  refine Mw.of (own := RX4) (by decide) rfl (Nat.le_of_ble_eq_true rfl) ?_
  intro p e s m args below meth c X hr0 hP hS ls hl
  have hx := X.1
  have hb := X.2.1
  obtain ⟨H, hH⟩ : ∃ z : Heap, z = s.heap := ⟨_, rfl⟩
  obtain ⟨locs, hL⟩ : ∃ z : List Loc, z = [] := ⟨_, rfl⟩
  rw [← hH, ← hL]
  have hS : va_S (Aq bs) s.heap H locs := by rw [hH, hL]; exact hS
  have hP : Wd D dA bs LY mm H := by rw [hH]; exact hP
  have hl : lv_has ls 3 [(0, .ref (bs + r)), (1, .int x1)] := hl
  unfold f_X4_untie at hf
  refine lv_iconst (v := 0) hx hb dX4_untie_0 (by decide) ?_
  refine lv_istore_n (lv' := [(2, .int (0 : Int32)), (0, .ref (bs + r)), (1, .int x1)]) hx hb dX4_untie_1 rfl hl (by decide) rfl (fun ls hl => ?_)
  obtain ⟨q_9, hlp_10, hf⟩ := bi1S hf
  refine lp_walk (Wh := (fun z => match z with | (y2L_5, mmL_5) => ∀ (H : Heap) (locs : List Loc) (ls : Array Slot), Wd D dA bs LY mmL_5 H → va_S (Aq bs) s.heap H locs → lv_has ls 3 [(0, .ref (bs + r)), (1, .int x1), (2, .int y2L_5)] → Wz p l e s m args below meth c D dA bs none m1 2 44 H locs 2 ls [])) (Ph := (fun mm_6 => ∀ (H : Heap) (locs : List Loc) (ls : Array Slot), Wd D dA bs LY mm_6 H → va_S (Aq bs) s.heap H locs → lv_has ls 3 [(0, .ref (bs + r)), (1, .int x1)] → Wz p l e s m args below meth c D dA bs none m1 2 44 H locs 39 ls [])) ?_ hlp_10 ?_ H locs ls hP hS (lv_sub hl [1, 2, 0] rfl)
  · intro z o hf hB hE
    obtain ⟨y2L_5, mmL_5⟩ := z
    intro H locs ls hP hS hl
    have hf : f_X4_untie_s2 r v x1 (y2L_5, mmL_5) = some o := hf
    unfold f_X4_untie_s2 at hf
    dsimp only at hf
    refine lv_iload_n hx hb dX4_untie_2 rfl (lv_at hl 2 rfl) ?_
    refine lv_aload_n hx hb dX4_untie_3 rfl (lv_at hl 0 rfl) ?_
    refine wd_getI X hP (isRaft.a0 hr) fl_X4_47 rfl dX4_untie_4 ?_
    refine lv_icmp_ge (tgt := 39) hx hb dX4_untie_7 (by decide) (fun c_1 => ?_) (fun c_1 => ?_)
    · have hf := itT hf c_1
      obtain rfl := Option.some.inj hf
      exact hE _ rfl H locs ls hP hS (lv_sub hl [0, 1] rfl)
    · have hf := itF hf c_1
      refine lv_iload_n hx hb dX4_untie_10 rfl (lv_at hl 1 rfl) ?_
      refine lv_iload_n hx hb dX4_untie_11 rfl (lv_at hl 2 rfl) ?_
      refine wd_cn X hP hS ml_X4_76 (c_X11_contains l D dA zz bs mmL_5 x1 y2L_5 (f_X11_contains x1 y2L_5) rfl) rfl ⟨Nat.le_of_ble_eq_true rfl, Nat.le_of_ble_eq_true rfl⟩ hl.1 rfl (rest := []) (Nat.le_of_ble_eq_true rfl) ⟨Nat.zero_le _, Nat.zero_le _⟩ dX4_untie_12 (fun H locs hP hS => ?_)
      refine W.eq (g2 := F0 m 15 ls [.int (f_X11_contains x1 y2L_5)]) rfl ?_
      refine lv_if_eq (tgt := 33) hx hb dX4_untie_15 (by decide) (fun c_2 => ?_) (fun c_2 => ?_)
      · have hf := itT hf c_2
        refine lv_iinc (v := (y2L_5 + 1)) (lv' := [(2, .int (y2L_5 + 1)), (0, .ref (bs + r)), (1, .int x1)]) hx hb dX4_untie_33 hl (k := 2) rfl rfl (by decide) rfl (fun ls hl => ?_)
        refine lv_goto (tgt := 2) hx hb dX4_untie_36 (by decide) ?_
        obtain rfl := Option.some.inj hf
        exact hB _ rfl H locs ls hP hS (lv_sub hl [1, 2, 0] rfl)
      · have hf := itF hf c_2
        refine lv_aload_n hx hb dX4_untie_18 rfl (lv_at hl 0 rfl) ?_
        refine lv_dup hx hb dX4_untie_19 rfl ?_
        refine wd_getI X hP (isRaft.a0 hr) fl_X4_44 rfl dX4_untie_20 ?_
        refine lv_aload_n hx hb dX4_untie_23 rfl (lv_at hl 0 rfl) ?_
        refine wd_getR (q := r + 8) X hP (isRaft.a0 hr) fl_X4_33 rfl dX4_untie_24 ?_
        refine lv_iload_n hx hb dX4_untie_27 rfl (lv_at hl 2 rfl) ?_
        have g_3 := gdN hf
        have hf := gdK hf
        refine wd_iald X hP (isRaft.a8 hr) g_3 dX4_untie_28 ?_
        refine lv_iadd hx hb dX4_untie_29 ?_
        refine wd_putI X hP hS (isRaft.a0 hr) fp_X4_44 rfl dX4_untie_30 (fun H locs mm_4 emm_4 hP hS => ?_)
        have hf := vl hf emm_4
        refine lv_iinc (v := (y2L_5 + 1)) (lv' := [(2, .int (y2L_5 + 1)), (0, .ref (bs + r)), (1, .int x1)]) hx hb dX4_untie_33 hl (k := 2) rfl rfl (by decide) rfl (fun ls hl => ?_)
        refine lv_goto (tgt := 2) hx hb dX4_untie_36 (by decide) ?_
        obtain rfl := Option.some.inj hf
        exact hB _ rfl H locs ls hP hS (lv_sub hl [1, 2, 0] rfl)
  · obtain ⟨mm_6, e_mm_6⟩ : ∃ z, z = q_9 := ⟨_, rfl⟩
    subst e_mm_6
    intro H locs ls hP hS hl
    refine lv_aload_n hx hb dX4_untie_39 rfl (lv_at hl 0 rfl) ?_
    refine lv_iload_n hx hb dX4_untie_40 rfl (lv_at hl 1 rfl) ?_
    obtain ⟨mm_7, hc_8, hf⟩ := bi1S hf
    refine wd_cv X hP hS (isRaft.a0 hr) ml_X4_93 ⟨_, _, rfl⟩ (c_X4_lose l D dA zz bs mm_6 r v hr x1 mm_7 hc_8) rfl ⟨Nat.le_of_ble_eq_true rfl, Nat.le_of_ble_eq_true rfl⟩ hl.1 rfl (rest := []) (Nat.le_of_ble_eq_true rfl) ⟨Nat.zero_le _, Nat.zero_le _⟩ dX4_untie_41 (fun H locs hP hS => ?_)
    refine W.eq (g2 := F0 m 44 ls []) rfl ?_
    obtain rfl := Option.some.inj hf
    exact wd_vret X hP hS hr0 dX4_untie_44 ⟨rfl, rfl⟩

noncomputable def f_X4_breakRopes_s4 (r : Nat) (v : Nat) (mm : Mm) (y1 : Int32) : (Int32 × Int32) → Option ((Int32 × Int32) ⊕ (Int32)) :=
  fun q => match q with
  | (y2, y3) =>
    if (mm.1 r 3) ≤ y3 then
      some (.inr y2)
    else
      if y3 < 0 ∨ 12 ≤ y3.toNatClampNeg then none else
        if y1 ≤ (mm.1 (r + 8) y3.toNatClampNeg) then
          some (.inl (y2, (y3 + 1)))
        else
          vlet (y2 ||| ((1 : Int32) <<< (y3 &&& 31))) fun (x2_4 : Int32) => some (.inl (x2_4, (y3 + 1)))
noncomputable def f_X4_breakRopes (mm : Mm) (r : Nat) (v : Nat) (x1 : Int32) : Option (Int32 × Mm) :=
  bi1 (lp (f_X4_breakRopes_s4 r v mm x1) ((0 : Int32), (0 : Int32))) fun w2_6 =>
    bi1 (f_X4_lose mm r v w2_6) fun mm_7 => some ((f_J6_bitCount_0f7a4 w2_6), mm_7)
set_option maxHeartbeats 4000000 in
set_option maxRecDepth 100000 in
theorem c_X4_breakRopes (l : Launch) (D : va_G) (dA : Nat → ClassId) (zz : (Nat → Nat) × (Nat → Nat)) (bs : Nat) (mm : Mm) (r : Nat) (v : Nat) (hr : isRaft r v) (x1 : Int32) (out : Int32) (m1 : Mm) (hf : f_X4_breakRopes mm r v x1 = some (out, m1)) : Mw l D dA zz bs LY yX4_breakRopes cX4_breakRopes 4 (some .int) 2 44 [.ref (bs + r), .int x1] mm (some (.int out)) m1 := by
  refine Mw.of (own := RX4) (by decide) rfl (Nat.le_of_ble_eq_true rfl) ?_
  intro p e s m args below meth c X hr0 hP hS ls hl
  have hx := X.1
  have hb := X.2.1
  obtain ⟨H, hH⟩ : ∃ z : Heap, z = s.heap := ⟨_, rfl⟩
  obtain ⟨locs, hL⟩ : ∃ z : List Loc, z = [] := ⟨_, rfl⟩
  rw [← hH, ← hL]
  have hS : va_S (Aq bs) s.heap H locs := by rw [hH, hL]; exact hS
  have hP : Wd D dA bs LY mm H := by rw [hH]; exact hP
  have hl : lv_has ls 4 [(0, .ref (bs + r)), (1, .int x1)] := hl
  unfold f_X4_breakRopes at hf
  refine lv_iconst (v := 0) hx hb dX4_breakRopes_0 (by decide) ?_
  refine lv_istore_n (lv' := [(2, .int (0 : Int32)), (0, .ref (bs + r)), (1, .int x1)]) hx hb dX4_breakRopes_1 rfl hl (by decide) rfl (fun ls hl => ?_)
  refine lv_iconst (v := 0) hx hb dX4_breakRopes_2 (by decide) ?_
  refine lv_istore_n (lv' := [(3, .int (0 : Int32)), (2, .int (0 : Int32)), (0, .ref (bs + r)), (1, .int x1)]) hx hb dX4_breakRopes_3 rfl hl (by decide) rfl (fun ls hl => ?_)
  obtain ⟨q_9, hlp_10, hf⟩ := bi1S hf
  refine lp_walk (Wh := (fun z => match z with | (y2L_5, y3L_5) => ∀ (H : Heap) (locs : List Loc) (ls : Array Slot), Wd D dA bs LY mm H → va_S (Aq bs) s.heap H locs → lv_has ls 4 [(0, .ref (bs + r)), (1, .int x1), (2, .int y2L_5), (3, .int y3L_5)] → Wz p l e s m args below meth c D dA bs (some (.int out)) m1 2 44 H locs 4 ls [])) (Ph := (fun w2_6 => ∀ (H : Heap) (locs : List Loc) (ls : Array Slot), Wd D dA bs LY mm H → va_S (Aq bs) s.heap H locs → lv_has ls 4 [(0, .ref (bs + r)), (2, .int w2_6)] → Wz p l e s m args below meth c D dA bs (some (.int out)) m1 2 44 H locs 34 ls [])) ?_ hlp_10 ?_ H locs ls hP hS (lv_sub hl [2, 3, 1, 0] rfl)
  · intro z o hf hB hE
    obtain ⟨y2L_5, y3L_5⟩ := z
    intro H locs ls hP hS hl
    have hf : f_X4_breakRopes_s4 r v mm x1 (y2L_5, y3L_5) = some o := hf
    unfold f_X4_breakRopes_s4 at hf
    dsimp only at hf
    refine lv_iload_n hx hb dX4_breakRopes_4 rfl (lv_at hl 3 rfl) ?_
    refine lv_aload_n hx hb dX4_breakRopes_5 rfl (lv_at hl 0 rfl) ?_
    refine wd_getI X hP (isRaft.a0 hr) fl_X4_47 rfl dX4_breakRopes_6 ?_
    refine lv_icmp_ge (tgt := 34) hx hb dX4_breakRopes_9 (by decide) (fun c_1 => ?_) (fun c_1 => ?_)
    · have hf := itT hf c_1
      obtain rfl := Option.some.inj hf
      exact hE _ rfl H locs ls hP hS (lv_sub hl [0, 2] rfl)
    · have hf := itF hf c_1
      refine lv_aload_n hx hb dX4_breakRopes_12 rfl (lv_at hl 0 rfl) ?_
      refine wd_getR (q := r + 8) X hP (isRaft.a0 hr) fl_X4_33 rfl dX4_breakRopes_13 ?_
      refine lv_iload_n hx hb dX4_breakRopes_16 rfl (lv_at hl 3 rfl) ?_
      have g_2 := gdN hf
      have hf := gdK hf
      refine wd_iald X hP (isRaft.a8 hr) g_2 dX4_breakRopes_17 ?_
      refine lv_iload_n hx hb dX4_breakRopes_18 rfl (lv_at hl 1 rfl) ?_
      refine lv_icmp_ge (tgt := 28) hx hb dX4_breakRopes_19 (by decide) (fun c_3 => ?_) (fun c_3 => ?_)
      · have hf := itT hf c_3
        refine lv_iinc (v := (y3L_5 + 1)) (lv' := [(3, .int (y3L_5 + 1)), (0, .ref (bs + r)), (1, .int x1), (2, .int y2L_5)]) hx hb dX4_breakRopes_28 hl (k := 3) rfl rfl (by decide) rfl (fun ls hl => ?_)
        refine lv_goto (tgt := 4) hx hb dX4_breakRopes_31 (by decide) ?_
        obtain rfl := Option.some.inj hf
        exact hB _ rfl H locs ls hP hS (lv_sub hl [1, 2, 3, 0] rfl)
      · have hf := itF hf c_3
        refine lv_iload_n hx hb dX4_breakRopes_22 rfl (lv_at hl 2 rfl) ?_
        refine lv_iconst (v := 1) hx hb dX4_breakRopes_23 (by decide) ?_
        refine lv_iload_n hx hb dX4_breakRopes_24 rfl (lv_at hl 3 rfl) ?_
        refine lv_ishl hx hb dX4_breakRopes_25 ?_
        refine lv_ior hx hb dX4_breakRopes_26 ?_
        refine lv_topi (fun x2_4 ex2_4 => ?_)
        have hf := vl hf ex2_4
        refine lv_istore_n (lv' := [(2, .int x2_4), (0, .ref (bs + r)), (1, .int x1), (3, .int y3L_5)]) hx hb dX4_breakRopes_27 rfl hl (by decide) rfl (fun ls hl => ?_)
        refine lv_iinc (v := (y3L_5 + 1)) (lv' := [(3, .int (y3L_5 + 1)), (2, .int x2_4), (0, .ref (bs + r)), (1, .int x1)]) hx hb dX4_breakRopes_28 hl (k := 3) rfl rfl (by decide) rfl (fun ls hl => ?_)
        refine lv_goto (tgt := 4) hx hb dX4_breakRopes_31 (by decide) ?_
        obtain rfl := Option.some.inj hf
        exact hB _ rfl H locs ls hP hS (lv_sub hl [2, 3, 1, 0] rfl)
  · obtain ⟨w2_6, e_w2_6⟩ : ∃ z, z = q_9 := ⟨_, rfl⟩
    subst e_w2_6
    intro H locs ls hP hS hl
    refine lv_aload_n hx hb dX4_breakRopes_34 rfl (lv_at hl 0 rfl) ?_
    refine lv_iload_n hx hb dX4_breakRopes_35 rfl (lv_at hl 1 rfl) ?_
    obtain ⟨mm_7, hc_8, hf⟩ := bi1S hf
    refine wd_cv X hP hS (isRaft.a0 hr) ml_X4_93 ⟨_, _, rfl⟩ (c_X4_lose l D dA zz bs mm r v hr w2_6 mm_7 hc_8) rfl ⟨Nat.le_of_ble_eq_true rfl, Nat.le_of_ble_eq_true rfl⟩ hl.1 rfl (rest := []) (Nat.le_of_ble_eq_true rfl) ⟨Nat.zero_le _, Nat.zero_le _⟩ dX4_breakRopes_36 (fun H locs hP hS => ?_)
    refine W.eq (g2 := F0 m 39 ls []) rfl ?_
    refine lv_iload_n hx hb dX4_breakRopes_39 rfl (lv_at hl 1 rfl) ?_
    refine wd_cs X hP hS ml_X4_121 (c_J6_bitCount_0f7a4 l D dA zz bs mm_7 w2_6 (f_J6_bitCount_0f7a4 w2_6) rfl) rfl ⟨Nat.le_of_ble_eq_true rfl, Nat.le_of_ble_eq_true rfl⟩ hl.1 rfl (rest := []) (Nat.le_of_ble_eq_true rfl) ⟨Nat.zero_le _, Nat.zero_le _⟩ dX4_breakRopes_40 (fun H locs hP hS => ?_)
    refine W.eq (g2 := F0 m 43 ls [.int (f_J6_bitCount_0f7a4 w2_6)]) rfl ?_
    obtain ⟨rfl, rfl⟩ := Prod.mk.inj (Option.some.inj hf)
    exact wd_iret X hP hS hr0 dX4_breakRopes_43 ⟨rfl, rfl⟩

noncomputable def f_X4_land_s4 (r : Nat) (v : Nat) : (Int32 × Int32 × Mm) → Option ((Int32 × Int32 × Mm) ⊕ (Int32 × Mm)) :=
  fun q => match q with
  | (y1, y2, mm) =>
    if (mm.1 v 1) ≤ y2 then
      some (.inr (y1, mm))
    else
      if y2 < 0 ∨ 6 ≤ y2.toNatClampNeg then none else
        if (mm.1 (r + 1) y2.toNatClampNeg) = 0 then
          if y2 < 0 ∨ 6 ≤ y2.toNatClampNeg then none else
            if (mm.1 (v + 1) y2.toNatClampNeg) = (mm.1 r 1) then
              if y2 < 0 ∨ 6 ≤ y2.toNatClampNeg then none else
                vlet (wI mm (r + 1) y2.toNatClampNeg (1 : Int32)) fun mm_6 =>
                  bi1 (f_X4_thingsOf mm_6 r v y2) fun r_9 => some (.inl ((y1 ||| r_9), (y2 + 1), mm_6))
            else
              some (.inl (y1, (y2 + 1), mm))
        else
          some (.inl (y1, (y2 + 1), mm))
noncomputable def f_X4_land_s63 (r : Nat) (v : Nat) (y1 : Int32) : (Int32 × Mm) → Option ((Int32 × Mm) ⊕ (Mm)) :=
  fun q => match q with
  | (y2, mm) =>
    if (mm.1 v 2) ≤ y2 then
      some (.inr mm)
    else
      if (f_X11_contains y1 y2) = 0 then
        some (.inl ((y2 + 1), mm))
      else
        if y2 < 0 ∨ 8 ≤ y2.toNatClampNeg then none else
          vlet (wI mm (r + 4) y2.toNatClampNeg (1 : Int32)) fun mm_15 => some (.inl ((y2 + 1), mm_15))
noncomputable def f_X4_land (mm : Mm) (r : Nat) (v : Nat) : Option (Int32 × Mm) :=
  bi1 (lp (f_X4_land_s4 r v) ((0 : Int32), (0 : Int32), mm)) fun q => match q with
  | (w1_11, mm_12) =>
    bi1 (lp (f_X4_land_s63 r v w1_11) ((0 : Int32), mm_12)) fun mm_18 =>
      bi1 (f_X4_ropesOf mm_18 r v w1_11) fun r_20 =>
        bi1 (f_X4_untie mm_18 r v r_20) fun mm_21 => some ((f_J6_bitCount_0f7a4 w1_11), mm_21)
set_option maxHeartbeats 4000000 in
set_option maxRecDepth 100000 in
theorem c_X4_land (l : Launch) (D : va_G) (dA : Nat → ClassId) (zz : (Nat → Nat) × (Nat → Nat)) (bs : Nat) (mm : Mm) (r : Nat) (v : Nat) (hr : isRaft r v) (out : Int32) (m1 : Mm) (hf : f_X4_land mm r v = some (out, m1)) : Mw l D dA zz bs LY yX4_land cX4_land 3 (some .int) 3 66 [.ref (bs + r)] mm (some (.int out)) m1 := by
  refine Mw.of (own := RX4) (by decide) rfl (Nat.le_of_ble_eq_true rfl) ?_
  intro p e s m args below meth c X hr0 hP hS ls hl
  have hx := X.1
  have hb := X.2.1
  obtain ⟨H, hH⟩ : ∃ z : Heap, z = s.heap := ⟨_, rfl⟩
  obtain ⟨locs, hL⟩ : ∃ z : List Loc, z = [] := ⟨_, rfl⟩
  rw [← hH, ← hL]
  have hS : va_S (Aq bs) s.heap H locs := by rw [hH, hL]; exact hS
  have hP : Wd D dA bs LY mm H := by rw [hH]; exact hP
  have hl : lv_has ls 3 [(0, .ref (bs + r))] := hl
  unfold f_X4_land at hf
  refine lv_iconst (v := 0) hx hb dX4_land_0 (by decide) ?_
  refine lv_istore_n (lv' := [(1, .int (0 : Int32)), (0, .ref (bs + r))]) hx hb dX4_land_1 rfl hl (by decide) rfl (fun ls hl => ?_)
  refine lv_iconst (v := 0) hx hb dX4_land_2 (by decide) ?_
  refine lv_istore_n (lv' := [(2, .int (0 : Int32)), (1, .int (0 : Int32)), (0, .ref (bs + r))]) hx hb dX4_land_3 rfl hl (by decide) rfl (fun ls hl => ?_)
  obtain ⟨q_25, hlp_26, hf⟩ := bi1S hf
  refine lp_walk (Wh := (fun z => match z with | (y1L_10, y2L_10, mmL_10) => ∀ (H : Heap) (locs : List Loc) (ls : Array Slot), Wd D dA bs LY mmL_10 H → va_S (Aq bs) s.heap H locs → lv_has ls 3 [(0, .ref (bs + r)), (1, .int y1L_10), (2, .int y2L_10)] → Wz p l e s m args below meth c D dA bs (some (.int out)) m1 3 66 H locs 4 ls [])) (Ph := (fun z => match z with | (w1_11, mm_12) => ∀ (H : Heap) (locs : List Loc) (ls : Array Slot), Wd D dA bs LY mm_12 H → va_S (Aq bs) s.heap H locs → lv_has ls 3 [(0, .ref (bs + r)), (1, .int w1_11)] → Wz p l e s m args below meth c D dA bs (some (.int out)) m1 3 66 H locs 61 ls [])) ?_ hlp_26 ?_ H locs ls hP hS (lv_sub hl [2, 1, 0] rfl)
  · intro z o hf hB hE
    obtain ⟨y1L_10, y2L_10, mmL_10⟩ := z
    intro H locs ls hP hS hl
    have hf : f_X4_land_s4 r v (y1L_10, y2L_10, mmL_10) = some o := hf
    unfold f_X4_land_s4 at hf
    dsimp only at hf
    refine lv_iload_n hx hb dX4_land_4 rfl (lv_at hl 2 rfl) ?_
    refine lv_aload_n hx hb dX4_land_5 rfl (lv_at hl 0 rfl) ?_
    refine wd_getR (q := v) X hP (isRaft.a0 hr) fl_X4_36 rfl dX4_land_6 ?_
    refine wd_getI X hP (isRiver.a0 (isRaft.a9 hr)) fl_X4_70 rfl dX4_land_9 ?_
    refine lv_icmp_ge (tgt := 61) hx hb dX4_land_12 (by decide) (fun c_1 => ?_) (fun c_1 => ?_)
    · have hf := itT hf c_1
      obtain rfl := Option.some.inj hf
      exact hE _ rfl H locs ls hP hS (lv_sub hl [0, 1] rfl)
    · have hf := itF hf c_1
      refine lv_aload_n hx hb dX4_land_15 rfl (lv_at hl 0 rfl) ?_
      refine wd_getR (q := r + 1) X hP (isRaft.a0 hr) fl_X4_9 rfl dX4_land_16 ?_
      refine lv_iload_n hx hb dX4_land_19 rfl (lv_at hl 2 rfl) ?_
      have g_2 := gdN hf
      have hf := gdK hf
      refine wd_iald X hP (isRaft.a1 hr) g_2 dX4_land_20 ?_
      refine lv_if_ne (tgt := 55) hx hb dX4_land_21 (by decide) (fun c_3 => ?_) (fun c_3 => ?_)
      · have hf := itF hf c_3
        refine lv_iinc (v := (y2L_10 + 1)) (lv' := [(2, .int (y2L_10 + 1)), (0, .ref (bs + r)), (1, .int y1L_10)]) hx hb dX4_land_55 hl (k := 2) rfl rfl (by decide) rfl (fun ls hl => ?_)
        refine lv_goto (tgt := 4) hx hb dX4_land_58 (by decide) ?_
        obtain rfl := Option.some.inj hf
        exact hB _ rfl H locs ls hP hS (lv_sub hl [1, 2, 0] rfl)
      · have hf := itT hf c_3
        refine lv_aload_n hx hb dX4_land_24 rfl (lv_at hl 0 rfl) ?_
        refine wd_getR (q := v) X hP (isRaft.a0 hr) fl_X4_36 rfl dX4_land_25 ?_
        refine wd_getR (q := v + 1) X hP (isRiver.a0 (isRaft.a9 hr)) fl_X4_73 rfl dX4_land_28 ?_
        refine lv_iload_n hx hb dX4_land_31 rfl (lv_at hl 2 rfl) ?_
        have g_4 := gdN hf
        have hf := gdK hf
        refine wd_iald X hP (isRiver.a1 (isRaft.a9 hr)) g_4 dX4_land_32 ?_
        refine lv_aload_n hx hb dX4_land_33 rfl (lv_at hl 0 rfl) ?_
        refine wd_getI X hP (isRaft.a0 hr) fl_X4_40 rfl dX4_land_34 ?_
        refine lv_icmp_ne (tgt := 55) hx hb dX4_land_37 (by decide) (fun c_5 => ?_) (fun c_5 => ?_)
        · have hf := itF hf c_5
          refine lv_iinc (v := (y2L_10 + 1)) (lv' := [(2, .int (y2L_10 + 1)), (0, .ref (bs + r)), (1, .int y1L_10)]) hx hb dX4_land_55 hl (k := 2) rfl rfl (by decide) rfl (fun ls hl => ?_)
          refine lv_goto (tgt := 4) hx hb dX4_land_58 (by decide) ?_
          obtain rfl := Option.some.inj hf
          exact hB _ rfl H locs ls hP hS (lv_sub hl [1, 2, 0] rfl)
        · have hf := itT hf c_5
          refine lv_aload_n hx hb dX4_land_40 rfl (lv_at hl 0 rfl) ?_
          refine wd_getR (q := r + 1) X hP (isRaft.a0 hr) fl_X4_9 rfl dX4_land_41 ?_
          refine lv_iload_n hx hb dX4_land_44 rfl (lv_at hl 2 rfl) ?_
          refine lv_iconst (v := 1) hx hb dX4_land_45 (by decide) ?_
          have g_7 := gdN hf
          have hf := gdK hf
          refine wd_iast X hP hS (isRaft.a1 hr) g_7 dX4_land_46 (fun H locs mm_6 emm_6 hP hS => ?_)
          have hf := vl hf emm_6
          refine lv_iload_n hx hb dX4_land_47 rfl (lv_at hl 1 rfl) ?_
          refine lv_aload_n hx hb dX4_land_48 rfl (lv_at hl 0 rfl) ?_
          refine lv_iload_n hx hb dX4_land_49 rfl (lv_at hl 2 rfl) ?_
          obtain ⟨r_9, hc_8, hf⟩ := bi1S hf
          refine wd_cv X hP hS (isRaft.a0 hr) ml_X4_126 ⟨_, _, rfl⟩ (c_X4_thingsOf l D dA zz bs mm_6 r v hr y2L_10 r_9 hc_8) rfl ⟨Nat.le_of_ble_eq_true rfl, Nat.le_of_ble_eq_true rfl⟩ hl.1 rfl (rest := [.int y1L_10]) (Nat.le_of_ble_eq_true rfl) ⟨Nat.zero_le _, Nat.zero_le _⟩ dX4_land_50 (fun H locs hP hS => ?_)
          refine W.eq (g2 := F0 m 53 ls [.int r_9, .int y1L_10]) rfl ?_
          refine lv_ior hx hb dX4_land_53 ?_
          refine lv_istore_n (lv' := [(1, .int (y1L_10 ||| r_9)), (0, .ref (bs + r)), (2, .int y2L_10)]) hx hb dX4_land_54 rfl hl (by decide) rfl (fun ls hl => ?_)
          refine lv_iinc (v := (y2L_10 + 1)) (lv' := [(2, .int (y2L_10 + 1)), (1, .int (y1L_10 ||| r_9)), (0, .ref (bs + r))]) hx hb dX4_land_55 hl (k := 2) rfl rfl (by decide) rfl (fun ls hl => ?_)
          refine lv_goto (tgt := 4) hx hb dX4_land_58 (by decide) ?_
          obtain rfl := Option.some.inj hf
          exact hB _ rfl H locs ls hP hS (lv_sub hl [2, 1, 0] rfl)
  · obtain ⟨w1_11, mm_12⟩ := q_25
    dsimp only at hf
    intro H locs ls hP hS hl
    refine lv_iconst (v := 0) hx hb dX4_land_61 (by decide) ?_
    refine lv_istore_n (lv' := [(2, .int (0 : Int32)), (0, .ref (bs + r)), (1, .int w1_11)]) hx hb dX4_land_62 rfl hl (by decide) rfl (fun ls hl => ?_)
    obtain ⟨q_23, hlp_24, hf⟩ := bi1S hf
    refine lp_walk (Wh := (fun z => match z with | (y2L_17, mmL_17) => ∀ (H : Heap) (locs : List Loc) (ls : Array Slot), Wd D dA bs LY mmL_17 H → va_S (Aq bs) s.heap H locs → lv_has ls 3 [(0, .ref (bs + r)), (1, .int w1_11), (2, .int y2L_17)] → Wz p l e s m args below meth c D dA bs (some (.int out)) m1 3 66 H locs 63 ls [])) (Ph := (fun mm_18 => ∀ (H : Heap) (locs : List Loc) (ls : Array Slot), Wd D dA bs LY mm_18 H → va_S (Aq bs) s.heap H locs → lv_has ls 3 [(0, .ref (bs + r)), (1, .int w1_11)] → Wz p l e s m args below meth c D dA bs (some (.int out)) m1 3 66 H locs 95 ls [])) ?_ hlp_24 ?_ H locs ls hP hS (lv_sub hl [1, 2, 0] rfl)
    · intro z o hf hB hE
      obtain ⟨y2L_17, mmL_17⟩ := z
      intro H locs ls hP hS hl
      have hf : f_X4_land_s63 r v w1_11 (y2L_17, mmL_17) = some o := hf
      unfold f_X4_land_s63 at hf
      dsimp only at hf
      refine lv_iload_n hx hb dX4_land_63 rfl (lv_at hl 2 rfl) ?_
      refine lv_aload_n hx hb dX4_land_64 rfl (lv_at hl 0 rfl) ?_
      refine wd_getR (q := v) X hP (isRaft.a0 hr) fl_X4_36 rfl dX4_land_65 ?_
      refine wd_getI X hP (isRiver.a0 (isRaft.a9 hr)) fl_X4_67 rfl dX4_land_68 ?_
      refine lv_icmp_ge (tgt := 95) hx hb dX4_land_71 (by decide) (fun c_13 => ?_) (fun c_13 => ?_)
      · have hf := itT hf c_13
        obtain rfl := Option.some.inj hf
        exact hE _ rfl H locs ls hP hS (lv_sub hl [0, 1] rfl)
      · have hf := itF hf c_13
        refine lv_iload_n hx hb dX4_land_74 rfl (lv_at hl 1 rfl) ?_
        refine lv_iload_n hx hb dX4_land_75 rfl (lv_at hl 2 rfl) ?_
        refine wd_cn X hP hS ml_X4_76 (c_X11_contains l D dA zz bs mmL_17 w1_11 y2L_17 (f_X11_contains w1_11 y2L_17) rfl) rfl ⟨Nat.le_of_ble_eq_true rfl, Nat.le_of_ble_eq_true rfl⟩ hl.1 rfl (rest := []) (Nat.le_of_ble_eq_true rfl) ⟨Nat.zero_le _, Nat.zero_le _⟩ dX4_land_76 (fun H locs hP hS => ?_)
        refine W.eq (g2 := F0 m 79 ls [.int (f_X11_contains w1_11 y2L_17)]) rfl ?_
        refine lv_if_eq (tgt := 89) hx hb dX4_land_79 (by decide) (fun c_14 => ?_) (fun c_14 => ?_)
        · have hf := itT hf c_14
          refine lv_iinc (v := (y2L_17 + 1)) (lv' := [(2, .int (y2L_17 + 1)), (0, .ref (bs + r)), (1, .int w1_11)]) hx hb dX4_land_89 hl (k := 2) rfl rfl (by decide) rfl (fun ls hl => ?_)
          refine lv_goto (tgt := 63) hx hb dX4_land_92 (by decide) ?_
          obtain rfl := Option.some.inj hf
          exact hB _ rfl H locs ls hP hS (lv_sub hl [1, 2, 0] rfl)
        · have hf := itF hf c_14
          refine lv_aload_n hx hb dX4_land_82 rfl (lv_at hl 0 rfl) ?_
          refine wd_getR (q := r + 4) X hP (isRaft.a0 hr) fl_X4_21 rfl dX4_land_83 ?_
          refine lv_iload_n hx hb dX4_land_86 rfl (lv_at hl 2 rfl) ?_
          refine lv_iconst (v := 1) hx hb dX4_land_87 (by decide) ?_
          have g_16 := gdN hf
          have hf := gdK hf
          refine wd_iast X hP hS (isRaft.a4 hr) g_16 dX4_land_88 (fun H locs mm_15 emm_15 hP hS => ?_)
          have hf := vl hf emm_15
          refine lv_iinc (v := (y2L_17 + 1)) (lv' := [(2, .int (y2L_17 + 1)), (0, .ref (bs + r)), (1, .int w1_11)]) hx hb dX4_land_89 hl (k := 2) rfl rfl (by decide) rfl (fun ls hl => ?_)
          refine lv_goto (tgt := 63) hx hb dX4_land_92 (by decide) ?_
          obtain rfl := Option.some.inj hf
          exact hB _ rfl H locs ls hP hS (lv_sub hl [1, 2, 0] rfl)
    · obtain ⟨mm_18, e_mm_18⟩ : ∃ z, z = q_23 := ⟨_, rfl⟩
      subst e_mm_18
      intro H locs ls hP hS hl
      refine lv_aload_n hx hb dX4_land_95 rfl (lv_at hl 0 rfl) ?_
      refine lv_aload_n hx hb dX4_land_96 rfl (lv_at hl 0 rfl) ?_
      refine lv_iload_n hx hb dX4_land_97 rfl (lv_at hl 1 rfl) ?_
      obtain ⟨r_20, hc_19, hf⟩ := bi1S hf
      refine wd_cv X hP hS (isRaft.a0 hr) ml_X4_129 ⟨_, _, rfl⟩ (c_X4_ropesOf l D dA zz bs mm_18 r v hr w1_11 r_20 hc_19) rfl ⟨Nat.le_of_ble_eq_true rfl, Nat.le_of_ble_eq_true rfl⟩ hl.1 rfl (rest := [.ref (bs + r)]) (Nat.le_of_ble_eq_true rfl) ⟨Nat.zero_le _, Nat.zero_le _⟩ dX4_land_98 (fun H locs hP hS => ?_)
      refine W.eq (g2 := F0 m 101 ls [.int r_20, .ref (bs + r)]) rfl ?_
      obtain ⟨mm_21, hc_22, hf⟩ := bi1S hf
      refine wd_cv X hP hS (isRaft.a0 hr) ml_X4_132 ⟨_, _, rfl⟩ (c_X4_untie l D dA zz bs mm_18 r v hr r_20 mm_21 hc_22) rfl ⟨Nat.le_of_ble_eq_true rfl, Nat.le_of_ble_eq_true rfl⟩ hl.1 rfl (rest := []) (Nat.le_of_ble_eq_true rfl) ⟨Nat.zero_le _, Nat.zero_le _⟩ dX4_land_101 (fun H locs hP hS => ?_)
      refine W.eq (g2 := F0 m 104 ls []) rfl ?_
      refine lv_iload_n hx hb dX4_land_104 rfl (lv_at hl 1 rfl) ?_
      refine wd_cs X hP hS ml_X4_121 (c_J6_bitCount_0f7a4 l D dA zz bs mm_21 w1_11 (f_J6_bitCount_0f7a4 w1_11) rfl) rfl ⟨Nat.le_of_ble_eq_true rfl, Nat.le_of_ble_eq_true rfl⟩ hl.1 rfl (rest := []) (Nat.le_of_ble_eq_true rfl) ⟨Nat.zero_le _, Nat.zero_le _⟩ dX4_land_105 (fun H locs hP hS => ?_)
      refine W.eq (g2 := F0 m 108 ls [.int (f_J6_bitCount_0f7a4 w1_11)]) rfl ?_
      obtain ⟨rfl, rfl⟩ := Prod.mk.inj (Option.some.inj hf)
      exact wd_iret X hP hS hr0 dX4_land_108 ⟨rfl, rfl⟩

noncomputable def f_X4_sink_s14 (r : Nat) (v : Nat) (y2 : Int32) : (Int32 × Mm) → Option ((Int32 × Mm) ⊕ (Mm)) :=
  fun q => match q with
  | (y3, mm) =>
    if (mm.1 v 1) ≤ y3 then
      some (.inr mm)
    else
      if y3 < 0 ∨ 6 ≤ y3.toNatClampNeg then none else
        if ((mm.1 231 y3.toNatClampNeg) &&& y2) = 0 then
          some (.inl ((y3 + 1), mm))
        else
          if y3 < 0 ∨ 6 ≤ y3.toNatClampNeg then none else
            vlet (wI mm (r + 1) y3.toNatClampNeg (2 : Int32)) fun mm_8 => some (.inl ((y3 + 1), mm_8))
noncomputable def f_X4_sink_s51 (r : Nat) (v : Nat) (y2 : Int32) : (Int32 × Mm) → Option ((Int32 × Mm) ⊕ (Mm)) :=
  fun q => match q with
  | (y3, mm) =>
    if (mm.1 v 2) ≤ y3 then
      some (.inr mm)
    else
      if (f_X11_contains y2 y3) = 0 then
        some (.inl ((y3 + 1), mm))
      else
        if y3 < 0 ∨ 8 ≤ y3.toNatClampNeg then none else
          vlet (wI mm (r + 4) y3.toNatClampNeg (2 : Int32)) fun mm_14 =>
            if y3 < 0 ∨ 8 ≤ y3.toNatClampNeg then none else
              vlet (wI mm_14 (r + 5) y3.toNatClampNeg (mm_14.1 r 1)) fun mm_16 => some (.inl ((y3 + 1), mm_16))
noncomputable def f_X4_sink (mm : Mm) (r : Nat) (v : Nat) : Option (Int32 × Mm) :=
  bi1 (f_X2_find mm r v (0 : Int32)) fun mm_1 =>
    bi1 (f_X2_notFloating mm_1 r v) fun r_4 =>
      bi1 (lp (f_X4_sink_s14 r v r_4) ((0 : Int32), mm_1)) fun mm_11 =>
        bi1 (lp (f_X4_sink_s51 r v r_4) ((0 : Int32), mm_11)) fun mm_19 =>
          bi1 (f_X4_ropesOf mm_19 r v r_4) fun r_21 =>
            bi1 (f_X4_lose mm_19 r v r_21) fun mm_22 => some ((f_J6_bitCount_0f7a4 r_4), mm_22)
set_option maxHeartbeats 4000000 in
set_option maxRecDepth 100000 in
theorem c_X4_sink (l : Launch) (D : va_G) (dA : Nat → ClassId) (zz : (Nat → Nat) × (Nat → Nat)) (bs : Nat) (mm : Mm) (r : Nat) (v : Nat) (hr : isRaft r v) (out : Int32) (m1 : Mm) (hf : f_X4_sink mm r v = some (out, m1)) : Mw l D dA zz bs LY yX4_sink cX4_sink 4 (some .int) 4 109 [.ref (bs + r), .ref (bs + 229)] mm (some (.int out)) m1 := by
  refine Mw.of (own := RX4) (by decide) rfl (Nat.le_of_ble_eq_true rfl) ?_
  intro p e s m args below meth c X hr0 hP hS ls hl
  have hx := X.1
  have hb := X.2.1
  obtain ⟨H, hH⟩ : ∃ z : Heap, z = s.heap := ⟨_, rfl⟩
  obtain ⟨locs, hL⟩ : ∃ z : List Loc, z = [] := ⟨_, rfl⟩
  rw [← hH, ← hL]
  have hS : va_S (Aq bs) s.heap H locs := by rw [hH, hL]; exact hS
  have hP : Wd D dA bs LY mm H := by rw [hH]; exact hP
  have hl : lv_has ls 4 [(0, .ref (bs + r)), (1, .ref (bs + 229))] := hl
  unfold f_X4_sink at hf
  refine lv_aload_n hx hb dX4_sink_0 rfl (lv_at hl 1 rfl) ?_
  refine lv_aload_n hx hb dX4_sink_1 rfl (lv_at hl 0 rfl) ?_
  refine lv_iconst (v := 0) hx hb dX4_sink_2 (by decide) ?_
  obtain ⟨mm_1, hc_2, hf⟩ := bi1S hf
  refine wd_cv X hP hS L229 ml_X4_135 ⟨_, _, rfl⟩ (c_X2_find l D dA zz bs mm r v hr (0 : Int32) mm_1 hc_2) rfl ⟨Nat.le_of_ble_eq_true rfl, Nat.le_of_ble_eq_true rfl⟩ hl.1 rfl (rest := []) (Nat.le_of_ble_eq_true rfl) ⟨Nat.zero_le _, Nat.zero_le _⟩ dX4_sink_3 (fun H locs hP hS => ?_)
  refine W.eq (g2 := F0 m 6 ls []) rfl ?_
  refine lv_aload_n hx hb dX4_sink_6 rfl (lv_at hl 1 rfl) ?_
  refine lv_aload_n hx hb dX4_sink_7 rfl (lv_at hl 0 rfl) ?_
  obtain ⟨r_4, hc_3, hf⟩ := bi1S hf
  refine wd_cv X hP hS L229 ml_X4_141 ⟨_, _, rfl⟩ (c_X2_notFloating l D dA zz bs mm_1 r v hr r_4 hc_3) rfl ⟨Nat.le_of_ble_eq_true rfl, Nat.le_of_ble_eq_true rfl⟩ hl.1 rfl (rest := []) (Nat.le_of_ble_eq_true rfl) ⟨Nat.zero_le _, Nat.zero_le _⟩ dX4_sink_8 (fun H locs hP hS => ?_)
  refine W.eq (g2 := F0 m 11 ls [.int r_4]) rfl ?_
  refine lv_istore_n (lv' := [(2, .int r_4), (0, .ref (bs + r)), (1, .ref (bs + 229))]) hx hb dX4_sink_11 rfl hl (by decide) rfl (fun ls hl => ?_)
  refine lv_iconst (v := 0) hx hb dX4_sink_12 (by decide) ?_
  refine lv_istore_n (lv' := [(3, .int (0 : Int32)), (2, .int r_4), (0, .ref (bs + r)), (1, .ref (bs + 229))]) hx hb dX4_sink_13 rfl hl (by decide) rfl (fun ls hl => ?_)
  obtain ⟨q_26, hlp_27, hf⟩ := bi1S hf
  refine lp_walk (Wh := (fun z => match z with | (y3L_10, mmL_10) => ∀ (H : Heap) (locs : List Loc) (ls : Array Slot), Wd D dA bs LY mmL_10 H → va_S (Aq bs) s.heap H locs → lv_has ls 4 [(0, .ref (bs + r)), (1, .ref (bs + 229)), (2, .int r_4), (3, .int y3L_10)] → Wz p l e s m args below meth c D dA bs (some (.int out)) m1 4 109 H locs 14 ls [])) (Ph := (fun mm_11 => ∀ (H : Heap) (locs : List Loc) (ls : Array Slot), Wd D dA bs LY mm_11 H → va_S (Aq bs) s.heap H locs → lv_has ls 4 [(0, .ref (bs + r)), (2, .int r_4)] → Wz p l e s m args below meth c D dA bs (some (.int out)) m1 4 109 H locs 49 ls [])) ?_ hlp_27 ?_ H locs ls hP hS (lv_sub hl [2, 3, 1, 0] rfl)
  · intro z o hf hB hE
    obtain ⟨y3L_10, mmL_10⟩ := z
    intro H locs ls hP hS hl
    have hf : f_X4_sink_s14 r v r_4 (y3L_10, mmL_10) = some o := hf
    unfold f_X4_sink_s14 at hf
    dsimp only at hf
    refine lv_iload_n hx hb dX4_sink_14 rfl (lv_at hl 3 rfl) ?_
    refine lv_aload_n hx hb dX4_sink_15 rfl (lv_at hl 0 rfl) ?_
    refine wd_getR (q := v) X hP (isRaft.a0 hr) fl_X4_36 rfl dX4_sink_16 ?_
    refine wd_getI X hP (isRiver.a0 (isRaft.a9 hr)) fl_X4_70 rfl dX4_sink_19 ?_
    refine lv_icmp_ge (tgt := 49) hx hb dX4_sink_22 (by decide) (fun c_5 => ?_) (fun c_5 => ?_)
    · have hf := itT hf c_5
      obtain rfl := Option.some.inj hf
      exact hE _ rfl H locs ls hP hS (lv_sub hl [0, 2] rfl)
    · have hf := itF hf c_5
      refine lv_aload_n hx hb dX4_sink_25 rfl (lv_at hl 1 rfl) ?_
      refine wd_getR (q := 231) X hP L229 fl_X4_145 rfl dX4_sink_26 ?_
      refine lv_iload_n hx hb dX4_sink_29 rfl (lv_at hl 3 rfl) ?_
      have g_6 := gdN hf
      have hf := gdK hf
      refine wd_iald X hP L231 g_6 dX4_sink_30 ?_
      refine lv_iload_n hx hb dX4_sink_31 rfl (lv_at hl 2 rfl) ?_
      refine lv_iand hx hb dX4_sink_32 ?_
      refine lv_if_eq (tgt := 43) hx hb dX4_sink_33 (by decide) (fun c_7 => ?_) (fun c_7 => ?_)
      · have hf := itT hf c_7
        refine lv_iinc (v := (y3L_10 + 1)) (lv' := [(3, .int (y3L_10 + 1)), (0, .ref (bs + r)), (1, .ref (bs + 229)), (2, .int r_4)]) hx hb dX4_sink_43 hl (k := 3) rfl rfl (by decide) rfl (fun ls hl => ?_)
        refine lv_goto (tgt := 14) hx hb dX4_sink_46 (by decide) ?_
        obtain rfl := Option.some.inj hf
        exact hB _ rfl H locs ls hP hS (lv_sub hl [1, 2, 3, 0] rfl)
      · have hf := itF hf c_7
        refine lv_aload_n hx hb dX4_sink_36 rfl (lv_at hl 0 rfl) ?_
        refine wd_getR (q := r + 1) X hP (isRaft.a0 hr) fl_X4_9 rfl dX4_sink_37 ?_
        refine lv_iload_n hx hb dX4_sink_40 rfl (lv_at hl 3 rfl) ?_
        refine lv_iconst (v := 2) hx hb dX4_sink_41 (by decide) ?_
        have g_9 := gdN hf
        have hf := gdK hf
        refine wd_iast X hP hS (isRaft.a1 hr) g_9 dX4_sink_42 (fun H locs mm_8 emm_8 hP hS => ?_)
        have hf := vl hf emm_8
        refine lv_iinc (v := (y3L_10 + 1)) (lv' := [(3, .int (y3L_10 + 1)), (0, .ref (bs + r)), (1, .ref (bs + 229)), (2, .int r_4)]) hx hb dX4_sink_43 hl (k := 3) rfl rfl (by decide) rfl (fun ls hl => ?_)
        refine lv_goto (tgt := 14) hx hb dX4_sink_46 (by decide) ?_
        obtain rfl := Option.some.inj hf
        exact hB _ rfl H locs ls hP hS (lv_sub hl [1, 2, 3, 0] rfl)
  · obtain ⟨mm_11, e_mm_11⟩ : ∃ z, z = q_26 := ⟨_, rfl⟩
    subst e_mm_11
    intro H locs ls hP hS hl
    refine lv_iconst (v := 0) hx hb dX4_sink_49 (by decide) ?_
    refine lv_istore_n (lv' := [(3, .int (0 : Int32)), (0, .ref (bs + r)), (2, .int r_4)]) hx hb dX4_sink_50 rfl hl (by decide) rfl (fun ls hl => ?_)
    obtain ⟨q_24, hlp_25, hf⟩ := bi1S hf
    refine lp_walk (Wh := (fun z => match z with | (y3L_18, mmL_18) => ∀ (H : Heap) (locs : List Loc) (ls : Array Slot), Wd D dA bs LY mmL_18 H → va_S (Aq bs) s.heap H locs → lv_has ls 4 [(0, .ref (bs + r)), (2, .int r_4), (3, .int y3L_18)] → Wz p l e s m args below meth c D dA bs (some (.int out)) m1 4 109 H locs 51 ls [])) (Ph := (fun mm_19 => ∀ (H : Heap) (locs : List Loc) (ls : Array Slot), Wd D dA bs LY mm_19 H → va_S (Aq bs) s.heap H locs → lv_has ls 4 [(0, .ref (bs + r)), (2, .int r_4)] → Wz p l e s m args below meth c D dA bs (some (.int out)) m1 4 109 H locs 93 ls [])) ?_ hlp_25 ?_ H locs ls hP hS (lv_sub hl [1, 2, 0] rfl)
    · intro z o hf hB hE
      obtain ⟨y3L_18, mmL_18⟩ := z
      intro H locs ls hP hS hl
      have hf : f_X4_sink_s51 r v r_4 (y3L_18, mmL_18) = some o := hf
      unfold f_X4_sink_s51 at hf
      dsimp only at hf
      refine lv_iload_n hx hb dX4_sink_51 rfl (lv_at hl 2 rfl) ?_
      refine lv_aload_n hx hb dX4_sink_52 rfl (lv_at hl 0 rfl) ?_
      refine wd_getR (q := v) X hP (isRaft.a0 hr) fl_X4_36 rfl dX4_sink_53 ?_
      refine wd_getI X hP (isRiver.a0 (isRaft.a9 hr)) fl_X4_67 rfl dX4_sink_56 ?_
      refine lv_icmp_ge (tgt := 93) hx hb dX4_sink_59 (by decide) (fun c_12 => ?_) (fun c_12 => ?_)
      · have hf := itT hf c_12
        obtain rfl := Option.some.inj hf
        exact hE _ rfl H locs ls hP hS (lv_sub hl [0, 1] rfl)
      · have hf := itF hf c_12
        refine lv_iload_n hx hb dX4_sink_62 rfl (lv_at hl 1 rfl) ?_
        refine lv_iload_n hx hb dX4_sink_63 rfl (lv_at hl 2 rfl) ?_
        refine wd_cn X hP hS ml_X4_76 (c_X11_contains l D dA zz bs mmL_18 r_4 y3L_18 (f_X11_contains r_4 y3L_18) rfl) rfl ⟨Nat.le_of_ble_eq_true rfl, Nat.le_of_ble_eq_true rfl⟩ hl.1 rfl (rest := []) (Nat.le_of_ble_eq_true rfl) ⟨Nat.zero_le _, Nat.zero_le _⟩ dX4_sink_64 (fun H locs hP hS => ?_)
        refine W.eq (g2 := F0 m 67 ls [.int (f_X11_contains r_4 y3L_18)]) rfl ?_
        refine lv_if_eq (tgt := 87) hx hb dX4_sink_67 (by decide) (fun c_13 => ?_) (fun c_13 => ?_)
        · have hf := itT hf c_13
          refine lv_iinc (v := (y3L_18 + 1)) (lv' := [(3, .int (y3L_18 + 1)), (0, .ref (bs + r)), (2, .int r_4)]) hx hb dX4_sink_87 hl (k := 2) rfl rfl (by decide) rfl (fun ls hl => ?_)
          refine lv_goto (tgt := 51) hx hb dX4_sink_90 (by decide) ?_
          obtain rfl := Option.some.inj hf
          exact hB _ rfl H locs ls hP hS (lv_sub hl [1, 2, 0] rfl)
        · have hf := itF hf c_13
          refine lv_aload_n hx hb dX4_sink_70 rfl (lv_at hl 0 rfl) ?_
          refine wd_getR (q := r + 4) X hP (isRaft.a0 hr) fl_X4_21 rfl dX4_sink_71 ?_
          refine lv_iload_n hx hb dX4_sink_74 rfl (lv_at hl 2 rfl) ?_
          refine lv_iconst (v := 2) hx hb dX4_sink_75 (by decide) ?_
          have g_15 := gdN hf
          have hf := gdK hf
          refine wd_iast X hP hS (isRaft.a4 hr) g_15 dX4_sink_76 (fun H locs mm_14 emm_14 hP hS => ?_)
          have hf := vl hf emm_14
          refine lv_aload_n hx hb dX4_sink_77 rfl (lv_at hl 0 rfl) ?_
          refine wd_getR (q := r + 5) X hP (isRaft.a0 hr) fl_X4_24 rfl dX4_sink_78 ?_
          refine lv_iload_n hx hb dX4_sink_81 rfl (lv_at hl 2 rfl) ?_
          refine lv_aload_n hx hb dX4_sink_82 rfl (lv_at hl 0 rfl) ?_
          refine wd_getI X hP (isRaft.a0 hr) fl_X4_40 rfl dX4_sink_83 ?_
          have g_17 := gdN hf
          have hf := gdK hf
          refine wd_iast X hP hS (isRaft.a5 hr) g_17 dX4_sink_86 (fun H locs mm_16 emm_16 hP hS => ?_)
          have hf := vl hf emm_16
          refine lv_iinc (v := (y3L_18 + 1)) (lv' := [(3, .int (y3L_18 + 1)), (0, .ref (bs + r)), (2, .int r_4)]) hx hb dX4_sink_87 hl (k := 2) rfl rfl (by decide) rfl (fun ls hl => ?_)
          refine lv_goto (tgt := 51) hx hb dX4_sink_90 (by decide) ?_
          obtain rfl := Option.some.inj hf
          exact hB _ rfl H locs ls hP hS (lv_sub hl [1, 2, 0] rfl)
    · obtain ⟨mm_19, e_mm_19⟩ : ∃ z, z = q_24 := ⟨_, rfl⟩
      subst e_mm_19
      intro H locs ls hP hS hl
      refine lv_aload_n hx hb dX4_sink_93 rfl (lv_at hl 0 rfl) ?_
      refine lv_aload_n hx hb dX4_sink_94 rfl (lv_at hl 0 rfl) ?_
      refine lv_iload_n hx hb dX4_sink_95 rfl (lv_at hl 1 rfl) ?_
      obtain ⟨r_21, hc_20, hf⟩ := bi1S hf
      refine wd_cv X hP hS (isRaft.a0 hr) ml_X4_129 ⟨_, _, rfl⟩ (c_X4_ropesOf l D dA zz bs mm_19 r v hr r_4 r_21 hc_20) rfl ⟨Nat.le_of_ble_eq_true rfl, Nat.le_of_ble_eq_true rfl⟩ hl.1 rfl (rest := [.ref (bs + r)]) (Nat.le_of_ble_eq_true rfl) ⟨Nat.zero_le _, Nat.zero_le _⟩ dX4_sink_96 (fun H locs hP hS => ?_)
      refine W.eq (g2 := F0 m 99 ls [.int r_21, .ref (bs + r)]) rfl ?_
      obtain ⟨mm_22, hc_23, hf⟩ := bi1S hf
      refine wd_cv X hP hS (isRaft.a0 hr) ml_X4_93 ⟨_, _, rfl⟩ (c_X4_lose l D dA zz bs mm_19 r v hr r_21 mm_22 hc_23) rfl ⟨Nat.le_of_ble_eq_true rfl, Nat.le_of_ble_eq_true rfl⟩ hl.1 rfl (rest := []) (Nat.le_of_ble_eq_true rfl) ⟨Nat.zero_le _, Nat.zero_le _⟩ dX4_sink_99 (fun H locs hP hS => ?_)
      refine W.eq (g2 := F0 m 102 ls []) rfl ?_
      refine lv_iload_n hx hb dX4_sink_102 rfl (lv_at hl 1 rfl) ?_
      refine wd_cs X hP hS ml_X4_121 (c_J6_bitCount_0f7a4 l D dA zz bs mm_22 r_4 (f_J6_bitCount_0f7a4 r_4) rfl) rfl ⟨Nat.le_of_ble_eq_true rfl, Nat.le_of_ble_eq_true rfl⟩ hl.1 rfl (rest := []) (Nat.le_of_ble_eq_true rfl) ⟨Nat.zero_le _, Nat.zero_le _⟩ dX4_sink_103 (fun H locs hP hS => ?_)
      refine W.eq (g2 := F0 m 106 ls [.int (f_J6_bitCount_0f7a4 r_4)]) rfl ?_
      obtain ⟨rfl, rfl⟩ := Prod.mk.inj (Option.some.inj hf)
      exact wd_iret X hP hS hr0 dX4_sink_106 ⟨rfl, rfl⟩

noncomputable def f_X4_drift_s22 (r : Nat) (v : Nat) (y1 : Int32) : (Int32 × Mm) → Option ((Int32 × Mm) ⊕ (Mm)) :=
  fun q => match q with
  | (y4, mm) =>
    if (mm.1 v 2) ≤ y4 then
      some (.inr mm)
    else
      if y4 < 0 ∨ 8 ≤ y4.toNatClampNeg then none else
        if (mm.1 (r + 4) y4.toNatClampNeg) = 0 then
          if y4 < 0 ∨ 8 ≤ y4.toNatClampNeg then none else
            if y4 < 0 ∨ 8 ≤ y4.toNatClampNeg then none else
              if y4 < 0 ∨ 8 ≤ y4.toNatClampNeg then none else
                vlet (wI mm (r + 3) y4.toNatClampNeg (if (0 : Int32) < ((mm.1 (r + 3) y4.toNatClampNeg) - (mm.1 (v + 4) y4.toNatClampNeg)) then ((mm.1 (r + 3) y4.toNatClampNeg) - (mm.1 (v + 4) y4.toNatClampNeg)) else (0 : Int32))) fun mm_8 => some (.inl ((y4 + 1), mm_8))
        else
          some (.inl ((y4 + 1), mm))
noncomputable def f_X4_drift (mm : Mm) (r : Nat) (v : Nat) (x1 : Int32) : Option (Mm) :=
  if (1 : Int32) ≤ (f_X4_milesLeft mm r v) then
    vlet (wI mm r 1 ((mm.1 r 1) + (1 : Int32))) fun mm_2 =>
      bi1 (lp (f_X4_drift_s22 r v x1) ((0 : Int32), mm_2)) fun mm_11 =>
        if (mm_11.1 r 1) < 0 ∨ 100 ≤ (mm_11.1 r 1).toNatClampNeg then none else
          bi2 (f_X4_breakRopes mm_11 r v (if x1 < (mm_11.1 (v + 5) (mm_11.1 r 1).toNatClampNeg) then (mm_11.1 (v + 5) (mm_11.1 r 1).toNatClampNeg) else x1)) fun r_15 mm_13 =>
            vlet (wI mm_13 251 2 ((mm_11.1 251 2) + r_15)) fun mm_16 =>
              bi2 (f_X4_land mm_16 r v) fun r_19 mm_17 =>
                vlet (wI mm_17 251 1 ((mm_16.1 251 1) + r_19)) fun mm_20 =>
                  bi2 (f_X4_sink mm_20 r v) fun r_23 mm_21 =>
                    vlet (wI mm_21 251 0 ((mm_20.1 251 0) + r_23)) fun mm_24 => some mm_24
  else
    some mm
set_option maxHeartbeats 4000000 in
set_option maxRecDepth 100000 in
theorem c_X4_drift (l : Launch) (D : va_G) (dA : Nat → ClassId) (zz : (Nat → Nat) × (Nat → Nat)) (bs : Nat) (mm : Mm) (r : Nat) (v : Nat) (hr : isRaft r v) (x1 : Int32) (m1 : Mm) (hf : f_X4_drift mm r v x1 = some m1) : Mw l D dA zz bs LY yX4_drift cX4_drift 5 none 5 132 [.ref (bs + r), .int x1, .ref (bs + 229), .ref (bs + 251)] mm none m1 := by
  refine Mw.of (own := RX4) (by decide) rfl (Nat.le_of_ble_eq_true rfl) ?_
  intro p e s m args below meth c X hr0 hP hS ls hl
  have hx := X.1
  have hb := X.2.1
  obtain ⟨H, hH⟩ : ∃ z : Heap, z = s.heap := ⟨_, rfl⟩
  obtain ⟨locs, hL⟩ : ∃ z : List Loc, z = [] := ⟨_, rfl⟩
  rw [← hH, ← hL]
  have hS : va_S (Aq bs) s.heap H locs := by rw [hH, hL]; exact hS
  have hP : Wd D dA bs LY mm H := by rw [hH]; exact hP
  have hl : lv_has ls 5 [(0, .ref (bs + r)), (1, .int x1), (2, .ref (bs + 229)), (3, .ref (bs + 251))] := hl
  unfold f_X4_drift at hf
  refine lv_aload_n hx hb dX4_drift_0 rfl (lv_at hl 0 rfl) ?_
  refine wd_cv X hP hS (isRaft.a0 hr) ml_X4_103 ⟨_, _, rfl⟩ (c_X4_milesLeft l D dA zz bs mm r v hr (f_X4_milesLeft mm r v) rfl) rfl ⟨Nat.le_of_ble_eq_true rfl, Nat.le_of_ble_eq_true rfl⟩ hl.1 rfl (rest := []) (Nat.le_of_ble_eq_true rfl) ⟨Nat.zero_le _, Nat.zero_le _⟩ dX4_drift_1 (fun H locs hP hS => ?_)
  refine W.eq (g2 := F0 m 4 ls [.int (f_X4_milesLeft mm r v)]) rfl ?_
  refine lv_iconst (v := 1) hx hb dX4_drift_4 (by decide) ?_
  refine lv_icmp_ge (tgt := 9) hx hb dX4_drift_5 (by decide) (fun c_1 => ?_) (fun c_1 => ?_)
  · have hf := itT hf c_1
    refine lv_aload_n hx hb dX4_drift_9 rfl (lv_at hl 0 rfl) ?_
    refine lv_dup hx hb dX4_drift_10 rfl ?_
    refine wd_getI X hP (isRaft.a0 hr) fl_X4_40 rfl dX4_drift_11 ?_
    refine lv_iconst (v := 1) hx hb dX4_drift_14 (by decide) ?_
    refine lv_iadd hx hb dX4_drift_15 ?_
    refine wd_putI X hP hS (isRaft.a0 hr) fp_X4_40 rfl dX4_drift_16 (fun H locs mm_2 emm_2 hP hS => ?_)
    have hf := vl hf emm_2
    refine lv_iconst (v := 0) hx hb dX4_drift_19 (by decide) ?_
    refine lv_istore (lv' := [(4, .int (0 : Int32)), (0, .ref (bs + r)), (1, .int x1), (2, .ref (bs + 229)), (3, .ref (bs + 251))]) hx hb dX4_drift_20 hl (by decide) rfl (fun ls hl => ?_)
    obtain ⟨q_25, hlp_26, hf⟩ := bi1S hf
    refine lp_walk (Wh := (fun z => match z with | (y4L_10, mmL_10) => ∀ (H : Heap) (locs : List Loc) (ls : Array Slot), Wd D dA bs LY mmL_10 H → va_S (Aq bs) s.heap H locs → lv_has ls 5 [(0, .ref (bs + r)), (1, .int x1), (2, .ref (bs + 229)), (3, .ref (bs + 251)), (4, .int y4L_10)] → Wz p l e s m args below meth c D dA bs none m1 5 132 H locs 22 ls [])) (Ph := (fun mm_11 => ∀ (H : Heap) (locs : List Loc) (ls : Array Slot), Wd D dA bs LY mm_11 H → va_S (Aq bs) s.heap H locs → lv_has ls 5 [(0, .ref (bs + r)), (1, .int x1), (2, .ref (bs + 229)), (3, .ref (bs + 251))] → Wz p l e s m args below meth c D dA bs none m1 5 132 H locs 79 ls [])) ?_ hlp_26 ?_ H locs ls hP hS (lv_sub hl [1, 2, 3, 4, 0] rfl)
    · intro z o hf hB hE
      obtain ⟨y4L_10, mmL_10⟩ := z
      intro H locs ls hP hS hl
      have hf : f_X4_drift_s22 r v x1 (y4L_10, mmL_10) = some o := hf
      unfold f_X4_drift_s22 at hf
      dsimp only at hf
      refine lv_iload hx hb dX4_drift_22 (lv_at hl 4 rfl) ?_
      refine lv_aload_n hx hb dX4_drift_24 rfl (lv_at hl 0 rfl) ?_
      refine wd_getR (q := v) X hP (isRaft.a0 hr) fl_X4_36 rfl dX4_drift_25 ?_
      refine wd_getI X hP (isRiver.a0 (isRaft.a9 hr)) fl_X4_67 rfl dX4_drift_28 ?_
      refine lv_icmp_ge (tgt := 79) hx hb dX4_drift_31 (by decide) (fun c_3 => ?_) (fun c_3 => ?_)
      · have hf := itT hf c_3
        obtain rfl := Option.some.inj hf
        exact hE _ rfl H locs ls hP hS (lv_sub hl [0, 1, 2, 3] rfl)
      · have hf := itF hf c_3
        refine lv_aload_n hx hb dX4_drift_34 rfl (lv_at hl 0 rfl) ?_
        refine wd_getR (q := r + 4) X hP (isRaft.a0 hr) fl_X4_21 rfl dX4_drift_35 ?_
        refine lv_iload hx hb dX4_drift_38 (lv_at hl 4 rfl) ?_
        have g_4 := gdN hf
        have hf := gdK hf
        refine wd_iald X hP (isRaft.a4 hr) g_4 dX4_drift_40 ?_
        refine lv_if_ne (tgt := 73) hx hb dX4_drift_41 (by decide) (fun c_5 => ?_) (fun c_5 => ?_)
        · have hf := itF hf c_5
          refine lv_iinc (v := (y4L_10 + 1)) (lv' := [(4, .int (y4L_10 + 1)), (0, .ref (bs + r)), (1, .int x1), (2, .ref (bs + 229)), (3, .ref (bs + 251))]) hx hb dX4_drift_73 hl (k := 4) rfl rfl (by decide) rfl (fun ls hl => ?_)
          refine lv_goto (tgt := 22) hx hb dX4_drift_76 (by decide) ?_
          obtain rfl := Option.some.inj hf
          exact hB _ rfl H locs ls hP hS (lv_sub hl [1, 2, 3, 4, 0] rfl)
        · have hf := itT hf c_5
          refine lv_aload_n hx hb dX4_drift_44 rfl (lv_at hl 0 rfl) ?_
          refine wd_getR (q := r + 3) X hP (isRaft.a0 hr) fl_X4_18 rfl dX4_drift_45 ?_
          refine lv_iload hx hb dX4_drift_48 (lv_at hl 4 rfl) ?_
          refine lv_iconst (v := 0) hx hb dX4_drift_50 (by decide) ?_
          refine lv_aload_n hx hb dX4_drift_51 rfl (lv_at hl 0 rfl) ?_
          refine wd_getR (q := r + 3) X hP (isRaft.a0 hr) fl_X4_18 rfl dX4_drift_52 ?_
          refine lv_iload hx hb dX4_drift_55 (lv_at hl 4 rfl) ?_
          have g_6 := gdN hf
          have hf := gdK hf
          refine wd_iald X hP (isRaft.a3 hr) g_6 dX4_drift_57 ?_
          refine lv_aload_n hx hb dX4_drift_58 rfl (lv_at hl 0 rfl) ?_
          refine wd_getR (q := v) X hP (isRaft.a0 hr) fl_X4_36 rfl dX4_drift_59 ?_
          refine wd_getR (q := v + 4) X hP (isRiver.a0 (isRaft.a9 hr)) fl_X4_97 rfl dX4_drift_62 ?_
          refine lv_iload hx hb dX4_drift_65 (lv_at hl 4 rfl) ?_
          have g_7 := gdN hf
          have hf := gdK hf
          refine wd_iald X hP (isRiver.a4 (isRaft.a9 hr)) g_7 dX4_drift_67 ?_
          refine lv_isub hx hb dX4_drift_68 ?_
          refine va_mmax (own := RX4) hx hb (X.2.2.1.trans hl.1.symm) X.2.2.2.1 (X.2.2.2.2.1 _ (tb_at 636 (by decide +kernel) (by decide +kernel))) (X.2.2.2.2.1 _ (tb_at 637 (by decide +kernel) (by decide +kernel))) (X.2.2.2.2.1 _ (tb_at 19 (by decide +kernel) (by decide +kernel))) (X.2.2.2.2.1 _ (tb_at 638 (by decide +kernel) (by decide +kernel))) (by decide) (Nat.le_of_ble_eq_true rfl) (Nat.zero_le _) (Nat.zero_le _) dX4_drift_69 ?_
          have g_9 := gdN hf
          have hf := gdK hf
          refine wd_iast X hP hS (isRaft.a3 hr) g_9 dX4_drift_72 (fun H locs mm_8 emm_8 hP hS => ?_)
          have hf := vl hf emm_8
          refine lv_iinc (v := (y4L_10 + 1)) (lv' := [(4, .int (y4L_10 + 1)), (0, .ref (bs + r)), (1, .int x1), (2, .ref (bs + 229)), (3, .ref (bs + 251))]) hx hb dX4_drift_73 hl (k := 4) rfl rfl (by decide) rfl (fun ls hl => ?_)
          refine lv_goto (tgt := 22) hx hb dX4_drift_76 (by decide) ?_
          obtain rfl := Option.some.inj hf
          exact hB _ rfl H locs ls hP hS (lv_sub hl [1, 2, 3, 4, 0] rfl)
    · obtain ⟨mm_11, e_mm_11⟩ : ∃ z, z = q_25 := ⟨_, rfl⟩
      subst e_mm_11
      intro H locs ls hP hS hl
      refine lv_aload_n hx hb dX4_drift_79 rfl (lv_at hl 3 rfl) ?_
      refine lv_iconst (v := 2) hx hb dX4_drift_80 (by decide) ?_
      refine lv_dup2_11 hx hb dX4_drift_81 rfl rfl ?_
      refine wd_ialdK (k := 2) X hP L251 (by decide) (by decide) dX4_drift_82 ?_
      refine lv_aload_n hx hb dX4_drift_83 rfl (lv_at hl 0 rfl) ?_
      refine lv_iload_n hx hb dX4_drift_84 rfl (lv_at hl 1 rfl) ?_
      refine lv_aload_n hx hb dX4_drift_85 rfl (lv_at hl 0 rfl) ?_
      refine wd_getR (q := v) X hP (isRaft.a0 hr) fl_X4_36 rfl dX4_drift_86 ?_
      refine wd_getR (q := v + 5) X hP (isRiver.a0 (isRaft.a9 hr)) fl_X4_107 rfl dX4_drift_89 ?_
      refine lv_aload_n hx hb dX4_drift_92 rfl (lv_at hl 0 rfl) ?_
      refine wd_getI X hP (isRaft.a0 hr) fl_X4_40 rfl dX4_drift_93 ?_
      have g_12 := gdN hf
      have hf := gdK hf
      refine wd_iald X hP (isRiver.a5 (isRaft.a9 hr)) g_12 dX4_drift_96 ?_
      refine va_mmax (own := RX4) hx hb (X.2.2.1.trans hl.1.symm) X.2.2.2.1 (X.2.2.2.2.1 _ (tb_at 636 (by decide +kernel) (by decide +kernel))) (X.2.2.2.2.1 _ (tb_at 637 (by decide +kernel) (by decide +kernel))) (X.2.2.2.2.1 _ (tb_at 19 (by decide +kernel) (by decide +kernel))) (X.2.2.2.2.1 _ (tb_at 638 (by decide +kernel) (by decide +kernel))) (by decide) (Nat.le_of_ble_eq_true rfl) (Nat.zero_le _) (Nat.zero_le _) dX4_drift_97 ?_
      obtain ⟨r_15, mm_13, hc_14, hf⟩ := bi2S hf
      refine wd_cv X hP hS (isRaft.a0 hr) ml_X4_110 ⟨_, _, rfl⟩ (c_X4_breakRopes l D dA zz bs mm_11 r v hr (if x1 < (mm_11.1 (v + 5) (mm_11.1 r 1).toNatClampNeg) then (mm_11.1 (v + 5) (mm_11.1 r 1).toNatClampNeg) else x1) r_15 mm_13 hc_14) rfl ⟨Nat.le_of_ble_eq_true rfl, Nat.le_of_ble_eq_true rfl⟩ hl.1 rfl (rest := [.int (mm_11.1 251 2), .int (2 : Int32), .ref (bs + 251)]) (Nat.le_of_ble_eq_true rfl) ⟨Nat.zero_le _, Nat.zero_le _⟩ dX4_drift_100 (fun H locs hP hS => ?_)
      refine W.eq (g2 := F0 m 103 ls [.int r_15, .int (mm_11.1 251 2), .int (2 : Int32), .ref (bs + 251)]) rfl ?_
      refine lv_iadd hx hb dX4_drift_103 ?_
      refine wd_iastK (k := 2) X hP hS L251 (by decide) (by decide) dX4_drift_104 (fun H locs mm_16 emm_16 hP hS => ?_)
      have hf := vl hf emm_16
      refine lv_aload_n hx hb dX4_drift_105 rfl (lv_at hl 3 rfl) ?_
      refine lv_iconst (v := 1) hx hb dX4_drift_106 (by decide) ?_
      refine lv_dup2_11 hx hb dX4_drift_107 rfl rfl ?_
      refine wd_ialdK (k := 1) X hP L251 (by decide) (by decide) dX4_drift_108 ?_
      refine lv_aload_n hx hb dX4_drift_109 rfl (lv_at hl 0 rfl) ?_
      obtain ⟨r_19, mm_17, hc_18, hf⟩ := bi2S hf
      refine wd_cv X hP hS (isRaft.a0 hr) ml_X4_114 ⟨_, _, rfl⟩ (c_X4_land l D dA zz bs mm_16 r v hr r_19 mm_17 hc_18) rfl ⟨Nat.le_of_ble_eq_true rfl, Nat.le_of_ble_eq_true rfl⟩ hl.1 rfl (rest := [.int (mm_16.1 251 1), .int (1 : Int32), .ref (bs + 251)]) (Nat.le_of_ble_eq_true rfl) ⟨Nat.zero_le _, Nat.zero_le _⟩ dX4_drift_110 (fun H locs hP hS => ?_)
      refine W.eq (g2 := F0 m 113 ls [.int r_19, .int (mm_16.1 251 1), .int (1 : Int32), .ref (bs + 251)]) rfl ?_
      refine lv_iadd hx hb dX4_drift_113 ?_
      refine wd_iastK (k := 1) X hP hS L251 (by decide) (by decide) dX4_drift_114 (fun H locs mm_20 emm_20 hP hS => ?_)
      have hf := vl hf emm_20
      refine lv_aload_n hx hb dX4_drift_115 rfl (lv_at hl 3 rfl) ?_
      refine lv_iconst (v := 0) hx hb dX4_drift_116 (by decide) ?_
      refine lv_dup2_11 hx hb dX4_drift_117 rfl rfl ?_
      refine wd_ialdK (k := 0) X hP L251 (by decide) (by decide) dX4_drift_118 ?_
      refine lv_aload_n hx hb dX4_drift_119 rfl (lv_at hl 0 rfl) ?_
      refine lv_aload_n hx hb dX4_drift_120 rfl (lv_at hl 2 rfl) ?_
      obtain ⟨r_23, mm_21, hc_22, hf⟩ := bi2S hf
      refine wd_cv X hP hS (isRaft.a0 hr) ml_X4_117 ⟨_, _, rfl⟩ (c_X4_sink l D dA zz bs mm_20 r v hr r_23 mm_21 hc_22) rfl ⟨Nat.le_of_ble_eq_true rfl, Nat.le_of_ble_eq_true rfl⟩ hl.1 rfl (rest := [.int (mm_20.1 251 0), .int (0 : Int32), .ref (bs + 251)]) (Nat.le_of_ble_eq_true rfl) ⟨Nat.zero_le _, Nat.zero_le _⟩ dX4_drift_121 (fun H locs hP hS => ?_)
      refine W.eq (g2 := F0 m 124 ls [.int r_23, .int (mm_20.1 251 0), .int (0 : Int32), .ref (bs + 251)]) rfl ?_
      refine lv_iadd hx hb dX4_drift_124 ?_
      refine wd_iastK (k := 0) X hP hS L251 (by decide) (by decide) dX4_drift_125 (fun H locs mm_24 emm_24 hP hS => ?_)
      have hf := vl hf emm_24
      obtain rfl := Option.some.inj hf
      exact wd_vret X hP hS hr0 dX4_drift_126 ⟨rfl, rfl⟩
  · have hf := itF hf c_1
    obtain rfl := Option.some.inj hf
    exact wd_vret X hP hS hr0 dX4_drift_8 ⟨rfl, rfl⟩

noncomputable def f_X5_clear (mm : Mm) (v : Nat) : Option (Mm) :=
  vlet (wI mm v 0 (0 : Int32)) fun mm_1 =>
    vlet (wI mm_1 v 1 (0 : Int32)) fun mm_2 =>
      vlet (wI mm_2 v 2 (0 : Int32)) fun mm_3 =>
        vlet (wI mm_3 v 3 (0 : Int32)) fun mm_4 =>
          bi1 (f_J7_fill_53178 mm_4 (v + 5) 100 (0 : Int32)) fun mm_5 => some mm_5
set_option maxHeartbeats 4000000 in
set_option maxRecDepth 100000 in
theorem c_X5_clear (l : Launch) (D : va_G) (dA : Nat → ClassId) (zz : (Nat → Nat) × (Nat → Nat)) (bs : Nat) (mm : Mm) (v : Nat) (hv : isRiver v) (m1 : Mm) (hf : f_X5_clear mm v = some m1) : Mw l D dA zz bs LY yX5_clear cX5_clear 1 none 1 23 [.ref (bs + v)] mm none m1 := by
  refine Mw.of (own := RX5) (by decide) rfl (Nat.le_of_ble_eq_true rfl) ?_
  intro p e s m args below meth c X hr0 hP hS ls hl
  have hx := X.1
  have hb := X.2.1
  obtain ⟨H, hH⟩ : ∃ z : Heap, z = s.heap := ⟨_, rfl⟩
  obtain ⟨locs, hL⟩ : ∃ z : List Loc, z = [] := ⟨_, rfl⟩
  rw [← hH, ← hL]
  have hS : va_S (Aq bs) s.heap H locs := by rw [hH, hL]; exact hS
  have hP : Wd D dA bs LY mm H := by rw [hH]; exact hP
  have hl : lv_has ls 1 [(0, .ref (bs + v))] := hl
  unfold f_X5_clear at hf
  refine lv_aload_n hx hb dX5_clear_0 rfl (lv_at hl 0 rfl) ?_
  refine lv_iconst (v := 0) hx hb dX5_clear_1 (by decide) ?_
  refine wd_putI X hP hS (isRiver.a0 hv) fp_X5_27 rfl dX5_clear_2 (fun H locs mm_1 emm_1 hP hS => ?_)
  have hf := vl hf emm_1
  refine lv_aload_n hx hb dX5_clear_5 rfl (lv_at hl 0 rfl) ?_
  refine lv_iconst (v := 0) hx hb dX5_clear_6 (by decide) ?_
  refine wd_putI X hP hS (isRiver.a0 hv) fp_X5_31 rfl dX5_clear_7 (fun H locs mm_2 emm_2 hP hS => ?_)
  have hf := vl hf emm_2
  refine lv_aload_n hx hb dX5_clear_10 rfl (lv_at hl 0 rfl) ?_
  refine lv_iconst (v := 0) hx hb dX5_clear_11 (by decide) ?_
  refine wd_putI X hP hS (isRiver.a0 hv) fp_X5_34 rfl dX5_clear_12 (fun H locs mm_3 emm_3 hP hS => ?_)
  have hf := vl hf emm_3
  refine lv_aload_n hx hb dX5_clear_15 rfl (lv_at hl 0 rfl) ?_
  refine lv_iconst (v := 0) hx hb dX5_clear_16 (by decide) ?_
  refine wd_putI X hP hS (isRiver.a0 hv) fp_X5_37 rfl dX5_clear_17 (fun H locs mm_4 emm_4 hP hS => ?_)
  have hf := vl hf emm_4
  refine lv_aload_n hx hb dX5_clear_20 rfl (lv_at hl 0 rfl) ?_
  refine wd_getR (q := v + 5) X hP (isRiver.a0 hv) fl_X5_24 rfl dX5_clear_21 ?_
  refine lv_iconst (v := 0) hx hb dX5_clear_24 (by decide) ?_
  obtain ⟨mm_5, hc_6, hf⟩ := bi1S hf
  refine wd_cs X hP hS ml_X5_40 (c_J7_fill_53178 l D dA zz bs mm_4 (v + 5) 100 (isRiver.a5 hv) (0 : Int32) mm_5 hc_6) rfl ⟨Nat.le_of_ble_eq_true rfl, Nat.le_of_ble_eq_true rfl⟩ hl.1 rfl (rest := []) (Nat.le_of_ble_eq_true rfl) ⟨Nat.zero_le _, Nat.zero_le _⟩ dX5_clear_25 (fun H locs hP hS => ?_)
  refine W.eq (g2 := F0 m 28 ls []) rfl ?_
  obtain rfl := Option.some.inj hf
  exact wd_vret X hP hS hr0 dX5_clear_28 ⟨rfl, rfl⟩

noncomputable def f_X5_copyFrom (mm : Mm) (v : Nat) (v2 : Nat) : Option (Mm) :=
  vlet (wI mm v 0 (mm.1 v2 0)) fun mm_1 =>
    vlet (wI mm_1 v 1 (mm_1.1 v2 1)) fun mm_2 =>
      vlet (wI mm_2 v 2 (mm_2.1 v2 2)) fun mm_3 =>
        vlet (wI mm_3 v 3 (mm_3.1 v2 3)) fun mm_4 =>
          vlet (wA mm_4 (v + 1) (va_cpy (mm_4.1 (v2 + 1)) (mm_4.1 (v + 1)) 0 0 6)) fun mm_5 =>
            vlet (wA mm_5 (v + 2) (va_cpy (mm_5.1 (v2 + 2)) (mm_5.1 (v + 2)) 0 0 6)) fun mm_6 =>
              vlet (wA mm_6 (v + 3) (va_cpy (mm_6.1 (v2 + 3)) (mm_6.1 (v + 3)) 0 0 8)) fun mm_7 =>
                vlet (wA mm_7 (v + 4) (va_cpy (mm_7.1 (v2 + 4)) (mm_7.1 (v + 4)) 0 0 8)) fun mm_8 =>
                  vlet (wA mm_8 (v + 5) (va_cpy (mm_8.1 (v2 + 5)) (mm_8.1 (v + 5)) 0 0 100)) fun mm_9 => some mm_9
set_option maxHeartbeats 4000000 in
set_option maxRecDepth 100000 in
theorem c_X5_copyFrom (l : Launch) (D : va_G) (dA : Nat → ClassId) (zz : (Nat → Nat) × (Nat → Nat)) (bs : Nat) (mm : Mm) (v : Nat) (v2 : Nat) (hv : isRiver v) (hv2 : isRiver v2) (m1 : Mm) (hf : f_X5_copyFrom mm v v2 = some m1) : Mw l D dA zz bs LY yX5_copyFrom cX5_copyFrom 2 none 1 60 [.ref (bs + v), .ref (bs + v2)] mm none m1 := by
  refine Mw.of (own := RX5) (by decide) rfl (Nat.le_of_ble_eq_true rfl) ?_
  intro p e s m args below meth c X hr0 hP hS ls hl
  have hx := X.1
  have hb := X.2.1
  obtain ⟨H, hH⟩ : ∃ z : Heap, z = s.heap := ⟨_, rfl⟩
  obtain ⟨locs, hL⟩ : ∃ z : List Loc, z = [] := ⟨_, rfl⟩
  rw [← hH, ← hL]
  have hS : va_S (Aq bs) s.heap H locs := by rw [hH, hL]; exact hS
  have hP : Wd D dA bs LY mm H := by rw [hH]; exact hP
  have hl : lv_has ls 2 [(0, .ref (bs + v)), (1, .ref (bs + v2))] := hl
  unfold f_X5_copyFrom at hf
  refine lv_aload_n hx hb dX5_copyFrom_0 rfl (lv_at hl 0 rfl) ?_
  refine lv_aload_n hx hb dX5_copyFrom_1 rfl (lv_at hl 1 rfl) ?_
  refine wd_getI X hP (isRiver.a0 hv2) fl_X5_27 rfl dX5_copyFrom_2 ?_
  refine wd_putI X hP hS (isRiver.a0 hv) fp_X5_27 rfl dX5_copyFrom_5 (fun H locs mm_1 emm_1 hP hS => ?_)
  have hf := vl hf emm_1
  refine lv_aload_n hx hb dX5_copyFrom_8 rfl (lv_at hl 0 rfl) ?_
  refine lv_aload_n hx hb dX5_copyFrom_9 rfl (lv_at hl 1 rfl) ?_
  refine wd_getI X hP (isRiver.a0 hv2) fl_X5_31 rfl dX5_copyFrom_10 ?_
  refine wd_putI X hP hS (isRiver.a0 hv) fp_X5_31 rfl dX5_copyFrom_13 (fun H locs mm_2 emm_2 hP hS => ?_)
  have hf := vl hf emm_2
  refine lv_aload_n hx hb dX5_copyFrom_16 rfl (lv_at hl 0 rfl) ?_
  refine lv_aload_n hx hb dX5_copyFrom_17 rfl (lv_at hl 1 rfl) ?_
  refine wd_getI X hP (isRiver.a0 hv2) fl_X5_34 rfl dX5_copyFrom_18 ?_
  refine wd_putI X hP hS (isRiver.a0 hv) fp_X5_34 rfl dX5_copyFrom_21 (fun H locs mm_3 emm_3 hP hS => ?_)
  have hf := vl hf emm_3
  refine lv_aload_n hx hb dX5_copyFrom_24 rfl (lv_at hl 0 rfl) ?_
  refine lv_aload_n hx hb dX5_copyFrom_25 rfl (lv_at hl 1 rfl) ?_
  refine wd_getI X hP (isRiver.a0 hv2) fl_X5_37 rfl dX5_copyFrom_26 ?_
  refine wd_putI X hP hS (isRiver.a0 hv) fp_X5_37 rfl dX5_copyFrom_29 (fun H locs mm_4 emm_4 hP hS => ?_)
  have hf := vl hf emm_4
  refine lv_aload_n hx hb dX5_copyFrom_32 rfl (lv_at hl 1 rfl) ?_
  refine wd_getR (q := v2 + 1) X hP (isRiver.a0 hv2) fl_X5_9 rfl dX5_copyFrom_33 ?_
  refine lv_iconst (v := 0) hx hb dX5_copyFrom_36 (by decide) ?_
  refine lv_aload_n hx hb dX5_copyFrom_37 rfl (lv_at hl 0 rfl) ?_
  refine wd_getR (q := v + 1) X hP (isRiver.a0 hv) fl_X5_9 rfl dX5_copyFrom_38 ?_
  refine lv_iconst (v := 0) hx hb dX5_copyFrom_41 (by decide) ?_
  refine lv_bipush (v := 6) hx hb dX5_copyFrom_42 (by decide) ?_
  refine wd_copy (k := 6) X hP hS (isRiver.a1 hv2) (isRiver.a1 hv) ⟨(tb_at 664 (by decide +kernel) (by decide +kernel)), ac_n, ac_s, ac_i⟩ (by decide) (by decide) (by decide) hl.1 (by decide) (Nat.le_of_ble_eq_true rfl) dX5_copyFrom_44 (fun H locs mm_5 emm_5 hP hS => ?_)
  have hf := vl hf emm_5
  refine lv_aload_n hx hb dX5_copyFrom_47 rfl (lv_at hl 1 rfl) ?_
  refine wd_getR (q := v2 + 2) X hP (isRiver.a0 hv2) fl_X5_15 rfl dX5_copyFrom_48 ?_
  refine lv_iconst (v := 0) hx hb dX5_copyFrom_51 (by decide) ?_
  refine lv_aload_n hx hb dX5_copyFrom_52 rfl (lv_at hl 0 rfl) ?_
  refine wd_getR (q := v + 2) X hP (isRiver.a0 hv) fl_X5_15 rfl dX5_copyFrom_53 ?_
  refine lv_iconst (v := 0) hx hb dX5_copyFrom_56 (by decide) ?_
  refine lv_bipush (v := 6) hx hb dX5_copyFrom_57 (by decide) ?_
  refine wd_copy (k := 6) X hP hS (isRiver.a2 hv2) (isRiver.a2 hv) ⟨(tb_at 664 (by decide +kernel) (by decide +kernel)), ac_n, ac_s, ac_i⟩ (by decide) (by decide) (by decide) hl.1 (by decide) (Nat.le_of_ble_eq_true rfl) dX5_copyFrom_59 (fun H locs mm_6 emm_6 hP hS => ?_)
  have hf := vl hf emm_6
  refine lv_aload_n hx hb dX5_copyFrom_62 rfl (lv_at hl 1 rfl) ?_
  refine wd_getR (q := v2 + 3) X hP (isRiver.a0 hv2) fl_X5_18 rfl dX5_copyFrom_63 ?_
  refine lv_iconst (v := 0) hx hb dX5_copyFrom_66 (by decide) ?_
  refine lv_aload_n hx hb dX5_copyFrom_67 rfl (lv_at hl 0 rfl) ?_
  refine wd_getR (q := v + 3) X hP (isRiver.a0 hv) fl_X5_18 rfl dX5_copyFrom_68 ?_
  refine lv_iconst (v := 0) hx hb dX5_copyFrom_71 (by decide) ?_
  refine lv_bipush (v := 8) hx hb dX5_copyFrom_72 (by decide) ?_
  refine wd_copy (k := 8) X hP hS (isRiver.a3 hv2) (isRiver.a3 hv) ⟨(tb_at 664 (by decide +kernel) (by decide +kernel)), ac_n, ac_s, ac_i⟩ (by decide) (by decide) (by decide) hl.1 (by decide) (Nat.le_of_ble_eq_true rfl) dX5_copyFrom_74 (fun H locs mm_7 emm_7 hP hS => ?_)
  have hf := vl hf emm_7
  refine lv_aload_n hx hb dX5_copyFrom_77 rfl (lv_at hl 1 rfl) ?_
  refine wd_getR (q := v2 + 4) X hP (isRiver.a0 hv2) fl_X5_21 rfl dX5_copyFrom_78 ?_
  refine lv_iconst (v := 0) hx hb dX5_copyFrom_81 (by decide) ?_
  refine lv_aload_n hx hb dX5_copyFrom_82 rfl (lv_at hl 0 rfl) ?_
  refine wd_getR (q := v + 4) X hP (isRiver.a0 hv) fl_X5_21 rfl dX5_copyFrom_83 ?_
  refine lv_iconst (v := 0) hx hb dX5_copyFrom_86 (by decide) ?_
  refine lv_bipush (v := 8) hx hb dX5_copyFrom_87 (by decide) ?_
  refine wd_copy (k := 8) X hP hS (isRiver.a4 hv2) (isRiver.a4 hv) ⟨(tb_at 664 (by decide +kernel) (by decide +kernel)), ac_n, ac_s, ac_i⟩ (by decide) (by decide) (by decide) hl.1 (by decide) (Nat.le_of_ble_eq_true rfl) dX5_copyFrom_89 (fun H locs mm_8 emm_8 hP hS => ?_)
  have hf := vl hf emm_8
  refine lv_aload_n hx hb dX5_copyFrom_92 rfl (lv_at hl 1 rfl) ?_
  refine wd_getR (q := v2 + 5) X hP (isRiver.a0 hv2) fl_X5_24 rfl dX5_copyFrom_93 ?_
  refine lv_iconst (v := 0) hx hb dX5_copyFrom_96 (by decide) ?_
  refine lv_aload_n hx hb dX5_copyFrom_97 rfl (lv_at hl 0 rfl) ?_
  refine wd_getR (q := v + 5) X hP (isRiver.a0 hv) fl_X5_24 rfl dX5_copyFrom_98 ?_
  refine lv_iconst (v := 0) hx hb dX5_copyFrom_101 (by decide) ?_
  refine lv_bipush (v := 100) hx hb dX5_copyFrom_102 (by decide) ?_
  refine wd_copy (k := 100) X hP hS (isRiver.a5 hv2) (isRiver.a5 hv) ⟨(tb_at 664 (by decide +kernel) (by decide +kernel)), ac_n, ac_s, ac_i⟩ (by decide) (by decide) (by decide) hl.1 (by decide) (Nat.le_of_ble_eq_true rfl) dX5_copyFrom_104 (fun H locs mm_9 emm_9 hP hS => ?_)
  have hf := vl hf emm_9
  obtain rfl := Option.some.inj hf
  exact wd_vret X hP hS hr0 dX5_copyFrom_107 ⟨rfl, rfl⟩

noncomputable def f_X10_open (mm : Mm) : Option (Mm) :=
  vlet (wI mm 1 2 (0 : Int32)) fun mm_1 =>
    vlet (wI mm_1 1 3 (0 : Int32)) fun mm_2 => vlet (wI mm_2 1 4 (0 : Int32)) fun mm_3 => some mm_3
set_option maxHeartbeats 4000000 in
set_option maxRecDepth 100000 in
theorem c_X10_open (l : Launch) (D : va_G) (dA : Nat → ClassId) (zz : (Nat → Nat) × (Nat → Nat)) (bs : Nat) (mm : Mm) (m1 : Mm) (hf : f_X10_open mm = some m1) : Mw l D dA zz bs LY yX10_open cX10_open 1 none 0 0 [.ref (bs + 1)] mm none m1 := by
  refine Mw.of (own := RX10) (by decide) rfl (Nat.le_of_ble_eq_true rfl) ?_
  intro p e s m args below meth c X hr0 hP hS ls hl
  have hx := X.1
  have hb := X.2.1
  obtain ⟨H, hH⟩ : ∃ z : Heap, z = s.heap := ⟨_, rfl⟩
  obtain ⟨locs, hL⟩ : ∃ z : List Loc, z = [] := ⟨_, rfl⟩
  rw [← hH, ← hL]
  have hS : va_S (Aq bs) s.heap H locs := by rw [hH, hL]; exact hS
  have hP : Wd D dA bs LY mm H := by rw [hH]; exact hP
  have hl : lv_has ls 1 [(0, .ref (bs + 1))] := hl
  unfold f_X10_open at hf
  refine lv_aload_n hx hb dX10_open_0 rfl (lv_at hl 0 rfl) ?_
  refine lv_iconst (v := 0) hx hb dX10_open_1 (by decide) ?_
  refine wd_putI X hP hS L1 fp_X10_19 rfl dX10_open_2 (fun H locs mm_1 emm_1 hP hS => ?_)
  have hf := vl hf emm_1
  refine lv_aload_n hx hb dX10_open_5 rfl (lv_at hl 0 rfl) ?_
  refine lv_iconst (v := 0) hx hb dX10_open_6 (by decide) ?_
  refine wd_putI X hP hS L1 fp_X10_22 rfl dX10_open_7 (fun H locs mm_2 emm_2 hP hS => ?_)
  have hf := vl hf emm_2
  refine lv_aload_n hx hb dX10_open_10 rfl (lv_at hl 0 rfl) ?_
  refine lv_iconst (v := 0) hx hb dX10_open_11 (by decide) ?_
  refine wd_putI X hP hS L1 fp_X10_25 rfl dX10_open_12 (fun H locs mm_3 emm_3 hP hS => ?_)
  have hf := vl hf emm_3
  obtain rfl := Option.some.inj hf
  exact wd_vret X hP hS hr0 dX10_open_15 ⟨rfl, rfl⟩

noncomputable def f_X10_next_s0  : (Mm) → Option ((Mm) ⊕ (Mm)) :=
  fun (mm : Mm) =>
    if (mm.1 1 1) ≤ (mm.1 1 2) then
      some (.inr mm)
    else
      if (mm.1 1 2) < 0 ∨ 400 ≤ (mm.1 1 2).toNatClampNeg then none else
        if (mm.1 2 (mm.1 1 2).toNatClampNeg) = (32 : Int32) then
          vlet (wI mm 1 2 ((mm.1 1 2) + (1 : Int32))) fun mm_4 => some (.inl mm_4)
        else
          some (.inr mm)
noncomputable def f_X10_next (mm : Mm) : Option (Int32 × Mm) :=
  bi1 (lp (f_X10_next_s0) mm) fun mm_6 =>
    if (mm_6.1 1 1) ≤ (mm_6.1 1 2) then
      some ((-1 : Int32), mm_6)
    else
      if (mm_6.1 1 2) < 0 ∨ 400 ≤ (mm_6.1 1 2).toNatClampNeg then none else
        some (((mm_6.1 2 (mm_6.1 1 2).toNatClampNeg) &&& (255 : Int32)), mm_6)
set_option maxHeartbeats 4000000 in
set_option maxRecDepth 100000 in
theorem c_X10_next (l : Launch) (D : va_G) (dA : Nat → ClassId) (zz : (Nat → Nat) × (Nat → Nat)) (bs : Nat) (mm : Mm) (out : Int32) (m1 : Mm) (hf : f_X10_next mm = some (out, m1)) : Mw l D dA zz bs LY yX10_next cX10_next 1 (some .int) 0 0 [.ref (bs + 1)] mm (some (.int out)) m1 := by
  refine Mw.of (own := RX10) (by decide) rfl (Nat.le_of_ble_eq_true rfl) ?_
  intro p e s m args below meth c X hr0 hP hS ls hl
  have hx := X.1
  have hb := X.2.1
  obtain ⟨H, hH⟩ : ∃ z : Heap, z = s.heap := ⟨_, rfl⟩
  obtain ⟨locs, hL⟩ : ∃ z : List Loc, z = [] := ⟨_, rfl⟩
  rw [← hH, ← hL]
  have hS : va_S (Aq bs) s.heap H locs := by rw [hH, hL]; exact hS
  have hP : Wd D dA bs LY mm H := by rw [hH]; exact hP
  have hl : lv_has ls 1 [(0, .ref (bs + 1))] := hl
  unfold f_X10_next at hf
  obtain ⟨q_9, hlp_10, hf⟩ := bi1S hf
  refine lp_walk (Wh := (fun mmL_5 => ∀ (H : Heap) (locs : List Loc) (ls : Array Slot), Wd D dA bs LY mmL_5 H → va_S (Aq bs) s.heap H locs → lv_has ls 1 [(0, .ref (bs + 1))] → Wz p l e s m args below meth c D dA bs (some (.int out)) m1 0 0 H locs 0 ls [])) (Ph := (fun mm_6 => ∀ (H : Heap) (locs : List Loc) (ls : Array Slot), Wd D dA bs LY mm_6 H → va_S (Aq bs) s.heap H locs → lv_has ls 1 [(0, .ref (bs + 1))] → Wz p l e s m args below meth c D dA bs (some (.int out)) m1 0 0 H locs 38 ls [])) ?_ hlp_10 ?_ H locs ls hP hS (lv_sub hl [0] rfl)
  · intro mmL_5 o hf hB hE
    intro H locs ls hP hS hl
    have hf : f_X10_next_s0 mmL_5 = some o := hf
    unfold f_X10_next_s0 at hf
    refine lv_aload_n hx hb dX10_next_0 rfl (lv_at hl 0 rfl) ?_
    refine wd_getI X hP L1 fl_X10_19 rfl dX10_next_1 ?_
    refine lv_aload_n hx hb dX10_next_4 rfl (lv_at hl 0 rfl) ?_
    refine wd_getI X hP L1 fl_X10_15 rfl dX10_next_5 ?_
    refine lv_icmp_ge (tgt := 38) hx hb dX10_next_8 (by decide) (fun c_1 => ?_) (fun c_1 => ?_)
    · have hf := itT hf c_1
      obtain rfl := Option.some.inj hf
      exact hE _ rfl H locs ls hP hS (lv_sub hl [0] rfl)
    · have hf := itF hf c_1
      refine lv_aload_n hx hb dX10_next_11 rfl (lv_at hl 0 rfl) ?_
      refine wd_getR (q := 2) X hP L1 fl_X10_9 rfl dX10_next_12 ?_
      refine lv_aload_n hx hb dX10_next_15 rfl (lv_at hl 0 rfl) ?_
      refine wd_getI X hP L1 fl_X10_19 rfl dX10_next_16 ?_
      have g_2 := gdN hf
      have hf := gdK hf
      refine wd_bald X hP L2 g_2 dX10_next_19 ?_
      refine lv_bipush (v := 32) hx hb dX10_next_20 (by decide) ?_
      refine lv_icmp_ne (tgt := 38) hx hb dX10_next_22 (by decide) (fun c_3 => ?_) (fun c_3 => ?_)
      · have hf := itF hf c_3
        obtain rfl := Option.some.inj hf
        exact hE _ rfl H locs ls hP hS (lv_sub hl [0] rfl)
      · have hf := itT hf c_3
        refine lv_aload_n hx hb dX10_next_25 rfl (lv_at hl 0 rfl) ?_
        refine lv_dup hx hb dX10_next_26 rfl ?_
        refine wd_getI X hP L1 fl_X10_19 rfl dX10_next_27 ?_
        refine lv_iconst (v := 1) hx hb dX10_next_30 (by decide) ?_
        refine lv_iadd hx hb dX10_next_31 ?_
        refine wd_putI X hP hS L1 fp_X10_19 rfl dX10_next_32 (fun H locs mm_4 emm_4 hP hS => ?_)
        have hf := vl hf emm_4
        refine lv_goto (tgt := 0) hx hb dX10_next_35 (by decide) ?_
        obtain rfl := Option.some.inj hf
        exact hB _ rfl H locs ls hP hS (lv_sub hl [0] rfl)
  · obtain ⟨mm_6, e_mm_6⟩ : ∃ z, z = q_9 := ⟨_, rfl⟩
    subst e_mm_6
    intro H locs ls hP hS hl
    refine lv_aload_n hx hb dX10_next_38 rfl (lv_at hl 0 rfl) ?_
    refine wd_getI X hP L1 fl_X10_19 rfl dX10_next_39 ?_
    refine lv_aload_n hx hb dX10_next_42 rfl (lv_at hl 0 rfl) ?_
    refine wd_getI X hP L1 fl_X10_15 rfl dX10_next_43 ?_
    refine lv_icmp_ge (tgt := 65) hx hb dX10_next_46 (by decide) (fun c_7 => ?_) (fun c_7 => ?_)
    · have hf := itT hf c_7
      refine lv_iconst (v := -1) hx hb dX10_next_65 (by decide) ?_
      obtain ⟨rfl, rfl⟩ := Prod.mk.inj (Option.some.inj hf)
      exact wd_iret X hP hS hr0 dX10_next_66 ⟨rfl, rfl⟩
    · have hf := itF hf c_7
      refine lv_aload_n hx hb dX10_next_49 rfl (lv_at hl 0 rfl) ?_
      refine wd_getR (q := 2) X hP L1 fl_X10_9 rfl dX10_next_50 ?_
      refine lv_aload_n hx hb dX10_next_53 rfl (lv_at hl 0 rfl) ?_
      refine wd_getI X hP L1 fl_X10_19 rfl dX10_next_54 ?_
      have g_8 := gdN hf
      have hf := gdK hf
      refine wd_bald X hP L2 g_8 dX10_next_57 ?_
      refine lv_sipush (v := 255) hx hb dX10_next_58 (by decide) ?_
      refine lv_iand hx hb dX10_next_61 ?_
      refine lv_goto (tgt := 66) hx hb dX10_next_62 (by decide) ?_
      obtain ⟨rfl, rfl⟩ := Prod.mk.inj (Option.some.inj hf)
      exact wd_iret X hP hS hr0 dX10_next_66 ⟨rfl, rfl⟩

noncomputable def f_X10_isLetter (x0 : Int32) : Int32 :=
  if x0 < (97 : Int32) then
    (0 : Int32)
  else
    if (122 : Int32) < x0 then
      (0 : Int32)
    else
      (1 : Int32)
set_option maxHeartbeats 4000000 in
set_option maxRecDepth 100000 in
theorem c_X10_isLetter (l : Launch) (D : va_G) (dA : Nat → ClassId) (zz : (Nat → Nat) × (Nat → Nat)) (bs : Nat) (mm : Mm) (x0 : Int32) (out : Int32) (hf : f_X10_isLetter x0 = out) : Mw l D dA zz bs LY yX10_isLetter cX10_isLetter 1 (some .boolean) 0 0 [.int x0] mm (some (.int out)) mm := by
  refine Mw.of (own := RX10) (by decide) rfl (Nat.le_of_ble_eq_true rfl) ?_
  intro p e s m args below meth c X hr0 hP hS ls hl
  have hx := X.1
  have hb := X.2.1
  obtain ⟨H, hH⟩ : ∃ z : Heap, z = s.heap := ⟨_, rfl⟩
  obtain ⟨locs, hL⟩ : ∃ z : List Loc, z = [] := ⟨_, rfl⟩
  rw [← hH, ← hL]
  have hS : va_S (Aq bs) s.heap H locs := by rw [hH, hL]; exact hS
  have hP : Wd D dA bs LY mm H := by rw [hH]; exact hP
  have hl : lv_has ls 1 [(0, .int x0)] := hl
  unfold f_X10_isLetter at hf
  refine lv_iload_n hx hb dX10_isLetter_0 rfl (lv_at hl 0 rfl) ?_
  refine lv_bipush (v := 97) hx hb dX10_isLetter_1 (by decide) ?_
  refine lv_icmp_lt (tgt := 16) hx hb dX10_isLetter_3 (by decide) (fun c_1 => ?_) (fun c_1 => ?_)
  · have hf := itT hf c_1
    refine lv_iconst (v := 0) hx hb dX10_isLetter_16 (by decide) ?_
    subst hf
    exact wd_zret X hP hS hr0 (by decide) dX10_isLetter_17 ⟨rfl, rfl⟩
  · have hf := itF hf c_1
    refine lv_iload_n hx hb dX10_isLetter_6 rfl (lv_at hl 0 rfl) ?_
    refine lv_bipush (v := 122) hx hb dX10_isLetter_7 (by decide) ?_
    refine lv_icmp_gt (tgt := 16) hx hb dX10_isLetter_9 (by decide) (fun c_2 => ?_) (fun c_2 => ?_)
    · have hf := itT hf c_2
      refine lv_iconst (v := 0) hx hb dX10_isLetter_16 (by decide) ?_
      subst hf
      exact wd_zret X hP hS hr0 (by decide) dX10_isLetter_17 ⟨rfl, rfl⟩
    · have hf := itF hf c_2
      refine lv_iconst (v := 1) hx hb dX10_isLetter_12 (by decide) ?_
      refine lv_goto (tgt := 17) hx hb dX10_isLetter_13 (by decide) ?_
      subst hf
      exact wd_zret X hP hS hr0 (by decide) dX10_isLetter_17 ⟨rfl, rfl⟩

noncomputable def f_X10_matches_s3 (k1 : Nat) (mm : Mm) (y2 : Int32) (y3 : Int32) : (Int32) → Option ((Int32) ⊕ ((Unit) ⊕ (Unit))) :=
  fun (y4 : Int32) =>
    if y3 ≤ y4 then
      some (.inr (.inr (())))
    else
      if (mm.1 1 1) ≤ (((mm.1 1 2) + y4) - y2) then
        some (.inr (.inl ()))
      else
        if y4 < 0 ∨ sL.getD k1 0 ≤ y4.toNatClampNeg then none else
          if (((mm.1 1 2) + y4) - y2) < 0 ∨ 400 ≤ (((mm.1 1 2) + y4) - y2).toNatClampNeg then none else
            if (sCh k1 y4) = (mm.1 2 (((mm.1 1 2) + y4) - y2).toNatClampNeg) then
              some (.inl (y4 + 1))
            else
              some (.inr (.inl ()))
noncomputable def f_X10_matches (mm : Mm) (k1 : Nat) (x2 : Int32) (x3 : Int32) : Option (Int32) :=
  bi1 (lp (f_X10_matches_s3 k1 mm x2 x3) x2) fun q => match q with
  | .inl () =>
    some (0 : Int32)
  | .inr (()) =>
    some (1 : Int32)
set_option maxHeartbeats 4000000 in
set_option maxRecDepth 100000 in
theorem c_X10_matches (l : Launch) (D : va_G) (dA : Nat → ClassId) (zz : (Nat → Nat) × (Nat → Nat)) (bs : Nat) (mm : Mm) (k1 : Nat) (hk1 : k1 < 24) (x2 : Int32) (x3 : Int32) (out : Int32) (hf : f_X10_matches mm k1 x2 x3 = some out) : Mw l D dA zz bs LY yX10_matches cX10_matches 6 (some .boolean) 4 85 [.ref (bs + 1), .ref (zz.1 k1), .int x2, .int x3] mm (some (.int out)) mm := by
  refine Mw.of (own := RX10) (by decide) rfl (Nat.le_of_ble_eq_true rfl) ?_
  intro p e s m args below meth c X hr0 hP hS ls hl
  have hx := X.1
  have hb := X.2.1
  obtain ⟨H, hH⟩ : ∃ z : Heap, z = s.heap := ⟨_, rfl⟩
  obtain ⟨locs, hL⟩ : ∃ z : List Loc, z = [] := ⟨_, rfl⟩
  rw [← hH, ← hL]
  have hS : va_S (Aq bs) s.heap H locs := by rw [hH, hL]; exact hS
  have hP : Wd D dA bs LY mm H := by rw [hH]; exact hP
  have hl : lv_has ls 6 [(0, .ref (bs + 1)), (1, .ref (zz.1 k1)), (2, .int x2), (3, .int x3)] := hl
  unfold f_X10_matches at hf
  refine lv_iload_n hx hb dX10_matches_0 rfl (lv_at hl 2 rfl) ?_
  refine lv_istore (lv' := [(4, .int x2), (0, .ref (bs + 1)), (1, .ref (zz.1 k1)), (2, .int x2), (3, .int x3)]) hx hb dX10_matches_1 hl (by decide) rfl (fun ls hl => ?_)
  obtain ⟨q_7, hlp_8, hf⟩ := bi1S hf
  refine lp_walk (Wh := (fun y4L_6 => ∀ (H : Heap) (locs : List Loc) (ls : Array Slot), Wd D dA bs LY mm H → va_S (Aq bs) s.heap H locs → lv_has ls 6 [(0, .ref (bs + 1)), (1, .ref (zz.1 k1)), (2, .int x2), (3, .int x3), (4, .int y4L_6)] → Wz p l e s m args below meth c D dA bs (some (.int out)) mm 4 85 H locs 3 ls [])) (Ph := (fun z => match z with | .inl () => ∀ (H : Heap) (locs : List Loc) (ls : Array Slot), Wd D dA bs LY mm H → va_S (Aq bs) s.heap H locs → lv_has ls 6 [] → Wz p l e s m args below meth c D dA bs (some (.int out)) mm 4 85 H locs 45 ls [] | .inr (()) => ∀ (H : Heap) (locs : List Loc) (ls : Array Slot), Wd D dA bs LY mm H → va_S (Aq bs) s.heap H locs → lv_has ls 6 [] → Wz p l e s m args below meth c D dA bs (some (.int out)) mm 4 85 H locs 53 ls [])) ?_ hlp_8 ?_ H locs ls hP hS (lv_sub hl [1, 2, 3, 4, 0] rfl)
  · intro y4L_6 o hf hB hE
    intro H locs ls hP hS hl
    have hf : f_X10_matches_s3 k1 mm x2 x3 y4L_6 = some o := hf
    unfold f_X10_matches_s3 at hf
    refine lv_iload hx hb dX10_matches_3 (lv_at hl 4 rfl) ?_
    refine lv_iload_n hx hb dX10_matches_5 rfl (lv_at hl 3 rfl) ?_
    refine lv_icmp_ge (tgt := 53) hx hb dX10_matches_6 (by decide) (fun c_1 => ?_) (fun c_1 => ?_)
    · have hf := itT hf c_1
      obtain rfl := Option.some.inj hf
      exact hE _ rfl H locs ls hP hS (lv_sub hl [] rfl)
    · have hf := itF hf c_1
      refine lv_aload_n hx hb dX10_matches_9 rfl (lv_at hl 0 rfl) ?_
      refine wd_getI X hP L1 fl_X10_19 rfl dX10_matches_10 ?_
      refine lv_iload hx hb dX10_matches_13 (lv_at hl 4 rfl) ?_
      refine lv_iadd hx hb dX10_matches_15 ?_
      refine lv_iload_n hx hb dX10_matches_16 rfl (lv_at hl 2 rfl) ?_
      refine lv_isub hx hb dX10_matches_17 ?_
      refine lv_istore (lv' := [(5, .int (((mm.1 1 2) + y4L_6) - x2)), (0, .ref (bs + 1)), (1, .ref (zz.1 k1)), (2, .int x2), (3, .int x3), (4, .int y4L_6)]) hx hb dX10_matches_18 hl (by decide) rfl (fun ls hl => ?_)
      refine lv_iload hx hb dX10_matches_20 (lv_at hl 0 rfl) ?_
      refine lv_aload_n hx hb dX10_matches_22 rfl (lv_at hl 1 rfl) ?_
      refine wd_getI X hP L1 fl_X10_15 rfl dX10_matches_23 ?_
      refine lv_icmp_ge (tgt := 45) hx hb dX10_matches_26 (by decide) (fun c_2 => ?_) (fun c_2 => ?_)
      · have hf := itT hf c_2
        obtain rfl := Option.some.inj hf
        exact hE _ rfl H locs ls hP hS (lv_sub hl [] rfl)
      · have hf := itF hf c_2
        refine lv_aload_n hx hb dX10_matches_29 rfl (lv_at hl 2 rfl) ?_
        refine lv_iload hx hb dX10_matches_30 (lv_at hl 5 rfl) ?_
        have g_3 := gdN hf
        have hf := gdK hf
        refine wd_cr X hP hS (vk_recv X.2.2.2.2.2.2.1.1 hk1 hS) ml_X10_47 (c_charAt l D dA zz bs mm hk1 g_3) rfl ⟨Nat.le_of_ble_eq_true rfl, Nat.le_of_ble_eq_true rfl⟩ hl.1 rfl (rest := []) (Nat.le_of_ble_eq_true rfl) ⟨Nat.zero_le _, Nat.zero_le _⟩ dX10_matches_32 (fun H locs hP hS => ?_)
        refine W.eq (g2 := F0 m 35 ls [.int (sCh k1 y4L_6)]) rfl ?_
        refine lv_aload_n hx hb dX10_matches_35 rfl (lv_at hl 1 rfl) ?_
        refine wd_getR (q := 2) X hP L1 fl_X10_9 rfl dX10_matches_36 ?_
        refine lv_iload hx hb dX10_matches_39 (lv_at hl 0 rfl) ?_
        have g_4 := gdN hf
        have hf := gdK hf
        refine wd_bald X hP L2 g_4 dX10_matches_41 ?_
        refine lv_icmp_eq (tgt := 47) hx hb dX10_matches_42 (by decide) (fun c_5 => ?_) (fun c_5 => ?_)
        · have hf := itT hf c_5
          refine lv_iinc (v := (y4L_6 + 1)) (lv' := [(4, .int (y4L_6 + 1)), (5, .int (((mm.1 1 2) + y4L_6) - x2)), (0, .ref (bs + 1)), (1, .ref (zz.1 k1)), (2, .int x2), (3, .int x3)]) hx hb dX10_matches_47 hl (k := 5) rfl rfl (by decide) rfl (fun ls hl => ?_)
          refine lv_goto (tgt := 3) hx hb dX10_matches_50 (by decide) ?_
          obtain rfl := Option.some.inj hf
          exact hB _ rfl H locs ls hP hS (lv_sub hl [2, 3, 4, 5, 0] rfl)
        · have hf := itF hf c_5
          obtain rfl := Option.some.inj hf
          exact hE _ rfl H locs ls hP hS (lv_sub hl [] rfl)
  · rcases q_7 with ⟨⟩ | ⟨⟩
    · dsimp only at hf
      intro H locs ls hP hS hl
      refine lv_iconst (v := 0) hx hb dX10_matches_45 (by decide) ?_
      obtain rfl := Option.some.inj hf
      exact wd_zret X hP hS hr0 (by decide) dX10_matches_46 ⟨rfl, rfl⟩
    · dsimp only at hf
      intro H locs ls hP hS hl
      refine lv_iconst (v := 1) hx hb dX10_matches_53 (by decide) ?_
      obtain rfl := Option.some.inj hf
      exact wd_zret X hP hS hr0 (by decide) dX10_matches_54 ⟨rfl, rfl⟩

noncomputable def f_X10_wordAmong_s10 (k1 : Nat) (mm : Mm) : (Int32) → Option ((Int32) ⊕ (Int32)) :=
  fun (y2 : Int32) =>
    if (mm.1 1 1) ≤ y2 then
      some (.inr y2)
    else
      if y2 < 0 ∨ 400 ≤ y2.toNatClampNeg then none else
        if (f_X10_isLetter (mm.1 2 y2.toNatClampNeg)) = 0 then
          some (.inr y2)
        else
          some (.inl (y2 + 1))
noncomputable def f_X10_wordAmong_j117 (k1 : Nat) (mm : Mm) (y2 : Int32) (y3 : Int32) (y5 : Int32) : Option ((Int32 × Int32 × Int32) ⊕ ((Int32) ⊕ (Unit))) :=
  some (.inl ((y3 + 1), (y5 + (1 : Int32)), (y5 + 1)))
noncomputable def f_X10_wordAmong_j76 (k1 : Nat) (mm : Mm) (y2 : Int32) (y3 : Int32) (y4 : Int32) (y5 : Int32) : Option ((Int32 × Int32 × Int32) ⊕ ((Int32) ⊕ (Unit))) :=
  if (y5 - y4) = (y2 - (mm.1 1 2)) then
    bi1 (f_X10_matches mm k1 y4 y5) fun r_12 =>
      if r_12 = 0 then
        f_X10_wordAmong_j117 k1 mm y2 y3 y5
      else
        some (.inr (.inl y3))
  else
    f_X10_wordAmong_j117 k1 mm y2 y3 y5
noncomputable def f_X10_wordAmong_s44 (k1 : Nat) (mm : Mm) (y2 : Int32) : (Int32 × Int32 × Int32) → Option ((Int32 × Int32 × Int32) ⊕ ((Int32) ⊕ (Unit))) :=
  fun q => match q with
  | (y3, y4, y5) =>
    if (sLn k1) < y5 then
      some (.inr (.inr (())))
    else
      if (sLn k1) ≤ y5 then
        f_X10_wordAmong_j76 k1 mm y2 y3 y4 y5
      else
        if y5 < 0 ∨ sL.getD k1 0 ≤ y5.toNatClampNeg then none else
          if (sCh k1 y5) = (32 : Int32) then
            f_X10_wordAmong_j76 k1 mm y2 y3 y4 y5
          else
            some (.inl (y3, y4, (y5 + 1)))
noncomputable def f_X10_wordAmong (mm : Mm) (k1 : Nat) : Option (Int32 × Mm) :=
  bi2 (f_X10_next mm) fun r_3 mm_1 =>
    bi1 (lp (f_X10_wordAmong_s10 k1 mm_1) (mm_1.1 1 2)) fun w2_8 =>
      bi1 (lp (f_X10_wordAmong_s44 k1 mm_1 w2_8) ((0 : Int32), (0 : Int32), (0 : Int32))) fun q => match q with
      | .inl w3_20 =>
        vlet (wI mm_1 1 3 (mm_1.1 1 2)) fun mm_21 => vlet (wI mm_21 1 2 w2_8) fun mm_22 => some (w3_20, mm_22)
      | .inr (()) =>
        some ((-1 : Int32), mm_1)
set_option maxHeartbeats 4000000 in
set_option maxRecDepth 100000 in
theorem c_X10_wordAmong (l : Launch) (D : va_G) (dA : Nat → ClassId) (zz : (Nat → Nat) × (Nat → Nat)) (bs : Nat) (mm : Mm) (k1 : Nat) (hk1 : k1 < 24) (out : Int32) (m1 : Mm) (hf : f_X10_wordAmong mm k1 = some (out, m1)) : Mw l D dA zz bs LY yX10_wordAmong cX10_wordAmong 6 (some .int) 5 110 [.ref (bs + 1), .ref (zz.1 k1)] mm (some (.int out)) m1 := by
  refine Mw.of (own := RX10) (by decide) rfl (Nat.le_of_ble_eq_true rfl) ?_
  intro p e s m args below meth c X hr0 hP hS ls hl
  have hx := X.1
  have hb := X.2.1
  obtain ⟨H, hH⟩ : ∃ z : Heap, z = s.heap := ⟨_, rfl⟩
  obtain ⟨locs, hL⟩ : ∃ z : List Loc, z = [] := ⟨_, rfl⟩
  rw [← hH, ← hL]
  have hS : va_S (Aq bs) s.heap H locs := by rw [hH, hL]; exact hS
  have hP : Wd D dA bs LY mm H := by rw [hH]; exact hP
  have hl : lv_has ls 6 [(0, .ref (bs + 1)), (1, .ref (zz.1 k1))] := hl
  unfold f_X10_wordAmong at hf
  refine lv_aload_n hx hb dX10_wordAmong_0 rfl (lv_at hl 0 rfl) ?_
  obtain ⟨r_3, mm_1, hc_2, hf⟩ := bi2S hf
  refine wd_cv X hP hS L1 ml_X10_28 ⟨_, _, rfl⟩ (c_X10_next l D dA zz bs mm r_3 mm_1 hc_2) rfl ⟨Nat.le_of_ble_eq_true rfl, Nat.le_of_ble_eq_true rfl⟩ hl.1 rfl (rest := []) (Nat.le_of_ble_eq_true rfl) ⟨Nat.zero_le _, Nat.zero_le _⟩ dX10_wordAmong_1 (fun H locs hP hS => ?_)
  refine W.eq (g2 := F0 m 4 ls [.int r_3]) rfl ?_
  refine lv_pop hx hb dX10_wordAmong_4 rfl ?_
  refine lv_aload_n hx hb dX10_wordAmong_5 rfl (lv_at hl 0 rfl) ?_
  refine wd_getI X hP L1 fl_X10_19 rfl dX10_wordAmong_6 ?_
  refine lv_istore_n (lv' := [(2, .int (mm_1.1 1 2)), (0, .ref (bs + 1)), (1, .ref (zz.1 k1))]) hx hb dX10_wordAmong_9 rfl hl (by decide) rfl (fun ls hl => ?_)
  obtain ⟨q_25, hlp_26, hf⟩ := bi1S hf
  refine lp_walk (Wh := (fun y2L_7 => ∀ (H : Heap) (locs : List Loc) (ls : Array Slot), Wd D dA bs LY mm_1 H → va_S (Aq bs) s.heap H locs → lv_has ls 6 [(0, .ref (bs + 1)), (1, .ref (zz.1 k1)), (2, .int y2L_7)] → Wz p l e s m args below meth c D dA bs (some (.int out)) m1 5 110 H locs 10 ls [])) (Ph := (fun w2_8 => ∀ (H : Heap) (locs : List Loc) (ls : Array Slot), Wd D dA bs LY mm_1 H → va_S (Aq bs) s.heap H locs → lv_has ls 6 [(0, .ref (bs + 1)), (1, .ref (zz.1 k1)), (2, .int w2_8)] → Wz p l e s m args below meth c D dA bs (some (.int out)) m1 5 110 H locs 36 ls [])) ?_ hlp_26 ?_ H locs ls hP hS (lv_sub hl [1, 2, 0] rfl)
  · intro y2L_7 o hf hB hE
    intro H locs ls hP hS hl
    have hf : f_X10_wordAmong_s10 k1 mm_1 y2L_7 = some o := hf
    unfold f_X10_wordAmong_s10 at hf
    refine lv_iload_n hx hb dX10_wordAmong_10 rfl (lv_at hl 2 rfl) ?_
    refine lv_aload_n hx hb dX10_wordAmong_11 rfl (lv_at hl 0 rfl) ?_
    refine wd_getI X hP L1 fl_X10_15 rfl dX10_wordAmong_12 ?_
    refine lv_icmp_ge (tgt := 36) hx hb dX10_wordAmong_15 (by decide) (fun c_4 => ?_) (fun c_4 => ?_)
    · have hf := itT hf c_4
      obtain rfl := Option.some.inj hf
      exact hE _ rfl H locs ls hP hS (lv_sub hl [0, 1, 2] rfl)
    · have hf := itF hf c_4
      refine lv_aload_n hx hb dX10_wordAmong_18 rfl (lv_at hl 0 rfl) ?_
      refine wd_getR (q := 2) X hP L1 fl_X10_9 rfl dX10_wordAmong_19 ?_
      refine lv_iload_n hx hb dX10_wordAmong_22 rfl (lv_at hl 2 rfl) ?_
      have g_5 := gdN hf
      have hf := gdK hf
      refine wd_bald X hP L2 g_5 dX10_wordAmong_23 ?_
      refine wd_cs X hP hS ml_X10_40 (c_X10_isLetter l D dA zz bs mm_1 (mm_1.1 2 y2L_7.toNatClampNeg) (f_X10_isLetter (mm_1.1 2 y2L_7.toNatClampNeg)) rfl) rfl ⟨Nat.le_of_ble_eq_true rfl, Nat.le_of_ble_eq_true rfl⟩ hl.1 rfl (rest := []) (Nat.le_of_ble_eq_true rfl) ⟨Nat.zero_le _, Nat.zero_le _⟩ dX10_wordAmong_24 (fun H locs hP hS => ?_)
      refine W.eq (g2 := F0 m 27 ls [.int (f_X10_isLetter (mm_1.1 2 y2L_7.toNatClampNeg))]) rfl ?_
      refine lv_if_eq (tgt := 36) hx hb dX10_wordAmong_27 (by decide) (fun c_6 => ?_) (fun c_6 => ?_)
      · have hf := itT hf c_6
        obtain rfl := Option.some.inj hf
        exact hE _ rfl H locs ls hP hS (lv_sub hl [0, 1, 2] rfl)
      · have hf := itF hf c_6
        refine lv_iinc (v := (y2L_7 + 1)) (lv' := [(2, .int (y2L_7 + 1)), (0, .ref (bs + 1)), (1, .ref (zz.1 k1))]) hx hb dX10_wordAmong_30 hl (k := 2) rfl rfl (by decide) rfl (fun ls hl => ?_)
        refine lv_goto (tgt := 10) hx hb dX10_wordAmong_33 (by decide) ?_
        obtain rfl := Option.some.inj hf
        exact hB _ rfl H locs ls hP hS (lv_sub hl [1, 2, 0] rfl)
  · obtain ⟨w2_8, e_w2_8⟩ : ∃ z, z = q_25 := ⟨_, rfl⟩
    subst e_w2_8
    intro H locs ls hP hS hl
    refine lv_iconst (v := 0) hx hb dX10_wordAmong_36 (by decide) ?_
    refine lv_istore_n (lv' := [(3, .int (0 : Int32)), (0, .ref (bs + 1)), (1, .ref (zz.1 k1)), (2, .int w2_8)]) hx hb dX10_wordAmong_37 rfl hl (by decide) rfl (fun ls hl => ?_)
    refine lv_iconst (v := 0) hx hb dX10_wordAmong_38 (by decide) ?_
    refine lv_istore (lv' := [(4, .int (0 : Int32)), (3, .int (0 : Int32)), (0, .ref (bs + 1)), (1, .ref (zz.1 k1)), (2, .int w2_8)]) hx hb dX10_wordAmong_39 hl (by decide) rfl (fun ls hl => ?_)
    refine lv_iconst (v := 0) hx hb dX10_wordAmong_41 (by decide) ?_
    refine lv_istore (lv' := [(5, .int (0 : Int32)), (4, .int (0 : Int32)), (3, .int (0 : Int32)), (0, .ref (bs + 1)), (1, .ref (zz.1 k1)), (2, .int w2_8)]) hx hb dX10_wordAmong_42 hl (by decide) rfl (fun ls hl => ?_)
    obtain ⟨q_23, hlp_24, hf⟩ := bi1S hf
    refine lp_walk (Wh := (fun z => match z with | (y3L_19, y4L_19, y5L_19) => ∀ (H : Heap) (locs : List Loc) (ls : Array Slot), Wd D dA bs LY mm_1 H → va_S (Aq bs) s.heap H locs → lv_has ls 6 [(0, .ref (bs + 1)), (1, .ref (zz.1 k1)), (2, .int w2_8), (3, .int y3L_19), (4, .int y4L_19), (5, .int y5L_19)] → Wz p l e s m args below meth c D dA bs (some (.int out)) m1 5 110 H locs 44 ls [])) (Ph := (fun z => match z with | .inl w3_20 => ∀ (H : Heap) (locs : List Loc) (ls : Array Slot), Wd D dA bs LY mm_1 H → va_S (Aq bs) s.heap H locs → lv_has ls 6 [(0, .ref (bs + 1)), (2, .int w2_8), (3, .int w3_20)] → Wz p l e s m args below meth c D dA bs (some (.int out)) m1 5 110 H locs 102 ls [] | .inr (()) => ∀ (H : Heap) (locs : List Loc) (ls : Array Slot), Wd D dA bs LY mm_1 H → va_S (Aq bs) s.heap H locs → lv_has ls 6 [] → Wz p l e s m args below meth c D dA bs (some (.int out)) m1 5 110 H locs 132 ls [])) ?_ hlp_24 ?_ H locs ls hP hS (lv_sub hl [3, 4, 5, 2, 1, 0] rfl)
    · intro z o hf hB hE
      obtain ⟨y3L_19, y4L_19, y5L_19⟩ := z
      intro H locs ls hP hS hl
      have hf : f_X10_wordAmong_s44 k1 mm_1 w2_8 (y3L_19, y4L_19, y5L_19) = some o := hf
      unfold f_X10_wordAmong_s44 at hf
      dsimp only at hf
      have hJ117 : ∀ (y3J_9 : Int32) (y5J_9 : Int32) (H : Heap) (locs : List Loc) (ls : Array Slot), f_X10_wordAmong_j117 k1 mm_1 w2_8 y3J_9 y5J_9 = some o → Wd D dA bs LY mm_1 H → va_S (Aq bs) s.heap H locs → lv_has ls 6 [(0, .ref (bs + 1)), (1, .ref (zz.1 k1)), (2, .int w2_8), (3, .int y3J_9), (5, .int y5J_9)] → Wz p l e s m args below meth c D dA bs (some (.int out)) m1 5 110 H locs 117 ls [] := by
        intro y3J_9 y5J_9 H locs ls hf hP hS hl
        unfold f_X10_wordAmong_j117 at hf
        refine lv_iinc (v := (y3J_9 + 1)) (lv' := [(3, .int (y3J_9 + 1)), (0, .ref (bs + 1)), (1, .ref (zz.1 k1)), (2, .int w2_8), (5, .int y5J_9)]) hx hb dX10_wordAmong_117 hl (k := 3) rfl rfl (by decide) rfl (fun ls hl => ?_)
        refine lv_iload hx hb dX10_wordAmong_120 (lv_at hl 4 rfl) ?_
        refine lv_iconst (v := 1) hx hb dX10_wordAmong_122 (by decide) ?_
        refine lv_iadd hx hb dX10_wordAmong_123 ?_
        refine lv_istore (lv' := [(4, .int (y5J_9 + (1 : Int32))), (3, .int (y3J_9 + 1)), (0, .ref (bs + 1)), (1, .ref (zz.1 k1)), (2, .int w2_8), (5, .int y5J_9)]) hx hb dX10_wordAmong_124 hl (by decide) rfl (fun ls hl => ?_)
        refine lv_iinc (v := (y5J_9 + 1)) (lv' := [(5, .int (y5J_9 + 1)), (4, .int (y5J_9 + (1 : Int32))), (3, .int (y3J_9 + 1)), (0, .ref (bs + 1)), (1, .ref (zz.1 k1)), (2, .int w2_8)]) hx hb dX10_wordAmong_126 hl (k := 5) rfl rfl (by decide) rfl (fun ls hl => ?_)
        refine lv_goto (tgt := 44) hx hb dX10_wordAmong_129 (by decide) ?_
        obtain rfl := Option.some.inj hf
        exact hB _ rfl H locs ls hP hS (lv_sub hl [3, 4, 5, 2, 1, 0] rfl)
      have hJ76 : ∀ (y3J_14 : Int32) (y4J_14 : Int32) (y5J_14 : Int32) (H : Heap) (locs : List Loc) (ls : Array Slot), f_X10_wordAmong_j76 k1 mm_1 w2_8 y3J_14 y4J_14 y5J_14 = some o → Wd D dA bs LY mm_1 H → va_S (Aq bs) s.heap H locs → lv_has ls 6 [(0, .ref (bs + 1)), (1, .ref (zz.1 k1)), (2, .int w2_8), (3, .int y3J_14), (4, .int y4J_14), (5, .int y5J_14)] → Wz p l e s m args below meth c D dA bs (some (.int out)) m1 5 110 H locs 76 ls [] := by
        intro y3J_14 y4J_14 y5J_14 H locs ls hf hP hS hl
        unfold f_X10_wordAmong_j76 at hf
        refine lv_iload hx hb dX10_wordAmong_76 (lv_at hl 5 rfl) ?_
        refine lv_iload hx hb dX10_wordAmong_78 (lv_at hl 4 rfl) ?_
        refine lv_isub hx hb dX10_wordAmong_80 ?_
        refine lv_iload_n hx hb dX10_wordAmong_81 rfl (lv_at hl 2 rfl) ?_
        refine lv_aload_n hx hb dX10_wordAmong_82 rfl (lv_at hl 0 rfl) ?_
        refine wd_getI X hP L1 fl_X10_19 rfl dX10_wordAmong_83 ?_
        refine lv_isub hx hb dX10_wordAmong_86 ?_
        refine lv_icmp_ne (tgt := 117) hx hb dX10_wordAmong_87 (by decide) (fun c_10 => ?_) (fun c_10 => ?_)
        · have hf := itF hf c_10
          exact hJ117 y3J_14 y5J_14 H locs ls hf hP hS (lv_sub hl [0, 1, 2, 3, 5] rfl)
        · have hf := itT hf c_10
          refine lv_aload_n hx hb dX10_wordAmong_90 rfl (lv_at hl 0 rfl) ?_
          refine lv_aload_n hx hb dX10_wordAmong_91 rfl (lv_at hl 1 rfl) ?_
          refine lv_iload hx hb dX10_wordAmong_92 (lv_at hl 4 rfl) ?_
          refine lv_iload hx hb dX10_wordAmong_94 (lv_at hl 5 rfl) ?_
          obtain ⟨r_12, hc_11, hf⟩ := bi1S hf
          refine wd_cv X hP hS L1 ml_X10_51 ⟨_, _, rfl⟩ (c_X10_matches l D dA zz bs mm_1 k1 hk1 y4J_14 y5J_14 r_12 hc_11) rfl ⟨Nat.le_of_ble_eq_true rfl, Nat.le_of_ble_eq_true rfl⟩ hl.1 rfl (rest := []) (Nat.le_of_ble_eq_true rfl) ⟨Nat.zero_le _, Nat.zero_le _⟩ dX10_wordAmong_96 (fun H locs hP hS => ?_)
          refine W.eq (g2 := F0 m 99 ls [.int r_12]) rfl ?_
          refine lv_if_eq (tgt := 117) hx hb dX10_wordAmong_99 (by decide) (fun c_13 => ?_) (fun c_13 => ?_)
          · have hf := itT hf c_13
            exact hJ117 y3J_14 y5J_14 H locs ls hf hP hS (lv_sub hl [0, 1, 2, 3, 5] rfl)
          · have hf := itF hf c_13
            obtain rfl := Option.some.inj hf
            exact hE _ rfl H locs ls hP hS (lv_sub hl [0, 2, 3] rfl)
      refine lv_iload hx hb dX10_wordAmong_44 (lv_at hl 5 rfl) ?_
      refine lv_aload_n hx hb dX10_wordAmong_46 rfl (lv_at hl 1 rfl) ?_
      refine wd_cr X hP hS (vk_recv X.2.2.2.2.2.2.1.1 hk1 hS) ml_X10_43 (c_length l D dA zz bs mm_1 hk1) rfl ⟨Nat.le_of_ble_eq_true rfl, Nat.le_of_ble_eq_true rfl⟩ hl.1 rfl (rest := [.int y5L_19]) (Nat.le_of_ble_eq_true rfl) ⟨Nat.zero_le _, Nat.zero_le _⟩ dX10_wordAmong_47 (fun H locs hP hS => ?_)
      refine W.eq (g2 := F0 m 50 ls [.int (sLn k1), .int y5L_19]) rfl ?_
      refine lv_icmp_gt (tgt := 132) hx hb dX10_wordAmong_50 (by decide) (fun c_15 => ?_) (fun c_15 => ?_)
      · have hf := itT hf c_15
        obtain rfl := Option.some.inj hf
        exact hE _ rfl H locs ls hP hS (lv_sub hl [] rfl)
      · have hf := itF hf c_15
        refine lv_iload hx hb dX10_wordAmong_53 (lv_at hl 5 rfl) ?_
        refine lv_aload_n hx hb dX10_wordAmong_55 rfl (lv_at hl 1 rfl) ?_
        refine wd_cr X hP hS (vk_recv X.2.2.2.2.2.2.1.1 hk1 hS) ml_X10_43 (c_length l D dA zz bs mm_1 hk1) rfl ⟨Nat.le_of_ble_eq_true rfl, Nat.le_of_ble_eq_true rfl⟩ hl.1 rfl (rest := [.int y5L_19]) (Nat.le_of_ble_eq_true rfl) ⟨Nat.zero_le _, Nat.zero_le _⟩ dX10_wordAmong_56 (fun H locs hP hS => ?_)
        refine W.eq (g2 := F0 m 59 ls [.int (sLn k1), .int y5L_19]) rfl ?_
        refine lv_icmp_ge (tgt := 76) hx hb dX10_wordAmong_59 (by decide) (fun c_16 => ?_) (fun c_16 => ?_)
        · have hf := itT hf c_16
          exact hJ76 y3L_19 y4L_19 y5L_19 H locs ls hf hP hS (lv_sub hl [0, 1, 2, 3, 4, 5] rfl)
        · have hf := itF hf c_16
          refine lv_aload_n hx hb dX10_wordAmong_62 rfl (lv_at hl 1 rfl) ?_
          refine lv_iload hx hb dX10_wordAmong_63 (lv_at hl 5 rfl) ?_
          have g_17 := gdN hf
          have hf := gdK hf
          refine wd_cr X hP hS (vk_recv X.2.2.2.2.2.2.1.1 hk1 hS) ml_X10_47 (c_charAt l D dA zz bs mm_1 hk1 g_17) rfl ⟨Nat.le_of_ble_eq_true rfl, Nat.le_of_ble_eq_true rfl⟩ hl.1 rfl (rest := []) (Nat.le_of_ble_eq_true rfl) ⟨Nat.zero_le _, Nat.zero_le _⟩ dX10_wordAmong_65 (fun H locs hP hS => ?_)
          refine W.eq (g2 := F0 m 68 ls [.int (sCh k1 y5L_19)]) rfl ?_
          refine lv_bipush (v := 32) hx hb dX10_wordAmong_68 (by decide) ?_
          refine lv_icmp_eq (tgt := 76) hx hb dX10_wordAmong_70 (by decide) (fun c_18 => ?_) (fun c_18 => ?_)
          · have hf := itT hf c_18
            exact hJ76 y3L_19 y4L_19 y5L_19 H locs ls hf hP hS (lv_sub hl [0, 1, 2, 3, 4, 5] rfl)
          · have hf := itF hf c_18
            refine lv_goto (tgt := 126) hx hb dX10_wordAmong_73 (by decide) ?_
            refine lv_iinc (v := (y5L_19 + 1)) (lv' := [(5, .int (y5L_19 + 1)), (0, .ref (bs + 1)), (1, .ref (zz.1 k1)), (2, .int w2_8), (3, .int y3L_19), (4, .int y4L_19)]) hx hb dX10_wordAmong_126 hl (k := 5) rfl rfl (by decide) rfl (fun ls hl => ?_)
            refine lv_goto (tgt := 44) hx hb dX10_wordAmong_129 (by decide) ?_
            obtain rfl := Option.some.inj hf
            exact hB _ rfl H locs ls hP hS (lv_sub hl [1, 2, 3, 4, 5, 0] rfl)
    · rcases q_23 with w3_20 | ⟨⟩
      · dsimp only at hf
        intro H locs ls hP hS hl
        refine lv_aload_n hx hb dX10_wordAmong_102 rfl (lv_at hl 0 rfl) ?_
        refine lv_aload_n hx hb dX10_wordAmong_103 rfl (lv_at hl 0 rfl) ?_
        refine wd_getI X hP L1 fl_X10_19 rfl dX10_wordAmong_104 ?_
        refine wd_putI X hP hS L1 fp_X10_22 rfl dX10_wordAmong_107 (fun H locs mm_21 emm_21 hP hS => ?_)
        have hf := vl hf emm_21
        refine lv_aload_n hx hb dX10_wordAmong_110 rfl (lv_at hl 0 rfl) ?_
        refine lv_iload_n hx hb dX10_wordAmong_111 rfl (lv_at hl 1 rfl) ?_
        refine wd_putI X hP hS L1 fp_X10_19 rfl dX10_wordAmong_112 (fun H locs mm_22 emm_22 hP hS => ?_)
        have hf := vl hf emm_22
        refine lv_iload_n hx hb dX10_wordAmong_115 rfl (lv_at hl 2 rfl) ?_
        obtain ⟨rfl, rfl⟩ := Prod.mk.inj (Option.some.inj hf)
        exact wd_iret X hP hS hr0 dX10_wordAmong_116 ⟨rfl, rfl⟩
      · dsimp only at hf
        intro H locs ls hP hS hl
        refine lv_iconst (v := -1) hx hb dX10_wordAmong_132 (by decide) ?_
        obtain ⟨rfl, rfl⟩ := Prod.mk.inj (Option.some.inj hf)
        exact wd_iret X hP hS hr0 dX10_wordAmong_133 ⟨rfl, rfl⟩

noncomputable def f_X10_wrong (mm : Mm) (x1 : Int32) (x2 : Int32) : Option (Int32 × Mm) :=
  vlet (wI mm 1 4 (((1 : Int32) + ((8 : Int32) * x1)) + x2)) fun mm_1 => some ((0 : Int32), mm_1)
set_option maxHeartbeats 4000000 in
set_option maxRecDepth 100000 in
theorem c_X10_wrong (l : Launch) (D : va_G) (dA : Nat → ClassId) (zz : (Nat → Nat) × (Nat → Nat)) (bs : Nat) (mm : Mm) (x1 : Int32) (x2 : Int32) (out : Int32) (m1 : Mm) (hf : f_X10_wrong mm x1 x2 = some (out, m1)) : Mw l D dA zz bs LY yX10_wrong cX10_wrong 3 (some .boolean) 0 0 [.ref (bs + 1), .int x1, .int x2] mm (some (.int out)) m1 := by
  refine Mw.of (own := RX10) (by decide) rfl (Nat.le_of_ble_eq_true rfl) ?_
  intro p e s m args below meth c X hr0 hP hS ls hl
  have hx := X.1
  have hb := X.2.1
  obtain ⟨H, hH⟩ : ∃ z : Heap, z = s.heap := ⟨_, rfl⟩
  obtain ⟨locs, hL⟩ : ∃ z : List Loc, z = [] := ⟨_, rfl⟩
  rw [← hH, ← hL]
  have hS : va_S (Aq bs) s.heap H locs := by rw [hH, hL]; exact hS
  have hP : Wd D dA bs LY mm H := by rw [hH]; exact hP
  have hl : lv_has ls 3 [(0, .ref (bs + 1)), (1, .int x1), (2, .int x2)] := hl
  unfold f_X10_wrong at hf
  refine lv_aload_n hx hb dX10_wrong_0 rfl (lv_at hl 0 rfl) ?_
  refine lv_iconst (v := 1) hx hb dX10_wrong_1 (by decide) ?_
  refine lv_bipush (v := 8) hx hb dX10_wrong_2 (by decide) ?_
  refine lv_iload_n hx hb dX10_wrong_4 rfl (lv_at hl 1 rfl) ?_
  refine lv_imul hx hb dX10_wrong_5 ?_
  refine lv_iadd hx hb dX10_wrong_6 ?_
  refine lv_iload_n hx hb dX10_wrong_7 rfl (lv_at hl 2 rfl) ?_
  refine lv_iadd hx hb dX10_wrong_8 ?_
  refine wd_putI X hP hS L1 fp_X10_25 rfl dX10_wrong_9 (fun H locs mm_1 emm_1 hP hS => ?_)
  have hf := vl hf emm_1
  refine lv_iconst (v := 0) hx hb dX10_wrong_12 (by decide) ?_
  obtain ⟨rfl, rfl⟩ := Prod.mk.inj (Option.some.inj hf)
  exact wd_zret X hP hS hr0 (by decide) dX10_wrong_13 ⟨rfl, rfl⟩

noncomputable def f_X6_isFull (mm : Mm) (x1 : Int32) : Int32 :=
  if x1 = 1 then
    if (mm.1 4 1) < (6 : Int32) then
      (0 : Int32)
    else
      (1 : Int32)
  else if x1 = 2 then
    if (mm.1 4 2) < (8 : Int32) then
      (0 : Int32)
    else
      (1 : Int32)
  else if x1 = 3 then
    if (mm.1 10 3) < (12 : Int32) then
      (0 : Int32)
    else
      (1 : Int32)
  else if x1 = 4 then
    if (mm.1 4 3) < (6 : Int32) then
      (0 : Int32)
    else
      (1 : Int32)
  else
    (0 : Int32)
set_option maxHeartbeats 4000000 in
set_option maxRecDepth 100000 in
theorem c_X6_isFull (l : Launch) (D : va_G) (dA : Nat → ClassId) (zz : (Nat → Nat) × (Nat → Nat)) (bs : Nat) (mm : Mm) (x1 : Int32) (out : Int32) (hf : f_X6_isFull mm x1 = out) : Mw l D dA zz bs LY yX6_isFull cX6_isFull 2 (some .boolean) 0 0 [.ref (bs + 3), .int x1] mm (some (.int out)) mm := by
  refine Mw.of (own := RX6) (by decide) rfl (Nat.le_of_ble_eq_true rfl) ?_
  intro p e s m args below meth c X hr0 hP hS ls hl
  have hx := X.1
  have hb := X.2.1
  obtain ⟨H, hH⟩ : ∃ z : Heap, z = s.heap := ⟨_, rfl⟩
  obtain ⟨locs, hL⟩ : ∃ z : List Loc, z = [] := ⟨_, rfl⟩
  rw [← hH, ← hL]
  have hS : va_S (Aq bs) s.heap H locs := by rw [hH, hL]; exact hS
  have hP : Wd D dA bs LY mm H := by rw [hH]; exact hP
  have hl : lv_has ls 2 [(0, .ref (bs + 3)), (1, .int x1)] := hl
  unfold f_X6_isFull at hf
  refine lv_iload_n hx hb dX6_isFull_0 rfl (lv_at hl 1 rfl) ?_
  by_cases c_1 : x1 = 1
  · have hf := itT hf c_1
    refine lv_tableIn (tgt := 32) (off := 31) hx hb dX6_isFull_1 (by rw [c_1]; decide) (by rw [c_1]; decide) (by rw [c_1]; decide) (by decide) ?_
    refine lv_aload_n hx hb dX6_isFull_32 rfl (lv_at hl 0 rfl) ?_
    refine wd_getR (q := 4) X hP L3 fl_X6_12 rfl dX6_isFull_33 ?_
    refine wd_getI X hP (isRiver.a0 V4) fl_X6_87 rfl dX6_isFull_36 ?_
    refine lv_bipush (v := 6) hx hb dX6_isFull_39 (by decide) ?_
    refine lv_icmp_lt (tgt := 48) hx hb dX6_isFull_41 (by decide) (fun c_2 => ?_) (fun c_2 => ?_)
    · have hf := itT hf c_2
      refine lv_iconst (v := 0) hx hb dX6_isFull_48 (by decide) ?_
      subst hf
      exact wd_zret X hP hS hr0 (by decide) dX6_isFull_49 ⟨rfl, rfl⟩
    · have hf := itF hf c_2
      refine lv_iconst (v := 1) hx hb dX6_isFull_44 (by decide) ?_
      refine lv_goto (tgt := 49) hx hb dX6_isFull_45 (by decide) ?_
      subst hf
      exact wd_zret X hP hS hr0 (by decide) dX6_isFull_49 ⟨rfl, rfl⟩
  · have hf := itF hf c_1
    by_cases c_3 : x1 = 2
    · have hf := itT hf c_3
      refine lv_tableIn (tgt := 50) (off := 49) hx hb dX6_isFull_1 (by rw [c_3]; decide) (by rw [c_3]; decide) (by rw [c_3]; decide) (by decide) ?_
      refine lv_aload_n hx hb dX6_isFull_50 rfl (lv_at hl 0 rfl) ?_
      refine wd_getR (q := 4) X hP L3 fl_X6_12 rfl dX6_isFull_51 ?_
      refine wd_getI X hP (isRiver.a0 V4) fl_X6_90 rfl dX6_isFull_54 ?_
      refine lv_bipush (v := 8) hx hb dX6_isFull_57 (by decide) ?_
      refine lv_icmp_lt (tgt := 66) hx hb dX6_isFull_59 (by decide) (fun c_4 => ?_) (fun c_4 => ?_)
      · have hf := itT hf c_4
        refine lv_iconst (v := 0) hx hb dX6_isFull_66 (by decide) ?_
        subst hf
        exact wd_zret X hP hS hr0 (by decide) dX6_isFull_67 ⟨rfl, rfl⟩
      · have hf := itF hf c_4
        refine lv_iconst (v := 1) hx hb dX6_isFull_62 (by decide) ?_
        refine lv_goto (tgt := 67) hx hb dX6_isFull_63 (by decide) ?_
        subst hf
        exact wd_zret X hP hS hr0 (by decide) dX6_isFull_67 ⟨rfl, rfl⟩
    · have hf := itF hf c_3
      by_cases c_5 : x1 = 3
      · have hf := itT hf c_5
        refine lv_tableIn (tgt := 68) (off := 67) hx hb dX6_isFull_1 (by rw [c_5]; decide) (by rw [c_5]; decide) (by rw [c_5]; decide) (by decide) ?_
        refine lv_aload_n hx hb dX6_isFull_68 rfl (lv_at hl 0 rfl) ?_
        refine wd_getR (q := 10) X hP L3 fl_X6_23 rfl dX6_isFull_69 ?_
        refine wd_getI X hP (isRaft.a0 R10) fl_X6_93 rfl dX6_isFull_72 ?_
        refine lv_bipush (v := 12) hx hb dX6_isFull_75 (by decide) ?_
        refine lv_icmp_lt (tgt := 84) hx hb dX6_isFull_77 (by decide) (fun c_6 => ?_) (fun c_6 => ?_)
        · have hf := itT hf c_6
          refine lv_iconst (v := 0) hx hb dX6_isFull_84 (by decide) ?_
          subst hf
          exact wd_zret X hP hS hr0 (by decide) dX6_isFull_85 ⟨rfl, rfl⟩
        · have hf := itF hf c_6
          refine lv_iconst (v := 1) hx hb dX6_isFull_80 (by decide) ?_
          refine lv_goto (tgt := 85) hx hb dX6_isFull_81 (by decide) ?_
          subst hf
          exact wd_zret X hP hS hr0 (by decide) dX6_isFull_85 ⟨rfl, rfl⟩
      · have hf := itF hf c_5
        by_cases c_7 : x1 = 4
        · have hf := itT hf c_7
          refine lv_tableIn (tgt := 86) (off := 85) hx hb dX6_isFull_1 (by rw [c_7]; decide) (by rw [c_7]; decide) (by rw [c_7]; decide) (by decide) ?_
          refine lv_aload_n hx hb dX6_isFull_86 rfl (lv_at hl 0 rfl) ?_
          refine wd_getR (q := 4) X hP L3 fl_X6_12 rfl dX6_isFull_87 ?_
          refine wd_getI X hP (isRiver.a0 V4) fl_X6_96 rfl dX6_isFull_90 ?_
          refine lv_bipush (v := 6) hx hb dX6_isFull_93 (by decide) ?_
          refine lv_icmp_lt (tgt := 102) hx hb dX6_isFull_95 (by decide) (fun c_8 => ?_) (fun c_8 => ?_)
          · have hf := itT hf c_8
            refine lv_iconst (v := 0) hx hb dX6_isFull_102 (by decide) ?_
            subst hf
            exact wd_zret X hP hS hr0 (by decide) dX6_isFull_103 ⟨rfl, rfl⟩
          · have hf := itF hf c_8
            refine lv_iconst (v := 1) hx hb dX6_isFull_98 (by decide) ?_
            refine lv_goto (tgt := 103) hx hb dX6_isFull_99 (by decide) ?_
            subst hf
            exact wd_zret X hP hS hr0 (by decide) dX6_isFull_103 ⟨rfl, rfl⟩
        · have hf := itF hf c_7
          refine lv_tableOut (tgt := 104) hx hb dX6_isFull_1 (tb_out1_4 c_1 c_3 c_5 c_7) (by decide) ?_
          refine lv_iconst (v := 0) hx hb dX6_isFull_104 (by decide) ?_
          subst hf
          exact wd_zret X hP hS hr0 (by decide) dX6_isFull_105 ⟨rfl, rfl⟩

noncomputable def f_X10_isDigit (x0 : Int32) : Int32 :=
  if x0 < (48 : Int32) then
    (0 : Int32)
  else
    if (57 : Int32) < x0 then
      (0 : Int32)
    else
      (1 : Int32)
set_option maxHeartbeats 4000000 in
set_option maxRecDepth 100000 in
theorem c_X10_isDigit (l : Launch) (D : va_G) (dA : Nat → ClassId) (zz : (Nat → Nat) × (Nat → Nat)) (bs : Nat) (mm : Mm) (x0 : Int32) (out : Int32) (hf : f_X10_isDigit x0 = out) : Mw l D dA zz bs LY yX10_isDigit cX10_isDigit 1 (some .boolean) 0 0 [.int x0] mm (some (.int out)) mm := by
  refine Mw.of (own := RX10) (by decide) rfl (Nat.le_of_ble_eq_true rfl) ?_
  intro p e s m args below meth c X hr0 hP hS ls hl
  have hx := X.1
  have hb := X.2.1
  obtain ⟨H, hH⟩ : ∃ z : Heap, z = s.heap := ⟨_, rfl⟩
  obtain ⟨locs, hL⟩ : ∃ z : List Loc, z = [] := ⟨_, rfl⟩
  rw [← hH, ← hL]
  have hS : va_S (Aq bs) s.heap H locs := by rw [hH, hL]; exact hS
  have hP : Wd D dA bs LY mm H := by rw [hH]; exact hP
  have hl : lv_has ls 1 [(0, .int x0)] := hl
  unfold f_X10_isDigit at hf
  refine lv_iload_n hx hb dX10_isDigit_0 rfl (lv_at hl 0 rfl) ?_
  refine lv_bipush (v := 48) hx hb dX10_isDigit_1 (by decide) ?_
  refine lv_icmp_lt (tgt := 16) hx hb dX10_isDigit_3 (by decide) (fun c_1 => ?_) (fun c_1 => ?_)
  · have hf := itT hf c_1
    refine lv_iconst (v := 0) hx hb dX10_isDigit_16 (by decide) ?_
    subst hf
    exact wd_zret X hP hS hr0 (by decide) dX10_isDigit_17 ⟨rfl, rfl⟩
  · have hf := itF hf c_1
    refine lv_iload_n hx hb dX10_isDigit_6 rfl (lv_at hl 0 rfl) ?_
    refine lv_bipush (v := 57) hx hb dX10_isDigit_7 (by decide) ?_
    refine lv_icmp_gt (tgt := 16) hx hb dX10_isDigit_9 (by decide) (fun c_2 => ?_) (fun c_2 => ?_)
    · have hf := itT hf c_2
      refine lv_iconst (v := 0) hx hb dX10_isDigit_16 (by decide) ?_
      subst hf
      exact wd_zret X hP hS hr0 (by decide) dX10_isDigit_17 ⟨rfl, rfl⟩
    · have hf := itF hf c_2
      refine lv_iconst (v := 1) hx hb dX10_isDigit_12 (by decide) ?_
      refine lv_goto (tgt := 17) hx hb dX10_isDigit_13 (by decide) ?_
      subst hf
      exact wd_zret X hP hS hr0 (by decide) dX10_isDigit_17 ⟨rfl, rfl⟩

noncomputable def f_X10_number_j125 (mm : Mm) : Option (Int32 × Mm) :=
  bi2 (f_X10_wrong mm (mm.1 1 3) (1 : Int32)) fun r_3 mm_1 => some ((-1 : Int32), mm_1)
noncomputable def f_X10_number_j89 (mm : Mm) (y1 : Int32) (y2 : Int32) (y3 : Int32) : Option ((Int32 × Mm) ⊕ (Int32 × Mm)) :=
  vlet (wI mm 1 2 ((mm.1 1 2) + (1 : Int32))) fun mm_10 => some (.inl (y3, mm_10))
noncomputable def f_X10_number_s32 (y1 : Int32) (y2 : Int32) : (Int32 × Mm) → Option ((Int32 × Mm) ⊕ (Int32 × Mm)) :=
  fun q => match q with
  | (y3, mm) =>
    if (mm.1 1 1) ≤ (mm.1 1 2) then
      some (.inr (y3, mm))
    else
      if (mm.1 1 2) < 0 ∨ 400 ≤ (mm.1 1 2).toNatClampNeg then none else
        if (f_X10_isDigit (mm.1 2 (mm.1 1 2).toNatClampNeg)) = 0 then
          some (.inr (y3, mm))
        else
          if (5 : Int32) ≤ ((mm.1 1 2) - (mm.1 1 3)) then
            f_X10_number_j89 mm y1 y2 y3
          else
            if (mm.1 1 2) < 0 ∨ 400 ≤ (mm.1 1 2).toNatClampNeg then none else
              vlet (((y3 * (10 : Int32)) + (mm.1 2 (mm.1 1 2).toNatClampNeg)) - (48 : Int32)) fun (x3_17 : Int32) => f_X10_number_j89 mm y1 y2 x3_17
noncomputable def f_X10_number (mm : Mm) (x1 : Int32) (x2 : Int32) : Option (Int32 × Mm) :=
  bi2 (f_X10_next mm) fun r_7 mm_5 =>
    if (f_X10_isDigit r_7) = 0 then
      bi2 (f_X10_wrong mm_5 (mm_5.1 1 2) (0 : Int32)) fun r_28 mm_26 => some ((-1 : Int32), mm_26)
    else
      vlet (wI mm_5 1 3 (mm_5.1 1 2)) fun mm_9 =>
        bi1 (lp (f_X10_number_s32 x1 x2) ((0 : Int32), mm_9)) fun q => match q with
        | (w3_19, mm_20) =>
          if (5 : Int32) < ((mm_20.1 1 2) - (mm_20.1 1 3)) then
            f_X10_number_j125 mm_20
          else
            if w3_19 < x1 then
              f_X10_number_j125 mm_20
            else
              if w3_19 ≤ x2 then
                some (w3_19, mm_20)
              else
                f_X10_number_j125 mm_20
set_option maxHeartbeats 4000000 in
set_option maxRecDepth 100000 in
theorem c_X10_number (l : Launch) (D : va_G) (dA : Nat → ClassId) (zz : (Nat → Nat) × (Nat → Nat)) (bs : Nat) (mm : Mm) (x1 : Int32) (x2 : Int32) (out : Int32) (m1 : Mm) (hf : f_X10_number mm x1 x2 = some (out, m1)) : Mw l D dA zz bs LY yX10_number cX10_number 4 (some .int) 1 22 [.ref (bs + 1), .int x1, .int x2] mm (some (.int out)) m1 := by
  refine Mw.of (own := RX10) (by decide) rfl (Nat.le_of_ble_eq_true rfl) ?_
  intro p e s m args below meth c X hr0 hP hS ls hl
  have hx := X.1
  have hb := X.2.1
  obtain ⟨H, hH⟩ : ∃ z : Heap, z = s.heap := ⟨_, rfl⟩
  obtain ⟨locs, hL⟩ : ∃ z : List Loc, z = [] := ⟨_, rfl⟩
  rw [← hH, ← hL]
  have hS : va_S (Aq bs) s.heap H locs := by rw [hH, hL]; exact hS
  have hP : Wd D dA bs LY mm H := by rw [hH]; exact hP
  have hl : lv_has ls 4 [(0, .ref (bs + 1)), (1, .int x1), (2, .int x2)] := hl
  have hJ125 : ∀ (mmJ_4 : Mm) (H : Heap) (locs : List Loc) (ls : Array Slot), f_X10_number_j125 mmJ_4 = some (out, m1) → Wd D dA bs LY mmJ_4 H → va_S (Aq bs) s.heap H locs → lv_has ls 4 [(0, .ref (bs + 1))] → Wz p l e s m args below meth c D dA bs (some (.int out)) m1 1 22 H locs 125 ls [] := by
    intro mmJ_4 H locs ls hf hP hS hl
    unfold f_X10_number_j125 at hf
    refine lv_aload_n hx hb dX10_number_125 rfl (lv_at hl 0 rfl) ?_
    refine lv_aload_n hx hb dX10_number_126 rfl (lv_at hl 0 rfl) ?_
    refine wd_getI X hP L1 fl_X10_22 rfl dX10_number_127 ?_
    refine lv_iconst (v := 1) hx hb dX10_number_130 (by decide) ?_
    obtain ⟨r_3, mm_1, hc_2, hf⟩ := bi2S hf
    refine wd_cv X hP hS L1 ml_X10_36 ⟨_, _, rfl⟩ (c_X10_wrong l D dA zz bs mmJ_4 (mmJ_4.1 1 3) (1 : Int32) r_3 mm_1 hc_2) rfl ⟨Nat.le_of_ble_eq_true rfl, Nat.le_of_ble_eq_true rfl⟩ hl.1 rfl (rest := []) (Nat.le_of_ble_eq_true rfl) ⟨Nat.zero_le _, Nat.zero_le _⟩ dX10_number_131 (fun H locs hP hS => ?_)
    refine W.eq (g2 := F0 m 134 ls [.int r_3]) rfl ?_
    refine lv_pop hx hb dX10_number_134 rfl ?_
    refine lv_iconst (v := -1) hx hb dX10_number_135 (by decide) ?_
    obtain ⟨rfl, rfl⟩ := Prod.mk.inj (Option.some.inj hf)
    exact wd_iret X hP hS hr0 dX10_number_136 ⟨rfl, rfl⟩
  unfold f_X10_number at hf
  refine lv_aload_n hx hb dX10_number_0 rfl (lv_at hl 0 rfl) ?_
  obtain ⟨r_7, mm_5, hc_6, hf⟩ := bi2S hf
  refine wd_cv X hP hS L1 ml_X10_28 ⟨_, _, rfl⟩ (c_X10_next l D dA zz bs mm r_7 mm_5 hc_6) rfl ⟨Nat.le_of_ble_eq_true rfl, Nat.le_of_ble_eq_true rfl⟩ hl.1 rfl (rest := []) (Nat.le_of_ble_eq_true rfl) ⟨Nat.zero_le _, Nat.zero_le _⟩ dX10_number_1 (fun H locs hP hS => ?_)
  refine W.eq (g2 := F0 m 4 ls [.int r_7]) rfl ?_
  refine wd_cs X hP hS ml_X10_32 (c_X10_isDigit l D dA zz bs mm_5 r_7 (f_X10_isDigit r_7) rfl) rfl ⟨Nat.le_of_ble_eq_true rfl, Nat.le_of_ble_eq_true rfl⟩ hl.1 rfl (rest := []) (Nat.le_of_ble_eq_true rfl) ⟨Nat.zero_le _, Nat.zero_le _⟩ dX10_number_4 (fun H locs hP hS => ?_)
  refine W.eq (g2 := F0 m 7 ls [.int (f_X10_isDigit r_7)]) rfl ?_
  refine lv_if_ne (tgt := 22) hx hb dX10_number_7 (by decide) (fun c_8 => ?_) (fun c_8 => ?_)
  · have hf := itF hf c_8
    refine lv_aload_n hx hb dX10_number_22 rfl (lv_at hl 0 rfl) ?_
    refine lv_aload_n hx hb dX10_number_23 rfl (lv_at hl 0 rfl) ?_
    refine wd_getI X hP L1 fl_X10_19 rfl dX10_number_24 ?_
    refine wd_putI X hP hS L1 fp_X10_22 rfl dX10_number_27 (fun H locs mm_9 emm_9 hP hS => ?_)
    have hf := vl hf emm_9
    refine lv_iconst (v := 0) hx hb dX10_number_30 (by decide) ?_
    refine lv_istore_n (lv' := [(3, .int (0 : Int32)), (0, .ref (bs + 1)), (1, .int x1), (2, .int x2)]) hx hb dX10_number_31 rfl hl (by decide) rfl (fun ls hl => ?_)
    obtain ⟨q_24, hlp_25, hf⟩ := bi1S hf
    refine lp_walk (Wh := (fun z => match z with | (y3L_18, mmL_18) => ∀ (H : Heap) (locs : List Loc) (ls : Array Slot), Wd D dA bs LY mmL_18 H → va_S (Aq bs) s.heap H locs → lv_has ls 4 [(0, .ref (bs + 1)), (1, .int x1), (2, .int x2), (3, .int y3L_18)] → Wz p l e s m args below meth c D dA bs (some (.int out)) m1 1 22 H locs 32 ls [])) (Ph := (fun z => match z with | (w3_19, mm_20) => ∀ (H : Heap) (locs : List Loc) (ls : Array Slot), Wd D dA bs LY mm_20 H → va_S (Aq bs) s.heap H locs → lv_has ls 4 [(0, .ref (bs + 1)), (1, .int x1), (2, .int x2), (3, .int w3_19)] → Wz p l e s m args below meth c D dA bs (some (.int out)) m1 1 22 H locs 102 ls [])) ?_ hlp_25 ?_ H locs ls hP hS (lv_sub hl [1, 2, 3, 0] rfl)
    · intro z o hf hB hE
      obtain ⟨y3L_18, mmL_18⟩ := z
      intro H locs ls hP hS hl
      have hf : f_X10_number_s32 x1 x2 (y3L_18, mmL_18) = some o := hf
      unfold f_X10_number_s32 at hf
      dsimp only at hf
      have hJ89 : ∀ (mmJ_11 : Mm) (y3J_11 : Int32) (H : Heap) (locs : List Loc) (ls : Array Slot), f_X10_number_j89 mmJ_11 x1 x2 y3J_11 = some o → Wd D dA bs LY mmJ_11 H → va_S (Aq bs) s.heap H locs → lv_has ls 4 [(0, .ref (bs + 1)), (1, .int x1), (2, .int x2), (3, .int y3J_11)] → Wz p l e s m args below meth c D dA bs (some (.int out)) m1 1 22 H locs 89 ls [] := by
        intro mmJ_11 y3J_11 H locs ls hf hP hS hl
        unfold f_X10_number_j89 at hf
        refine lv_aload_n hx hb dX10_number_89 rfl (lv_at hl 0 rfl) ?_
        refine lv_dup hx hb dX10_number_90 rfl ?_
        refine wd_getI X hP L1 fl_X10_19 rfl dX10_number_91 ?_
        refine lv_iconst (v := 1) hx hb dX10_number_94 (by decide) ?_
        refine lv_iadd hx hb dX10_number_95 ?_
        refine wd_putI X hP hS L1 fp_X10_19 rfl dX10_number_96 (fun H locs mm_10 emm_10 hP hS => ?_)
        have hf := vl hf emm_10
        refine lv_goto (tgt := 32) hx hb dX10_number_99 (by decide) ?_
        obtain rfl := Option.some.inj hf
        exact hB _ rfl H locs ls hP hS (lv_sub hl [0, 1, 2, 3] rfl)
      refine lv_aload_n hx hb dX10_number_32 rfl (lv_at hl 0 rfl) ?_
      refine wd_getI X hP L1 fl_X10_19 rfl dX10_number_33 ?_
      refine lv_aload_n hx hb dX10_number_36 rfl (lv_at hl 0 rfl) ?_
      refine wd_getI X hP L1 fl_X10_15 rfl dX10_number_37 ?_
      refine lv_icmp_ge (tgt := 102) hx hb dX10_number_40 (by decide) (fun c_12 => ?_) (fun c_12 => ?_)
      · have hf := itT hf c_12
        obtain rfl := Option.some.inj hf
        exact hE _ rfl H locs ls hP hS (lv_sub hl [0, 1, 2, 3] rfl)
      · have hf := itF hf c_12
        refine lv_aload_n hx hb dX10_number_43 rfl (lv_at hl 0 rfl) ?_
        refine wd_getR (q := 2) X hP L1 fl_X10_9 rfl dX10_number_44 ?_
        refine lv_aload_n hx hb dX10_number_47 rfl (lv_at hl 0 rfl) ?_
        refine wd_getI X hP L1 fl_X10_19 rfl dX10_number_48 ?_
        have g_13 := gdN hf
        have hf := gdK hf
        refine wd_bald X hP L2 g_13 dX10_number_51 ?_
        refine wd_cs X hP hS ml_X10_32 (c_X10_isDigit l D dA zz bs mmL_18 (mmL_18.1 2 (mmL_18.1 1 2).toNatClampNeg) (f_X10_isDigit (mmL_18.1 2 (mmL_18.1 1 2).toNatClampNeg)) rfl) rfl ⟨Nat.le_of_ble_eq_true rfl, Nat.le_of_ble_eq_true rfl⟩ hl.1 rfl (rest := []) (Nat.le_of_ble_eq_true rfl) ⟨Nat.zero_le _, Nat.zero_le _⟩ dX10_number_52 (fun H locs hP hS => ?_)
        refine W.eq (g2 := F0 m 55 ls [.int (f_X10_isDigit (mmL_18.1 2 (mmL_18.1 1 2).toNatClampNeg))]) rfl ?_
        refine lv_if_eq (tgt := 102) hx hb dX10_number_55 (by decide) (fun c_14 => ?_) (fun c_14 => ?_)
        · have hf := itT hf c_14
          obtain rfl := Option.some.inj hf
          exact hE _ rfl H locs ls hP hS (lv_sub hl [0, 1, 2, 3] rfl)
        · have hf := itF hf c_14
          refine lv_aload_n hx hb dX10_number_58 rfl (lv_at hl 0 rfl) ?_
          refine wd_getI X hP L1 fl_X10_19 rfl dX10_number_59 ?_
          refine lv_aload_n hx hb dX10_number_62 rfl (lv_at hl 0 rfl) ?_
          refine wd_getI X hP L1 fl_X10_22 rfl dX10_number_63 ?_
          refine lv_isub hx hb dX10_number_66 ?_
          refine lv_iconst (v := 5) hx hb dX10_number_67 (by decide) ?_
          refine lv_icmp_ge (tgt := 89) hx hb dX10_number_68 (by decide) (fun c_15 => ?_) (fun c_15 => ?_)
          · have hf := itT hf c_15
            exact hJ89 mmL_18 y3L_18 H locs ls hf hP hS (lv_sub hl [0, 1, 2, 3] rfl)
          · have hf := itF hf c_15
            refine lv_iload_n hx hb dX10_number_71 rfl (lv_at hl 3 rfl) ?_
            refine lv_bipush (v := 10) hx hb dX10_number_72 (by decide) ?_
            refine lv_imul hx hb dX10_number_74 ?_
            refine lv_aload_n hx hb dX10_number_75 rfl (lv_at hl 0 rfl) ?_
            refine wd_getR (q := 2) X hP L1 fl_X10_9 rfl dX10_number_76 ?_
            refine lv_aload_n hx hb dX10_number_79 rfl (lv_at hl 0 rfl) ?_
            refine wd_getI X hP L1 fl_X10_19 rfl dX10_number_80 ?_
            have g_16 := gdN hf
            have hf := gdK hf
            refine wd_bald X hP L2 g_16 dX10_number_83 ?_
            refine lv_iadd hx hb dX10_number_84 ?_
            refine lv_bipush (v := 48) hx hb dX10_number_85 (by decide) ?_
            refine lv_isub hx hb dX10_number_87 ?_
            refine lv_topi (fun x3_17 ex3_17 => ?_)
            have hf := vl hf ex3_17
            refine lv_istore_n (lv' := [(3, .int x3_17), (0, .ref (bs + 1)), (1, .int x1), (2, .int x2)]) hx hb dX10_number_88 rfl hl (by decide) rfl (fun ls hl => ?_)
            exact hJ89 mmL_18 x3_17 H locs ls hf hP hS (lv_sub hl [1, 2, 3, 0] rfl)
    · obtain ⟨w3_19, mm_20⟩ := q_24
      dsimp only at hf
      intro H locs ls hP hS hl
      refine lv_aload_n hx hb dX10_number_102 rfl (lv_at hl 0 rfl) ?_
      refine wd_getI X hP L1 fl_X10_19 rfl dX10_number_103 ?_
      refine lv_aload_n hx hb dX10_number_106 rfl (lv_at hl 0 rfl) ?_
      refine wd_getI X hP L1 fl_X10_22 rfl dX10_number_107 ?_
      refine lv_isub hx hb dX10_number_110 ?_
      refine lv_iconst (v := 5) hx hb dX10_number_111 (by decide) ?_
      refine lv_icmp_gt (tgt := 125) hx hb dX10_number_112 (by decide) (fun c_21 => ?_) (fun c_21 => ?_)
      · have hf := itT hf c_21
        exact hJ125 mm_20 H locs ls hf hP hS (lv_sub hl [0] rfl)
      · have hf := itF hf c_21
        refine lv_iload_n hx hb dX10_number_115 rfl (lv_at hl 3 rfl) ?_
        refine lv_iload_n hx hb dX10_number_116 rfl (lv_at hl 1 rfl) ?_
        refine lv_icmp_lt (tgt := 125) hx hb dX10_number_117 (by decide) (fun c_22 => ?_) (fun c_22 => ?_)
        · have hf := itT hf c_22
          exact hJ125 mm_20 H locs ls hf hP hS (lv_sub hl [0] rfl)
        · have hf := itF hf c_22
          refine lv_iload_n hx hb dX10_number_120 rfl (lv_at hl 3 rfl) ?_
          refine lv_iload_n hx hb dX10_number_121 rfl (lv_at hl 2 rfl) ?_
          refine lv_icmp_le (tgt := 137) hx hb dX10_number_122 (by decide) (fun c_23 => ?_) (fun c_23 => ?_)
          · have hf := itT hf c_23
            refine lv_iload_n hx hb dX10_number_137 rfl (lv_at hl 3 rfl) ?_
            obtain ⟨rfl, rfl⟩ := Prod.mk.inj (Option.some.inj hf)
            exact wd_iret X hP hS hr0 dX10_number_138 ⟨rfl, rfl⟩
          · have hf := itF hf c_23
            exact hJ125 mm_20 H locs ls hf hP hS (lv_sub hl [0] rfl)
  · have hf := itT hf c_8
    refine lv_aload_n hx hb dX10_number_10 rfl (lv_at hl 0 rfl) ?_
    refine lv_aload_n hx hb dX10_number_11 rfl (lv_at hl 0 rfl) ?_
    refine wd_getI X hP L1 fl_X10_19 rfl dX10_number_12 ?_
    refine lv_iconst (v := 0) hx hb dX10_number_15 (by decide) ?_
    obtain ⟨r_28, mm_26, hc_27, hf⟩ := bi2S hf
    refine wd_cv X hP hS L1 ml_X10_36 ⟨_, _, rfl⟩ (c_X10_wrong l D dA zz bs mm_5 (mm_5.1 1 2) (0 : Int32) r_28 mm_26 hc_27) rfl ⟨Nat.le_of_ble_eq_true rfl, Nat.le_of_ble_eq_true rfl⟩ hl.1 rfl (rest := []) (Nat.le_of_ble_eq_true rfl) ⟨Nat.zero_le _, Nat.zero_le _⟩ dX10_number_16 (fun H locs hP hS => ?_)
    refine W.eq (g2 := F0 m 19 ls [.int r_28]) rfl ?_
    refine lv_pop hx hb dX10_number_19 rfl ?_
    refine lv_iconst (v := -1) hx hb dX10_number_20 (by decide) ?_
    obtain ⟨rfl, rfl⟩ := Prod.mk.inj (Option.some.inj hf)
    exact wd_iret X hP hS hr0 dX10_number_21 ⟨rfl, rfl⟩
