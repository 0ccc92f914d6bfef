noncomputable def f_X12_locks_s35 (mm : Mm) (y1 : Int32) (y2 : Int32) : (Int32) → Option ((Int32) ⊕ ((Unit) ⊕ (Unit))) :=
  fun (y3 : Int32) =>
    if (mm.1 1089 3) ≤ y3 then
      some (.inr (.inr (())))
    else
      if y3 < 0 ∨ 8 ≤ y3.toNatClampNeg then none else
        if (mm.1 1097 y3.toNatClampNeg) = 0 then
          if y3 < 0 ∨ 8 ≤ y3.toNatClampNeg then none else
            if (mm.1 1094 y3.toNatClampNeg) ≤ y1 then
              some (.inl (y3 + 1))
            else
              some (.inr (.inl ()))
        else
          some (.inl (y3 + 1))
noncomputable def f_X12_locks_j115 (mm : Mm) (y2 : Int32) (y4 : Int32) (z0 : Int32) (z1 : Int32) : Option ((Int32 × Int32) ⊕ (Int32)) :=
  some (.inl ((z1 + z0), (y4 + 1)))
noncomputable def f_X12_locks_s92 (mm : Mm) (y2 : Int32) : (Int32 × Int32) → Option ((Int32 × Int32) ⊕ (Int32)) :=
  fun q => match q with
  | (y3, y4) =>
    if (y2 - (1 : Int32)) ≤ y4 then
      some (.inr y3)
    else
      bi1 (f_X12_isAfloat mm y4) fun r_16 =>
        if r_16 = 0 then
          f_X12_locks_j115 mm y2 y4 (0 : Int32) y3
        else
          f_X12_locks_j115 mm y2 y4 (1 : Int32) y3
noncomputable def f_X12_locks (mm : Mm) (x1 : Int32) (x2 : Int32) : Option (Int32 × Mm) :=
  if (f_X12_isRiver mm) = 0 then
    some ((-1 : Int32), mm)
  else
    if (f_X12_in (x1.toInt64) (1 : Int64) (200 : Int64)) = 0 then
      some ((-1 : Int32), mm)
    else
      if (f_X12_in (x2.toInt64) (0 : Int64) (8 : Int64)) = 0 then
        some ((-1 : Int32), mm)
      else
        bi1 (lp (f_X12_locks_s35 mm x1 x2) (0 : Int32)) fun q => match q with
        | .inl () =>
          some ((-2 : Int32), mm)
        | .inr (()) =>
          bi1 (f_X12_findsLocks mm x1) fun mm_10 =>
            if x2 = 0 then
              some ((mm_10.1 1088 66), mm_10)
            else
              bi1 (lp (f_X12_locks_s92 mm_10 x2) ((0 : Int32), (0 : Int32))) fun w3_19 =>
                bi1 (f_X12_isAfloat mm_10 (x2 - (1 : Int32))) fun r_21 =>
                  if r_21 = 0 then
                    some ((-1 : Int32), mm_10)
                  else
                    if w3_19 < 0 ∨ 8 ≤ w3_19.toNatClampNeg then none else some ((mm_10.1 1135 w3_19.toNatClampNeg), mm_10)
set_option maxHeartbeats 4000000 in
set_option maxRecDepth 100000 in
theorem c_X12_locks (l : Launch) (D : va_G) (dA : Nat → ClassId) (zz : (Nat → Nat) × (Nat → Nat)) (bs : Nat) (mm : Mm) (x1 : Int32) (x2 : Int32) (out : Int32) (m1 : Mm) (hf : f_X12_locks mm x1 x2 = some (out, m1)) : Mw l D dA zz bs LY yX12_locks cX12_locks 5 (some .int) 3 67 [.ref (bs + 1088), .int x1, .int x2] mm (some (.int out)) m1 := by
  refine Mw.of (own := RX12) (by decide) rfl (Nat.le_of_ble_eq_true rfl) ?_
  intro p e s m args below meth c X hr0 hP hS ls hl
  have hx := X.1
  have hb := X.2.1
  obtain ⟨H, hH⟩ : ∃ z : Heap, z = s.heap := ⟨_, rfl⟩
  obtain ⟨locs, hL⟩ : ∃ z : List Loc, z = [] := ⟨_, rfl⟩
  rw [← hH, ← hL]
  have hS : va_S (Aq bs) s.heap H locs := by rw [hH, hL]; exact hS
  have hP : Wd D dA bs LY mm H := by rw [hH]; exact hP
  have hl : lv_has ls 5 [(0, .ref (bs + 1088)), (1, .int x1), (2, .int x2)] := hl
  unfold f_X12_locks at hf
  refine lv_aload_n hx hb dX12_locks_0 rfl (lv_at hl 0 rfl) ?_
  refine wd_cv X hP hS L1088 ml_X12_430 ⟨_, _, rfl⟩ (c_X12_isRiver l D dA zz bs mm (f_X12_isRiver mm) rfl) rfl ⟨Nat.le_of_ble_eq_true rfl, Nat.le_of_ble_eq_true rfl⟩ hl.1 rfl (rest := []) (Nat.le_of_ble_eq_true rfl) ⟨Nat.zero_le _, Nat.zero_le _⟩ dX12_locks_1 (fun H locs hP hS => ?_)
  refine W.eq (g2 := F0 m 4 ls [.int (f_X12_isRiver mm)]) rfl ?_
  refine lv_if_eq (tgt := 31) hx hb dX12_locks_4 (by decide) (fun c_1 => ?_) (fun c_1 => ?_)
  · have hf := itT hf c_1
    refine lv_iconst (v := -1) hx hb dX12_locks_31 (by decide) ?_
    obtain ⟨rfl, rfl⟩ := Prod.mk.inj (Option.some.inj hf)
    exact wd_iret X hP hS hr0 dX12_locks_32 ⟨rfl, rfl⟩
  · have hf := itF hf c_1
    refine lv_iload_n hx hb dX12_locks_7 rfl (lv_at hl 1 rfl) ?_
    refine lv_i2l hx hb dX12_locks_8 rfl ?_
    refine lv_lconst (v := 1) hx hb dX12_locks_9 (by decide) ?_
    refine lv_ldc2 (own := RX12) (v := 200) hx hb X.2.2.2.1 (X.2.2.2.2.1 _ (tb_at 1805 (by decide +kernel) (by decide +kernel))) dX12_locks_10 ?_
    refine wd_cs X hP hS ml_X12_176 (c_X12_in l D dA zz bs mm (x1.toInt64) (1 : Int64) (200 : Int64) (f_X12_in (x1.toInt64) (1 : Int64) (200 : Int64)) rfl) rfl ⟨Nat.le_of_ble_eq_true rfl, Nat.le_of_ble_eq_true rfl⟩ hl.1 rfl (rest := []) (Nat.le_of_ble_eq_true rfl) ⟨Nat.zero_le _, Nat.zero_le _⟩ dX12_locks_13 (fun H locs hP hS => ?_)
    refine W.eq (g2 := F0 m 16 ls [.int (f_X12_in (x1.toInt64) (1 : Int64) (200 : Int64))]) rfl ?_
    refine lv_if_eq (tgt := 31) hx hb dX12_locks_16 (by decide) (fun c_2 => ?_) (fun c_2 => ?_)
    · have hf := itT hf c_2
      refine lv_iconst (v := -1) hx hb dX12_locks_31 (by decide) ?_
      obtain ⟨rfl, rfl⟩ := Prod.mk.inj (Option.some.inj hf)
      exact wd_iret X hP hS hr0 dX12_locks_32 ⟨rfl, rfl⟩
    · have hf := itF hf c_2
      refine lv_iload_n hx hb dX12_locks_19 rfl (lv_at hl 2 rfl) ?_
      refine lv_i2l hx hb dX12_locks_20 rfl ?_
      refine lv_lconst (v := 0) hx hb dX12_locks_21 (by decide) ?_
      refine lv_ldc2 (own := RX12) (v := 8) hx hb X.2.2.2.1 (X.2.2.2.2.1 _ (tb_at 1806 (by decide +kernel) (by decide +kernel))) dX12_locks_22 ?_
      refine wd_cs X hP hS ml_X12_176 (c_X12_in l D dA zz bs mm (x2.toInt64) (0 : Int64) (8 : Int64) (f_X12_in (x2.toInt64) (0 : Int64) (8 : Int64)) rfl) rfl ⟨Nat.le_of_ble_eq_true rfl, Nat.le_of_ble_eq_true rfl⟩ hl.1 rfl (rest := []) (Nat.le_of_ble_eq_true rfl) ⟨Nat.zero_le _, Nat.zero_le _⟩ dX12_locks_25 (fun H locs hP hS => ?_)
      refine W.eq (g2 := F0 m 28 ls [.int (f_X12_in (x2.toInt64) (0 : Int64) (8 : Int64))]) rfl ?_
      refine lv_if_ne (tgt := 33) hx hb dX12_locks_28 (by decide) (fun c_3 => ?_) (fun c_3 => ?_)
      · have hf := itF hf c_3
        refine lv_iconst (v := 0) hx hb dX12_locks_33 (by decide) ?_
        refine lv_istore_n (lv' := [(3, .int (0 : Int32)), (0, .ref (bs + 1088)), (1, .int x1), (2, .int x2)]) hx hb dX12_locks_34 rfl hl (by decide) rfl (fun ls hl => ?_)
        obtain ⟨q_26, hlp_27, hf⟩ := bi1S hf
        refine lp_walk (Wh := (fun y3L_9 => ∀ (H : Heap) (locs : List Loc) (ls : Array Slot), Wd D dA bs LY mm H → va_S (Aq bs) s.heap H locs → lv_has ls 5 [(0, .ref (bs + 1088)), (1, .int x1), (2, .int x2), (3, .int y3L_9)] → Wz p l e s m args below meth c D dA bs (some (.int out)) m1 3 67 H locs 35 ls [])) (Ph := (fun z => match z with | .inl () => ∀ (H : Heap) (locs : List Loc) (ls : Array Slot), Wd D dA bs LY mm H → va_S (Aq bs) s.heap H locs → lv_has ls 5 [] → Wz p l e s m args below meth c D dA bs (some (.int out)) m1 3 67 H locs 64 ls [] | .inr (()) => ∀ (H : Heap) (locs : List Loc) (ls : Array Slot), Wd D dA bs LY mm H → va_S (Aq bs) s.heap H locs → lv_has ls 5 [(0, .ref (bs + 1088)), (1, .int x1), (2, .int x2)] → Wz p l e s m args below meth c D dA bs (some (.int out)) m1 3 67 H locs 73 ls [])) ?_ hlp_27 ?_ H locs ls hP hS (lv_sub hl [1, 2, 3, 0] rfl)
        · intro y3L_9 o hf hB hE
          intro H locs ls hP hS hl
          have hf : f_X12_locks_s35 mm x1 x2 y3L_9 = some o := hf
          unfold f_X12_locks_s35 at hf
          refine lv_iload_n hx hb dX12_locks_35 rfl (lv_at hl 3 rfl) ?_
          refine lv_aload_n hx hb dX12_locks_36 rfl (lv_at hl 0 rfl) ?_
          refine wd_getR (q := 1089) X hP L1088 fl_X12_9 rfl dX12_locks_37 ?_
          refine lv_iconst (v := 3) hx hb dX12_locks_40 (by decide) ?_
          refine wd_ialdK (k := 3) X hP L1089 (by decide) (by decide) dX12_locks_41 ?_
          refine lv_icmp_ge (tgt := 73) hx hb dX12_locks_42 (by decide) (fun c_4 => ?_) (fun c_4 => ?_)
          · have hf := itT hf c_4
            obtain rfl := Option.some.inj hf
            exact hE _ rfl H locs ls hP hS (lv_sub hl [0, 1, 2] rfl)
          · have hf := itF hf c_4
            refine lv_aload_n hx hb dX12_locks_45 rfl (lv_at hl 0 rfl) ?_
            refine wd_getR (q := 1097) X hP L1088 fl_X12_34 rfl dX12_locks_46 ?_
            refine lv_iload_n hx hb dX12_locks_49 rfl (lv_at hl 3 rfl) ?_
            have g_5 := gdN hf
            have hf := gdK hf
            refine wd_iald X hP L1097 g_5 dX12_locks_50 ?_
            refine lv_if_ne (tgt := 67) hx hb dX12_locks_51 (by decide) (fun c_6 => ?_) (fun c_6 => ?_)
            · have hf := itF hf c_6
              refine lv_iinc (v := (y3L_9 + 1)) (lv' := [(3, .int (y3L_9 + 1)), (0, .ref (bs + 1088)), (1, .int x1), (2, .int x2)]) hx hb dX12_locks_67 hl (k := 3) rfl rfl (by decide) rfl (fun ls hl => ?_)
              refine lv_goto (tgt := 35) hx hb dX12_locks_70 (by decide) ?_
              obtain rfl := Option.some.inj hf
              exact hB _ rfl H locs ls hP hS (lv_sub hl [1, 2, 3, 0] rfl)
            · have hf := itT hf c_6
              refine lv_aload_n hx hb dX12_locks_54 rfl (lv_at hl 0 rfl) ?_
              refine wd_getR (q := 1094) X hP L1088 fl_X12_25 rfl dX12_locks_55 ?_
              refine lv_iload_n hx hb dX12_locks_58 rfl (lv_at hl 3 rfl) ?_
              have g_7 := gdN hf
              have hf := gdK hf
              refine wd_iald X hP L1094 g_7 dX12_locks_59 ?_
              refine lv_iload_n hx hb dX12_locks_60 rfl (lv_at hl 1 rfl) ?_
              refine lv_icmp_le (tgt := 67) hx hb dX12_locks_61 (by decide) (fun c_8 => ?_) (fun c_8 => ?_)
              · have hf := itT hf c_8
                refine lv_iinc (v := (y3L_9 + 1)) (lv' := [(3, .int (y3L_9 + 1)), (0, .ref (bs + 1088)), (1, .int x1), (2, .int x2)]) hx hb dX12_locks_67 hl (k := 3) rfl rfl (by decide) rfl (fun ls hl => ?_)
                refine lv_goto (tgt := 35) hx hb dX12_locks_70 (by decide) ?_
                obtain rfl := Option.some.inj hf
                exact hB _ rfl H locs ls hP hS (lv_sub hl [1, 2, 3, 0] rfl)
              · have hf := itF hf c_8
                obtain rfl := Option.some.inj hf
                exact hE _ rfl H locs ls hP hS (lv_sub hl [] rfl)
        · rcases q_26 with ⟨⟩ | ⟨⟩
          · dsimp only at hf
            intro H locs ls hP hS hl
            refine lv_bipush (v := -2) hx hb dX12_locks_64 (by decide) ?_
            obtain ⟨rfl, rfl⟩ := Prod.mk.inj (Option.some.inj hf)
            exact wd_iret X hP hS hr0 dX12_locks_66 ⟨rfl, rfl⟩
          · dsimp only at hf
            intro H locs ls hP hS hl
            refine lv_aload_n hx hb dX12_locks_73 rfl (lv_at hl 0 rfl) ?_
            refine lv_iload_n hx hb dX12_locks_74 rfl (lv_at hl 1 rfl) ?_
            obtain ⟨mm_10, hc_11, hf⟩ := bi1S hf
            refine wd_cv X hP hS L1088 ml_X12_570 ⟨_, _, rfl⟩ (c_X12_findsLocks l D dA zz bs mm x1 mm_10 hc_11) rfl ⟨Nat.le_of_ble_eq_true rfl, Nat.le_of_ble_eq_true rfl⟩ hl.1 rfl (rest := []) (Nat.le_of_ble_eq_true rfl) ⟨Nat.zero_le _, Nat.zero_le _⟩ dX12_locks_75 (fun H locs hP hS => ?_)
            refine W.eq (g2 := F0 m 78 ls []) rfl ?_
            refine lv_iload_n hx hb dX12_locks_78 rfl (lv_at hl 2 rfl) ?_
            refine lv_if_ne (tgt := 87) hx hb dX12_locks_79 (by decide) (fun c_12 => ?_) (fun c_12 => ?_)
            · have hf := itF hf c_12
              refine lv_iconst (v := 0) hx hb dX12_locks_87 (by decide) ?_
              refine lv_istore_n (lv' := [(3, .int (0 : Int32)), (0, .ref (bs + 1088)), (1, .int x1), (2, .int x2)]) hx hb dX12_locks_88 rfl hl (by decide) rfl (fun ls hl => ?_)
              refine lv_iconst (v := 0) hx hb dX12_locks_89 (by decide) ?_
              refine lv_istore (lv' := [(4, .int (0 : Int32)), (3, .int (0 : Int32)), (0, .ref (bs + 1088)), (1, .int x1), (2, .int x2)]) hx hb dX12_locks_90 hl (by decide) rfl (fun ls hl => ?_)
              obtain ⟨q_24, hlp_25, hf⟩ := bi1S hf
              refine lp_walk (Wh := (fun z => match z with | (y3L_18, y4L_18) => ∀ (H : Heap) (locs : List Loc) (ls : Array Slot), Wd D dA bs LY mm_10 H → va_S (Aq bs) s.heap H locs → lv_has ls 5 [(0, .ref (bs + 1088)), (2, .int x2), (3, .int y3L_18), (4, .int y4L_18)] → Wz p l e s m args below meth c D dA bs (some (.int out)) m1 3 67 H locs 92 ls [])) (Ph := (fun w3_19 => ∀ (H : Heap) (locs : List Loc) (ls : Array Slot), Wd D dA bs LY mm_10 H → va_S (Aq bs) s.heap H locs → lv_has ls 5 [(0, .ref (bs + 1088)), (2, .int x2), (3, .int w3_19)] → Wz p l e s m args below meth c D dA bs (some (.int out)) m1 3 67 H locs 123 ls [])) ?_ hlp_25 ?_ H locs ls hP hS (lv_sub hl [2, 4, 1, 0] rfl)
              · intro z o hf hB hE
                obtain ⟨y3L_18, y4L_18⟩ := z
                intro H locs ls hP hS hl
                have hf : f_X12_locks_s92 mm_10 x2 (y3L_18, y4L_18) = some o := hf
                unfold f_X12_locks_s92 at hf
                dsimp only at hf
                have hJ115 : ∀ (y4J_13 : Int32) (z0J_13 : Int32) (z1J_13 : Int32) (H : Heap) (locs : List Loc) (ls : Array Slot), f_X12_locks_j115 mm_10 x2 y4J_13 z0J_13 z1J_13 = some o → Wd D dA bs LY mm_10 H → va_S (Aq bs) s.heap H locs → lv_has ls 5 [(0, .ref (bs + 1088)), (2, .int x2), (4, .int y4J_13)] → Wz p l e s m args below meth c D dA bs (some (.int out)) m1 3 67 H locs 115 ls [.int z0J_13, .int z1J_13] := by
                  intro y4J_13 z0J_13 z1J_13 H locs ls hf hP hS hl
                  unfold f_X12_locks_j115 at hf
                  refine lv_iadd hx hb dX12_locks_115 ?_
                  refine lv_istore_n (lv' := [(3, .int (z1J_13 + z0J_13)), (0, .ref (bs + 1088)), (2, .int x2), (4, .int y4J_13)]) hx hb dX12_locks_116 rfl hl (by decide) rfl (fun ls hl => ?_)
                  refine lv_iinc (v := (y4J_13 + 1)) (lv' := [(4, .int (y4J_13 + 1)), (3, .int (z1J_13 + z0J_13)), (0, .ref (bs + 1088)), (2, .int x2)]) hx hb dX12_locks_117 hl (k := 3) rfl rfl (by decide) rfl (fun ls hl => ?_)
                  refine lv_goto (tgt := 92) hx hb dX12_locks_120 (by decide) ?_
                  obtain rfl := Option.some.inj hf
                  exact hB _ rfl H locs ls hP hS (lv_sub hl [2, 3, 1, 0] rfl)
                refine lv_iload hx hb dX12_locks_92 (lv_at hl 3 rfl) ?_
                refine lv_iload_n hx hb dX12_locks_94 rfl (lv_at hl 1 rfl) ?_
                refine lv_iconst (v := 1) hx hb dX12_locks_95 (by decide) ?_
                refine lv_isub hx hb dX12_locks_96 ?_
                refine lv_icmp_ge (tgt := 123) hx hb dX12_locks_97 (by decide) (fun c_14 => ?_) (fun c_14 => ?_)
                · have hf := itT hf c_14
                  obtain rfl := Option.some.inj hf
                  exact hE _ rfl H locs ls hP hS (lv_sub hl [0, 1, 2] rfl)
                · have hf := itF hf c_14
                  refine lv_iload_n hx hb dX12_locks_100 rfl (lv_at hl 2 rfl) ?_
                  refine lv_aload_n hx hb dX12_locks_101 rfl (lv_at hl 0 rfl) ?_
                  refine lv_iload hx hb dX12_locks_102 (lv_at hl 3 rfl) ?_
                  obtain ⟨r_16, hc_15, hf⟩ := bi1S hf
                  refine wd_cv X hP hS L1088 ml_X12_436 ⟨_, _, rfl⟩ (c_X12_isAfloat l D dA zz bs mm_10 y4L_18 r_16 hc_15) rfl ⟨Nat.le_of_ble_eq_true rfl, Nat.le_of_ble_eq_true rfl⟩ hl.1 rfl (rest := [.int y3L_18]) (Nat.le_of_ble_eq_true rfl) ⟨Nat.zero_le _, Nat.zero_le _⟩ dX12_locks_104 (fun H locs hP hS => ?_)
                  refine W.eq (g2 := F0 m 107 ls [.int r_16, .int y3L_18]) rfl ?_
                  refine lv_if_eq (tgt := 114) hx hb dX12_locks_107 (by decide) (fun c_17 => ?_) (fun c_17 => ?_)
                  · have hf := itT hf c_17
                    refine lv_iconst (v := 0) hx hb dX12_locks_114 (by decide) ?_
                    exact hJ115 y4L_18 (0 : Int32) y3L_18 H locs ls hf hP hS (lv_sub hl [0, 1, 3] rfl)
                  · have hf := itF hf c_17
                    refine lv_iconst (v := 1) hx hb dX12_locks_110 (by decide) ?_
                    refine lv_goto (tgt := 115) hx hb dX12_locks_111 (by decide) ?_
                    exact hJ115 y4L_18 (1 : Int32) y3L_18 H locs ls hf hP hS (lv_sub hl [0, 1, 3] rfl)
              · obtain ⟨w3_19, e_w3_19⟩ : ∃ z, z = q_24 := ⟨_, rfl⟩
                subst e_w3_19
                intro H locs ls hP hS hl
                refine lv_aload_n hx hb dX12_locks_123 rfl (lv_at hl 0 rfl) ?_
                refine lv_iload_n hx hb dX12_locks_124 rfl (lv_at hl 1 rfl) ?_
                refine lv_iconst (v := 1) hx hb dX12_locks_125 (by decide) ?_
                refine lv_isub hx hb dX12_locks_126 ?_
                obtain ⟨r_21, hc_20, hf⟩ := bi1S hf
                refine wd_cv X hP hS L1088 ml_X12_436 ⟨_, _, rfl⟩ (c_X12_isAfloat l D dA zz bs mm_10 (x2 - (1 : Int32)) r_21 hc_20) rfl ⟨Nat.le_of_ble_eq_true rfl, Nat.le_of_ble_eq_true rfl⟩ hl.1 rfl (rest := []) (Nat.le_of_ble_eq_true rfl) ⟨Nat.zero_le _, Nat.zero_le _⟩ dX12_locks_127 (fun H locs hP hS => ?_)
                refine W.eq (g2 := F0 m 130 ls [.int r_21]) rfl ?_
                refine lv_if_eq (tgt := 142) hx hb dX12_locks_130 (by decide) (fun c_22 => ?_) (fun c_22 => ?_)
                · have hf := itT hf c_22
                  refine lv_iconst (v := -1) hx hb dX12_locks_142 (by decide) ?_
                  obtain ⟨rfl, rfl⟩ := Prod.mk.inj (Option.some.inj hf)
                  exact wd_iret X hP hS hr0 dX12_locks_143 ⟨rfl, rfl⟩
                · have hf := itF hf c_22
                  refine lv_aload_n hx hb dX12_locks_133 rfl (lv_at hl 0 rfl) ?_
                  refine wd_getR (q := 1135) X hP L1088 fl_X12_154 rfl dX12_locks_134 ?_
                  refine lv_iload_n hx hb dX12_locks_137 rfl (lv_at hl 2 rfl) ?_
                  have g_23 := gdN hf
                  have hf := gdK hf
                  refine wd_iald X hP L1135 g_23 dX12_locks_138 ?_
                  refine lv_goto (tgt := 143) hx hb dX12_locks_139 (by decide) ?_
                  obtain ⟨rfl, rfl⟩ := Prod.mk.inj (Option.some.inj hf)
                  exact wd_iret X hP hS hr0 dX12_locks_143 ⟨rfl, rfl⟩
            · have hf := itT hf c_12
              refine lv_aload_n hx hb dX12_locks_82 rfl (lv_at hl 0 rfl) ?_
              refine wd_getI X hP L1088 fl_X12_557 rfl dX12_locks_83 ?_
              obtain ⟨rfl, rfl⟩ := Prod.mk.inj (Option.some.inj hf)
              exact wd_iret X hP hS hr0 dX12_locks_86 ⟨rfl, rfl⟩
      · have hf := itT hf c_3
        refine lv_iconst (v := -1) hx hb dX12_locks_31 (by decide) ?_
        obtain ⟨rfl, rfl⟩ := Prod.mk.inj (Option.some.inj hf)
        exact wd_iret X hP hS hr0 dX12_locks_32 ⟨rfl, rfl⟩

noncomputable def f_X12_ropeBetween_j44 (mm : Mm) (z0 : Int32) : Option (Int32) :=
  some ((1 : Int32) + (z0 / (5 : Int32)))
noncomputable def f_X12_ropeBetween (mm : Mm) (x1 : Int32) (x2 : Int32) : Option (Int32) :=
  if x1 < 0 ∨ 8 ≤ x1.toNatClampNeg then none else
    if x2 < 0 ∨ 8 ≤ x2.toNatClampNeg then none else
      if (mm.1 1094 x2.toNatClampNeg) ≤ (mm.1 1094 x1.toNatClampNeg) then
        if x1 < 0 ∨ 8 ≤ x1.toNatClampNeg then none else
          if x2 < 0 ∨ 8 ≤ x2.toNatClampNeg then none else
            f_X12_ropeBetween_j44 mm ((mm.1 1094 x1.toNatClampNeg) - (mm.1 1094 x2.toNatClampNeg))
      else
        if x2 < 0 ∨ 8 ≤ x2.toNatClampNeg then none else
          if x1 < 0 ∨ 8 ≤ x1.toNatClampNeg then none else
            f_X12_ropeBetween_j44 mm ((mm.1 1094 x2.toNatClampNeg) - (mm.1 1094 x1.toNatClampNeg))
set_option maxHeartbeats 4000000 in
set_option maxRecDepth 100000 in
theorem c_X12_ropeBetween (l : Launch) (D : va_G) (dA : Nat → ClassId) (zz : (Nat → Nat) × (Nat → Nat)) (bs : Nat) (mm : Mm) (x1 : Int32) (x2 : Int32) (out : Int32) (hf : f_X12_ropeBetween mm x1 x2 = some out) : Mw l D dA zz bs LY yX12_ropeBetween cX12_ropeBetween 4 (some .int) 0 0 [.ref (bs + 1088), .int x1, .int x2] mm (some (.int out)) mm := by
  refine Mw.of (own := RX12) (by decide) rfl (Nat.le_of_ble_eq_true rfl) ?_
  intro p e s m args below meth c X hr0 hP hS ls hl
  have hx := X.1
  have hb := X.2.1
  obtain ⟨H, hH⟩ : ∃ z : Heap, z = s.heap := ⟨_, rfl⟩
  obtain ⟨locs, hL⟩ : ∃ z : List Loc, z = [] := ⟨_, rfl⟩
  rw [← hH, ← hL]
  have hS : va_S (Aq bs) s.heap H locs := by rw [hH, hL]; exact hS
  have hP : Wd D dA bs LY mm H := by rw [hH]; exact hP
  have hl : lv_has ls 4 [(0, .ref (bs + 1088)), (1, .int x1), (2, .int x2)] := hl
  have hJ44 : ∀ (z0J_1 : Int32) (H : Heap) (locs : List Loc) (ls : Array Slot), f_X12_ropeBetween_j44 mm z0J_1 = some out → Wd D dA bs LY mm H → va_S (Aq bs) s.heap H locs → lv_has ls 4 [] → Wz p l e s m args below meth c D dA bs (some (.int out)) mm 0 0 H locs 44 ls [.int z0J_1] := by
    intro z0J_1 H locs ls hf hP hS hl
    unfold f_X12_ropeBetween_j44 at hf
    refine lv_istore_n (lv' := [(3, .int z0J_1)]) hx hb dX12_ropeBetween_44 rfl hl (by decide) rfl (fun ls hl => ?_)
    refine lv_iconst (v := 1) hx hb dX12_ropeBetween_45 (by decide) ?_
    refine lv_iload_n hx hb dX12_ropeBetween_46 rfl (lv_at hl 0 rfl) ?_
    refine lv_iconst (v := 5) hx hb dX12_ropeBetween_47 (by decide) ?_
    refine lv_idiv hx hb dX12_ropeBetween_48 (by decide) ?_
    refine lv_iadd hx hb dX12_ropeBetween_49 ?_
    obtain rfl := Option.some.inj hf
    exact wd_iret X hP hS hr0 dX12_ropeBetween_50 ⟨rfl, rfl⟩
  unfold f_X12_ropeBetween at hf
  refine lv_aload_n hx hb dX12_ropeBetween_0 rfl (lv_at hl 0 rfl) ?_
  refine wd_getR (q := 1094) X hP L1088 fl_X12_25 rfl dX12_ropeBetween_1 ?_
  refine lv_iload_n hx hb dX12_ropeBetween_4 rfl (lv_at hl 1 rfl) ?_
  have g_2 := gdN hf
  have hf := gdK hf
  refine wd_iald X hP L1094 g_2 dX12_ropeBetween_5 ?_
  refine lv_aload_n hx hb dX12_ropeBetween_6 rfl (lv_at hl 0 rfl) ?_
  refine wd_getR (q := 1094) X hP L1088 fl_X12_25 rfl dX12_ropeBetween_7 ?_
  refine lv_iload_n hx hb dX12_ropeBetween_10 rfl (lv_at hl 2 rfl) ?_
  have g_3 := gdN hf
  have hf := gdK hf
  refine wd_iald X hP L1094 g_3 dX12_ropeBetween_11 ?_
  refine lv_icmp_ge (tgt := 31) hx hb dX12_ropeBetween_12 (by decide) (fun c_4 => ?_) (fun c_4 => ?_)
  · have hf := itT hf c_4
    refine lv_aload_n hx hb dX12_ropeBetween_31 rfl (lv_at hl 0 rfl) ?_
    refine wd_getR (q := 1094) X hP L1088 fl_X12_25 rfl dX12_ropeBetween_32 ?_
    refine lv_iload_n hx hb dX12_ropeBetween_35 rfl (lv_at hl 1 rfl) ?_
    have g_5 := gdN hf
    have hf := gdK hf
    refine wd_iald X hP L1094 g_5 dX12_ropeBetween_36 ?_
    refine lv_aload_n hx hb dX12_ropeBetween_37 rfl (lv_at hl 0 rfl) ?_
    refine wd_getR (q := 1094) X hP L1088 fl_X12_25 rfl dX12_ropeBetween_38 ?_
    refine lv_iload_n hx hb dX12_ropeBetween_41 rfl (lv_at hl 2 rfl) ?_
    have g_6 := gdN hf
    have hf := gdK hf
    refine wd_iald X hP L1094 g_6 dX12_ropeBetween_42 ?_
    refine lv_isub hx hb dX12_ropeBetween_43 ?_
    exact hJ44 ((mm.1 1094 x1.toNatClampNeg) - (mm.1 1094 x2.toNatClampNeg)) H locs ls hf hP hS (lv_sub hl [] rfl)
  · have hf := itF hf c_4
    refine lv_aload_n hx hb dX12_ropeBetween_15 rfl (lv_at hl 0 rfl) ?_
    refine wd_getR (q := 1094) X hP L1088 fl_X12_25 rfl dX12_ropeBetween_16 ?_
    refine lv_iload_n hx hb dX12_ropeBetween_19 rfl (lv_at hl 2 rfl) ?_
    have g_7 := gdN hf
    have hf := gdK hf
    refine wd_iald X hP L1094 g_7 dX12_ropeBetween_20 ?_
    refine lv_aload_n hx hb dX12_ropeBetween_21 rfl (lv_at hl 0 rfl) ?_
    refine wd_getR (q := 1094) X hP L1088 fl_X12_25 rfl dX12_ropeBetween_22 ?_
    refine lv_iload_n hx hb dX12_ropeBetween_25 rfl (lv_at hl 1 rfl) ?_
    have g_8 := gdN hf
    have hf := gdK hf
    refine wd_iald X hP L1094 g_8 dX12_ropeBetween_26 ?_
    refine lv_isub hx hb dX12_ropeBetween_27 ?_
    refine lv_goto (tgt := 44) hx hb dX12_ropeBetween_28 (by decide) ?_
    exact hJ44 ((mm.1 1094 x2.toNatClampNeg) - (mm.1 1094 x1.toNatClampNeg)) H locs ls hf hP hS (lv_sub hl [] rfl)

noncomputable def f_X12_delta_j57 (mm : Mm) (y1 : Int32) (y2 : Int32) (z0 : Int32) (z1 : Int32) : Option ((Int32 × Mm) ⊕ (Mm)) :=
  if z1 < 0 ∨ 8 ≤ z1.toNatClampNeg then none else
    vlet (wI mm 1137 z1.toNatClampNeg z0) fun mm_3 => some (.inl ((y2 + 1), mm_3))
noncomputable def f_X12_delta_s21 (y1 : Int32) : (Int32 × Mm) → Option ((Int32 × Mm) ⊕ (Mm)) :=
  fun q => match q with
  | (y2, mm) =>
    if (mm.1 1089 3) ≤ y2 then
      some (.inr mm)
    else
      if y2 < 0 ∨ 8 ≤ y2.toNatClampNeg then none else
        if (mm.1 1097 y2.toNatClampNeg) = 0 then
          bi1 (f_X12_pieceOf mm y2) fun r_10 =>
            bi1 (f_X12_least mm r_10) fun r_12 => f_X12_delta_j57 mm y1 y2 r_12 y2
        else
          f_X12_delta_j57 mm y1 y2 (-1 : Int32) y2
noncomputable def f_X12_delta_j303 (mm : Mm) (y1 : Int32) (y2 : Int32) (y3 : Int32) (y4 : Int32) (y7 : Int32) (y8 : Int32) (y9 : Int32) (z0 : Int32) (z1 : Int32) : Option ((Int32 × Mm) ⊕ (Mm)) :=
  if z1 < 0 ∨ 8 ≤ z1.toNatClampNeg then none else
    vlet (wI mm 1137 z1.toNatClampNeg z0) fun mm_22 => some (.inl ((y9 + 1), mm_22))
noncomputable def f_X12_delta_s262 (y1 : Int32) (y2 : Int32) (y3 : Int32) (y4 : Int32) (y7 : Int32) (y8 : Int32) : (Int32 × Mm) → Option ((Int32 × Mm) ⊕ (Mm)) :=
  fun q => match q with
  | (y9, mm) =>
    if (mm.1 1089 3) ≤ y9 then
      some (.inr mm)
    else
      if y9 < 0 ∨ 8 ≤ y9.toNatClampNeg then none else
        if (mm.1 1137 y9.toNatClampNeg) = y7 then
          f_X12_delta_j303 mm y1 y2 y3 y4 y7 y8 y9 y8 y9
        else
          if y9 < 0 ∨ 8 ≤ y9.toNatClampNeg then none else
            f_X12_delta_j303 mm y1 y2 y3 y4 y7 y8 y9 (mm.1 1137 y9.toNatClampNeg) y9
noncomputable def f_X12_delta_j220 (mm : Mm) (y1 : Int32) (y2 : Int32) (y3 : Int32) (y5 : Int32) (y6 : Int32) (z0 : Int32) : Option ((Int32 × Int32 × Int32 × Mm) ⊕ (Int32 × Int32 × Mm)) :=
  if z0 = 0 then
    some (.inl (y2, y3, z0, mm))
  else
    bi1 (f_X12_ropeBetween mm y5 y6) fun r_17 =>
      if y6 < 0 ∨ 8 ≤ y6.toNatClampNeg then none else
        vlet (mm.1 1137 y6.toNatClampNeg) fun (x7_19 : Int32) =>
          if y5 < 0 ∨ 8 ≤ y5.toNatClampNeg then none else
            vlet (mm.1 1137 y5.toNatClampNeg) fun (x8_21 : Int32) =>
              bi1 (lp (f_X12_delta_s262 y1 (y2 + r_17) (y3 + 1) z0 x7_19 x8_21) ((0 : Int32), mm)) fun mm_30 =>
                some (.inl ((y2 + r_17), (y3 + 1), z0, mm_30))
noncomputable def f_X12_delta_j189 (mm : Mm) (y1 : Int32) (y2 : Int32) (y3 : Int32) (y7 : Int32) (y8 : Int32) : Option ((Int32 × Int32 × Int32) ⊕ (Int32 × Int32)) :=
  some (.inl (y7, y8, (y8 + 1)))
noncomputable def f_X12_delta_j157 (mm : Mm) (y1 : Int32) (y2 : Int32) (y3 : Int32) (y5 : Int32) (y6 : Int32) (y7 : Int32) (y8 : Int32) (z0 : Int32) : Option ((Int32 × Int32 × Int32) ⊕ (Int32 × Int32)) :=
  if z0 = 0 then
    some (.inl (y5, y6, (y8 + 1)))
  else
    if y5 = (-1 : Int32) then
      f_X12_delta_j189 mm y1 y2 y3 y7 y8
    else
      bi1 (f_X12_ropeBetween mm y7 y8) fun r_40 =>
        bi1 (f_X12_ropeBetween mm y5 y6) fun r_42 =>
          if r_42 ≤ r_40 then
            some (.inl (y5, y6, (y8 + 1)))
          else
            f_X12_delta_j189 mm y1 y2 y3 y7 y8
noncomputable def f_X12_delta_j156 (mm : Mm) (y1 : Int32) (y2 : Int32) (y3 : Int32) (y5 : Int32) (y6 : Int32) (y7 : Int32) (y8 : Int32) : Option ((Int32 × Int32 × Int32) ⊕ (Int32 × Int32)) :=
  f_X12_delta_j157 mm y1 y2 y3 y5 y6 y7 y8 (0 : Int32)
noncomputable def f_X12_delta_s102 (mm : Mm) (y1 : Int32) (y2 : Int32) (y3 : Int32) (y7 : Int32) : (Int32 × Int32 × Int32) → Option ((Int32 × Int32 × Int32) ⊕ (Int32 × Int32)) :=
  fun q => match q with
  | (y5, y6, y8) =>
    if (mm.1 1089 3) ≤ y8 then
      some (.inr (y5, y6))
    else
      if y7 < 0 ∨ 8 ≤ y7.toNatClampNeg then none else
        if (mm.1 1137 y7.toNatClampNeg) = (-1 : Int32) then
          f_X12_delta_j156 mm y1 y2 y3 y5 y6 y7 y8
        else
          if y8 < 0 ∨ 8 ≤ y8.toNatClampNeg then none else
            if (mm.1 1137 y8.toNatClampNeg) = (-1 : Int32) then
              f_X12_delta_j156 mm y1 y2 y3 y5 y6 y7 y8
            else
              if y7 < 0 ∨ 8 ≤ y7.toNatClampNeg then none else
                if y8 < 0 ∨ 8 ≤ y8.toNatClampNeg then none else
                  if (mm.1 1137 y7.toNatClampNeg) = (mm.1 1137 y8.toNatClampNeg) then
                    f_X12_delta_j156 mm y1 y2 y3 y5 y6 y7 y8
                  else
                    f_X12_delta_j157 mm y1 y2 y3 y5 y6 y7 y8 (1 : Int32)
noncomputable def f_X12_delta_s85 (mm : Mm) (y1 : Int32) (y2 : Int32) (y3 : Int32) : (Int32 × Int32 × Int32) → Option ((Int32 × Int32 × Int32) ⊕ (Int32 × Int32)) :=
  fun q => match q with
  | (y5, y6, y7) =>
    if (mm.1 1089 3) ≤ y7 then
      some (.inr (y5, y6))
    else
      bi1 (lp (f_X12_delta_s102 mm y1 y2 y3 y7) (y5, y6, (y7 + (1 : Int32)))) fun q => match q with
      | (w5_55, w6_56) =>
        some (.inl (w5_55, w6_56, (y7 + 1)))
noncomputable def f_X12_delta_s71 (y1 : Int32) : (Int32 × Int32 × Int32 × Mm) → Option ((Int32 × Int32 × Int32 × Mm) ⊕ (Int32 × Int32 × Mm)) :=
  fun q => match q with
  | (y2, y3, y4, mm) =>
    if y4 = 0 then
      some (.inr (y2, y3, mm))
    else
      bi1 (lp (f_X12_delta_s85 mm y1 y2 y3) ((-1 : Int32), (-1 : Int32), (0 : Int32))) fun q => match q with
      | (w5_60, w6_61) =>
        if w5_60 = (-1 : Int32) then
          f_X12_delta_j220 mm y1 y2 y3 w5_60 w6_61 (0 : Int32)
        else
          f_X12_delta_j220 mm y1 y2 y3 w5_60 w6_61 (1 : Int32)
noncomputable def f_X12_delta (mm : Mm) (x1 : Int32) : Option (Int32 × Mm) :=
  if (f_X12_isRiver mm) = 0 then
    some ((-1 : Int32), mm)
  else
    if (f_X12_in (x1.toInt64) (0 : Int64) (1 : Int64)) = 0 then
      some ((-1 : Int32), mm)
    else
      bi1 (lp (f_X12_delta_s21 x1) ((0 : Int32), mm)) fun mm_14 =>
        bi1 (lp (f_X12_delta_s71 x1) ((0 : Int32), (0 : Int32), (1 : Int32), mm_14)) fun q => match q with
        | (w2_66, w3_67, mm_68) =>
          if x1 = 0 then
            some (w2_66, mm_68)
          else
            some (w3_67, mm_68)
set_option maxHeartbeats 4000000 in
set_option maxRecDepth 100000 in
theorem c_X12_delta (l : Launch) (D : va_G) (dA : Nat → ClassId) (zz : (Nat → Nat) × (Nat → Nat)) (bs : Nat) (mm : Mm) (x1 : Int32) (out : Int32) (m1 : Mm) (hf : f_X12_delta mm x1 = some (out, m1)) : Mw l D dA zz bs LY yX12_delta cX12_delta 10 (some .int) 3 70 [.ref (bs + 1088), .int x1] mm (some (.int out)) m1 := by
  refine Mw.of (own := RX12) (by decide) rfl (Nat.le_of_ble_eq_true rfl) ?_
  intro p e s m args below meth c X hr0 hP hS ls hl
  have hx := X.1
  have hb := X.2.1
  obtain ⟨H, hH⟩ : ∃ z : Heap, z = s.heap := ⟨_, rfl⟩
  obtain ⟨locs, hL⟩ : ∃ z : List Loc, z = [] := ⟨_, rfl⟩
  rw [← hH, ← hL]
  have hS : va_S (Aq bs) s.heap H locs := by rw [hH, hL]; exact hS
  have hP : Wd D dA bs LY mm H := by rw [hH]; exact hP
  have hl : lv_has ls 10 [(0, .ref (bs + 1088)), (1, .int x1)] := hl
  unfold f_X12_delta at hf
  refine lv_aload_n hx hb dX12_delta_0 rfl (lv_at hl 0 rfl) ?_
  refine wd_cv X hP hS L1088 ml_X12_430 ⟨_, _, rfl⟩ (c_X12_isRiver l D dA zz bs mm (f_X12_isRiver mm) rfl) rfl ⟨Nat.le_of_ble_eq_true rfl, Nat.le_of_ble_eq_true rfl⟩ hl.1 rfl (rest := []) (Nat.le_of_ble_eq_true rfl) ⟨Nat.zero_le _, Nat.zero_le _⟩ dX12_delta_1 (fun H locs hP hS => ?_)
  refine W.eq (g2 := F0 m 4 ls [.int (f_X12_isRiver mm)]) rfl ?_
  refine lv_if_eq (tgt := 17) hx hb dX12_delta_4 (by decide) (fun c_1 => ?_) (fun c_1 => ?_)
  · have hf := itT hf c_1
    refine lv_iconst (v := -1) hx hb dX12_delta_17 (by decide) ?_
    obtain ⟨rfl, rfl⟩ := Prod.mk.inj (Option.some.inj hf)
    exact wd_iret X hP hS hr0 dX12_delta_18 ⟨rfl, rfl⟩
  · have hf := itF hf c_1
    refine lv_iload_n hx hb dX12_delta_7 rfl (lv_at hl 1 rfl) ?_
    refine lv_i2l hx hb dX12_delta_8 rfl ?_
    refine lv_lconst (v := 0) hx hb dX12_delta_9 (by decide) ?_
    refine lv_lconst (v := 1) hx hb dX12_delta_10 (by decide) ?_
    refine wd_cs X hP hS ml_X12_176 (c_X12_in l D dA zz bs mm (x1.toInt64) (0 : Int64) (1 : Int64) (f_X12_in (x1.toInt64) (0 : Int64) (1 : Int64)) rfl) rfl ⟨Nat.le_of_ble_eq_true rfl, Nat.le_of_ble_eq_true rfl⟩ hl.1 rfl (rest := []) (Nat.le_of_ble_eq_true rfl) ⟨Nat.zero_le _, Nat.zero_le _⟩ dX12_delta_11 (fun H locs hP hS => ?_)
    refine W.eq (g2 := F0 m 14 ls [.int (f_X12_in (x1.toInt64) (0 : Int64) (1 : Int64))]) rfl ?_
    refine lv_if_ne (tgt := 19) hx hb dX12_delta_14 (by decide) (fun c_2 => ?_) (fun c_2 => ?_)
    · have hf := itF hf c_2
      refine lv_iconst (v := 0) hx hb dX12_delta_19 (by decide) ?_
      refine lv_istore_n (lv' := [(2, .int (0 : Int32)), (0, .ref (bs + 1088)), (1, .int x1)]) hx hb dX12_delta_20 rfl hl (by decide) rfl (fun ls hl => ?_)
      obtain ⟨q_72, hlp_73, hf⟩ := bi1S hf
      refine lp_walk (Wh := (fun z => match z with | (y2L_13, mmL_13) => ∀ (H : Heap) (locs : List Loc) (ls : Array Slot), Wd D dA bs LY mmL_13 H → va_S (Aq bs) s.heap H locs → lv_has ls 10 [(0, .ref (bs + 1088)), (1, .int x1), (2, .int y2L_13)] → Wz p l e s m args below meth c D dA bs (some (.int out)) m1 3 70 H locs 21 ls [])) (Ph := (fun mm_14 => ∀ (H : Heap) (locs : List Loc) (ls : Array Slot), Wd D dA bs LY mm_14 H → va_S (Aq bs) s.heap H locs → lv_has ls 10 [(0, .ref (bs + 1088)), (1, .int x1)] → Wz p l e s m args below meth c D dA bs (some (.int out)) m1 3 70 H locs 64 ls [])) ?_ hlp_73 ?_ H locs ls hP hS (lv_sub hl [1, 2, 0] rfl)
      · intro z o hf hB hE
        obtain ⟨y2L_13, mmL_13⟩ := z
        intro H locs ls hP hS hl
        have hf : f_X12_delta_s21 x1 (y2L_13, mmL_13) = some o := hf
        unfold f_X12_delta_s21 at hf
        dsimp only at hf
        have hJ57 : ∀ (mmJ_5 : Mm) (y2J_5 : Int32) (z0J_5 : Int32) (z1J_5 : Int32) (H : Heap) (locs : List Loc) (ls : Array Slot), f_X12_delta_j57 mmJ_5 x1 y2J_5 z0J_5 z1J_5 = some o → Wd D dA bs LY mmJ_5 H → va_S (Aq bs) s.heap H locs → lv_has ls 10 [(0, .ref (bs + 1088)), (1, .int x1), (2, .int y2J_5)] → Wz p l e s m args below meth c D dA bs (some (.int out)) m1 3 70 H locs 57 ls [.int z0J_5, .int z1J_5, .ref (bs + 1137)] := by
          intro mmJ_5 y2J_5 z0J_5 z1J_5 H locs ls hf hP hS hl
          unfold f_X12_delta_j57 at hf
          have g_4 := gdN hf
          have hf := gdK hf
          refine wd_iast X hP hS L1137 g_4 dX12_delta_57 (fun H locs mm_3 emm_3 hP hS => ?_)
          have hf := vl hf emm_3
          refine lv_iinc (v := (y2J_5 + 1)) (lv' := [(2, .int (y2J_5 + 1)), (0, .ref (bs + 1088)), (1, .int x1)]) hx hb dX12_delta_58 hl (k := 2) rfl rfl (by decide) rfl (fun ls hl => ?_)
          refine lv_goto (tgt := 21) hx hb dX12_delta_61 (by decide) ?_
          obtain rfl := Option.some.inj hf
          exact hB _ rfl H locs ls hP hS (lv_sub hl [1, 2, 0] rfl)
        refine lv_iload_n hx hb dX12_delta_21 rfl (lv_at hl 2 rfl) ?_
        refine lv_aload_n hx hb dX12_delta_22 rfl (lv_at hl 0 rfl) ?_
        refine wd_getR (q := 1089) X hP L1088 fl_X12_9 rfl dX12_delta_23 ?_
        refine lv_iconst (v := 3) hx hb dX12_delta_26 (by decide) ?_
        refine wd_ialdK (k := 3) X hP L1089 (by decide) (by decide) dX12_delta_27 ?_
        refine lv_icmp_ge (tgt := 64) hx hb dX12_delta_28 (by decide) (fun c_6 => ?_) (fun c_6 => ?_)
        · have hf := itT hf c_6
          obtain rfl := Option.some.inj hf
          exact hE _ rfl H locs ls hP hS (lv_sub hl [0, 1] rfl)
        · have hf := itF hf c_6
          refine lv_aload_n hx hb dX12_delta_31 rfl (lv_at hl 0 rfl) ?_
          refine wd_getR (q := 1137) X hP L1088 fl_X12_160 rfl dX12_delta_32 ?_
          refine lv_iload_n hx hb dX12_delta_35 rfl (lv_at hl 2 rfl) ?_
          refine lv_aload_n hx hb dX12_delta_36 rfl (lv_at hl 0 rfl) ?_
          refine wd_getR (q := 1097) X hP L1088 fl_X12_34 rfl dX12_delta_37 ?_
          refine lv_iload_n hx hb dX12_delta_40 rfl (lv_at hl 2 rfl) ?_
          have g_7 := gdN hf
          have hf := gdK hf
          refine wd_iald X hP L1097 g_7 dX12_delta_41 ?_
          refine lv_if_ne (tgt := 56) hx hb dX12_delta_42 (by decide) (fun c_8 => ?_) (fun c_8 => ?_)
          · have hf := itF hf c_8
            refine lv_iconst (v := -1) hx hb dX12_delta_56 (by decide) ?_
            exact hJ57 mmL_13 y2L_13 (-1 : Int32) y2L_13 H locs ls hf hP hS (lv_sub hl [0, 1, 2] rfl)
          · have hf := itT hf c_8
            refine lv_aload_n hx hb dX12_delta_45 rfl (lv_at hl 0 rfl) ?_
            refine lv_iload_n hx hb dX12_delta_46 rfl (lv_at hl 2 rfl) ?_
            obtain ⟨r_10, hc_9, hf⟩ := bi1S hf
            refine wd_cv X hP hS L1088 ml_X12_424 ⟨_, _, rfl⟩ (c_X12_pieceOf l D dA zz bs mmL_13 y2L_13 r_10 hc_9) rfl ⟨Nat.le_of_ble_eq_true rfl, Nat.le_of_ble_eq_true rfl⟩ hl.1 rfl (rest := [.int y2L_13, .ref (bs + 1137)]) (Nat.le_of_ble_eq_true rfl) ⟨Nat.zero_le _, Nat.zero_le _⟩ dX12_delta_47 (fun H locs hP hS => ?_)
            refine W.eq (g2 := F0 m 50 ls [.int r_10, .int y2L_13, .ref (bs + 1137)]) rfl ?_
            obtain ⟨r_12, hc_11, hf⟩ := bi1S hf
            refine wd_cs X hP hS ml_X12_421 (c_X12_least l D dA zz bs mmL_13 r_10 r_12 hc_11) rfl ⟨Nat.le_of_ble_eq_true rfl, Nat.le_of_ble_eq_true rfl⟩ hl.1 rfl (rest := [.int y2L_13, .ref (bs + 1137)]) (Nat.le_of_ble_eq_true rfl) ⟨Nat.zero_le _, Nat.zero_le _⟩ dX12_delta_50 (fun H locs hP hS => ?_)
            refine W.eq (g2 := F0 m 53 ls [.int r_12, .int y2L_13, .ref (bs + 1137)]) rfl ?_
            refine lv_goto (tgt := 57) hx hb dX12_delta_53 (by decide) ?_
            exact hJ57 mmL_13 y2L_13 r_12 y2L_13 H locs ls hf hP hS (lv_sub hl [0, 1, 2] rfl)
      · obtain ⟨mm_14, e_mm_14⟩ : ∃ z, z = q_72 := ⟨_, rfl⟩
        subst e_mm_14
        intro H locs ls hP hS hl
        refine lv_iconst (v := 0) hx hb dX12_delta_64 (by decide) ?_
        refine lv_istore_n (lv' := [(2, .int (0 : Int32)), (0, .ref (bs + 1088)), (1, .int x1)]) hx hb dX12_delta_65 rfl hl (by decide) rfl (fun ls hl => ?_)
        refine lv_iconst (v := 0) hx hb dX12_delta_66 (by decide) ?_
        refine lv_istore_n (lv' := [(3, .int (0 : Int32)), (2, .int (0 : Int32)), (0, .ref (bs + 1088)), (1, .int x1)]) hx hb dX12_delta_67 rfl hl (by decide) rfl (fun ls hl => ?_)
        refine lv_iconst (v := 1) hx hb dX12_delta_68 (by decide) ?_
        refine lv_istore (lv' := [(4, .int (1 : Int32)), (3, .int (0 : Int32)), (2, .int (0 : Int32)), (0, .ref (bs + 1088)), (1, .int x1)]) hx hb dX12_delta_69 hl (by decide) rfl (fun ls hl => ?_)
        obtain ⟨q_70, hlp_71, hf⟩ := bi1S hf
        refine lp_walk (Wh := (fun z => match z with | (y2L_65, y3L_65, y4L_65, mmL_65) => ∀ (H : Heap) (locs : List Loc) (ls : Array Slot), Wd D dA bs LY mmL_65 H → va_S (Aq bs) s.heap H locs → lv_has ls 10 [(0, .ref (bs + 1088)), (1, .int x1), (2, .int y2L_65), (3, .int y3L_65), (4, .int y4L_65)] → Wz p l e s m args below meth c D dA bs (some (.int out)) m1 3 70 H locs 71 ls [])) (Ph := (fun z => match z with | (w2_66, w3_67, mm_68) => ∀ (H : Heap) (locs : List Loc) (ls : Array Slot), Wd D dA bs LY mm_68 H → va_S (Aq bs) s.heap H locs → lv_has ls 10 [(1, .int x1), (2, .int w2_66), (3, .int w3_67)] → Wz p l e s m args below meth c D dA bs (some (.int out)) m1 3 70 H locs 313 ls [])) ?_ hlp_71 ?_ H locs ls hP hS (lv_sub hl [3, 4, 2, 1, 0] rfl)
        · intro z o hf hB hE
          obtain ⟨y2L_65, y3L_65, y4L_65, mmL_65⟩ := z
          intro H locs ls hP hS hl
          have hf : f_X12_delta_s71 x1 (y2L_65, y3L_65, y4L_65, mmL_65) = some o := hf
          unfold f_X12_delta_s71 at hf
          dsimp only at hf
          have hJ220 : ∀ (mmJ_33 : Mm) (y2J_33 : Int32) (y3J_33 : Int32) (y5J_33 : Int32) (y6J_33 : Int32) (z0J_33 : Int32) (H : Heap) (locs : List Loc) (ls : Array Slot), f_X12_delta_j220 mmJ_33 x1 y2J_33 y3J_33 y5J_33 y6J_33 z0J_33 = some o → Wd D dA bs LY mmJ_33 H → va_S (Aq bs) s.heap H locs → lv_has ls 10 [(0, .ref (bs + 1088)), (1, .int x1), (2, .int y2J_33), (3, .int y3J_33), (5, .int y5J_33), (6, .int y6J_33)] → Wz p l e s m args below meth c D dA bs (some (.int out)) m1 3 70 H locs 220 ls [.int z0J_33] := by
            intro mmJ_33 y2J_33 y3J_33 y5J_33 y6J_33 z0J_33 H locs ls hf hP hS hl
            unfold f_X12_delta_j220 at hf
            refine lv_istore (lv' := [(4, .int z0J_33), (0, .ref (bs + 1088)), (1, .int x1), (2, .int y2J_33), (3, .int y3J_33), (5, .int y5J_33), (6, .int y6J_33)]) hx hb dX12_delta_220 hl (by decide) rfl (fun ls hl => ?_)
            refine lv_iload hx hb dX12_delta_222 (lv_at hl 0 rfl) ?_
            refine lv_if_eq (tgt := 310) hx hb dX12_delta_224 (by decide) (fun c_15 => ?_) (fun c_15 => ?_)
            · have hf := itT hf c_15
              refine lv_goto (tgt := 71) hx hb dX12_delta_310 (by decide) ?_
              obtain rfl := Option.some.inj hf
              exact hB _ rfl H locs ls hP hS (lv_sub hl [1, 2, 3, 4, 0] rfl)
            · have hf := itF hf c_15
              refine lv_iload_n hx hb dX12_delta_227 rfl (lv_at hl 3 rfl) ?_
              refine lv_aload_n hx hb dX12_delta_228 rfl (lv_at hl 1 rfl) ?_
              refine lv_iload hx hb dX12_delta_229 (lv_at hl 5 rfl) ?_
              refine lv_iload hx hb dX12_delta_231 (lv_at hl 6 rfl) ?_
              obtain ⟨r_17, hc_16, hf⟩ := bi1S hf
              refine wd_cv X hP hS L1088 ml_X12_573 ⟨_, _, rfl⟩ (c_X12_ropeBetween l D dA zz bs mmJ_33 y5J_33 y6J_33 r_17 hc_16) rfl ⟨Nat.le_of_ble_eq_true rfl, Nat.le_of_ble_eq_true rfl⟩ hl.1 rfl (rest := [.int y2J_33]) (Nat.le_of_ble_eq_true rfl) ⟨Nat.zero_le _, Nat.zero_le _⟩ dX12_delta_233 (fun H locs hP hS => ?_)
              refine W.eq (g2 := F0 m 236 ls [.int r_17, .int y2J_33]) rfl ?_
              refine lv_iadd hx hb dX12_delta_236 ?_
              refine lv_istore_n (lv' := [(2, .int (y2J_33 + r_17)), (4, .int z0J_33), (0, .ref (bs + 1088)), (1, .int x1), (3, .int y3J_33), (5, .int y5J_33), (6, .int y6J_33)]) hx hb dX12_delta_237 rfl hl (by decide) rfl (fun ls hl => ?_)
              refine lv_iinc (v := (y3J_33 + 1)) (lv' := [(3, .int (y3J_33 + 1)), (2, .int (y2J_33 + r_17)), (4, .int z0J_33), (0, .ref (bs + 1088)), (1, .int x1), (5, .int y5J_33), (6, .int y6J_33)]) hx hb dX12_delta_238 hl (k := 4) rfl rfl (by decide) rfl (fun ls hl => ?_)
              refine lv_aload_n hx hb dX12_delta_241 rfl (lv_at hl 3 rfl) ?_
              refine wd_getR (q := 1137) X hP L1088 fl_X12_160 rfl dX12_delta_242 ?_
              refine lv_iload hx hb dX12_delta_245 (lv_at hl 6 rfl) ?_
              have g_18 := gdN hf
              have hf := gdK hf
              refine wd_iald X hP L1137 g_18 dX12_delta_247 ?_
              refine lv_topi (fun x7_19 ex7_19 => ?_)
              have hf := vl hf ex7_19
              refine lv_istore (lv' := [(7, .int x7_19), (3, .int (y3J_33 + 1)), (2, .int (y2J_33 + r_17)), (4, .int z0J_33), (0, .ref (bs + 1088)), (1, .int x1), (5, .int y5J_33), (6, .int y6J_33)]) hx hb dX12_delta_248 hl (by decide) rfl (fun ls hl => ?_)
              refine lv_aload_n hx hb dX12_delta_250 rfl (lv_at hl 4 rfl) ?_
              refine wd_getR (q := 1137) X hP L1088 fl_X12_160 rfl dX12_delta_251 ?_
              refine lv_iload hx hb dX12_delta_254 (lv_at hl 6 rfl) ?_
              have g_20 := gdN hf
              have hf := gdK hf
              refine wd_iald X hP L1137 g_20 dX12_delta_256 ?_
              refine lv_topi (fun x8_21 ex8_21 => ?_)
              have hf := vl hf ex8_21
              refine lv_istore (lv' := [(8, .int x8_21), (7, .int x7_19), (3, .int (y3J_33 + 1)), (2, .int (y2J_33 + r_17)), (4, .int z0J_33), (0, .ref (bs + 1088)), (1, .int x1), (5, .int y5J_33), (6, .int y6J_33)]) hx hb dX12_delta_257 hl (by decide) rfl (fun ls hl => ?_)
              refine lv_iconst (v := 0) hx hb dX12_delta_259 (by decide) ?_
              refine lv_istore (lv' := [(9, .int (0 : Int32)), (8, .int x8_21), (7, .int x7_19), (3, .int (y3J_33 + 1)), (2, .int (y2J_33 + r_17)), (4, .int z0J_33), (0, .ref (bs + 1088)), (1, .int x1), (5, .int y5J_33), (6, .int y6J_33)]) hx hb dX12_delta_260 hl (by decide) rfl (fun ls hl => ?_)
              obtain ⟨q_31, hlp_32, hf⟩ := bi1S hf
              refine lp_walk (Wh := (fun z => match z with | (y9L_29, mmL_29) => ∀ (H : Heap) (locs : List Loc) (ls : Array Slot), Wd D dA bs LY mmL_29 H → va_S (Aq bs) s.heap H locs → lv_has ls 10 [(0, .ref (bs + 1088)), (1, .int x1), (2, .int (y2J_33 + r_17)), (3, .int (y3J_33 + 1)), (4, .int z0J_33), (7, .int x7_19), (8, .int x8_21), (9, .int y9L_29)] → Wz p l e s m args below meth c D dA bs (some (.int out)) m1 3 70 H locs 262 ls [])) (Ph := (fun mm_30 => ∀ (H : Heap) (locs : List Loc) (ls : Array Slot), Wd D dA bs LY mm_30 H → va_S (Aq bs) s.heap H locs → lv_has ls 10 [(0, .ref (bs + 1088)), (1, .int x1), (2, .int (y2J_33 + r_17)), (3, .int (y3J_33 + 1)), (4, .int z0J_33)] → Wz p l e s m args below meth c D dA bs (some (.int out)) m1 3 70 H locs 310 ls [])) ?_ hlp_32 ?_ H locs ls hP hS (lv_sub hl [6, 7, 4, 3, 5, 2, 1, 0] rfl)
              · intro z o hf hB hE
                obtain ⟨y9L_29, mmL_29⟩ := z
                intro H locs ls hP hS hl
                have hf : f_X12_delta_s262 x1 (y2J_33 + r_17) (y3J_33 + 1) z0J_33 x7_19 x8_21 (y9L_29, mmL_29) = some o := hf
                unfold f_X12_delta_s262 at hf
                dsimp only at hf
                have hJ303 : ∀ (mmJ_24 : Mm) (y9J_24 : Int32) (z0J_24 : Int32) (z1J_24 : Int32) (H : Heap) (locs : List Loc) (ls : Array Slot), f_X12_delta_j303 mmJ_24 x1 (y2J_33 + r_17) (y3J_33 + 1) z0J_33 x7_19 x8_21 y9J_24 z0J_24 z1J_24 = some o → Wd D dA bs LY mmJ_24 H → va_S (Aq bs) s.heap H locs → lv_has ls 10 [(0, .ref (bs + 1088)), (1, .int x1), (2, .int (y2J_33 + r_17)), (3, .int (y3J_33 + 1)), (4, .int z0J_33), (7, .int x7_19), (8, .int x8_21), (9, .int y9J_24)] → Wz p l e s m args below meth c D dA bs (some (.int out)) m1 3 70 H locs 303 ls [.int z0J_24, .int z1J_24, .ref (bs + 1137)] := by
                  intro mmJ_24 y9J_24 z0J_24 z1J_24 H locs ls hf hP hS hl
                  unfold f_X12_delta_j303 at hf
                  have g_23 := gdN hf
                  have hf := gdK hf
                  refine wd_iast X hP hS L1137 g_23 dX12_delta_303 (fun H locs mm_22 emm_22 hP hS => ?_)
                  have hf := vl hf emm_22
                  refine lv_iinc (v := (y9J_24 + 1)) (lv' := [(9, .int (y9J_24 + 1)), (0, .ref (bs + 1088)), (1, .int x1), (2, .int (y2J_33 + r_17)), (3, .int (y3J_33 + 1)), (4, .int z0J_33), (7, .int x7_19), (8, .int x8_21)]) hx hb dX12_delta_304 hl (k := 7) rfl rfl (by decide) rfl (fun ls hl => ?_)
                  refine lv_goto (tgt := 262) hx hb dX12_delta_307 (by decide) ?_
                  obtain rfl := Option.some.inj hf
                  exact hB _ rfl H locs ls hP hS (lv_sub hl [1, 2, 3, 4, 5, 6, 7, 0] rfl)
                refine lv_iload hx hb dX12_delta_262 (lv_at hl 7 rfl) ?_
                refine lv_aload_n hx hb dX12_delta_264 rfl (lv_at hl 0 rfl) ?_
                refine wd_getR (q := 1089) X hP L1088 fl_X12_9 rfl dX12_delta_265 ?_
                refine lv_iconst (v := 3) hx hb dX12_delta_268 (by decide) ?_
                refine wd_ialdK (k := 3) X hP L1089 (by decide) (by decide) dX12_delta_269 ?_
                refine lv_icmp_ge (tgt := 310) hx hb dX12_delta_270 (by decide) (fun c_25 => ?_) (fun c_25 => ?_)
                · have hf := itT hf c_25
                  obtain rfl := Option.some.inj hf
                  exact hE _ rfl H locs ls hP hS (lv_sub hl [0, 1, 2, 3, 4] rfl)
                · have hf := itF hf c_25
                  refine lv_aload_n hx hb dX12_delta_273 rfl (lv_at hl 0 rfl) ?_
                  refine wd_getR (q := 1137) X hP L1088 fl_X12_160 rfl dX12_delta_274 ?_
                  refine lv_iload hx hb dX12_delta_277 (lv_at hl 7 rfl) ?_
                  refine lv_aload_n hx hb dX12_delta_279 rfl (lv_at hl 0 rfl) ?_
                  refine wd_getR (q := 1137) X hP L1088 fl_X12_160 rfl dX12_delta_280 ?_
                  refine lv_iload hx hb dX12_delta_283 (lv_at hl 7 rfl) ?_
                  have g_26 := gdN hf
                  have hf := gdK hf
                  refine wd_iald X hP L1137 g_26 dX12_delta_285 ?_
                  refine lv_iload hx hb dX12_delta_286 (lv_at hl 5 rfl) ?_
                  refine lv_icmp_ne (tgt := 296) hx hb dX12_delta_288 (by decide) (fun c_27 => ?_) (fun c_27 => ?_)
                  · have hf := itF hf c_27
                    refine lv_aload_n hx hb dX12_delta_296 rfl (lv_at hl 0 rfl) ?_
                    refine wd_getR (q := 1137) X hP L1088 fl_X12_160 rfl dX12_delta_297 ?_
                    refine lv_iload hx hb dX12_delta_300 (lv_at hl 7 rfl) ?_
                    have g_28 := gdN hf
                    have hf := gdK hf
                    refine wd_iald X hP L1137 g_28 dX12_delta_302 ?_
                    exact hJ303 mmL_29 y9L_29 (mmL_29.1 1137 y9L_29.toNatClampNeg) y9L_29 H locs ls hf hP hS (lv_sub hl [0, 1, 2, 3, 4, 5, 6, 7] rfl)
                  · have hf := itT hf c_27
                    refine lv_iload hx hb dX12_delta_291 (lv_at hl 6 rfl) ?_
                    refine lv_goto (tgt := 303) hx hb dX12_delta_293 (by decide) ?_
                    exact hJ303 mmL_29 y9L_29 x8_21 y9L_29 H locs ls hf hP hS (lv_sub hl [0, 1, 2, 3, 4, 5, 6, 7] rfl)
              · obtain ⟨mm_30, e_mm_30⟩ : ∃ z, z = q_31 := ⟨_, rfl⟩
                subst e_mm_30
                intro H locs ls hP hS hl
                refine lv_goto (tgt := 71) hx hb dX12_delta_310 (by decide) ?_
                obtain rfl := Option.some.inj hf
                exact hB _ rfl H locs ls hP hS (lv_sub hl [0, 1, 2, 3, 4] rfl)
          refine lv_iload hx hb dX12_delta_71 (lv_at hl 4 rfl) ?_
          refine lv_if_eq (tgt := 313) hx hb dX12_delta_73 (by decide) (fun c_34 => ?_) (fun c_34 => ?_)
          · have hf := itT hf c_34
            obtain rfl := Option.some.inj hf
            exact hE _ rfl H locs ls hP hS (lv_sub hl [1, 2, 3] rfl)
          · have hf := itF hf c_34
            refine lv_iconst (v := -1) hx hb dX12_delta_76 (by decide) ?_
            refine lv_istore (lv' := [(5, .int (-1 : Int32)), (0, .ref (bs + 1088)), (1, .int x1), (2, .int y2L_65), (3, .int y3L_65), (4, .int y4L_65)]) hx hb dX12_delta_77 hl (by decide) rfl (fun ls hl => ?_)
            refine lv_iconst (v := -1) hx hb dX12_delta_79 (by decide) ?_
            refine lv_istore (lv' := [(6, .int (-1 : Int32)), (5, .int (-1 : Int32)), (0, .ref (bs + 1088)), (1, .int x1), (2, .int y2L_65), (3, .int y3L_65), (4, .int y4L_65)]) hx hb dX12_delta_80 hl (by decide) rfl (fun ls hl => ?_)
            refine lv_iconst (v := 0) hx hb dX12_delta_82 (by decide) ?_
            refine lv_istore (lv' := [(7, .int (0 : Int32)), (6, .int (-1 : Int32)), (5, .int (-1 : Int32)), (0, .ref (bs + 1088)), (1, .int x1), (2, .int y2L_65), (3, .int y3L_65), (4, .int y4L_65)]) hx hb dX12_delta_83 hl (by decide) rfl (fun ls hl => ?_)
            obtain ⟨q_63, hlp_64, hf⟩ := bi1S hf
            refine lp_walk (Wh := (fun z => match z with | (y5L_59, y6L_59, y7L_59) => ∀ (H : Heap) (locs : List Loc) (ls : Array Slot), Wd D dA bs LY mmL_65 H → va_S (Aq bs) s.heap H locs → lv_has ls 10 [(0, .ref (bs + 1088)), (1, .int x1), (2, .int y2L_65), (3, .int y3L_65), (5, .int y5L_59), (6, .int y6L_59), (7, .int y7L_59)] → Wz p l e s m args below meth c D dA bs (some (.int out)) m1 3 70 H locs 85 ls [])) (Ph := (fun z => match z with | (w5_60, w6_61) => ∀ (H : Heap) (locs : List Loc) (ls : Array Slot), Wd D dA bs LY mmL_65 H → va_S (Aq bs) s.heap H locs → lv_has ls 10 [(0, .ref (bs + 1088)), (1, .int x1), (2, .int y2L_65), (3, .int y3L_65), (5, .int w5_60), (6, .int w6_61)] → Wz p l e s m args below meth c D dA bs (some (.int out)) m1 3 70 H locs 209 ls [])) ?_ hlp_64 ?_ H locs ls hP hS (lv_sub hl [3, 4, 5, 6, 2, 1, 0] rfl)
            · intro z o hf hB hE
              obtain ⟨y5L_59, y6L_59, y7L_59⟩ := z
              intro H locs ls hP hS hl
              have hf : f_X12_delta_s85 mmL_65 x1 y2L_65 y3L_65 (y5L_59, y6L_59, y7L_59) = some o := hf
              unfold f_X12_delta_s85 at hf
              dsimp only at hf
              refine lv_iload hx hb dX12_delta_85 (lv_at hl 6 rfl) ?_
              refine lv_aload_n hx hb dX12_delta_87 rfl (lv_at hl 0 rfl) ?_
              refine wd_getR (q := 1089) X hP L1088 fl_X12_9 rfl dX12_delta_88 ?_
              refine lv_iconst (v := 3) hx hb dX12_delta_91 (by decide) ?_
              refine wd_ialdK (k := 3) X hP L1089 (by decide) (by decide) dX12_delta_92 ?_
              refine lv_icmp_ge (tgt := 209) hx hb dX12_delta_93 (by decide) (fun c_35 => ?_) (fun c_35 => ?_)
              · have hf := itT hf c_35
                obtain rfl := Option.some.inj hf
                exact hE _ rfl H locs ls hP hS (lv_sub hl [0, 1, 2, 3, 4, 5] rfl)
              · have hf := itF hf c_35
                refine lv_iload hx hb dX12_delta_96 (lv_at hl 6 rfl) ?_
                refine lv_iconst (v := 1) hx hb dX12_delta_98 (by decide) ?_
                refine lv_iadd hx hb dX12_delta_99 ?_
                refine lv_istore (lv' := [(8, .int (y7L_59 + (1 : Int32))), (0, .ref (bs + 1088)), (1, .int x1), (2, .int y2L_65), (3, .int y3L_65), (5, .int y5L_59), (6, .int y6L_59), (7, .int y7L_59)]) hx hb dX12_delta_100 hl (by decide) rfl (fun ls hl => ?_)
                obtain ⟨q_57, hlp_58, hf⟩ := bi1S hf
                refine lp_walk (Wh := (fun z => match z with | (y5L_54, y6L_54, y8L_54) => ∀ (H : Heap) (locs : List Loc) (ls : Array Slot), Wd D dA bs LY mmL_65 H → va_S (Aq bs) s.heap H locs → lv_has ls 10 [(0, .ref (bs + 1088)), (1, .int x1), (2, .int y2L_65), (3, .int y3L_65), (5, .int y5L_54), (6, .int y6L_54), (7, .int y7L_59), (8, .int y8L_54)] → Wz p l e s m args below meth c D dA bs (some (.int out)) m1 3 70 H locs 102 ls [])) (Ph := (fun z => match z with | (w5_55, w6_56) => ∀ (H : Heap) (locs : List Loc) (ls : Array Slot), Wd D dA bs LY mmL_65 H → va_S (Aq bs) s.heap H locs → lv_has ls 10 [(0, .ref (bs + 1088)), (1, .int x1), (2, .int y2L_65), (3, .int y3L_65), (5, .int w5_55), (6, .int w6_56), (7, .int y7L_59)] → Wz p l e s m args below meth c D dA bs (some (.int out)) m1 3 70 H locs 203 ls [])) ?_ hlp_58 ?_ H locs ls hP hS (lv_sub hl [1, 2, 3, 4, 5, 6, 7, 0] rfl)
                · intro z o hf hB hE
                  obtain ⟨y5L_54, y6L_54, y8L_54⟩ := z
                  intro H locs ls hP hS hl
                  have hf : f_X12_delta_s102 mmL_65 x1 y2L_65 y3L_65 y7L_59 (y5L_54, y6L_54, y8L_54) = some o := hf
                  unfold f_X12_delta_s102 at hf
                  dsimp only at hf
                  have hJ189 : ∀ (y8J_36 : Int32) (H : Heap) (locs : List Loc) (ls : Array Slot), f_X12_delta_j189 mmL_65 x1 y2L_65 y3L_65 y7L_59 y8J_36 = some o → Wd D dA bs LY mmL_65 H → va_S (Aq bs) s.heap H locs → lv_has ls 10 [(0, .ref (bs + 1088)), (1, .int x1), (2, .int y2L_65), (3, .int y3L_65), (7, .int y7L_59), (8, .int y8J_36)] → Wz p l e s m args below meth c D dA bs (some (.int out)) m1 3 70 H locs 189 ls [] := by
                    intro y8J_36 H locs ls hf hP hS hl
                    unfold f_X12_delta_j189 at hf
                    refine lv_iload hx hb dX12_delta_189 (lv_at hl 4 rfl) ?_
                    refine lv_istore (lv' := [(5, .int y7L_59), (0, .ref (bs + 1088)), (1, .int x1), (2, .int y2L_65), (3, .int y3L_65), (7, .int y7L_59), (8, .int y8J_36)]) hx hb dX12_delta_191 hl (by decide) rfl (fun ls hl => ?_)
                    refine lv_iload hx hb dX12_delta_193 (lv_at hl 6 rfl) ?_
                    refine lv_istore (lv' := [(6, .int y8J_36), (5, .int y7L_59), (0, .ref (bs + 1088)), (1, .int x1), (2, .int y2L_65), (3, .int y3L_65), (7, .int y7L_59), (8, .int y8J_36)]) hx hb dX12_delta_195 hl (by decide) rfl (fun ls hl => ?_)
                    refine lv_iinc (v := (y8J_36 + 1)) (lv' := [(8, .int (y8J_36 + 1)), (6, .int y8J_36), (5, .int y7L_59), (0, .ref (bs + 1088)), (1, .int x1), (2, .int y2L_65), (3, .int y3L_65), (7, .int y7L_59)]) hx hb dX12_delta_197 hl (k := 7) rfl rfl (by decide) rfl (fun ls hl => ?_)
                    refine lv_goto (tgt := 102) hx hb dX12_delta_200 (by decide) ?_
                    obtain rfl := Option.some.inj hf
                    exact hB _ rfl H locs ls hP hS (lv_sub hl [3, 4, 5, 6, 2, 1, 7, 0] rfl)
                  have hJ157 : ∀ (y5J_44 : Int32) (y6J_44 : Int32) (y8J_44 : Int32) (z0J_44 : Int32) (H : Heap) (locs : List Loc) (ls : Array Slot), f_X12_delta_j157 mmL_65 x1 y2L_65 y3L_65 y5J_44 y6J_44 y7L_59 y8J_44 z0J_44 = some o → Wd D dA bs LY mmL_65 H → va_S (Aq bs) s.heap H locs → lv_has ls 10 [(0, .ref (bs + 1088)), (1, .int x1), (2, .int y2L_65), (3, .int y3L_65), (5, .int y5J_44), (6, .int y6J_44), (7, .int y7L_59), (8, .int y8J_44)] → Wz p l e s m args below meth c D dA bs (some (.int out)) m1 3 70 H locs 157 ls [.int z0J_44] := by
                    intro y5J_44 y6J_44 y8J_44 z0J_44 H locs ls hf hP hS hl
                    unfold f_X12_delta_j157 at hf
                    refine lv_istore (lv' := [(9, .int z0J_44), (0, .ref (bs + 1088)), (1, .int x1), (2, .int y2L_65), (3, .int y3L_65), (5, .int y5J_44), (6, .int y6J_44), (7, .int y7L_59), (8, .int y8J_44)]) hx hb dX12_delta_157 hl (by decide) rfl (fun ls hl => ?_)
                    refine lv_iload hx hb dX12_delta_159 (lv_at hl 0 rfl) ?_
                    refine lv_if_eq (tgt := 197) hx hb dX12_delta_161 (by decide) (fun c_37 => ?_) (fun c_37 => ?_)
                    · have hf := itT hf c_37
                      refine lv_iinc (v := (y8J_44 + 1)) (lv' := [(8, .int (y8J_44 + 1)), (9, .int z0J_44), (0, .ref (bs + 1088)), (1, .int x1), (2, .int y2L_65), (3, .int y3L_65), (5, .int y5J_44), (6, .int y6J_44), (7, .int y7L_59)]) hx hb dX12_delta_197 hl (k := 8) rfl rfl (by decide) rfl (fun ls hl => ?_)
                      refine lv_goto (tgt := 102) hx hb dX12_delta_200 (by decide) ?_
                      obtain rfl := Option.some.inj hf
                      exact hB _ rfl H locs ls hP hS (lv_sub hl [2, 3, 4, 5, 6, 7, 8, 0] rfl)
                    · have hf := itF hf c_37
                      refine lv_iload hx hb dX12_delta_164 (lv_at hl 5 rfl) ?_
                      refine lv_iconst (v := -1) hx hb dX12_delta_166 (by decide) ?_
                      refine lv_icmp_eq (tgt := 189) hx hb dX12_delta_167 (by decide) (fun c_38 => ?_) (fun c_38 => ?_)
                      · have hf := itT hf c_38
                        exact hJ189 y8J_44 H locs ls hf hP hS (lv_sub hl [1, 2, 3, 4, 7, 8] rfl)
                      · have hf := itF hf c_38
                        refine lv_aload_n hx hb dX12_delta_170 rfl (lv_at hl 1 rfl) ?_
                        refine lv_iload hx hb dX12_delta_171 (lv_at hl 7 rfl) ?_
                        refine lv_iload hx hb dX12_delta_173 (lv_at hl 8 rfl) ?_
                        obtain ⟨r_40, hc_39, hf⟩ := bi1S hf
                        refine wd_cv X hP hS L1088 ml_X12_573 ⟨_, _, rfl⟩ (c_X12_ropeBetween l D dA zz bs mmL_65 y7L_59 y8J_44 r_40 hc_39) rfl ⟨Nat.le_of_ble_eq_true rfl, Nat.le_of_ble_eq_true rfl⟩ hl.1 rfl (rest := []) (Nat.le_of_ble_eq_true rfl) ⟨Nat.zero_le _, Nat.zero_le _⟩ dX12_delta_175 (fun H locs hP hS => ?_)
                        refine W.eq (g2 := F0 m 178 ls [.int r_40]) rfl ?_
                        refine lv_aload_n hx hb dX12_delta_178 rfl (lv_at hl 1 rfl) ?_
                        refine lv_iload hx hb dX12_delta_179 (lv_at hl 5 rfl) ?_
                        refine lv_iload hx hb dX12_delta_181 (lv_at hl 6 rfl) ?_
                        obtain ⟨r_42, hc_41, hf⟩ := bi1S hf
                        refine wd_cv X hP hS L1088 ml_X12_573 ⟨_, _, rfl⟩ (c_X12_ropeBetween l D dA zz bs mmL_65 y5J_44 y6J_44 r_42 hc_41) rfl ⟨Nat.le_of_ble_eq_true rfl, Nat.le_of_ble_eq_true rfl⟩ hl.1 rfl (rest := [.int r_40]) (Nat.le_of_ble_eq_true rfl) ⟨Nat.zero_le _, Nat.zero_le _⟩ dX12_delta_183 (fun H locs hP hS => ?_)
                        refine W.eq (g2 := F0 m 186 ls [.int r_42, .int r_40]) rfl ?_
                        refine lv_icmp_ge (tgt := 197) hx hb dX12_delta_186 (by decide) (fun c_43 => ?_) (fun c_43 => ?_)
                        · have hf := itT hf c_43
                          refine lv_iinc (v := (y8J_44 + 1)) (lv' := [(8, .int (y8J_44 + 1)), (9, .int z0J_44), (0, .ref (bs + 1088)), (1, .int x1), (2, .int y2L_65), (3, .int y3L_65), (5, .int y5J_44), (6, .int y6J_44), (7, .int y7L_59)]) hx hb dX12_delta_197 hl (k := 8) rfl rfl (by decide) rfl (fun ls hl => ?_)
                          refine lv_goto (tgt := 102) hx hb dX12_delta_200 (by decide) ?_
                          obtain rfl := Option.some.inj hf
                          exact hB _ rfl H locs ls hP hS (lv_sub hl [2, 3, 4, 5, 6, 7, 8, 0] rfl)
                        · have hf := itF hf c_43
                          exact hJ189 y8J_44 H locs ls hf hP hS (lv_sub hl [1, 2, 3, 4, 7, 8] rfl)
                  have hJ156 : ∀ (y5J_45 : Int32) (y6J_45 : Int32) (y8J_45 : Int32) (H : Heap) (locs : List Loc) (ls : Array Slot), f_X12_delta_j156 mmL_65 x1 y2L_65 y3L_65 y5J_45 y6J_45 y7L_59 y8J_45 = some o → Wd D dA bs LY mmL_65 H → va_S (Aq bs) s.heap H locs → lv_has ls 10 [(0, .ref (bs + 1088)), (1, .int x1), (2, .int y2L_65), (3, .int y3L_65), (5, .int y5J_45), (6, .int y6J_45), (7, .int y7L_59), (8, .int y8J_45)] → Wz p l e s m args below meth c D dA bs (some (.int out)) m1 3 70 H locs 156 ls [] := by
                    intro y5J_45 y6J_45 y8J_45 H locs ls hf hP hS hl
                    unfold f_X12_delta_j156 at hf
                    refine lv_iconst (v := 0) hx hb dX12_delta_156 (by decide) ?_
                    exact hJ157 y5J_45 y6J_45 y8J_45 (0 : Int32) H locs ls hf hP hS (lv_sub hl [0, 1, 2, 3, 4, 5, 6, 7] rfl)
                  refine lv_iload hx hb dX12_delta_102 (lv_at hl 7 rfl) ?_
                  refine lv_aload_n hx hb dX12_delta_104 rfl (lv_at hl 0 rfl) ?_
                  refine wd_getR (q := 1089) X hP L1088 fl_X12_9 rfl dX12_delta_105 ?_
                  refine lv_iconst (v := 3) hx hb dX12_delta_108 (by decide) ?_
                  refine wd_ialdK (k := 3) X hP L1089 (by decide) (by decide) dX12_delta_109 ?_
                  refine lv_icmp_ge (tgt := 203) hx hb dX12_delta_110 (by decide) (fun c_46 => ?_) (fun c_46 => ?_)
                  · have hf := itT hf c_46
                    obtain rfl := Option.some.inj hf
                    exact hE _ rfl H locs ls hP hS (lv_sub hl [0, 1, 2, 3, 4, 5, 6] rfl)
                  · have hf := itF hf c_46
                    refine lv_aload_n hx hb dX12_delta_113 rfl (lv_at hl 0 rfl) ?_
                    refine wd_getR (q := 1137) X hP L1088 fl_X12_160 rfl dX12_delta_114 ?_
                    refine lv_iload hx hb dX12_delta_117 (lv_at hl 6 rfl) ?_
                    have g_47 := gdN hf
                    have hf := gdK hf
                    refine wd_iald X hP L1137 g_47 dX12_delta_119 ?_
                    refine lv_iconst (v := -1) hx hb dX12_delta_120 (by decide) ?_
                    refine lv_icmp_eq (tgt := 156) hx hb dX12_delta_121 (by decide) (fun c_48 => ?_) (fun c_48 => ?_)
                    · have hf := itT hf c_48
                      exact hJ156 y5L_54 y6L_54 y8L_54 H locs ls hf hP hS (lv_sub hl [0, 1, 2, 3, 4, 5, 6, 7] rfl)
                    · have hf := itF hf c_48
                      refine lv_aload_n hx hb dX12_delta_124 rfl (lv_at hl 0 rfl) ?_
                      refine wd_getR (q := 1137) X hP L1088 fl_X12_160 rfl dX12_delta_125 ?_
                      refine lv_iload hx hb dX12_delta_128 (lv_at hl 7 rfl) ?_
                      have g_49 := gdN hf
                      have hf := gdK hf
                      refine wd_iald X hP L1137 g_49 dX12_delta_130 ?_
                      refine lv_iconst (v := -1) hx hb dX12_delta_131 (by decide) ?_
                      refine lv_icmp_eq (tgt := 156) hx hb dX12_delta_132 (by decide) (fun c_50 => ?_) (fun c_50 => ?_)
                      · have hf := itT hf c_50
                        exact hJ156 y5L_54 y6L_54 y8L_54 H locs ls hf hP hS (lv_sub hl [0, 1, 2, 3, 4, 5, 6, 7] rfl)
                      · have hf := itF hf c_50
                        refine lv_aload_n hx hb dX12_delta_135 rfl (lv_at hl 0 rfl) ?_
                        refine wd_getR (q := 1137) X hP L1088 fl_X12_160 rfl dX12_delta_136 ?_
                        refine lv_iload hx hb dX12_delta_139 (lv_at hl 6 rfl) ?_
                        have g_51 := gdN hf
                        have hf := gdK hf
                        refine wd_iald X hP L1137 g_51 dX12_delta_141 ?_
                        refine lv_aload_n hx hb dX12_delta_142 rfl (lv_at hl 0 rfl) ?_
                        refine wd_getR (q := 1137) X hP L1088 fl_X12_160 rfl dX12_delta_143 ?_
                        refine lv_iload hx hb dX12_delta_146 (lv_at hl 7 rfl) ?_
                        have g_52 := gdN hf
                        have hf := gdK hf
                        refine wd_iald X hP L1137 g_52 dX12_delta_148 ?_
                        refine lv_icmp_eq (tgt := 156) hx hb dX12_delta_149 (by decide) (fun c_53 => ?_) (fun c_53 => ?_)
                        · have hf := itT hf c_53
                          exact hJ156 y5L_54 y6L_54 y8L_54 H locs ls hf hP hS (lv_sub hl [0, 1, 2, 3, 4, 5, 6, 7] rfl)
                        · have hf := itF hf c_53
                          refine lv_iconst (v := 1) hx hb dX12_delta_152 (by decide) ?_
                          refine lv_goto (tgt := 157) hx hb dX12_delta_153 (by decide) ?_
                          exact hJ157 y5L_54 y6L_54 y8L_54 (1 : Int32) H locs ls hf hP hS (lv_sub hl [0, 1, 2, 3, 4, 5, 6, 7] rfl)
                · obtain ⟨w5_55, w6_56⟩ := q_57
                  dsimp only at hf
                  intro H locs ls hP hS hl
                  refine lv_iinc (v := (y7L_59 + 1)) (lv' := [(7, .int (y7L_59 + 1)), (0, .ref (bs + 1088)), (1, .int x1), (2, .int y2L_65), (3, .int y3L_65), (5, .int w5_55), (6, .int w6_56)]) hx hb dX12_delta_203 hl (k := 6) rfl rfl (by decide) rfl (fun ls hl => ?_)
                  refine lv_goto (tgt := 85) hx hb dX12_delta_206 (by decide) ?_
                  obtain rfl := Option.some.inj hf
                  exact hB _ rfl H locs ls hP hS (lv_sub hl [1, 2, 3, 4, 5, 6, 0] rfl)
            · obtain ⟨w5_60, w6_61⟩ := q_63
              dsimp only at hf
              intro H locs ls hP hS hl
              refine lv_iload hx hb dX12_delta_209 (lv_at hl 4 rfl) ?_
              refine lv_iconst (v := -1) hx hb dX12_delta_211 (by decide) ?_
              refine lv_icmp_eq (tgt := 219) hx hb dX12_delta_212 (by decide) (fun c_62 => ?_) (fun c_62 => ?_)
              · have hf := itT hf c_62
                refine lv_iconst (v := 0) hx hb dX12_delta_219 (by decide) ?_
                exact hJ220 mmL_65 y2L_65 y3L_65 w5_60 w6_61 (0 : Int32) H locs ls hf hP hS (lv_sub hl [0, 1, 2, 3, 4, 5] rfl)
              · have hf := itF hf c_62
                refine lv_iconst (v := 1) hx hb dX12_delta_215 (by decide) ?_
                refine lv_goto (tgt := 220) hx hb dX12_delta_216 (by decide) ?_
                exact hJ220 mmL_65 y2L_65 y3L_65 w5_60 w6_61 (1 : Int32) H locs ls hf hP hS (lv_sub hl [0, 1, 2, 3, 4, 5] rfl)
        · obtain ⟨w2_66, w3_67, mm_68⟩ := q_70
          dsimp only at hf
          intro H locs ls hP hS hl
          refine lv_iload_n hx hb dX12_delta_313 rfl (lv_at hl 0 rfl) ?_
          refine lv_if_ne (tgt := 321) hx hb dX12_delta_314 (by decide) (fun c_69 => ?_) (fun c_69 => ?_)
          · have hf := itF hf c_69
            refine lv_iload_n hx hb dX12_delta_321 rfl (lv_at hl 2 rfl) ?_
            obtain ⟨rfl, rfl⟩ := Prod.mk.inj (Option.some.inj hf)
            exact wd_iret X hP hS hr0 dX12_delta_322 ⟨rfl, rfl⟩
          · have hf := itT hf c_69
            refine lv_iload_n hx hb dX12_delta_317 rfl (lv_at hl 1 rfl) ?_
            refine lv_goto (tgt := 322) hx hb dX12_delta_318 (by decide) ?_
            obtain ⟨rfl, rfl⟩ := Prod.mk.inj (Option.some.inj hf)
            exact wd_iret X hP hS hr0 dX12_delta_322 ⟨rfl, rfl⟩
    · have hf := itT hf c_2
      refine lv_iconst (v := -1) hx hb dX12_delta_17 (by decide) ?_
      obtain ⟨rfl, rfl⟩ := Prod.mk.inj (Option.some.inj hf)
      exact wd_iret X hP hS hr0 dX12_delta_18 ⟨rfl, rfl⟩

noncomputable def f_X12_isWeakThing (mm : Mm) (x1 : Int32) : Option (Int32) :=
  bi1 (f_X12_pieceOf mm x1) fun r_2 =>
    vlet (r_2 &&& (((1 : Int32) <<< (x1 &&& 31)) ^^^ (-1 : Int32))) fun (x2_3 : Int32) =>
      if x2_3 = 0 then
        some (0 : Int32)
      else
        bi1 (f_X12_least mm x2_3) fun r_6 =>
          bi1 (f_X12_hangsWith mm r_6 x2_3 (f_X12_allRopes mm)) fun r_8 =>
            if r_8 = x2_3 then
              some (0 : Int32)
            else
              some (1 : Int32)
set_option maxHeartbeats 4000000 in
set_option maxRecDepth 100000 in
theorem c_X12_isWeakThing (l : Launch) (D : va_G) (dA : Nat → ClassId) (zz : (Nat → Nat) × (Nat → Nat)) (bs : Nat) (mm : Mm) (x1 : Int32) (out : Int32) (hf : f_X12_isWeakThing mm x1 = some out) : Mw l D dA zz bs LY yX12_isWeakThing cX12_isWeakThing 3 (some .boolean) 3 70 [.ref (bs + 1088), .int x1] mm (some (.int out)) mm := by
  refine Mw.of (own := RX12) (by decide) rfl (Nat.le_of_ble_eq_true rfl) ?_
  intro p e s m args below meth c X hr0 hP hS ls hl
  have hx := X.1
  have hb := X.2.1
  obtain ⟨H, hH⟩ : ∃ z : Heap, z = s.heap := ⟨_, rfl⟩
  obtain ⟨locs, hL⟩ : ∃ z : List Loc, z = [] := ⟨_, rfl⟩
  rw [← hH, ← hL]
  have hS : va_S (Aq bs) s.heap H locs := by rw [hH, hL]; exact hS
  have hP : Wd D dA bs LY mm H := by rw [hH]; exact hP
  have hl : lv_has ls 3 [(0, .ref (bs + 1088)), (1, .int x1)] := hl
  unfold f_X12_isWeakThing at hf
  refine lv_aload_n hx hb dX12_isWeakThing_0 rfl (lv_at hl 0 rfl) ?_
  refine lv_iload_n hx hb dX12_isWeakThing_1 rfl (lv_at hl 1 rfl) ?_
  obtain ⟨r_2, hc_1, hf⟩ := bi1S hf
  refine wd_cv X hP hS L1088 ml_X12_424 ⟨_, _, rfl⟩ (c_X12_pieceOf l D dA zz bs mm x1 r_2 hc_1) rfl ⟨Nat.le_of_ble_eq_true rfl, Nat.le_of_ble_eq_true rfl⟩ hl.1 rfl (rest := []) (Nat.le_of_ble_eq_true rfl) ⟨Nat.zero_le _, Nat.zero_le _⟩ dX12_isWeakThing_2 (fun H locs hP hS => ?_)
  refine W.eq (g2 := F0 m 5 ls [.int r_2]) rfl ?_
  refine lv_iconst (v := 1) hx hb dX12_isWeakThing_5 (by decide) ?_
  refine lv_iload_n hx hb dX12_isWeakThing_6 rfl (lv_at hl 1 rfl) ?_
  refine lv_ishl hx hb dX12_isWeakThing_7 ?_
  refine lv_iconst (v := -1) hx hb dX12_isWeakThing_8 (by decide) ?_
  refine lv_ixor hx hb dX12_isWeakThing_9 ?_
  refine lv_iand hx hb dX12_isWeakThing_10 ?_
  refine lv_topi (fun x2_3 ex2_3 => ?_)
  have hf := vl hf ex2_3
  refine lv_istore_n (lv' := [(2, .int x2_3), (0, .ref (bs + 1088)), (1, .int x1)]) hx hb dX12_isWeakThing_11 rfl hl (by decide) rfl (fun ls hl => ?_)
  refine lv_iload_n hx hb dX12_isWeakThing_12 rfl (lv_at hl 0 rfl) ?_
  refine lv_if_eq (tgt := 37) hx hb dX12_isWeakThing_13 (by decide) (fun c_4 => ?_) (fun c_4 => ?_)
  · have hf := itT hf c_4
    refine lv_iconst (v := 0) hx hb dX12_isWeakThing_37 (by decide) ?_
    obtain rfl := Option.some.inj hf
    exact wd_zret X hP hS hr0 (by decide) dX12_isWeakThing_38 ⟨rfl, rfl⟩
  · have hf := itF hf c_4
    refine lv_aload_n hx hb dX12_isWeakThing_16 rfl (lv_at hl 1 rfl) ?_
    refine lv_iload_n hx hb dX12_isWeakThing_17 rfl (lv_at hl 0 rfl) ?_
    obtain ⟨r_6, hc_5, hf⟩ := bi1S hf
    refine wd_cs X hP hS ml_X12_421 (c_X12_least l D dA zz bs mm x2_3 r_6 hc_5) rfl ⟨Nat.le_of_ble_eq_true rfl, Nat.le_of_ble_eq_true rfl⟩ hl.1 rfl (rest := [.ref (bs + 1088)]) (Nat.le_of_ble_eq_true rfl) ⟨Nat.zero_le _, Nat.zero_le _⟩ dX12_isWeakThing_18 (fun H locs hP hS => ?_)
    refine W.eq (g2 := F0 m 21 ls [.int r_6, .ref (bs + 1088)]) rfl ?_
    refine lv_iload_n hx hb dX12_isWeakThing_21 rfl (lv_at hl 0 rfl) ?_
    refine lv_aload_n hx hb dX12_isWeakThing_22 rfl (lv_at hl 1 rfl) ?_
    refine wd_cv X hP hS L1088 ml_X12_396 ⟨_, _, rfl⟩ (c_X12_allRopes l D dA zz bs mm (f_X12_allRopes mm) rfl) rfl ⟨Nat.le_of_ble_eq_true rfl, Nat.le_of_ble_eq_true rfl⟩ hl.1 rfl (rest := [.int x2_3, .int r_6, .ref (bs + 1088)]) (Nat.le_of_ble_eq_true rfl) ⟨Nat.zero_le _, Nat.zero_le _⟩ dX12_isWeakThing_23 (fun H locs hP hS => ?_)
    refine W.eq (g2 := F0 m 26 ls [.int (f_X12_allRopes mm), .int x2_3, .int r_6, .ref (bs + 1088)]) rfl ?_
    obtain ⟨r_8, hc_7, hf⟩ := bi1S hf
    refine wd_cv X hP hS L1088 ml_X12_399 ⟨_, _, rfl⟩ (c_X12_hangsWith l D dA zz bs mm r_6 x2_3 (f_X12_allRopes mm) r_8 hc_7) rfl ⟨Nat.le_of_ble_eq_true rfl, Nat.le_of_ble_eq_true rfl⟩ hl.1 rfl (rest := []) (Nat.le_of_ble_eq_true rfl) ⟨Nat.zero_le _, Nat.zero_le _⟩ dX12_isWeakThing_26 (fun H locs hP hS => ?_)
    refine W.eq (g2 := F0 m 29 ls [.int r_8]) rfl ?_
    refine lv_iload_n hx hb dX12_isWeakThing_29 rfl (lv_at hl 0 rfl) ?_
    refine lv_icmp_eq (tgt := 37) hx hb dX12_isWeakThing_30 (by decide) (fun c_9 => ?_) (fun c_9 => ?_)
    · have hf := itT hf c_9
      refine lv_iconst (v := 0) hx hb dX12_isWeakThing_37 (by decide) ?_
      obtain rfl := Option.some.inj hf
      exact wd_zret X hP hS hr0 (by decide) dX12_isWeakThing_38 ⟨rfl, rfl⟩
    · have hf := itF hf c_9
      refine lv_iconst (v := 1) hx hb dX12_isWeakThing_33 (by decide) ?_
      refine lv_goto (tgt := 38) hx hb dX12_isWeakThing_34 (by decide) ?_
      obtain rfl := Option.some.inj hf
      exact wd_zret X hP hS hr0 (by decide) dX12_isWeakThing_38 ⟨rfl, rfl⟩

noncomputable def f_X12_weak_j81 (mm : Mm) (y1 : Int32) (y3 : Int32) (z0 : Int32) (z1 : Int32) : Option ((Int32 × Int32) ⊕ (Int32)) :=
  some (.inl ((z1 ||| z0), (y3 + 1)))
noncomputable def f_X12_weak_s23 (mm : Mm) (y1 : Int32) : (Int32 × Int32) → Option ((Int32 × Int32) ⊕ (Int32)) :=
  fun q => match q with
  | (y2, y3) =>
    if (mm.1 1089 4) ≤ y3 then
      some (.inr y2)
    else
      if y1 = 0 then
        if y3 < 0 ∨ 12 ≤ y3.toNatClampNeg then none else
          bi1 (f_X12_afloat mm) fun r_8 =>
            bi1 (f_X12_hangsWith mm (mm.1 1099 y3.toNatClampNeg) r_8 ((f_X12_allRopes mm) &&& (((1 : Int32) <<< (y3 &&& 31)) ^^^ (-1 : Int32)))) fun r_10 =>
              if y3 < 0 ∨ 12 ≤ y3.toNatClampNeg then none else
                if (f_X12_has r_10 (mm.1 1100 y3.toNatClampNeg)) = 0 then
                  f_X12_weak_j81 mm y1 y3 ((1 : Int32) <<< (y3 &&& 31)) y2
                else
                  f_X12_weak_j81 mm y1 y3 (0 : Int32) y2
      else
        some (.inr y2)
noncomputable def f_X12_weak_j131 (mm : Mm) (y1 : Int32) (y3 : Int32) (z0 : Int32) (z1 : Int32) : Option ((Int32 × Int32) ⊕ (Int32)) :=
  some (.inl ((z1 ||| z0), (y3 + 1)))
noncomputable def f_X12_weak_j130 (mm : Mm) (y1 : Int32) (y3 : Int32) (z0 : Int32) : Option ((Int32 × Int32) ⊕ (Int32)) :=
  f_X12_weak_j131 mm y1 y3 (0 : Int32) z0
noncomputable def f_X12_weak_s91 (mm : Mm) (y1 : Int32) : (Int32 × Int32) → Option ((Int32 × Int32) ⊕ (Int32)) :=
  fun q => match q with
  | (y2, y3) =>
    if (mm.1 1089 3) ≤ y3 then
      some (.inr y2)
    else
      if y1 = (1 : Int32) then
        if y3 < 0 ∨ 8 ≤ y3.toNatClampNeg then none else
          if (mm.1 1097 y3.toNatClampNeg) = 0 then
            bi1 (f_X12_isWeakThing mm y3) fun r_22 =>
              if r_22 = 0 then
                f_X12_weak_j130 mm y1 y3 y2
              else
                f_X12_weak_j131 mm y1 y3 ((1 : Int32) <<< (y3 &&& 31)) y2
          else
            f_X12_weak_j130 mm y1 y3 y2
      else
        some (.inr y2)
noncomputable def f_X12_weak (mm : Mm) (x1 : Int32) : Option (Int32) :=
  if (f_X12_isRiver mm) = 0 then
    some (-1 : Int32)
  else
    if (f_X12_in (x1.toInt64) (0 : Int64) (1 : Int64)) = 0 then
      some (-1 : Int32)
    else
      bi1 (lp (f_X12_weak_s23 mm x1) ((0 : Int32), (0 : Int32))) fun w2_14 =>
        bi1 (lp (f_X12_weak_s91 mm x1) (w2_14, (0 : Int32))) fun w2_25 =>
          some w2_25
set_option maxHeartbeats 4000000 in
set_option maxRecDepth 100000 in
theorem c_X12_weak (l : Launch) (D : va_G) (dA : Nat → ClassId) (zz : (Nat → Nat) × (Nat → Nat)) (bs : Nat) (mm : Mm) (x1 : Int32) (out : Int32) (hf : f_X12_weak mm x1 = some out) : Mw l D dA zz bs LY yX12_weak cX12_weak 4 (some .int) 4 92 [.ref (bs + 1088), .int x1] mm (some (.int out)) mm := by
  refine Mw.of (own := RX12) (by decide) rfl (Nat.le_of_ble_eq_true rfl) ?_
  intro p e s m args below meth c X hr0 hP hS ls hl
  have hx := X.1
  have hb := X.2.1
  obtain ⟨H, hH⟩ : ∃ z : Heap, z = s.heap := ⟨_, rfl⟩
  obtain ⟨locs, hL⟩ : ∃ z : List Loc, z = [] := ⟨_, rfl⟩
  rw [← hH, ← hL]
  have hS : va_S (Aq bs) s.heap H locs := by rw [hH, hL]; exact hS
  have hP : Wd D dA bs LY mm H := by rw [hH]; exact hP
  have hl : lv_has ls 4 [(0, .ref (bs + 1088)), (1, .int x1)] := hl
  unfold f_X12_weak at hf
  refine lv_aload_n hx hb dX12_weak_0 rfl (lv_at hl 0 rfl) ?_
  refine wd_cv X hP hS L1088 ml_X12_430 ⟨_, _, rfl⟩ (c_X12_isRiver l D dA zz bs mm (f_X12_isRiver mm) rfl) rfl ⟨Nat.le_of_ble_eq_true rfl, Nat.le_of_ble_eq_true rfl⟩ hl.1 rfl (rest := []) (Nat.le_of_ble_eq_true rfl) ⟨Nat.zero_le _, Nat.zero_le _⟩ dX12_weak_1 (fun H locs hP hS => ?_)
  refine W.eq (g2 := F0 m 4 ls [.int (f_X12_isRiver mm)]) rfl ?_
  refine lv_if_eq (tgt := 17) hx hb dX12_weak_4 (by decide) (fun c_1 => ?_) (fun c_1 => ?_)
  · have hf := itT hf c_1
    refine lv_iconst (v := -1) hx hb dX12_weak_17 (by decide) ?_
    obtain rfl := Option.some.inj hf
    exact wd_iret X hP hS hr0 dX12_weak_18 ⟨rfl, rfl⟩
  · have hf := itF hf c_1
    refine lv_iload_n hx hb dX12_weak_7 rfl (lv_at hl 1 rfl) ?_
    refine lv_i2l hx hb dX12_weak_8 rfl ?_
    refine lv_lconst (v := 0) hx hb dX12_weak_9 (by decide) ?_
    refine lv_lconst (v := 1) hx hb dX12_weak_10 (by decide) ?_
    refine wd_cs X hP hS ml_X12_176 (c_X12_in l D dA zz bs mm (x1.toInt64) (0 : Int64) (1 : Int64) (f_X12_in (x1.toInt64) (0 : Int64) (1 : Int64)) rfl) rfl ⟨Nat.le_of_ble_eq_true rfl, Nat.le_of_ble_eq_true rfl⟩ hl.1 rfl (rest := []) (Nat.le_of_ble_eq_true rfl) ⟨Nat.zero_le _, Nat.zero_le _⟩ dX12_weak_11 (fun H locs hP hS => ?_)
    refine W.eq (g2 := F0 m 14 ls [.int (f_X12_in (x1.toInt64) (0 : Int64) (1 : Int64))]) rfl ?_
    refine lv_if_ne (tgt := 19) hx hb dX12_weak_14 (by decide) (fun c_2 => ?_) (fun c_2 => ?_)
    · have hf := itF hf c_2
      refine lv_iconst (v := 0) hx hb dX12_weak_19 (by decide) ?_
      refine lv_istore_n (lv' := [(2, .int (0 : Int32)), (0, .ref (bs + 1088)), (1, .int x1)]) hx hb dX12_weak_20 rfl hl (by decide) rfl (fun ls hl => ?_)
      refine lv_iconst (v := 0) hx hb dX12_weak_21 (by decide) ?_
      refine lv_istore_n (lv' := [(3, .int (0 : Int32)), (2, .int (0 : Int32)), (0, .ref (bs + 1088)), (1, .int x1)]) hx hb dX12_weak_22 rfl hl (by decide) rfl (fun ls hl => ?_)
      obtain ⟨q_28, hlp_29, hf⟩ := bi1S hf
      refine lp_walk (Wh := (fun z => match z with | (y2L_13, y3L_13) => ∀ (H : Heap) (locs : List Loc) (ls : Array Slot), Wd D dA bs LY mm H → va_S (Aq bs) s.heap H locs → lv_has ls 4 [(0, .ref (bs + 1088)), (1, .int x1), (2, .int y2L_13), (3, .int y3L_13)] → Wz p l e s m args below meth c D dA bs (some (.int out)) mm 4 92 H locs 23 ls [])) (Ph := (fun w2_14 => ∀ (H : Heap) (locs : List Loc) (ls : Array Slot), Wd D dA bs LY mm H → va_S (Aq bs) s.heap H locs → lv_has ls 4 [(0, .ref (bs + 1088)), (1, .int x1), (2, .int w2_14)] → Wz p l e s m args below meth c D dA bs (some (.int out)) mm 4 92 H locs 89 ls [])) ?_ hlp_29 ?_ H locs ls hP hS (lv_sub hl [2, 3, 1, 0] rfl)
      · intro z o hf hB hE
        obtain ⟨y2L_13, y3L_13⟩ := z
        intro H locs ls hP hS hl
        have hf : f_X12_weak_s23 mm x1 (y2L_13, y3L_13) = some o := hf
        unfold f_X12_weak_s23 at hf
        dsimp only at hf
        have hJ81 : ∀ (y3J_3 : Int32) (z0J_3 : Int32) (z1J_3 : Int32) (H : Heap) (locs : List Loc) (ls : Array Slot), f_X12_weak_j81 mm x1 y3J_3 z0J_3 z1J_3 = some o → Wd D dA bs LY mm H → va_S (Aq bs) s.heap H locs → lv_has ls 4 [(0, .ref (bs + 1088)), (1, .int x1), (3, .int y3J_3)] → Wz p l e s m args below meth c D dA bs (some (.int out)) mm 4 92 H locs 81 ls [.int z0J_3, .int z1J_3] := by
          intro y3J_3 z0J_3 z1J_3 H locs ls hf hP hS hl
          unfold f_X12_weak_j81 at hf
          refine lv_ior hx hb dX12_weak_81 ?_
          refine lv_istore_n (lv' := [(2, .int (z1J_3 ||| z0J_3)), (0, .ref (bs + 1088)), (1, .int x1), (3, .int y3J_3)]) hx hb dX12_weak_82 rfl hl (by decide) rfl (fun ls hl => ?_)
          refine lv_iinc (v := (y3J_3 + 1)) (lv' := [(3, .int (y3J_3 + 1)), (2, .int (z1J_3 ||| z0J_3)), (0, .ref (bs + 1088)), (1, .int x1)]) hx hb dX12_weak_83 hl (k := 3) rfl rfl (by decide) rfl (fun ls hl => ?_)
          refine lv_goto (tgt := 23) hx hb dX12_weak_86 (by decide) ?_
          obtain rfl := Option.some.inj hf
          exact hB _ rfl H locs ls hP hS (lv_sub hl [2, 3, 1, 0] rfl)
        refine lv_iload_n hx hb dX12_weak_23 rfl (lv_at hl 3 rfl) ?_
        refine lv_aload_n hx hb dX12_weak_24 rfl (lv_at hl 0 rfl) ?_
        refine wd_getR (q := 1089) X hP L1088 fl_X12_9 rfl dX12_weak_25 ?_
        refine lv_iconst (v := 4) hx hb dX12_weak_28 (by decide) ?_
        refine wd_ialdK (k := 4) X hP L1089 (by decide) (by decide) dX12_weak_29 ?_
        refine lv_icmp_ge (tgt := 89) hx hb dX12_weak_30 (by decide) (fun c_4 => ?_) (fun c_4 => ?_)
        · have hf := itT hf c_4
          obtain rfl := Option.some.inj hf
          exact hE _ rfl H locs ls hP hS (lv_sub hl [0, 1, 2] rfl)
        · have hf := itF hf c_4
          refine lv_iload_n hx hb dX12_weak_33 rfl (lv_at hl 1 rfl) ?_
          refine lv_if_ne (tgt := 89) hx hb dX12_weak_34 (by decide) (fun c_5 => ?_) (fun c_5 => ?_)
          · have hf := itF hf c_5
            obtain rfl := Option.some.inj hf
            exact hE _ rfl H locs ls hP hS (lv_sub hl [0, 1, 2] rfl)
          · have hf := itT hf c_5
            refine lv_iload_n hx hb dX12_weak_37 rfl (lv_at hl 2 rfl) ?_
            refine lv_aload_n hx hb dX12_weak_38 rfl (lv_at hl 0 rfl) ?_
            refine lv_aload_n hx hb dX12_weak_39 rfl (lv_at hl 0 rfl) ?_
            refine wd_getR (q := 1099) X hP L1088 fl_X12_40 rfl dX12_weak_40 ?_
            refine lv_iload_n hx hb dX12_weak_43 rfl (lv_at hl 3 rfl) ?_
            have g_6 := gdN hf
            have hf := gdK hf
            refine wd_iald X hP L1099 g_6 dX12_weak_44 ?_
            refine lv_aload_n hx hb dX12_weak_45 rfl (lv_at hl 0 rfl) ?_
            obtain ⟨r_8, hc_7, hf⟩ := bi1S hf
            refine wd_cv X hP hS L1088 ml_X12_393 ⟨_, _, rfl⟩ (c_X12_afloat l D dA zz bs mm r_8 hc_7) rfl ⟨Nat.le_of_ble_eq_true rfl, Nat.le_of_ble_eq_true rfl⟩ hl.1 rfl (rest := [.int (mm.1 1099 y3L_13.toNatClampNeg), .ref (bs + 1088), .int y2L_13]) (Nat.le_of_ble_eq_true rfl) ⟨Nat.zero_le _, Nat.zero_le _⟩ dX12_weak_46 (fun H locs hP hS => ?_)
            refine W.eq (g2 := F0 m 49 ls [.int r_8, .int (mm.1 1099 y3L_13.toNatClampNeg), .ref (bs + 1088), .int y2L_13]) rfl ?_
            refine lv_aload_n hx hb dX12_weak_49 rfl (lv_at hl 0 rfl) ?_
            refine wd_cv X hP hS L1088 ml_X12_396 ⟨_, _, rfl⟩ (c_X12_allRopes l D dA zz bs mm (f_X12_allRopes mm) rfl) rfl ⟨Nat.le_of_ble_eq_true rfl, Nat.le_of_ble_eq_true rfl⟩ hl.1 rfl (rest := [.int r_8, .int (mm.1 1099 y3L_13.toNatClampNeg), .ref (bs + 1088), .int y2L_13]) (Nat.le_of_ble_eq_true rfl) ⟨Nat.zero_le _, Nat.zero_le _⟩ dX12_weak_50 (fun H locs hP hS => ?_)
            refine W.eq (g2 := F0 m 53 ls [.int (f_X12_allRopes mm), .int r_8, .int (mm.1 1099 y3L_13.toNatClampNeg), .ref (bs + 1088), .int y2L_13]) rfl ?_
            refine lv_iconst (v := 1) hx hb dX12_weak_53 (by decide) ?_
            refine lv_iload_n hx hb dX12_weak_54 rfl (lv_at hl 3 rfl) ?_
            refine lv_ishl hx hb dX12_weak_55 ?_
            refine lv_iconst (v := -1) hx hb dX12_weak_56 (by decide) ?_
            refine lv_ixor hx hb dX12_weak_57 ?_
            refine lv_iand hx hb dX12_weak_58 ?_
            obtain ⟨r_10, hc_9, hf⟩ := bi1S hf
            refine wd_cv X hP hS L1088 ml_X12_399 ⟨_, _, rfl⟩ (c_X12_hangsWith l D dA zz bs mm (mm.1 1099 y3L_13.toNatClampNeg) r_8 ((f_X12_allRopes mm) &&& (((1 : Int32) <<< (y3L_13 &&& 31)) ^^^ (-1 : Int32))) r_10 hc_9) rfl ⟨Nat.le_of_ble_eq_true rfl, Nat.le_of_ble_eq_true rfl⟩ hl.1 rfl (rest := [.int y2L_13]) (Nat.le_of_ble_eq_true rfl) ⟨Nat.zero_le _, Nat.zero_le _⟩ dX12_weak_59 (fun H locs hP hS => ?_)
            refine W.eq (g2 := F0 m 62 ls [.int r_10, .int y2L_13]) rfl ?_
            refine lv_aload_n hx hb dX12_weak_62 rfl (lv_at hl 0 rfl) ?_
            refine wd_getR (q := 1100) X hP L1088 fl_X12_43 rfl dX12_weak_63 ?_
            refine lv_iload_n hx hb dX12_weak_66 rfl (lv_at hl 3 rfl) ?_
            have g_11 := gdN hf
            have hf := gdK hf
            refine wd_iald X hP L1100 g_11 dX12_weak_67 ?_
            refine wd_cs X hP hS ml_X12_390 (c_X12_has l D dA zz bs mm r_10 (mm.1 1100 y3L_13.toNatClampNeg) (f_X12_has r_10 (mm.1 1100 y3L_13.toNatClampNeg)) rfl) rfl ⟨Nat.le_of_ble_eq_true rfl, Nat.le_of_ble_eq_true rfl⟩ hl.1 rfl (rest := [.int y2L_13]) (Nat.le_of_ble_eq_true rfl) ⟨Nat.zero_le _, Nat.zero_le _⟩ dX12_weak_68 (fun H locs hP hS => ?_)
            refine W.eq (g2 := F0 m 71 ls [.int (f_X12_has r_10 (mm.1 1100 y3L_13.toNatClampNeg)), .int y2L_13]) rfl ?_
            refine lv_if_eq (tgt := 78) hx hb dX12_weak_71 (by decide) (fun c_12 => ?_) (fun c_12 => ?_)
            · have hf := itT hf c_12
              refine lv_iconst (v := 1) hx hb dX12_weak_78 (by decide) ?_
              refine lv_iload_n hx hb dX12_weak_79 rfl (lv_at hl 3 rfl) ?_
              refine lv_ishl hx hb dX12_weak_80 ?_
              exact hJ81 y3L_13 ((1 : Int32) <<< (y3L_13 &&& 31)) y2L_13 H locs ls hf hP hS (lv_sub hl [0, 1, 3] rfl)
            · have hf := itF hf c_12
              refine lv_iconst (v := 0) hx hb dX12_weak_74 (by decide) ?_
              refine lv_goto (tgt := 81) hx hb dX12_weak_75 (by decide) ?_
              exact hJ81 y3L_13 (0 : Int32) y2L_13 H locs ls hf hP hS (lv_sub hl [0, 1, 3] rfl)
      · obtain ⟨w2_14, e_w2_14⟩ : ∃ z, z = q_28 := ⟨_, rfl⟩
        subst e_w2_14
        intro H locs ls hP hS hl
        refine lv_iconst (v := 0) hx hb dX12_weak_89 (by decide) ?_
        refine lv_istore_n (lv' := [(3, .int (0 : Int32)), (0, .ref (bs + 1088)), (1, .int x1), (2, .int w2_14)]) hx hb dX12_weak_90 rfl hl (by decide) rfl (fun ls hl => ?_)
        obtain ⟨q_26, hlp_27, hf⟩ := bi1S hf
        refine lp_walk (Wh := (fun z => match z with | (y2L_24, y3L_24) => ∀ (H : Heap) (locs : List Loc) (ls : Array Slot), Wd D dA bs LY mm H → va_S (Aq bs) s.heap H locs → lv_has ls 4 [(0, .ref (bs + 1088)), (1, .int x1), (2, .int y2L_24), (3, .int y3L_24)] → Wz p l e s m args below meth c D dA bs (some (.int out)) mm 4 92 H locs 91 ls [])) (Ph := (fun w2_25 => ∀ (H : Heap) (locs : List Loc) (ls : Array Slot), Wd D dA bs LY mm H → va_S (Aq bs) s.heap H locs → lv_has ls 4 [(2, .int w2_25)] → Wz p l e s m args below meth c D dA bs (some (.int out)) mm 4 92 H locs 139 ls [])) ?_ hlp_27 ?_ H locs ls hP hS (lv_sub hl [1, 2, 3, 0] rfl)
        · intro z o hf hB hE
          obtain ⟨y2L_24, y3L_24⟩ := z
          intro H locs ls hP hS hl
          have hf : f_X12_weak_s91 mm x1 (y2L_24, y3L_24) = some o := hf
          unfold f_X12_weak_s91 at hf
          dsimp only at hf
          have hJ131 : ∀ (y3J_15 : Int32) (z0J_15 : Int32) (z1J_15 : Int32) (H : Heap) (locs : List Loc) (ls : Array Slot), f_X12_weak_j131 mm x1 y3J_15 z0J_15 z1J_15 = some o → Wd D dA bs LY mm H → va_S (Aq bs) s.heap H locs → lv_has ls 4 [(0, .ref (bs + 1088)), (1, .int x1), (3, .int y3J_15)] → Wz p l e s m args below meth c D dA bs (some (.int out)) mm 4 92 H locs 131 ls [.int z0J_15, .int z1J_15] := by
            intro y3J_15 z0J_15 z1J_15 H locs ls hf hP hS hl
            unfold f_X12_weak_j131 at hf
            refine lv_ior hx hb dX12_weak_131 ?_
            refine lv_istore_n (lv' := [(2, .int (z1J_15 ||| z0J_15)), (0, .ref (bs + 1088)), (1, .int x1), (3, .int y3J_15)]) hx hb dX12_weak_132 rfl hl (by decide) rfl (fun ls hl => ?_)
            refine lv_iinc (v := (y3J_15 + 1)) (lv' := [(3, .int (y3J_15 + 1)), (2, .int (z1J_15 ||| z0J_15)), (0, .ref (bs + 1088)), (1, .int x1)]) hx hb dX12_weak_133 hl (k := 3) rfl rfl (by decide) rfl (fun ls hl => ?_)
            refine lv_goto (tgt := 91) hx hb dX12_weak_136 (by decide) ?_
            obtain rfl := Option.some.inj hf
            exact hB _ rfl H locs ls hP hS (lv_sub hl [2, 3, 1, 0] rfl)
          have hJ130 : ∀ (y3J_16 : Int32) (z0J_16 : Int32) (H : Heap) (locs : List Loc) (ls : Array Slot), f_X12_weak_j130 mm x1 y3J_16 z0J_16 = some o → Wd D dA bs LY mm H → va_S (Aq bs) s.heap H locs → lv_has ls 4 [(0, .ref (bs + 1088)), (1, .int x1), (3, .int y3J_16)] → Wz p l e s m args below meth c D dA bs (some (.int out)) mm 4 92 H locs 130 ls [.int z0J_16] := by
            intro y3J_16 z0J_16 H locs ls hf hP hS hl
            unfold f_X12_weak_j130 at hf
            refine lv_iconst (v := 0) hx hb dX12_weak_130 (by decide) ?_
            exact hJ131 y3J_16 (0 : Int32) z0J_16 H locs ls hf hP hS (lv_sub hl [0, 1, 2] rfl)
          refine lv_iload_n hx hb dX12_weak_91 rfl (lv_at hl 3 rfl) ?_
          refine lv_aload_n hx hb dX12_weak_92 rfl (lv_at hl 0 rfl) ?_
          refine wd_getR (q := 1089) X hP L1088 fl_X12_9 rfl dX12_weak_93 ?_
          refine lv_iconst (v := 3) hx hb dX12_weak_96 (by decide) ?_
          refine wd_ialdK (k := 3) X hP L1089 (by decide) (by decide) dX12_weak_97 ?_
          refine lv_icmp_ge (tgt := 139) hx hb dX12_weak_98 (by decide) (fun c_17 => ?_) (fun c_17 => ?_)
          · have hf := itT hf c_17
            obtain rfl := Option.some.inj hf
            exact hE _ rfl H locs ls hP hS (lv_sub hl [2] rfl)
          · have hf := itF hf c_17
            refine lv_iload_n hx hb dX12_weak_101 rfl (lv_at hl 1 rfl) ?_
            refine lv_iconst (v := 1) hx hb dX12_weak_102 (by decide) ?_
            refine lv_icmp_ne (tgt := 139) hx hb dX12_weak_103 (by decide) (fun c_18 => ?_) (fun c_18 => ?_)
            · have hf := itF hf c_18
              obtain rfl := Option.some.inj hf
              exact hE _ rfl H locs ls hP hS (lv_sub hl [2] rfl)
            · have hf := itT hf c_18
              refine lv_iload_n hx hb dX12_weak_106 rfl (lv_at hl 2 rfl) ?_
              refine lv_aload_n hx hb dX12_weak_107 rfl (lv_at hl 0 rfl) ?_
              refine wd_getR (q := 1097) X hP L1088 fl_X12_34 rfl dX12_weak_108 ?_
              refine lv_iload_n hx hb dX12_weak_111 rfl (lv_at hl 3 rfl) ?_
              have g_19 := gdN hf
              have hf := gdK hf
              refine wd_iald X hP L1097 g_19 dX12_weak_112 ?_
              refine lv_if_ne (tgt := 130) hx hb dX12_weak_113 (by decide) (fun c_20 => ?_) (fun c_20 => ?_)
              · have hf := itF hf c_20
                exact hJ130 y3L_24 y2L_24 H locs ls hf hP hS (lv_sub hl [0, 1, 3] rfl)
              · have hf := itT hf c_20
                refine lv_aload_n hx hb dX12_weak_116 rfl (lv_at hl 0 rfl) ?_
                refine lv_iload_n hx hb dX12_weak_117 rfl (lv_at hl 3 rfl) ?_
                obtain ⟨r_22, hc_21, hf⟩ := bi1S hf
                refine wd_cv X hP hS L1088 ml_X12_576 ⟨_, _, rfl⟩ (c_X12_isWeakThing l D dA zz bs mm y3L_24 r_22 hc_21) rfl ⟨Nat.le_of_ble_eq_true rfl, Nat.le_of_ble_eq_true rfl⟩ hl.1 rfl (rest := [.int y2L_24]) (Nat.le_of_ble_eq_true rfl) ⟨Nat.zero_le _, Nat.zero_le _⟩ dX12_weak_118 (fun H locs hP hS => ?_)
                refine W.eq (g2 := F0 m 121 ls [.int r_22, .int y2L_24]) rfl ?_
                refine lv_if_eq (tgt := 130) hx hb dX12_weak_121 (by decide) (fun c_23 => ?_) (fun c_23 => ?_)
                · have hf := itT hf c_23
                  exact hJ130 y3L_24 y2L_24 H locs ls hf hP hS (lv_sub hl [0, 1, 3] rfl)
                · have hf := itF hf c_23
                  refine lv_iconst (v := 1) hx hb dX12_weak_124 (by decide) ?_
                  refine lv_iload_n hx hb dX12_weak_125 rfl (lv_at hl 3 rfl) ?_
                  refine lv_ishl hx hb dX12_weak_126 ?_
                  refine lv_goto (tgt := 131) hx hb dX12_weak_127 (by decide) ?_
                  exact hJ131 y3L_24 ((1 : Int32) <<< (y3L_24 &&& 31)) y2L_24 H locs ls hf hP hS (lv_sub hl [0, 1, 3] rfl)
        · obtain ⟨w2_25, e_w2_25⟩ : ∃ z, z = q_26 := ⟨_, rfl⟩
          subst e_w2_25
          intro H locs ls hP hS hl
          refine lv_iload_n hx hb dX12_weak_139 rfl (lv_at hl 0 rfl) ?_
          obtain rfl := Option.some.inj hf
          exact wd_iret X hP hS hr0 dX12_weak_140 ⟨rfl, rfl⟩
    · have hf := itT hf c_2
      refine lv_iconst (v := -1) hx hb dX12_weak_17 (by decide) ?_
      obtain rfl := Option.some.inj hf
      exact wd_iret X hP hS hr0 dX12_weak_18 ⟨rfl, rfl⟩

noncomputable def f_X12_offer (mm : Mm) (x1 : Int32) (x2 : Int32) (x3 : Int32) : Option (Int32 × Mm) :=
  if x1 = (-1 : Int32) then
    vlet (wI mm 1089 7 (0 : Int32)) fun mm_14 => some ((0 : Int32), mm_14)
  else
    if (f_X12_isRiver mm) = 0 then
      some ((-2 : Int32), mm)
    else
      if (f_X12_in (x1.toInt64) (0 : Int64) (50 : Int64)) = 0 then
        some ((-2 : Int32), mm)
      else
        if (f_X12_in (x2.toInt64) (0 : Int64) (99 : Int64)) = 0 then
          some ((-2 : Int32), mm)
        else
          if (f_X12_in (x3.toInt64) (0 : Int64) (9 : Int64)) = 0 then
            some ((-2 : Int32), mm)
          else
            if (mm.1 1089 7) = (6 : Int32) then
              some ((-2 : Int32), mm)
            else
              if (mm.1 1089 7) < 0 ∨ 6 ≤ (mm.1 1089 7).toNatClampNeg then none else
                vlet (wI mm 1104 (mm.1 1089 7).toNatClampNeg x1) fun mm_7 =>
                  if (mm.1 1089 7) < 0 ∨ 6 ≤ (mm.1 1089 7).toNatClampNeg then none else
                    vlet (wI mm_7 1105 (mm.1 1089 7).toNatClampNeg x2) fun mm_9 =>
                      if (mm.1 1089 7) < 0 ∨ 6 ≤ (mm.1 1089 7).toNatClampNeg then none else
                        vlet (wI mm_9 1106 (mm.1 1089 7).toNatClampNeg x3) fun mm_11 =>
                          vlet (wI mm_11 1089 7 ((mm_11.1 1089 7) + (1 : Int32))) fun mm_13 => some (((mm.1 1089 7) + (1 : Int32)), mm_13)
set_option maxHeartbeats 4000000 in
set_option maxRecDepth 100000 in
theorem c_X12_offer (l : Launch) (D : va_G) (dA : Nat → ClassId) (zz : (Nat → Nat) × (Nat → Nat)) (bs : Nat) (mm : Mm) (x1 : Int32) (x2 : Int32) (x3 : Int32) (out : Int32) (m1 : Mm) (hf : f_X12_offer mm x1 x2 x3 = some (out, m1)) : Mw l D dA zz bs LY yX12_offer cX12_offer 5 (some .int) 1 25 [.ref (bs + 1088), .int x1, .int x2, .int x3] mm (some (.int out)) m1 := by
  refine Mw.of (own := RX12) (by decide) rfl (Nat.le_of_ble_eq_true rfl) ?_
  intro p e s m args below meth c X hr0 hP hS ls hl
  have hx := X.1
  have hb := X.2.1
  obtain ⟨H, hH⟩ : ∃ z : Heap, z = s.heap := ⟨_, rfl⟩
  obtain ⟨locs, hL⟩ : ∃ z : List Loc, z = [] := ⟨_, rfl⟩
  rw [← hH, ← hL]
  have hS : va_S (Aq bs) s.heap H locs := by rw [hH, hL]; exact hS
  have hP : Wd D dA bs LY mm H := by rw [hH]; exact hP
  have hl : lv_has ls 5 [(0, .ref (bs + 1088)), (1, .int x1), (2, .int x2), (3, .int x3)] := hl
  unfold f_X12_offer at hf
  refine lv_iload_n hx hb dX12_offer_0 rfl (lv_at hl 1 rfl) ?_
  refine lv_iconst (v := -1) hx hb dX12_offer_1 (by decide) ?_
  refine lv_icmp_ne (tgt := 15) hx hb dX12_offer_2 (by decide) (fun c_1 => ?_) (fun c_1 => ?_)
  · have hf := itF hf c_1
    refine lv_aload_n hx hb dX12_offer_15 rfl (lv_at hl 0 rfl) ?_
    refine wd_getR (q := 1089) X hP L1088 fl_X12_9 rfl dX12_offer_16 ?_
    refine lv_bipush (v := 7) hx hb dX12_offer_19 (by decide) ?_
    refine wd_ialdK (k := 7) X hP L1089 (by decide) (by decide) dX12_offer_21 ?_
    refine lv_istore (lv' := [(4, .int (mm.1 1089 7)), (0, .ref (bs + 1088)), (1, .int x1), (2, .int x2), (3, .int x3)]) hx hb dX12_offer_22 hl (by decide) rfl (fun ls hl => ?_)
    refine lv_aload_n hx hb dX12_offer_24 rfl (lv_at hl 1 rfl) ?_
    refine wd_cv X hP hS L1088 ml_X12_430 ⟨_, _, rfl⟩ (c_X12_isRiver l D dA zz bs mm (f_X12_isRiver mm) rfl) rfl ⟨Nat.le_of_ble_eq_true rfl, Nat.le_of_ble_eq_true rfl⟩ hl.1 rfl (rest := []) (Nat.le_of_ble_eq_true rfl) ⟨Nat.zero_le _, Nat.zero_le _⟩ dX12_offer_25 (fun H locs hP hS => ?_)
    refine W.eq (g2 := F0 m 28 ls [.int (f_X12_isRiver mm)]) rfl ?_
    refine lv_if_eq (tgt := 74) hx hb dX12_offer_28 (by decide) (fun c_2 => ?_) (fun c_2 => ?_)
    · have hf := itT hf c_2
      refine lv_bipush (v := -2) hx hb dX12_offer_74 (by decide) ?_
      obtain ⟨rfl, rfl⟩ := Prod.mk.inj (Option.some.inj hf)
      exact wd_iret X hP hS hr0 dX12_offer_76 ⟨rfl, rfl⟩
    · have hf := itF hf c_2
      refine lv_iload_n hx hb dX12_offer_31 rfl (lv_at hl 2 rfl) ?_
      refine lv_i2l hx hb dX12_offer_32 rfl ?_
      refine lv_lconst (v := 0) hx hb dX12_offer_33 (by decide) ?_
      refine lv_ldc2 (own := RX12) (v := 50) hx hb X.2.2.2.1 (X.2.2.2.2.1 _ (tb_at 1839 (by decide +kernel) (by decide +kernel))) dX12_offer_34 ?_
      refine wd_cs X hP hS ml_X12_176 (c_X12_in l D dA zz bs mm (x1.toInt64) (0 : Int64) (50 : Int64) (f_X12_in (x1.toInt64) (0 : Int64) (50 : Int64)) rfl) rfl ⟨Nat.le_of_ble_eq_true rfl, Nat.le_of_ble_eq_true rfl⟩ hl.1 rfl (rest := []) (Nat.le_of_ble_eq_true rfl) ⟨Nat.zero_le _, Nat.zero_le _⟩ dX12_offer_37 (fun H locs hP hS => ?_)
      refine W.eq (g2 := F0 m 40 ls [.int (f_X12_in (x1.toInt64) (0 : Int64) (50 : Int64))]) rfl ?_
      refine lv_if_eq (tgt := 74) hx hb dX12_offer_40 (by decide) (fun c_3 => ?_) (fun c_3 => ?_)
      · have hf := itT hf c_3
        refine lv_bipush (v := -2) hx hb dX12_offer_74 (by decide) ?_
        obtain ⟨rfl, rfl⟩ := Prod.mk.inj (Option.some.inj hf)
        exact wd_iret X hP hS hr0 dX12_offer_76 ⟨rfl, rfl⟩
      · have hf := itF hf c_3
        refine lv_iload_n hx hb dX12_offer_43 rfl (lv_at hl 3 rfl) ?_
        refine lv_i2l hx hb dX12_offer_44 rfl ?_
        refine lv_lconst (v := 0) hx hb dX12_offer_45 (by decide) ?_
        refine lv_ldc2 (own := RX12) (v := 99) hx hb X.2.2.2.1 (X.2.2.2.2.1 _ (tb_at 1840 (by decide +kernel) (by decide +kernel))) dX12_offer_46 ?_
        refine wd_cs X hP hS ml_X12_176 (c_X12_in l D dA zz bs mm (x2.toInt64) (0 : Int64) (99 : Int64) (f_X12_in (x2.toInt64) (0 : Int64) (99 : Int64)) rfl) rfl ⟨Nat.le_of_ble_eq_true rfl, Nat.le_of_ble_eq_true rfl⟩ hl.1 rfl (rest := []) (Nat.le_of_ble_eq_true rfl) ⟨Nat.zero_le _, Nat.zero_le _⟩ dX12_offer_49 (fun H locs hP hS => ?_)
        refine W.eq (g2 := F0 m 52 ls [.int (f_X12_in (x2.toInt64) (0 : Int64) (99 : Int64))]) rfl ?_
        refine lv_if_eq (tgt := 74) hx hb dX12_offer_52 (by decide) (fun c_4 => ?_) (fun c_4 => ?_)
        · have hf := itT hf c_4
          refine lv_bipush (v := -2) hx hb dX12_offer_74 (by decide) ?_
          obtain ⟨rfl, rfl⟩ := Prod.mk.inj (Option.some.inj hf)
          exact wd_iret X hP hS hr0 dX12_offer_76 ⟨rfl, rfl⟩
        · have hf := itF hf c_4
          refine lv_iload_n hx hb dX12_offer_55 rfl (lv_at hl 4 rfl) ?_
          refine lv_i2l hx hb dX12_offer_56 rfl ?_
          refine lv_lconst (v := 0) hx hb dX12_offer_57 (by decide) ?_
          refine lv_ldc2 (own := RX12) (v := 9) hx hb X.2.2.2.1 (X.2.2.2.2.1 _ (tb_at 1686 (by decide +kernel) (by decide +kernel))) dX12_offer_58 ?_
          refine wd_cs X hP hS ml_X12_176 (c_X12_in l D dA zz bs mm (x3.toInt64) (0 : Int64) (9 : Int64) (f_X12_in (x3.toInt64) (0 : Int64) (9 : Int64)) rfl) rfl ⟨Nat.le_of_ble_eq_true rfl, Nat.le_of_ble_eq_true rfl⟩ hl.1 rfl (rest := []) (Nat.le_of_ble_eq_true rfl) ⟨Nat.zero_le _, Nat.zero_le _⟩ dX12_offer_61 (fun H locs hP hS => ?_)
          refine W.eq (g2 := F0 m 64 ls [.int (f_X12_in (x3.toInt64) (0 : Int64) (9 : Int64))]) rfl ?_
          refine lv_if_eq (tgt := 74) hx hb dX12_offer_64 (by decide) (fun c_5 => ?_) (fun c_5 => ?_)
          · have hf := itT hf c_5
            refine lv_bipush (v := -2) hx hb dX12_offer_74 (by decide) ?_
            obtain ⟨rfl, rfl⟩ := Prod.mk.inj (Option.some.inj hf)
            exact wd_iret X hP hS hr0 dX12_offer_76 ⟨rfl, rfl⟩
          · have hf := itF hf c_5
            refine lv_iload hx hb dX12_offer_67 (lv_at hl 0 rfl) ?_
            refine lv_bipush (v := 6) hx hb dX12_offer_69 (by decide) ?_
            refine lv_icmp_ne (tgt := 77) hx hb dX12_offer_71 (by decide) (fun c_6 => ?_) (fun c_6 => ?_)
            · have hf := itF hf c_6
              refine lv_aload_n hx hb dX12_offer_77 rfl (lv_at hl 1 rfl) ?_
              refine wd_getR (q := 1104) X hP L1088 fl_X12_55 rfl dX12_offer_78 ?_
              refine lv_iload hx hb dX12_offer_81 (lv_at hl 0 rfl) ?_
              refine lv_iload_n hx hb dX12_offer_83 rfl (lv_at hl 2 rfl) ?_
              have g_8 := gdN hf
              have hf := gdK hf
              refine wd_iast X hP hS L1104 g_8 dX12_offer_84 (fun H locs mm_7 emm_7 hP hS => ?_)
              have hf := vl hf emm_7
              refine lv_aload_n hx hb dX12_offer_85 rfl (lv_at hl 1 rfl) ?_
              refine wd_getR (q := 1105) X hP L1088 fl_X12_58 rfl dX12_offer_86 ?_
              refine lv_iload hx hb dX12_offer_89 (lv_at hl 0 rfl) ?_
              refine lv_iload_n hx hb dX12_offer_91 rfl (lv_at hl 3 rfl) ?_
              have g_10 := gdN hf
              have hf := gdK hf
              refine wd_iast X hP hS L1105 g_10 dX12_offer_92 (fun H locs mm_9 emm_9 hP hS => ?_)
              have hf := vl hf emm_9
              refine lv_aload_n hx hb dX12_offer_93 rfl (lv_at hl 1 rfl) ?_
              refine wd_getR (q := 1106) X hP L1088 fl_X12_61 rfl dX12_offer_94 ?_
              refine lv_iload hx hb dX12_offer_97 (lv_at hl 0 rfl) ?_
              refine lv_iload_n hx hb dX12_offer_99 rfl (lv_at hl 4 rfl) ?_
              have g_12 := gdN hf
              have hf := gdK hf
              refine wd_iast X hP hS L1106 g_12 dX12_offer_100 (fun H locs mm_11 emm_11 hP hS => ?_)
              have hf := vl hf emm_11
              refine lv_aload_n hx hb dX12_offer_101 rfl (lv_at hl 1 rfl) ?_
              refine wd_getR (q := 1089) X hP L1088 fl_X12_9 rfl dX12_offer_102 ?_
              refine lv_bipush (v := 7) hx hb dX12_offer_105 (by decide) ?_
              refine lv_dup2_11 hx hb dX12_offer_107 rfl rfl ?_
              refine wd_ialdK (k := 7) X hP L1089 (by decide) (by decide) dX12_offer_108 ?_
              refine lv_iconst (v := 1) hx hb dX12_offer_109 (by decide) ?_
              refine lv_iadd hx hb dX12_offer_110 ?_
              refine wd_iastK (k := 7) X hP hS L1089 (by decide) (by decide) dX12_offer_111 (fun H locs mm_13 emm_13 hP hS => ?_)
              have hf := vl hf emm_13
              refine lv_iload hx hb dX12_offer_112 (lv_at hl 0 rfl) ?_
              refine lv_iconst (v := 1) hx hb dX12_offer_114 (by decide) ?_
              refine lv_iadd hx hb dX12_offer_115 ?_
              obtain ⟨rfl, rfl⟩ := Prod.mk.inj (Option.some.inj hf)
              exact wd_iret X hP hS hr0 dX12_offer_116 ⟨rfl, rfl⟩
            · have hf := itT hf c_6
              refine lv_bipush (v := -2) hx hb dX12_offer_74 (by decide) ?_
              obtain ⟨rfl, rfl⟩ := Prod.mk.inj (Option.some.inj hf)
              exact wd_iret X hP hS hr0 dX12_offer_76 ⟨rfl, rfl⟩
  · have hf := itT hf c_1
    refine lv_aload_n hx hb dX12_offer_5 rfl (lv_at hl 0 rfl) ?_
    refine wd_getR (q := 1089) X hP L1088 fl_X12_9 rfl dX12_offer_6 ?_
    refine lv_bipush (v := 7) hx hb dX12_offer_9 (by decide) ?_
    refine lv_iconst (v := 0) hx hb dX12_offer_11 (by decide) ?_
    refine wd_iastK (k := 7) X hP hS L1089 (by decide) (by decide) dX12_offer_12 (fun H locs mm_14 emm_14 hP hS => ?_)
    have hf := vl hf emm_14
    refine lv_iconst (v := 0) hx hb dX12_offer_13 (by decide) ?_
    obtain ⟨rfl, rfl⟩ := Prod.mk.inj (Option.some.inj hf)
    exact wd_iret X hP hS hr0 dX12_offer_14 ⟨rfl, rfl⟩

noncomputable def f_X12_soaked (x0 : Int32) (x1 : Int32) (x2 : Int32) : Int32 :=
  if (x0 - (x1 * x2)) ≤ 0 then
    (0 : Int32)
  else
    (x0 - (x1 * x2))
set_option maxHeartbeats 4000000 in
set_option maxRecDepth 100000 in
theorem c_X12_soaked (l : Launch) (D : va_G) (dA : Nat → ClassId) (zz : (Nat → Nat) × (Nat → Nat)) (bs : Nat) (mm : Mm) (x0 : Int32) (x1 : Int32) (x2 : Int32) (out : Int32) (hf : f_X12_soaked x0 x1 x2 = out) : Mw l D dA zz bs LY yX12_soaked cX12_soaked 4 (some .int) 0 0 [.int x0, .int x1, .int x2] mm (some (.int out)) mm := by
  refine Mw.of (own := RX12) (by decide) rfl (Nat.le_of_ble_eq_true rfl) ?_
  intro p e s m args below meth c X hr0 hP hS ls hl
  have hx := X.1
  have hb := X.2.1
  obtain ⟨H, hH⟩ : ∃ z : Heap, z = s.heap := ⟨_, rfl⟩
  obtain ⟨locs, hL⟩ : ∃ z : List Loc, z = [] := ⟨_, rfl⟩
  rw [← hH, ← hL]
  have hS : va_S (Aq bs) s.heap H locs := by rw [hH, hL]; exact hS
  have hP : Wd D dA bs LY mm H := by rw [hH]; exact hP
  have hl : lv_has ls 4 [(0, .int x0), (1, .int x1), (2, .int x2)] := hl
  unfold f_X12_soaked at hf
  refine lv_iload_n hx hb dX12_soaked_0 rfl (lv_at hl 0 rfl) ?_
  refine lv_iload_n hx hb dX12_soaked_1 rfl (lv_at hl 1 rfl) ?_
  refine lv_iload_n hx hb dX12_soaked_2 rfl (lv_at hl 2 rfl) ?_
  refine lv_imul hx hb dX12_soaked_3 ?_
  refine lv_isub hx hb dX12_soaked_4 ?_
  refine lv_istore_n (lv' := [(3, .int (x0 - (x1 * x2))), (0, .int x0), (1, .int x1), (2, .int x2)]) hx hb dX12_soaked_5 rfl hl (by decide) rfl (fun ls hl => ?_)
  refine lv_iload_n hx hb dX12_soaked_6 rfl (lv_at hl 0 rfl) ?_
  refine lv_if_le (tgt := 14) hx hb dX12_soaked_7 (by decide) (fun c_1 => ?_) (fun c_1 => ?_)
  · have hf := itT hf c_1
    refine lv_iconst (v := 0) hx hb dX12_soaked_14 (by decide) ?_
    subst hf
    exact wd_iret X hP hS hr0 dX12_soaked_15 ⟨rfl, rfl⟩
  · have hf := itF hf c_1
    refine lv_iload_n hx hb dX12_soaked_10 rfl (lv_at hl 0 rfl) ?_
    refine lv_goto (tgt := 15) hx hb dX12_soaked_11 (by decide) ?_
    subst hf
    exact wd_iret X hP hS hr0 dX12_soaked_15 ⟨rfl, rfl⟩

noncomputable def f_X12_milesWith_j160 (mm : Mm) (y1 : Int32) (y2 : Int32) (y3 : Int32) (y5 : Int32) (z0 : Int32) (z1 : Int32) : Option ((Int32 × Int32) ⊕ (Int32)) :=
  some (.inl ((z1 + z0), y5))
noncomputable def f_X12_milesWith_j146 (mm : Mm) (y1 : Int32) (y2 : Int32) (y3 : Int32) (y4 : Int32) (z0 : Int32) : Option ((Int32 × Int32) ⊕ (Int32)) :=
  if z0 = 0 then
    f_X12_milesWith_j160 mm y1 y2 y3 z0 (0 : Int32) y4
  else
    f_X12_milesWith_j160 mm y1 y2 y3 z0 (1 : Int32) y4
noncomputable def f_X12_milesWith_j126 (mm : Mm) (y1 : Int32) (y2 : Int32) (y3 : Int32) (y4 : Int32) (y7 : Int32) (z0 : Int32) (z1 : Int32) : Option ((Int32 × Int32) ⊕ (Int32)) :=
  some (.inl ((z1 + z0), (y7 + 1)))
noncomputable def f_X12_milesWith_s81 (mm : Mm) (y1 : Int32) (y2 : Int32) (y3 : Int32) (y4 : Int32) : (Int32 × Int32) → Option ((Int32 × Int32) ⊕ (Int32)) :=
  fun q => match q with
  | (y6, y7) =>
    if (mm.1 1089 3) ≤ y7 then
      some (.inr y6)
    else
      if (f_X12_has y1 y7) = 0 then
        f_X12_milesWith_j126 mm y1 y2 y3 y4 y7 (0 : Int32) y6
      else
        if y7 < 0 ∨ 8 ≤ y7.toNatClampNeg then none else
          if y7 < 0 ∨ 8 ≤ y7.toNatClampNeg then none else
            f_X12_milesWith_j126 mm y1 y2 y3 y4 y7 (f_X12_soaked (mm.1 1095 y7.toNatClampNeg) (mm.1 1096 y7.toNatClampNeg) y4) y6
noncomputable def f_X12_milesWith_j76 (mm : Mm) (y1 : Int32) (y2 : Int32) (y3 : Int32) (y4 : Int32) (z0 : Int32) : Option ((Int32 × Int32) ⊕ (Int32)) :=
  bi1 (lp (f_X12_milesWith_s81 mm y1 y2 y3 y4) (z0, (0 : Int32))) fun w6_10 =>
    if w6_10 < y3 then
      f_X12_milesWith_j146 mm y1 y2 y3 y4 (0 : Int32)
    else
      f_X12_milesWith_j146 mm y1 y2 y3 y4 (1 : Int32)
noncomputable def f_X12_milesWith_s38 (mm : Mm) (y1 : Int32) (y2 : Int32) (y3 : Int32) : (Int32 × Int32) → Option ((Int32 × Int32) ⊕ (Int32)) :=
  fun q => match q with
  | (y4, y5) =>
    if (100 : Int32) ≤ y4 then
      some (.inr y4)
    else
      if y5 = 0 then
        some (.inr y4)
      else
        if y2 = (-1 : Int32) then
          f_X12_milesWith_j76 mm y1 y2 y3 y4 (0 : Int32)
        else
          if y2 < 0 ∨ 6 ≤ y2.toNatClampNeg then none else
            if y2 < 0 ∨ 6 ≤ y2.toNatClampNeg then none else
              f_X12_milesWith_j76 mm y1 y2 y3 y4 (f_X12_soaked (mm.1 1105 y2.toNatClampNeg) (mm.1 1106 y2.toNatClampNeg) y4)
noncomputable def f_X12_milesWith_j30 (mm : Mm) (y1 : Int32) (y2 : Int32) (z0 : Int32) (z1 : Int32) : Option (Int32) :=
  bi1 (lp (f_X12_milesWith_s38 mm y1 y2 (z1 + z0)) ((0 : Int32), (1 : Int32))) fun w4_21 =>
    some w4_21
noncomputable def f_X12_milesWith (mm : Mm) (x1 : Int32) (x2 : Int32) : Option (Int32) :=
  bi1 (f_X12_weightOf mm x1) fun r_26 =>
    bi1 (f_X12_ridersOf mm x1 (f_X12_allRopes mm)) fun r_28 =>
      if x2 = (-1 : Int32) then
        f_X12_milesWith_j30 mm x1 x2 (0 : Int32) (r_26 + r_28)
      else
        if x2 < 0 ∨ 6 ≤ x2.toNatClampNeg then none else
          f_X12_milesWith_j30 mm x1 x2 (mm.1 1104 x2.toNatClampNeg) (r_26 + r_28)
set_option maxHeartbeats 4000000 in
set_option maxRecDepth 100000 in
theorem c_X12_milesWith (l : Launch) (D : va_G) (dA : Nat → ClassId) (zz : (Nat → Nat) × (Nat → Nat)) (bs : Nat) (mm : Mm) (x1 : Int32) (x2 : Int32) (out : Int32) (hf : f_X12_milesWith mm x1 x2 = some out) : Mw l D dA zz bs LY yX12_milesWith cX12_milesWith 8 (some .int) 4 103 [.ref (bs + 1088), .int x1, .int x2] mm (some (.int out)) mm := by
  refine Mw.of (own := RX12) (by decide) rfl (Nat.le_of_ble_eq_true rfl) ?_
  intro p e s m args below meth c X hr0 hP hS ls hl
  have hx := X.1
  have hb := X.2.1
  obtain ⟨H, hH⟩ : ∃ z : Heap, z = s.heap := ⟨_, rfl⟩
  obtain ⟨locs, hL⟩ : ∃ z : List Loc, z = [] := ⟨_, rfl⟩
  rw [← hH, ← hL]
  have hS : va_S (Aq bs) s.heap H locs := by rw [hH, hL]; exact hS
  have hP : Wd D dA bs LY mm H := by rw [hH]; exact hP
  have hl : lv_has ls 8 [(0, .ref (bs + 1088)), (1, .int x1), (2, .int x2)] := hl
  have hJ30 : ∀ (y1J_24 : Int32) (y2J_24 : Int32) (z0J_24 : Int32) (z1J_24 : Int32) (H : Heap) (locs : List Loc) (ls : Array Slot), f_X12_milesWith_j30 mm y1J_24 y2J_24 z0J_24 z1J_24 = some out → Wd D dA bs LY mm H → va_S (Aq bs) s.heap H locs → lv_has ls 8 [(0, .ref (bs + 1088)), (1, .int y1J_24), (2, .int y2J_24)] → Wz p l e s m args below meth c D dA bs (some (.int out)) mm 4 103 H locs 30 ls [.int z0J_24, .int z1J_24] := by
    intro y1J_24 y2J_24 z0J_24 z1J_24 H locs ls hf hP hS hl
    unfold f_X12_milesWith_j30 at hf
    refine lv_iadd hx hb dX12_milesWith_30 ?_
    refine lv_istore_n (lv' := [(3, .int (z1J_24 + z0J_24)), (0, .ref (bs + 1088)), (1, .int y1J_24), (2, .int y2J_24)]) hx hb dX12_milesWith_31 rfl hl (by decide) rfl (fun ls hl => ?_)
    refine lv_iconst (v := 0) hx hb dX12_milesWith_32 (by decide) ?_
    refine lv_istore (lv' := [(4, .int (0 : Int32)), (3, .int (z1J_24 + z0J_24)), (0, .ref (bs + 1088)), (1, .int y1J_24), (2, .int y2J_24)]) hx hb dX12_milesWith_33 hl (by decide) rfl (fun ls hl => ?_)
    refine lv_iconst (v := 1) hx hb dX12_milesWith_35 (by decide) ?_
    refine lv_istore (lv' := [(5, .int (1 : Int32)), (4, .int (0 : Int32)), (3, .int (z1J_24 + z0J_24)), (0, .ref (bs + 1088)), (1, .int y1J_24), (2, .int y2J_24)]) hx hb dX12_milesWith_36 hl (by decide) rfl (fun ls hl => ?_)
    obtain ⟨q_22, hlp_23, hf⟩ := bi1S hf
    refine lp_walk (Wh := (fun z => match z with | (y4L_20, y5L_20) => ∀ (H : Heap) (locs : List Loc) (ls : Array Slot), Wd D dA bs LY mm H → va_S (Aq bs) s.heap H locs → lv_has ls 8 [(0, .ref (bs + 1088)), (1, .int y1J_24), (2, .int y2J_24), (3, .int (z1J_24 + z0J_24)), (4, .int y4L_20), (5, .int y5L_20)] → Wz p l e s m args below meth c D dA bs (some (.int out)) mm 4 103 H locs 38 ls [])) (Ph := (fun w4_21 => ∀ (H : Heap) (locs : List Loc) (ls : Array Slot), Wd D dA bs LY mm H → va_S (Aq bs) s.heap H locs → lv_has ls 8 [(4, .int w4_21)] → Wz p l e s m args below meth c D dA bs (some (.int out)) mm 4 103 H locs 166 ls [])) ?_ hlp_23 ?_ H locs ls hP hS (lv_sub hl [3, 4, 5, 2, 1, 0] rfl)
    · intro z o hf hB hE
      obtain ⟨y4L_20, y5L_20⟩ := z
      intro H locs ls hP hS hl
      have hf : f_X12_milesWith_s38 mm y1J_24 y2J_24 (z1J_24 + z0J_24) (y4L_20, y5L_20) = some o := hf
      unfold f_X12_milesWith_s38 at hf
      dsimp only at hf
      have hJ160 : ∀ (y5J_1 : Int32) (z0J_1 : Int32) (z1J_1 : Int32) (H : Heap) (locs : List Loc) (ls : Array Slot), f_X12_milesWith_j160 mm y1J_24 y2J_24 (z1J_24 + z0J_24) y5J_1 z0J_1 z1J_1 = some o → Wd D dA bs LY mm H → va_S (Aq bs) s.heap H locs → lv_has ls 8 [(0, .ref (bs + 1088)), (1, .int y1J_24), (2, .int y2J_24), (3, .int (z1J_24 + z0J_24)), (5, .int y5J_1)] → Wz p l e s m args below meth c D dA bs (some (.int out)) mm 4 103 H locs 160 ls [.int z0J_1, .int z1J_1] := by
        intro y5J_1 z0J_1 z1J_1 H locs ls hf hP hS hl
        unfold f_X12_milesWith_j160 at hf
        refine lv_iadd hx hb dX12_milesWith_160 ?_
        refine lv_istore (lv' := [(4, .int (z1J_1 + z0J_1)), (0, .ref (bs + 1088)), (1, .int y1J_24), (2, .int y2J_24), (3, .int (z1J_24 + z0J_24)), (5, .int y5J_1)]) hx hb dX12_milesWith_161 hl (by decide) rfl (fun ls hl => ?_)
        refine lv_goto (tgt := 38) hx hb dX12_milesWith_163 (by decide) ?_
        obtain rfl := Option.some.inj hf
        exact hB _ rfl H locs ls hP hS (lv_sub hl [1, 2, 3, 4, 0, 5] rfl)
      have hJ146 : ∀ (y4J_3 : Int32) (z0J_3 : Int32) (H : Heap) (locs : List Loc) (ls : Array Slot), f_X12_milesWith_j146 mm y1J_24 y2J_24 (z1J_24 + z0J_24) y4J_3 z0J_3 = some o → Wd D dA bs LY mm H → va_S (Aq bs) s.heap H locs → lv_has ls 8 [(0, .ref (bs + 1088)), (1, .int y1J_24), (2, .int y2J_24), (3, .int (z1J_24 + z0J_24)), (4, .int y4J_3)] → Wz p l e s m args below meth c D dA bs (some (.int out)) mm 4 103 H locs 146 ls [.int z0J_3] := by
        intro y4J_3 z0J_3 H locs ls hf hP hS hl
        unfold f_X12_milesWith_j146 at hf
        refine lv_istore (lv' := [(5, .int z0J_3), (0, .ref (bs + 1088)), (1, .int y1J_24), (2, .int y2J_24), (3, .int (z1J_24 + z0J_24)), (4, .int y4J_3)]) hx hb dX12_milesWith_146 hl (by decide) rfl (fun ls hl => ?_)
        refine lv_iload hx hb dX12_milesWith_148 (lv_at hl 5 rfl) ?_
        refine lv_iload hx hb dX12_milesWith_150 (lv_at hl 0 rfl) ?_
        refine lv_if_eq (tgt := 159) hx hb dX12_milesWith_152 (by decide) (fun c_2 => ?_) (fun c_2 => ?_)
        · have hf := itT hf c_2
          refine lv_iconst (v := 0) hx hb dX12_milesWith_159 (by decide) ?_
          exact hJ160 z0J_3 (0 : Int32) y4J_3 H locs ls hf hP hS (lv_sub hl [1, 2, 3, 4, 0] rfl)
        · have hf := itF hf c_2
          refine lv_iconst (v := 1) hx hb dX12_milesWith_155 (by decide) ?_
          refine lv_goto (tgt := 160) hx hb dX12_milesWith_156 (by decide) ?_
          exact hJ160 z0J_3 (1 : Int32) y4J_3 H locs ls hf hP hS (lv_sub hl [1, 2, 3, 4, 0] rfl)
      have hJ76 : ∀ (y4J_14 : Int32) (z0J_14 : Int32) (H : Heap) (locs : List Loc) (ls : Array Slot), f_X12_milesWith_j76 mm y1J_24 y2J_24 (z1J_24 + z0J_24) y4J_14 z0J_14 = some o → Wd D dA bs LY mm H → va_S (Aq bs) s.heap H locs → lv_has ls 8 [(0, .ref (bs + 1088)), (1, .int y1J_24), (2, .int y2J_24), (3, .int (z1J_24 + z0J_24)), (4, .int y4J_14)] → Wz p l e s m args below meth c D dA bs (some (.int out)) mm 4 103 H locs 76 ls [.int z0J_14] := by
        intro y4J_14 z0J_14 H locs ls hf hP hS hl
        unfold f_X12_milesWith_j76 at hf
        refine lv_istore (lv' := [(6, .int z0J_14), (0, .ref (bs + 1088)), (1, .int y1J_24), (2, .int y2J_24), (3, .int (z1J_24 + z0J_24)), (4, .int y4J_14)]) hx hb dX12_milesWith_76 hl (by decide) rfl (fun ls hl => ?_)
        refine lv_iconst (v := 0) hx hb dX12_milesWith_78 (by decide) ?_
        refine lv_istore (lv' := [(7, .int (0 : Int32)), (6, .int z0J_14), (0, .ref (bs + 1088)), (1, .int y1J_24), (2, .int y2J_24), (3, .int (z1J_24 + z0J_24)), (4, .int y4J_14)]) hx hb dX12_milesWith_79 hl (by decide) rfl (fun ls hl => ?_)
        obtain ⟨q_12, hlp_13, hf⟩ := bi1S hf
        refine lp_walk (Wh := (fun z => match z with | (y6L_9, y7L_9) => ∀ (H : Heap) (locs : List Loc) (ls : Array Slot), Wd D dA bs LY mm H → va_S (Aq bs) s.heap H locs → lv_has ls 8 [(0, .ref (bs + 1088)), (1, .int y1J_24), (2, .int y2J_24), (3, .int (z1J_24 + z0J_24)), (4, .int y4J_14), (6, .int y6L_9), (7, .int y7L_9)] → Wz p l e s m args below meth c D dA bs (some (.int out)) mm 4 103 H locs 81 ls [])) (Ph := (fun w6_10 => ∀ (H : Heap) (locs : List Loc) (ls : Array Slot), Wd D dA bs LY mm H → va_S (Aq bs) s.heap H locs → lv_has ls 8 [(0, .ref (bs + 1088)), (1, .int y1J_24), (2, .int y2J_24), (3, .int (z1J_24 + z0J_24)), (4, .int y4J_14), (6, .int w6_10)] → Wz p l e s m args below meth c D dA bs (some (.int out)) mm 4 103 H locs 135 ls [])) ?_ hlp_13 ?_ H locs ls hP hS (lv_sub hl [2, 3, 4, 5, 6, 1, 0] rfl)
        · intro z o hf hB hE
          obtain ⟨y6L_9, y7L_9⟩ := z
          intro H locs ls hP hS hl
          have hf : f_X12_milesWith_s81 mm y1J_24 y2J_24 (z1J_24 + z0J_24) y4J_14 (y6L_9, y7L_9) = some o := hf
          unfold f_X12_milesWith_s81 at hf
          dsimp only at hf
          have hJ126 : ∀ (y7J_4 : Int32) (z0J_4 : Int32) (z1J_4 : Int32) (H : Heap) (locs : List Loc) (ls : Array Slot), f_X12_milesWith_j126 mm y1J_24 y2J_24 (z1J_24 + z0J_24) y4J_14 y7J_4 z0J_4 z1J_4 = some o → Wd D dA bs LY mm H → va_S (Aq bs) s.heap H locs → lv_has ls 8 [(0, .ref (bs + 1088)), (1, .int y1J_24), (2, .int y2J_24), (3, .int (z1J_24 + z0J_24)), (4, .int y4J_14), (7, .int y7J_4)] → Wz p l e s m args below meth c D dA bs (some (.int out)) mm 4 103 H locs 126 ls [.int z0J_4, .int z1J_4] := by
            intro y7J_4 z0J_4 z1J_4 H locs ls hf hP hS hl
            unfold f_X12_milesWith_j126 at hf
            refine lv_iadd hx hb dX12_milesWith_126 ?_
            refine lv_istore (lv' := [(6, .int (z1J_4 + z0J_4)), (0, .ref (bs + 1088)), (1, .int y1J_24), (2, .int y2J_24), (3, .int (z1J_24 + z0J_24)), (4, .int y4J_14), (7, .int y7J_4)]) hx hb dX12_milesWith_127 hl (by decide) rfl (fun ls hl => ?_)
            refine lv_iinc (v := (y7J_4 + 1)) (lv' := [(7, .int (y7J_4 + 1)), (6, .int (z1J_4 + z0J_4)), (0, .ref (bs + 1088)), (1, .int y1J_24), (2, .int y2J_24), (3, .int (z1J_24 + z0J_24)), (4, .int y4J_14)]) hx hb dX12_milesWith_129 hl (k := 6) rfl rfl (by decide) rfl (fun ls hl => ?_)
            refine lv_goto (tgt := 81) hx hb dX12_milesWith_132 (by decide) ?_
            obtain rfl := Option.some.inj hf
            exact hB _ rfl H locs ls hP hS (lv_sub hl [2, 3, 4, 5, 6, 1, 0] rfl)
          refine lv_iload hx hb dX12_milesWith_81 (lv_at hl 6 rfl) ?_
          refine lv_aload_n hx hb dX12_milesWith_83 rfl (lv_at hl 0 rfl) ?_
          refine wd_getR (q := 1089) X hP L1088 fl_X12_9 rfl dX12_milesWith_84 ?_
          refine lv_iconst (v := 3) hx hb dX12_milesWith_87 (by decide) ?_
          refine wd_ialdK (k := 3) X hP L1089 (by decide) (by decide) dX12_milesWith_88 ?_
          refine lv_icmp_ge (tgt := 135) hx hb dX12_milesWith_89 (by decide) (fun c_5 => ?_) (fun c_5 => ?_)
          · have hf := itT hf c_5
            obtain rfl := Option.some.inj hf
            exact hE _ rfl H locs ls hP hS (lv_sub hl [0, 1, 2, 3, 4, 5] rfl)
          · have hf := itF hf c_5
            refine lv_iload hx hb dX12_milesWith_92 (lv_at hl 5 rfl) ?_
            refine lv_iload_n hx hb dX12_milesWith_94 rfl (lv_at hl 1 rfl) ?_
            refine lv_iload hx hb dX12_milesWith_95 (lv_at hl 6 rfl) ?_
            refine wd_cs X hP hS ml_X12_390 (c_X12_has l D dA zz bs mm y1J_24 y7L_9 (f_X12_has y1J_24 y7L_9) rfl) rfl ⟨Nat.le_of_ble_eq_true rfl, Nat.le_of_ble_eq_true rfl⟩ hl.1 rfl (rest := [.int y6L_9]) (Nat.le_of_ble_eq_true rfl) ⟨Nat.zero_le _, Nat.zero_le _⟩ dX12_milesWith_97 (fun H locs hP hS => ?_)
            refine W.eq (g2 := F0 m 100 ls [.int (f_X12_has y1J_24 y7L_9), .int y6L_9]) rfl ?_
            refine lv_if_eq (tgt := 125) hx hb dX12_milesWith_100 (by decide) (fun c_6 => ?_) (fun c_6 => ?_)
            · have hf := itT hf c_6
              refine lv_iconst (v := 0) hx hb dX12_milesWith_125 (by decide) ?_
              exact hJ126 y7L_9 (0 : Int32) y6L_9 H locs ls hf hP hS (lv_sub hl [0, 1, 2, 3, 4, 6] rfl)
            · have hf := itF hf c_6
              refine lv_aload_n hx hb dX12_milesWith_103 rfl (lv_at hl 0 rfl) ?_
              refine wd_getR (q := 1095) X hP L1088 fl_X12_28 rfl dX12_milesWith_104 ?_
              refine lv_iload hx hb dX12_milesWith_107 (lv_at hl 6 rfl) ?_
              have g_7 := gdN hf
              have hf := gdK hf
              refine wd_iald X hP L1095 g_7 dX12_milesWith_109 ?_
              refine lv_aload_n hx hb dX12_milesWith_110 rfl (lv_at hl 0 rfl) ?_
              refine wd_getR (q := 1096) X hP L1088 fl_X12_31 rfl dX12_milesWith_111 ?_
              refine lv_iload hx hb dX12_milesWith_114 (lv_at hl 6 rfl) ?_
              have g_8 := gdN hf
              have hf := gdK hf
              refine wd_iald X hP L1096 g_8 dX12_milesWith_116 ?_
              refine lv_iload hx hb dX12_milesWith_117 (lv_at hl 4 rfl) ?_
              refine wd_cs X hP hS ml_X12_583 (c_X12_soaked l D dA zz bs mm (mm.1 1095 y7L_9.toNatClampNeg) (mm.1 1096 y7L_9.toNatClampNeg) y4J_14 (f_X12_soaked (mm.1 1095 y7L_9.toNatClampNeg) (mm.1 1096 y7L_9.toNatClampNeg) y4J_14) rfl) rfl ⟨Nat.le_of_ble_eq_true rfl, Nat.le_of_ble_eq_true rfl⟩ hl.1 rfl (rest := [.int y6L_9]) (Nat.le_of_ble_eq_true rfl) ⟨Nat.zero_le _, Nat.zero_le _⟩ dX12_milesWith_119 (fun H locs hP hS => ?_)
              refine W.eq (g2 := F0 m 122 ls [.int (f_X12_soaked (mm.1 1095 y7L_9.toNatClampNeg) (mm.1 1096 y7L_9.toNatClampNeg) y4J_14), .int y6L_9]) rfl ?_
              refine lv_goto (tgt := 126) hx hb dX12_milesWith_122 (by decide) ?_
              exact hJ126 y7L_9 (f_X12_soaked (mm.1 1095 y7L_9.toNatClampNeg) (mm.1 1096 y7L_9.toNatClampNeg) y4J_14) y6L_9 H locs ls hf hP hS (lv_sub hl [0, 1, 2, 3, 4, 6] rfl)
        · obtain ⟨w6_10, e_w6_10⟩ : ∃ z, z = q_12 := ⟨_, rfl⟩
          subst e_w6_10
          intro H locs ls hP hS hl
          refine lv_iload hx hb dX12_milesWith_135 (lv_at hl 5 rfl) ?_
          refine lv_iload_n hx hb dX12_milesWith_137 rfl (lv_at hl 3 rfl) ?_
          refine lv_icmp_lt (tgt := 145) hx hb dX12_milesWith_138 (by decide) (fun c_11 => ?_) (fun c_11 => ?_)
          · have hf := itT hf c_11
            refine lv_iconst (v := 0) hx hb dX12_milesWith_145 (by decide) ?_
            exact hJ146 y4J_14 (0 : Int32) H locs ls hf hP hS (lv_sub hl [0, 1, 2, 3, 4] rfl)
          · have hf := itF hf c_11
            refine lv_iconst (v := 1) hx hb dX12_milesWith_141 (by decide) ?_
            refine lv_goto (tgt := 146) hx hb dX12_milesWith_142 (by decide) ?_
            exact hJ146 y4J_14 (1 : Int32) H locs ls hf hP hS (lv_sub hl [0, 1, 2, 3, 4] rfl)
      refine lv_iload hx hb dX12_milesWith_38 (lv_at hl 4 rfl) ?_
      refine lv_bipush (v := 100) hx hb dX12_milesWith_40 (by decide) ?_
      refine lv_icmp_ge (tgt := 166) hx hb dX12_milesWith_42 (by decide) (fun c_15 => ?_) (fun c_15 => ?_)
      · have hf := itT hf c_15
        obtain rfl := Option.some.inj hf
        exact hE _ rfl H locs ls hP hS (lv_sub hl [4] rfl)
      · have hf := itF hf c_15
        refine lv_iload hx hb dX12_milesWith_45 (lv_at hl 5 rfl) ?_
        refine lv_if_eq (tgt := 166) hx hb dX12_milesWith_47 (by decide) (fun c_16 => ?_) (fun c_16 => ?_)
        · have hf := itT hf c_16
          obtain rfl := Option.some.inj hf
          exact hE _ rfl H locs ls hP hS (lv_sub hl [4] rfl)
        · have hf := itF hf c_16
          refine lv_iload_n hx hb dX12_milesWith_50 rfl (lv_at hl 2 rfl) ?_
          refine lv_iconst (v := -1) hx hb dX12_milesWith_51 (by decide) ?_
          refine lv_icmp_ne (tgt := 59) hx hb dX12_milesWith_52 (by decide) (fun c_17 => ?_) (fun c_17 => ?_)
          · have hf := itF hf c_17
            refine lv_aload_n hx hb dX12_milesWith_59 rfl (lv_at hl 0 rfl) ?_
            refine wd_getR (q := 1105) X hP L1088 fl_X12_58 rfl dX12_milesWith_60 ?_
            refine lv_iload_n hx hb dX12_milesWith_63 rfl (lv_at hl 2 rfl) ?_
            have g_18 := gdN hf
            have hf := gdK hf
            refine wd_iald X hP L1105 g_18 dX12_milesWith_64 ?_
            refine lv_aload_n hx hb dX12_milesWith_65 rfl (lv_at hl 0 rfl) ?_
            refine wd_getR (q := 1106) X hP L1088 fl_X12_61 rfl dX12_milesWith_66 ?_
            refine lv_iload_n hx hb dX12_milesWith_69 rfl (lv_at hl 2 rfl) ?_
            have g_19 := gdN hf
            have hf := gdK hf
            refine wd_iald X hP L1106 g_19 dX12_milesWith_70 ?_
            refine lv_iload hx hb dX12_milesWith_71 (lv_at hl 4 rfl) ?_
            refine wd_cs X hP hS ml_X12_583 (c_X12_soaked l D dA zz bs mm (mm.1 1105 y2J_24.toNatClampNeg) (mm.1 1106 y2J_24.toNatClampNeg) y4L_20 (f_X12_soaked (mm.1 1105 y2J_24.toNatClampNeg) (mm.1 1106 y2J_24.toNatClampNeg) y4L_20) rfl) rfl ⟨Nat.le_of_ble_eq_true rfl, Nat.le_of_ble_eq_true rfl⟩ hl.1 rfl (rest := []) (Nat.le_of_ble_eq_true rfl) ⟨Nat.zero_le _, Nat.zero_le _⟩ dX12_milesWith_73 (fun H locs hP hS => ?_)
            refine W.eq (g2 := F0 m 76 ls [.int (f_X12_soaked (mm.1 1105 y2J_24.toNatClampNeg) (mm.1 1106 y2J_24.toNatClampNeg) y4L_20)]) rfl ?_
            exact hJ76 y4L_20 (f_X12_soaked (mm.1 1105 y2J_24.toNatClampNeg) (mm.1 1106 y2J_24.toNatClampNeg) y4L_20) H locs ls hf hP hS (lv_sub hl [0, 1, 2, 3, 4] rfl)
          · have hf := itT hf c_17
            refine lv_iconst (v := 0) hx hb dX12_milesWith_55 (by decide) ?_
            refine lv_goto (tgt := 76) hx hb dX12_milesWith_56 (by decide) ?_
            exact hJ76 y4L_20 (0 : Int32) H locs ls hf hP hS (lv_sub hl [0, 1, 2, 3, 4] rfl)
    · obtain ⟨w4_21, e_w4_21⟩ : ∃ z, z = q_22 := ⟨_, rfl⟩
      subst e_w4_21
      intro H locs ls hP hS hl
      refine lv_iload hx hb dX12_milesWith_166 (lv_at hl 0 rfl) ?_
      obtain rfl := Option.some.inj hf
      exact wd_iret X hP hS hr0 dX12_milesWith_168 ⟨rfl, rfl⟩
  unfold f_X12_milesWith at hf
  refine lv_aload_n hx hb dX12_milesWith_0 rfl (lv_at hl 0 rfl) ?_
  refine lv_iload_n hx hb dX12_milesWith_1 rfl (lv_at hl 1 rfl) ?_
  obtain ⟨r_26, hc_25, hf⟩ := bi1S hf
  refine wd_cv X hP hS L1088 ml_X12_409 ⟨_, _, rfl⟩ (c_X12_weightOf l D dA zz bs mm x1 r_26 hc_25) rfl ⟨Nat.le_of_ble_eq_true rfl, Nat.le_of_ble_eq_true rfl⟩ hl.1 rfl (rest := []) (Nat.le_of_ble_eq_true rfl) ⟨Nat.zero_le _, Nat.zero_le _⟩ dX12_milesWith_2 (fun H locs hP hS => ?_)
  refine W.eq (g2 := F0 m 5 ls [.int r_26]) rfl ?_
  refine lv_aload_n hx hb dX12_milesWith_5 rfl (lv_at hl 0 rfl) ?_
  refine lv_iload_n hx hb dX12_milesWith_6 rfl (lv_at hl 1 rfl) ?_
  refine lv_aload_n hx hb dX12_milesWith_7 rfl (lv_at hl 0 rfl) ?_
  refine wd_cv X hP hS L1088 ml_X12_396 ⟨_, _, rfl⟩ (c_X12_allRopes l D dA zz bs mm (f_X12_allRopes mm) rfl) rfl ⟨Nat.le_of_ble_eq_true rfl, Nat.le_of_ble_eq_true rfl⟩ hl.1 rfl (rest := [.int x1, .ref (bs + 1088), .int r_26]) (Nat.le_of_ble_eq_true rfl) ⟨Nat.zero_le _, Nat.zero_le _⟩ dX12_milesWith_8 (fun H locs hP hS => ?_)
  refine W.eq (g2 := F0 m 11 ls [.int (f_X12_allRopes mm), .int x1, .ref (bs + 1088), .int r_26]) rfl ?_
  obtain ⟨r_28, hc_27, hf⟩ := bi1S hf
  refine wd_cv X hP hS L1088 ml_X12_412 ⟨_, _, rfl⟩ (c_X12_ridersOf l D dA zz bs mm x1 (f_X12_allRopes mm) r_28 hc_27) rfl ⟨Nat.le_of_ble_eq_true rfl, Nat.le_of_ble_eq_true rfl⟩ hl.1 rfl (rest := [.int r_26]) (Nat.le_of_ble_eq_true rfl) ⟨Nat.zero_le _, Nat.zero_le _⟩ dX12_milesWith_11 (fun H locs hP hS => ?_)
  refine W.eq (g2 := F0 m 14 ls [.int r_28, .int r_26]) rfl ?_
  refine lv_iadd hx hb dX12_milesWith_14 ?_
  refine lv_iload_n hx hb dX12_milesWith_15 rfl (lv_at hl 2 rfl) ?_
  refine lv_iconst (v := -1) hx hb dX12_milesWith_16 (by decide) ?_
  refine lv_icmp_ne (tgt := 24) hx hb dX12_milesWith_17 (by decide) (fun c_29 => ?_) (fun c_29 => ?_)
  · have hf := itF hf c_29
    refine lv_aload_n hx hb dX12_milesWith_24 rfl (lv_at hl 0 rfl) ?_
    refine wd_getR (q := 1104) X hP L1088 fl_X12_55 rfl dX12_milesWith_25 ?_
    refine lv_iload_n hx hb dX12_milesWith_28 rfl (lv_at hl 2 rfl) ?_
    have g_30 := gdN hf
    have hf := gdK hf
    refine wd_iald X hP L1104 g_30 dX12_milesWith_29 ?_
    exact hJ30 x1 x2 (mm.1 1104 x2.toNatClampNeg) (r_26 + r_28) H locs ls hf hP hS (lv_sub hl [0, 1, 2] rfl)
  · have hf := itT hf c_29
    refine lv_iconst (v := 0) hx hb dX12_milesWith_20 (by decide) ?_
    refine lv_goto (tgt := 30) hx hb dX12_milesWith_21 (by decide) ?_
    exact hJ30 x1 x2 (0 : Int32) (r_26 + r_28) H locs ls hf hP hS (lv_sub hl [0, 1, 2] rfl)

noncomputable def f_X12_take_s41 (mm : Mm) (y2 : Int32) (y3 : Int32) : (Int32 × Int32 × Int32) → Option ((Int32 × Int32 × Int32) ⊕ (Int32 × Int32)) :=
  fun q => match q with
  | (y4, y5, y6) =>
    if (mm.1 1089 7) ≤ y6 then
      some (.inr (y4, y5))
    else
      bi1 (f_X12_milesWith mm y3 y6) fun r_11 =>
        if r_11 ≤ y5 then
          some (.inl (y4, y5, (y6 + 1)))
        else
          some (.inl (y6, r_11, (y6 + 1)))
noncomputable def f_X12_take (mm : Mm) (x1 : Int32) (x2 : Int32) : Option (Int32) :=
  bi1 (f_X12_isAfloat mm x1) fun r_2 =>
    if r_2 = 0 then
      some (-1 : Int32)
    else
      if (f_X12_in (x2.toInt64) (0 : Int64) (1 : Int64)) = 0 then
        some (-1 : Int32)
      else
        bi1 (f_X12_pieceOf mm x1) fun r_6 =>
          bi1 (f_X12_milesWith mm r_6 (-1 : Int32)) fun r_8 =>
            bi1 (lp (f_X12_take_s41 mm x2 r_6) ((-2 : Int32), r_8, (0 : Int32))) fun q => match q with
            | (w4_14, w5_15) =>
              if x2 = 0 then
                some w4_14
              else
                some w5_15
set_option maxHeartbeats 4000000 in
set_option maxRecDepth 100000 in
theorem c_X12_take (l : Launch) (D : va_G) (dA : Nat → ClassId) (zz : (Nat → Nat) × (Nat → Nat)) (bs : Nat) (mm : Mm) (x1 : Int32) (x2 : Int32) (out : Int32) (hf : f_X12_take mm x1 x2 = some out) : Mw l D dA zz bs LY yX12_take cX12_take 8 (some .int) 5 130 [.ref (bs + 1088), .int x1, .int x2] mm (some (.int out)) mm := by
  refine Mw.of (own := RX12) (by decide) rfl (Nat.le_of_ble_eq_true rfl) ?_
  intro p e s m args below meth c X hr0 hP hS ls hl
  have hx := X.1
  have hb := X.2.1
  obtain ⟨H, hH⟩ : ∃ z : Heap, z = s.heap := ⟨_, rfl⟩
  obtain ⟨locs, hL⟩ : ∃ z : List Loc, z = [] := ⟨_, rfl⟩
  rw [← hH, ← hL]
  have hS : va_S (Aq bs) s.heap H locs := by rw [hH, hL]; exact hS
  have hP : Wd D dA bs LY mm H := by rw [hH]; exact hP
  have hl : lv_has ls 8 [(0, .ref (bs + 1088)), (1, .int x1), (2, .int x2)] := hl
  unfold f_X12_take at hf
  refine lv_aload_n hx hb dX12_take_0 rfl (lv_at hl 0 rfl) ?_
  refine lv_iload_n hx hb dX12_take_1 rfl (lv_at hl 1 rfl) ?_
  obtain ⟨r_2, hc_1, hf⟩ := bi1S hf
  refine wd_cv X hP hS L1088 ml_X12_436 ⟨_, _, rfl⟩ (c_X12_isAfloat l D dA zz bs mm x1 r_2 hc_1) rfl ⟨Nat.le_of_ble_eq_true rfl, Nat.le_of_ble_eq_true rfl⟩ hl.1 rfl (rest := []) (Nat.le_of_ble_eq_true rfl) ⟨Nat.zero_le _, Nat.zero_le _⟩ dX12_take_2 (fun H locs hP hS => ?_)
  refine W.eq (g2 := F0 m 5 ls [.int r_2]) rfl ?_
  refine lv_if_eq (tgt := 18) hx hb dX12_take_5 (by decide) (fun c_3 => ?_) (fun c_3 => ?_)
  · have hf := itT hf c_3
    refine lv_iconst (v := -1) hx hb dX12_take_18 (by decide) ?_
    obtain rfl := Option.some.inj hf
    exact wd_iret X hP hS hr0 dX12_take_19 ⟨rfl, rfl⟩
  · have hf := itF hf c_3
    refine lv_iload_n hx hb dX12_take_8 rfl (lv_at hl 2 rfl) ?_
    refine lv_i2l hx hb dX12_take_9 rfl ?_
    refine lv_lconst (v := 0) hx hb dX12_take_10 (by decide) ?_
    refine lv_lconst (v := 1) hx hb dX12_take_11 (by decide) ?_
    refine wd_cs X hP hS ml_X12_176 (c_X12_in l D dA zz bs mm (x2.toInt64) (0 : Int64) (1 : Int64) (f_X12_in (x2.toInt64) (0 : Int64) (1 : Int64)) rfl) rfl ⟨Nat.le_of_ble_eq_true rfl, Nat.le_of_ble_eq_true rfl⟩ hl.1 rfl (rest := []) (Nat.le_of_ble_eq_true rfl) ⟨Nat.zero_le _, Nat.zero_le _⟩ dX12_take_12 (fun H locs hP hS => ?_)
    refine W.eq (g2 := F0 m 15 ls [.int (f_X12_in (x2.toInt64) (0 : Int64) (1 : Int64))]) rfl ?_
    refine lv_if_ne (tgt := 20) hx hb dX12_take_15 (by decide) (fun c_4 => ?_) (fun c_4 => ?_)
    · have hf := itF hf c_4
      refine lv_aload_n hx hb dX12_take_20 rfl (lv_at hl 0 rfl) ?_
      refine lv_iload_n hx hb dX12_take_21 rfl (lv_at hl 1 rfl) ?_
      obtain ⟨r_6, hc_5, hf⟩ := bi1S hf
      refine wd_cv X hP hS L1088 ml_X12_424 ⟨_, _, rfl⟩ (c_X12_pieceOf l D dA zz bs mm x1 r_6 hc_5) rfl ⟨Nat.le_of_ble_eq_true rfl, Nat.le_of_ble_eq_true rfl⟩ hl.1 rfl (rest := []) (Nat.le_of_ble_eq_true rfl) ⟨Nat.zero_le _, Nat.zero_le _⟩ dX12_take_22 (fun H locs hP hS => ?_)
      refine W.eq (g2 := F0 m 25 ls [.int r_6]) rfl ?_
      refine lv_istore_n (lv' := [(3, .int r_6), (0, .ref (bs + 1088)), (1, .int x1), (2, .int x2)]) hx hb dX12_take_25 rfl hl (by decide) rfl (fun ls hl => ?_)
      refine lv_bipush (v := -2) hx hb dX12_take_26 (by decide) ?_
      refine lv_istore (lv' := [(4, .int (-2 : Int32)), (3, .int r_6), (0, .ref (bs + 1088)), (1, .int x1), (2, .int x2)]) hx hb dX12_take_28 hl (by decide) rfl (fun ls hl => ?_)
      refine lv_aload_n hx hb dX12_take_30 rfl (lv_at hl 2 rfl) ?_
      refine lv_iload_n hx hb dX12_take_31 rfl (lv_at hl 1 rfl) ?_
      refine lv_iconst (v := -1) hx hb dX12_take_32 (by decide) ?_
      obtain ⟨r_8, hc_7, hf⟩ := bi1S hf
      refine wd_cv X hP hS L1088 ml_X12_586 ⟨_, _, rfl⟩ (c_X12_milesWith l D dA zz bs mm r_6 (-1 : Int32) r_8 hc_7) rfl ⟨Nat.le_of_ble_eq_true rfl, Nat.le_of_ble_eq_true rfl⟩ hl.1 rfl (rest := []) (Nat.le_of_ble_eq_true rfl) ⟨Nat.zero_le _, Nat.zero_le _⟩ dX12_take_33 (fun H locs hP hS => ?_)
      refine W.eq (g2 := F0 m 36 ls [.int r_8]) rfl ?_
      refine lv_istore (lv' := [(5, .int r_8), (4, .int (-2 : Int32)), (3, .int r_6), (0, .ref (bs + 1088)), (1, .int x1), (2, .int x2)]) hx hb dX12_take_36 hl (by decide) rfl (fun ls hl => ?_)
      refine lv_iconst (v := 0) hx hb dX12_take_38 (by decide) ?_
      refine lv_istore (lv' := [(6, .int (0 : Int32)), (5, .int r_8), (4, .int (-2 : Int32)), (3, .int r_6), (0, .ref (bs + 1088)), (1, .int x1), (2, .int x2)]) hx hb dX12_take_39 hl (by decide) rfl (fun ls hl => ?_)
      obtain ⟨q_17, hlp_18, hf⟩ := bi1S hf
      refine lp_walk (Wh := (fun z => match z with | (y4L_13, y5L_13, y6L_13) => ∀ (H : Heap) (locs : List Loc) (ls : Array Slot), Wd D dA bs LY mm H → va_S (Aq bs) s.heap H locs → lv_has ls 8 [(0, .ref (bs + 1088)), (2, .int x2), (3, .int r_6), (4, .int y4L_13), (5, .int y5L_13), (6, .int y6L_13)] → Wz p l e s m args below meth c D dA bs (some (.int out)) mm 5 130 H locs 41 ls [])) (Ph := (fun z => match z with | (w4_14, w5_15) => ∀ (H : Heap) (locs : List Loc) (ls : Array Slot), Wd D dA bs LY mm H → va_S (Aq bs) s.heap H locs → lv_has ls 8 [(2, .int x2), (4, .int w4_14), (5, .int w5_15)] → Wz p l e s m args below meth c D dA bs (some (.int out)) mm 5 130 H locs 83 ls [])) ?_ hlp_18 ?_ H locs ls hP hS (lv_sub hl [4, 6, 3, 2, 1, 0] rfl)
      · intro z o hf hB hE
        obtain ⟨y4L_13, y5L_13, y6L_13⟩ := z
        intro H locs ls hP hS hl
        have hf : f_X12_take_s41 mm x2 r_6 (y4L_13, y5L_13, y6L_13) = some o := hf
        unfold f_X12_take_s41 at hf
        dsimp only at hf
        refine lv_iload hx hb dX12_take_41 (lv_at hl 5 rfl) ?_
        refine lv_aload_n hx hb dX12_take_43 rfl (lv_at hl 0 rfl) ?_
        refine wd_getR (q := 1089) X hP L1088 fl_X12_9 rfl dX12_take_44 ?_
        refine lv_bipush (v := 7) hx hb dX12_take_47 (by decide) ?_
        refine wd_ialdK (k := 7) X hP L1089 (by decide) (by decide) dX12_take_49 ?_
        refine lv_icmp_ge (tgt := 83) hx hb dX12_take_50 (by decide) (fun c_9 => ?_) (fun c_9 => ?_)
        · have hf := itT hf c_9
          obtain rfl := Option.some.inj hf
          exact hE _ rfl H locs ls hP hS (lv_sub hl [1, 3, 4] rfl)
        · have hf := itF hf c_9
          refine lv_aload_n hx hb dX12_take_53 rfl (lv_at hl 0 rfl) ?_
          refine lv_iload_n hx hb dX12_take_54 rfl (lv_at hl 2 rfl) ?_
          refine lv_iload hx hb dX12_take_55 (lv_at hl 5 rfl) ?_
          obtain ⟨r_11, hc_10, hf⟩ := bi1S hf
          refine wd_cv X hP hS L1088 ml_X12_586 ⟨_, _, rfl⟩ (c_X12_milesWith l D dA zz bs mm r_6 y6L_13 r_11 hc_10) rfl ⟨Nat.le_of_ble_eq_true rfl, Nat.le_of_ble_eq_true rfl⟩ hl.1 rfl (rest := []) (Nat.le_of_ble_eq_true rfl) ⟨Nat.zero_le _, Nat.zero_le _⟩ dX12_take_57 (fun H locs hP hS => ?_)
          refine W.eq (g2 := F0 m 60 ls [.int r_11]) rfl ?_
          refine lv_istore (lv' := [(7, .int r_11), (0, .ref (bs + 1088)), (2, .int x2), (3, .int r_6), (4, .int y4L_13), (5, .int y5L_13), (6, .int y6L_13)]) hx hb dX12_take_60 hl (by decide) rfl (fun ls hl => ?_)
          refine lv_iload hx hb dX12_take_62 (lv_at hl 0 rfl) ?_
          refine lv_iload hx hb dX12_take_64 (lv_at hl 5 rfl) ?_
          refine lv_icmp_le (tgt := 77) hx hb dX12_take_66 (by decide) (fun c_12 => ?_) (fun c_12 => ?_)
          · have hf := itT hf c_12
            refine lv_iinc (v := (y6L_13 + 1)) (lv' := [(6, .int (y6L_13 + 1)), (7, .int r_11), (0, .ref (bs + 1088)), (2, .int x2), (3, .int r_6), (4, .int y4L_13), (5, .int y5L_13)]) hx hb dX12_take_77 hl (k := 6) rfl rfl (by decide) rfl (fun ls hl => ?_)
            refine lv_goto (tgt := 41) hx hb dX12_take_80 (by decide) ?_
            obtain rfl := Option.some.inj hf
            exact hB _ rfl H locs ls hP hS (lv_sub hl [2, 3, 4, 5, 6, 0] rfl)
          · have hf := itF hf c_12
            refine lv_iload hx hb dX12_take_69 (lv_at hl 6 rfl) ?_
            refine lv_istore (lv' := [(4, .int y6L_13), (7, .int r_11), (0, .ref (bs + 1088)), (2, .int x2), (3, .int r_6), (5, .int y5L_13), (6, .int y6L_13)]) hx hb dX12_take_71 hl (by decide) rfl (fun ls hl => ?_)
            refine lv_iload hx hb dX12_take_73 (lv_at hl 1 rfl) ?_
            refine lv_istore (lv' := [(5, .int r_11), (4, .int y6L_13), (7, .int r_11), (0, .ref (bs + 1088)), (2, .int x2), (3, .int r_6), (6, .int y6L_13)]) hx hb dX12_take_75 hl (by decide) rfl (fun ls hl => ?_)
            refine lv_iinc (v := (y6L_13 + 1)) (lv' := [(6, .int (y6L_13 + 1)), (5, .int r_11), (4, .int y6L_13), (7, .int r_11), (0, .ref (bs + 1088)), (2, .int x2), (3, .int r_6)]) hx hb dX12_take_77 hl (k := 6) rfl rfl (by decide) rfl (fun ls hl => ?_)
            refine lv_goto (tgt := 41) hx hb dX12_take_80 (by decide) ?_
            obtain rfl := Option.some.inj hf
            exact hB _ rfl H locs ls hP hS (lv_sub hl [4, 5, 6, 2, 1, 0] rfl)
      · obtain ⟨w4_14, w5_15⟩ := q_17
        dsimp only at hf
        intro H locs ls hP hS hl
        refine lv_iload_n hx hb dX12_take_83 rfl (lv_at hl 0 rfl) ?_
        refine lv_if_ne (tgt := 92) hx hb dX12_take_84 (by decide) (fun c_16 => ?_) (fun c_16 => ?_)
        · have hf := itF hf c_16
          refine lv_iload hx hb dX12_take_92 (lv_at hl 2 rfl) ?_
          obtain rfl := Option.some.inj hf
          exact wd_iret X hP hS hr0 dX12_take_94 ⟨rfl, rfl⟩
        · have hf := itT hf c_16
          refine lv_iload hx hb dX12_take_87 (lv_at hl 1 rfl) ?_
          refine lv_goto (tgt := 94) hx hb dX12_take_89 (by decide) ?_
          obtain rfl := Option.some.inj hf
          exact wd_iret X hP hS hr0 dX12_take_94 ⟨rfl, rfl⟩
    · have hf := itT hf c_4
      refine lv_iconst (v := -1) hx hb dX12_take_18 (by decide) ?_
      obtain rfl := Option.some.inj hf
      exact wd_iret X hP hS hr0 dX12_take_19 ⟨rfl, rfl⟩

noncomputable def f_X12_winningFrom_s2 (mm : Mm) (y1 : Int32) : (Int32) → Option ((Int32) ⊕ ((Int32) ⊕ (Unit))) :=
  fun (y2 : Int32) =>
    if (mm.1 1089 3) ≤ y2 then
      some (.inr (.inr (())))
    else
      vlet (y1 &&& (((1 : Int32) <<< (y2 &&& 31)) ^^^ (-1 : Int32))) fun (x3_2 : Int32) =>
        if (f_X12_has y1 y2) = 0 then
          some (.inl (y2 + 1))
        else
          bi1 (f_X12_isBorne mm x3_2) fun r_5 =>
            if r_5 = 0 then
              some (.inl (y2 + 1))
            else
              if x3_2 < 0 ∨ 256 ≤ x3_2.toNatClampNeg then none else
                if (mm.1 1138 x3_2.toNatClampNeg) = 0 then
                  some (.inr (.inl y2))
                else
                  some (.inl (y2 + 1))
noncomputable def f_X12_winningFrom (mm : Mm) (x1 : Int32) : Option (Int32) :=
  bi1 (lp (f_X12_winningFrom_s2 mm x1) (0 : Int32)) fun q => match q with
  | .inl w2_10 =>
    some w2_10
  | .inr (()) =>
    some (-1 : Int32)
set_option maxHeartbeats 4000000 in
set_option maxRecDepth 100000 in
theorem c_X12_winningFrom (l : Launch) (D : va_G) (dA : Nat → ClassId) (zz : (Nat → Nat) × (Nat → Nat)) (bs : Nat) (mm : Mm) (x1 : Int32) (out : Int32) (hf : f_X12_winningFrom mm x1 = some out) : Mw l D dA zz bs LY yX12_winningFrom cX12_winningFrom 4 (some .int) 3 65 [.ref (bs + 1088), .int x1] mm (some (.int out)) mm := by
  refine Mw.of (own := RX12) (by decide) rfl (Nat.le_of_ble_eq_true rfl) ?_
  intro p e s m args below meth c X hr0 hP hS ls hl
  have hx := X.1
  have hb := X.2.1
  obtain ⟨H, hH⟩ : ∃ z : Heap, z = s.heap := ⟨_, rfl⟩
  obtain ⟨locs, hL⟩ : ∃ z : List Loc, z = [] := ⟨_, rfl⟩
  rw [← hH, ← hL]
  have hS : va_S (Aq bs) s.heap H locs := by rw [hH, hL]; exact hS
  have hP : Wd D dA bs LY mm H := by rw [hH]; exact hP
  have hl : lv_has ls 4 [(0, .ref (bs + 1088)), (1, .int x1)] := hl
  unfold f_X12_winningFrom at hf
  refine lv_iconst (v := 0) hx hb dX12_winningFrom_0 (by decide) ?_
  refine lv_istore_n (lv' := [(2, .int (0 : Int32)), (0, .ref (bs + 1088)), (1, .int x1)]) hx hb dX12_winningFrom_1 rfl hl (by decide) rfl (fun ls hl => ?_)
  obtain ⟨q_11, hlp_12, hf⟩ := bi1S hf
  refine lp_walk (Wh := (fun y2L_9 => ∀ (H : Heap) (locs : List Loc) (ls : Array Slot), Wd D dA bs LY mm H → va_S (Aq bs) s.heap H locs → lv_has ls 4 [(0, .ref (bs + 1088)), (1, .int x1), (2, .int y2L_9)] → Wz p l e s m args below meth c D dA bs (some (.int out)) mm 3 65 H locs 2 ls [])) (Ph := (fun z => match z with | .inl w2_10 => ∀ (H : Heap) (locs : List Loc) (ls : Array Slot), Wd D dA bs LY mm H → va_S (Aq bs) s.heap H locs → lv_has ls 4 [(2, .int w2_10)] → Wz p l e s m args below meth c D dA bs (some (.int out)) mm 3 65 H locs 45 ls [] | .inr (()) => ∀ (H : Heap) (locs : List Loc) (ls : Array Slot), Wd D dA bs LY mm H → va_S (Aq bs) s.heap H locs → lv_has ls 4 [] → Wz p l e s m args below meth c D dA bs (some (.int out)) mm 3 65 H locs 53 ls [])) ?_ hlp_12 ?_ H locs ls hP hS (lv_sub hl [1, 2, 0] rfl)
  · intro y2L_9 o hf hB hE
    intro H locs ls hP hS hl
    have hf : f_X12_winningFrom_s2 mm x1 y2L_9 = some o := hf
    unfold f_X12_winningFrom_s2 at hf
    refine lv_iload_n hx hb dX12_winningFrom_2 rfl (lv_at hl 2 rfl) ?_
    refine lv_aload_n hx hb dX12_winningFrom_3 rfl (lv_at hl 0 rfl) ?_
    refine wd_getR (q := 1089) X hP L1088 fl_X12_9 rfl dX12_winningFrom_4 ?_
    refine lv_iconst (v := 3) hx hb dX12_winningFrom_7 (by decide) ?_
    refine wd_ialdK (k := 3) X hP L1089 (by decide) (by decide) dX12_winningFrom_8 ?_
    refine lv_icmp_ge (tgt := 53) hx hb dX12_winningFrom_9 (by decide) (fun c_1 => ?_) (fun c_1 => ?_)
    · have hf := itT hf c_1
      obtain rfl := Option.some.inj hf
      exact hE _ rfl H locs ls hP hS (lv_sub hl [] rfl)
    · have hf := itF hf c_1
      refine lv_iload_n hx hb dX12_winningFrom_12 rfl (lv_at hl 1 rfl) ?_
      refine lv_iconst (v := 1) hx hb dX12_winningFrom_13 (by decide) ?_
      refine lv_iload_n hx hb dX12_winningFrom_14 rfl (lv_at hl 2 rfl) ?_
      refine lv_ishl hx hb dX12_winningFrom_15 ?_
      refine lv_iconst (v := -1) hx hb dX12_winningFrom_16 (by decide) ?_
      refine lv_ixor hx hb dX12_winningFrom_17 ?_
      refine lv_iand hx hb dX12_winningFrom_18 ?_
      refine lv_topi (fun x3_2 ex3_2 => ?_)
      have hf := vl hf ex3_2
      refine lv_istore_n (lv' := [(3, .int x3_2), (0, .ref (bs + 1088)), (1, .int x1), (2, .int y2L_9)]) hx hb dX12_winningFrom_19 rfl hl (by decide) rfl (fun ls hl => ?_)
      refine lv_iload_n hx hb dX12_winningFrom_20 rfl (lv_at hl 2 rfl) ?_
      refine lv_iload_n hx hb dX12_winningFrom_21 rfl (lv_at hl 3 rfl) ?_
      refine wd_cs X hP hS ml_X12_390 (c_X12_has l D dA zz bs mm x1 y2L_9 (f_X12_has x1 y2L_9) rfl) rfl ⟨Nat.le_of_ble_eq_true rfl, Nat.le_of_ble_eq_true rfl⟩ hl.1 rfl (rest := []) (Nat.le_of_ble_eq_true rfl) ⟨Nat.zero_le _, Nat.zero_le _⟩ dX12_winningFrom_22 (fun H locs hP hS => ?_)
      refine W.eq (g2 := F0 m 25 ls [.int (f_X12_has x1 y2L_9)]) rfl ?_
      refine lv_if_eq (tgt := 47) hx hb dX12_winningFrom_25 (by decide) (fun c_3 => ?_) (fun c_3 => ?_)
      · have hf := itT hf c_3
        refine lv_iinc (v := (y2L_9 + 1)) (lv' := [(2, .int (y2L_9 + 1)), (3, .int x3_2), (0, .ref (bs + 1088)), (1, .int x1)]) hx hb dX12_winningFrom_47 hl (k := 3) rfl rfl (by decide) rfl (fun ls hl => ?_)
        refine lv_goto (tgt := 2) hx hb dX12_winningFrom_50 (by decide) ?_
        obtain rfl := Option.some.inj hf
        exact hB _ rfl H locs ls hP hS (lv_sub hl [2, 3, 0] rfl)
      · have hf := itF hf c_3
        refine lv_aload_n hx hb dX12_winningFrom_28 rfl (lv_at hl 1 rfl) ?_
        refine lv_iload_n hx hb dX12_winningFrom_29 rfl (lv_at hl 0 rfl) ?_
        obtain ⟨r_5, hc_4, hf⟩ := bi1S hf
        refine wd_cv X hP hS L1088 ml_X12_530 ⟨_, _, rfl⟩ (c_X12_isBorne l D dA zz bs mm x3_2 r_5 hc_4) rfl ⟨Nat.le_of_ble_eq_true rfl, Nat.le_of_ble_eq_true rfl⟩ hl.1 rfl (rest := []) (Nat.le_of_ble_eq_true rfl) ⟨Nat.zero_le _, Nat.zero_le _⟩ dX12_winningFrom_30 (fun H locs hP hS => ?_)
        refine W.eq (g2 := F0 m 33 ls [.int r_5]) rfl ?_
        refine lv_if_eq (tgt := 47) hx hb dX12_winningFrom_33 (by decide) (fun c_6 => ?_) (fun c_6 => ?_)
        · have hf := itT hf c_6
          refine lv_iinc (v := (y2L_9 + 1)) (lv' := [(2, .int (y2L_9 + 1)), (3, .int x3_2), (0, .ref (bs + 1088)), (1, .int x1)]) hx hb dX12_winningFrom_47 hl (k := 3) rfl rfl (by decide) rfl (fun ls hl => ?_)
          refine lv_goto (tgt := 2) hx hb dX12_winningFrom_50 (by decide) ?_
          obtain rfl := Option.some.inj hf
          exact hB _ rfl H locs ls hP hS (lv_sub hl [2, 3, 0] rfl)
        · have hf := itF hf c_6
          refine lv_aload_n hx hb dX12_winningFrom_36 rfl (lv_at hl 1 rfl) ?_
          refine wd_getR (q := 1138) X hP L1088 fl_X12_163 rfl dX12_winningFrom_37 ?_
          refine lv_iload_n hx hb dX12_winningFrom_40 rfl (lv_at hl 0 rfl) ?_
          have g_7 := gdN hf
          have hf := gdK hf
          refine wd_zald X hP L1138 g_7 dX12_winningFrom_41 ?_
          refine lv_if_ne (tgt := 47) hx hb dX12_winningFrom_42 (by decide) (fun c_8 => ?_) (fun c_8 => ?_)
          · have hf := itF hf c_8
            refine lv_iinc (v := (y2L_9 + 1)) (lv' := [(2, .int (y2L_9 + 1)), (3, .int x3_2), (0, .ref (bs + 1088)), (1, .int x1)]) hx hb dX12_winningFrom_47 hl (k := 3) rfl rfl (by decide) rfl (fun ls hl => ?_)
            refine lv_goto (tgt := 2) hx hb dX12_winningFrom_50 (by decide) ?_
            obtain rfl := Option.some.inj hf
            exact hB _ rfl H locs ls hP hS (lv_sub hl [2, 3, 0] rfl)
          · have hf := itT hf c_8
            obtain rfl := Option.some.inj hf
            exact hE _ rfl H locs ls hP hS (lv_sub hl [3] rfl)
  · rcases q_11 with w2_10 | ⟨⟩
    · dsimp only at hf
      intro H locs ls hP hS hl
      refine lv_iload_n hx hb dX12_winningFrom_45 rfl (lv_at hl 0 rfl) ?_
      obtain rfl := Option.some.inj hf
      exact wd_iret X hP hS hr0 dX12_winningFrom_46 ⟨rfl, rfl⟩
    · dsimp only at hf
      intro H locs ls hP hS hl
      refine lv_iconst (v := -1) hx hb dX12_winningFrom_53 (by decide) ?_
      obtain rfl := Option.some.inj hf
      exact wd_iret X hP hS hr0 dX12_winningFrom_54 ⟨rfl, rfl⟩

noncomputable def f_X12_game_j65 (mm : Mm) (y2 : Int32) (y3 : Int32) (y4 : Int32) (z0 : Int32) (z1 : Int32) : Option ((Int32 × Mm) ⊕ (Mm)) :=
  if z1 < 0 ∨ 256 ≤ z1.toNatClampNeg then none else
    vlet (wI mm 1138 z1.toNatClampNeg (vp_nar .boolean z0)) fun mm_7 => some (.inl ((y4 + 1), mm_7))
noncomputable def f_X12_game_s29 (y2 : Int32) (y3 : Int32) : (Int32 × Mm) → Option ((Int32 × Mm) ⊕ (Mm)) :=
  fun q => match q with
  | (y4, mm) =>
    if y3 < y4 then
      some (.inr mm)
    else
      if (y4 &&& (y3 ^^^ (-1 : Int32))) = 0 then
        bi1 (f_X12_winningFrom mm y4) fun r_13 =>
          if r_13 = (-1 : Int32) then
            f_X12_game_j65 mm y2 y3 y4 (0 : Int32) y4
          else
            f_X12_game_j65 mm y2 y3 y4 (1 : Int32) y4
      else
        some (.inl ((y4 + 1), mm))
noncomputable def f_X12_game (mm : Mm) (x1 : Int32) (x2 : Int32) : Option (Int32 × Mm) :=
  bi1 (f_X12_isAfloat mm x1) fun r_2 =>
    if r_2 = 0 then
      some ((-1 : Int32), mm)
    else
      if (f_X12_in (x2.toInt64) (0 : Int64) (1 : Int64)) = 0 then
        some ((-1 : Int32), mm)
      else
        bi1 (f_X12_pieceOf mm x1) fun r_6 =>
          bi1 (lp (f_X12_game_s29 x2 r_6) ((0 : Int32), mm)) fun mm_16 =>
            if x2 = 0 then
              if r_6 < 0 ∨ 256 ≤ r_6.toNatClampNeg then none else
                if (mm_16.1 1138 r_6.toNatClampNeg) = 0 then
                  some ((0 : Int32), mm_16)
                else
                  some ((1 : Int32), mm_16)
            else
              if r_6 < 0 ∨ 256 ≤ r_6.toNatClampNeg then none else
                if (mm_16.1 1138 r_6.toNatClampNeg) = 0 then
                  some ((-2 : Int32), mm_16)
                else
                  bi1 (f_X12_winningFrom mm_16 r_6) fun r_21 => some (r_21, mm_16)
set_option maxHeartbeats 4000000 in
set_option maxRecDepth 100000 in
theorem c_X12_game (l : Launch) (D : va_G) (dA : Nat → ClassId) (zz : (Nat → Nat) × (Nat → Nat)) (bs : Nat) (mm : Mm) (x1 : Int32) (x2 : Int32) (out : Int32) (m1 : Mm) (hf : f_X12_game mm x1 x2 = some (out, m1)) : Mw l D dA zz bs LY yX12_game cX12_game 5 (some .int) 4 88 [.ref (bs + 1088), .int x1, .int x2] mm (some (.int out)) m1 := by
  refine Mw.of (own := RX12) (by decide) rfl (Nat.le_of_ble_eq_true rfl) ?_
  intro p e s m args below meth c X hr0 hP hS ls hl
  have hx := X.1
  have hb := X.2.1
  obtain ⟨H, hH⟩ : ∃ z : Heap, z = s.heap := ⟨_, rfl⟩
  obtain ⟨locs, hL⟩ : ∃ z : List Loc, z = [] := ⟨_, rfl⟩
  rw [← hH, ← hL]
  have hS : va_S (Aq bs) s.heap H locs := by rw [hH, hL]; exact hS
  have hP : Wd D dA bs LY mm H := by rw [hH]; exact hP
  have hl : lv_has ls 5 [(0, .ref (bs + 1088)), (1, .int x1), (2, .int x2)] := hl
  unfold f_X12_game at hf
  refine lv_aload_n hx hb dX12_game_0 rfl (lv_at hl 0 rfl) ?_
  refine lv_iload_n hx hb dX12_game_1 rfl (lv_at hl 1 rfl) ?_
  obtain ⟨r_2, hc_1, hf⟩ := bi1S hf
  refine wd_cv X hP hS L1088 ml_X12_436 ⟨_, _, rfl⟩ (c_X12_isAfloat l D dA zz bs mm x1 r_2 hc_1) rfl ⟨Nat.le_of_ble_eq_true rfl, Nat.le_of_ble_eq_true rfl⟩ hl.1 rfl (rest := []) (Nat.le_of_ble_eq_true rfl) ⟨Nat.zero_le _, Nat.zero_le _⟩ dX12_game_2 (fun H locs hP hS => ?_)
  refine W.eq (g2 := F0 m 5 ls [.int r_2]) rfl ?_
  refine lv_if_eq (tgt := 18) hx hb dX12_game_5 (by decide) (fun c_3 => ?_) (fun c_3 => ?_)
  · have hf := itT hf c_3
    refine lv_iconst (v := -1) hx hb dX12_game_18 (by decide) ?_
    obtain ⟨rfl, rfl⟩ := Prod.mk.inj (Option.some.inj hf)
    exact wd_iret X hP hS hr0 dX12_game_19 ⟨rfl, rfl⟩
  · have hf := itF hf c_3
    refine lv_iload_n hx hb dX12_game_8 rfl (lv_at hl 2 rfl) ?_
    refine lv_i2l hx hb dX12_game_9 rfl ?_
    refine lv_lconst (v := 0) hx hb dX12_game_10 (by decide) ?_
    refine lv_lconst (v := 1) hx hb dX12_game_11 (by decide) ?_
    refine wd_cs X hP hS ml_X12_176 (c_X12_in l D dA zz bs mm (x2.toInt64) (0 : Int64) (1 : Int64) (f_X12_in (x2.toInt64) (0 : Int64) (1 : Int64)) rfl) rfl ⟨Nat.le_of_ble_eq_true rfl, Nat.le_of_ble_eq_true rfl⟩ hl.1 rfl (rest := []) (Nat.le_of_ble_eq_true rfl) ⟨Nat.zero_le _, Nat.zero_le _⟩ dX12_game_12 (fun H locs hP hS => ?_)
    refine W.eq (g2 := F0 m 15 ls [.int (f_X12_in (x2.toInt64) (0 : Int64) (1 : Int64))]) rfl ?_
    refine lv_if_ne (tgt := 20) hx hb dX12_game_15 (by decide) (fun c_4 => ?_) (fun c_4 => ?_)
    · have hf := itF hf c_4
      refine lv_aload_n hx hb dX12_game_20 rfl (lv_at hl 0 rfl) ?_
      refine lv_iload_n hx hb dX12_game_21 rfl (lv_at hl 1 rfl) ?_
      obtain ⟨r_6, hc_5, hf⟩ := bi1S hf
      refine wd_cv X hP hS L1088 ml_X12_424 ⟨_, _, rfl⟩ (c_X12_pieceOf l D dA zz bs mm x1 r_6 hc_5) rfl ⟨Nat.le_of_ble_eq_true rfl, Nat.le_of_ble_eq_true rfl⟩ hl.1 rfl (rest := []) (Nat.le_of_ble_eq_true rfl) ⟨Nat.zero_le _, Nat.zero_le _⟩ dX12_game_22 (fun H locs hP hS => ?_)
      refine W.eq (g2 := F0 m 25 ls [.int r_6]) rfl ?_
      refine lv_istore_n (lv' := [(3, .int r_6), (0, .ref (bs + 1088)), (1, .int x1), (2, .int x2)]) hx hb dX12_game_25 rfl hl (by decide) rfl (fun ls hl => ?_)
      refine lv_iconst (v := 0) hx hb dX12_game_26 (by decide) ?_
      refine lv_istore (lv' := [(4, .int (0 : Int32)), (3, .int r_6), (0, .ref (bs + 1088)), (1, .int x1), (2, .int x2)]) hx hb dX12_game_27 hl (by decide) rfl (fun ls hl => ?_)
      obtain ⟨q_24, hlp_25, hf⟩ := bi1S hf
      refine lp_walk (Wh := (fun z => match z with | (y4L_15, mmL_15) => ∀ (H : Heap) (locs : List Loc) (ls : Array Slot), Wd D dA bs LY mmL_15 H → va_S (Aq bs) s.heap H locs → lv_has ls 5 [(0, .ref (bs + 1088)), (2, .int x2), (3, .int r_6), (4, .int y4L_15)] → Wz p l e s m args below meth c D dA bs (some (.int out)) m1 4 88 H locs 29 ls [])) (Ph := (fun mm_16 => ∀ (H : Heap) (locs : List Loc) (ls : Array Slot), Wd D dA bs LY mm_16 H → va_S (Aq bs) s.heap H locs → lv_has ls 5 [(0, .ref (bs + 1088)), (2, .int x2), (3, .int r_6)] → Wz p l e s m args below meth c D dA bs (some (.int out)) m1 4 88 H locs 72 ls [])) ?_ hlp_25 ?_ H locs ls hP hS (lv_sub hl [2, 4, 1, 0] rfl)
      · intro z o hf hB hE
        obtain ⟨y4L_15, mmL_15⟩ := z
        intro H locs ls hP hS hl
        have hf : f_X12_game_s29 x2 r_6 (y4L_15, mmL_15) = some o := hf
        unfold f_X12_game_s29 at hf
        dsimp only at hf
        have hJ65 : ∀ (mmJ_9 : Mm) (y4J_9 : Int32) (z0J_9 : Int32) (z1J_9 : Int32) (H : Heap) (locs : List Loc) (ls : Array Slot), f_X12_game_j65 mmJ_9 x2 r_6 y4J_9 z0J_9 z1J_9 = some o → Wd D dA bs LY mmJ_9 H → va_S (Aq bs) s.heap H locs → lv_has ls 5 [(0, .ref (bs + 1088)), (2, .int x2), (3, .int r_6), (4, .int y4J_9)] → Wz p l e s m args below meth c D dA bs (some (.int out)) m1 4 88 H locs 65 ls [.int z0J_9, .int z1J_9, .ref (bs + 1138)] := by
          intro mmJ_9 y4J_9 z0J_9 z1J_9 H locs ls hf hP hS hl
          unfold f_X12_game_j65 at hf
          have g_8 := gdN hf
          have hf := gdK hf
          refine wd_zast X hP hS L1138 g_8 dX12_game_65 (fun H locs mm_7 emm_7 hP hS => ?_)
          have hf := vl hf emm_7
          refine lv_iinc (v := (y4J_9 + 1)) (lv' := [(4, .int (y4J_9 + 1)), (0, .ref (bs + 1088)), (2, .int x2), (3, .int r_6)]) hx hb dX12_game_66 hl (k := 3) rfl rfl (by decide) rfl (fun ls hl => ?_)
          refine lv_goto (tgt := 29) hx hb dX12_game_69 (by decide) ?_
          obtain rfl := Option.some.inj hf
          exact hB _ rfl H locs ls hP hS (lv_sub hl [1, 2, 3, 0] rfl)
        refine lv_iload hx hb dX12_game_29 (lv_at hl 3 rfl) ?_
        refine lv_iload_n hx hb dX12_game_31 rfl (lv_at hl 2 rfl) ?_
        refine lv_icmp_gt (tgt := 72) hx hb dX12_game_32 (by decide) (fun c_10 => ?_) (fun c_10 => ?_)
        · have hf := itT hf c_10
          obtain rfl := Option.some.inj hf
          exact hE _ rfl H locs ls hP hS (lv_sub hl [0, 1, 2] rfl)
        · have hf := itF hf c_10
          refine lv_iload hx hb dX12_game_35 (lv_at hl 3 rfl) ?_
          refine lv_iload_n hx hb dX12_game_37 rfl (lv_at hl 2 rfl) ?_
          refine lv_iconst (v := -1) hx hb dX12_game_38 (by decide) ?_
          refine lv_ixor hx hb dX12_game_39 ?_
          refine lv_iand hx hb dX12_game_40 ?_
          refine lv_if_ne (tgt := 66) hx hb dX12_game_41 (by decide) (fun c_11 => ?_) (fun c_11 => ?_)
          · have hf := itF hf c_11
            refine lv_iinc (v := (y4L_15 + 1)) (lv' := [(4, .int (y4L_15 + 1)), (0, .ref (bs + 1088)), (2, .int x2), (3, .int r_6)]) hx hb dX12_game_66 hl (k := 3) rfl rfl (by decide) rfl (fun ls hl => ?_)
            refine lv_goto (tgt := 29) hx hb dX12_game_69 (by decide) ?_
            obtain rfl := Option.some.inj hf
            exact hB _ rfl H locs ls hP hS (lv_sub hl [1, 2, 3, 0] rfl)
          · have hf := itT hf c_11
            refine lv_aload_n hx hb dX12_game_44 rfl (lv_at hl 0 rfl) ?_
            refine wd_getR (q := 1138) X hP L1088 fl_X12_163 rfl dX12_game_45 ?_
            refine lv_iload hx hb dX12_game_48 (lv_at hl 3 rfl) ?_
            refine lv_aload_n hx hb dX12_game_50 rfl (lv_at hl 0 rfl) ?_
            refine lv_iload hx hb dX12_game_51 (lv_at hl 3 rfl) ?_
            obtain ⟨r_13, hc_12, hf⟩ := bi1S hf
            refine wd_cv X hP hS L1088 ml_X12_589 ⟨_, _, rfl⟩ (c_X12_winningFrom l D dA zz bs mmL_15 y4L_15 r_13 hc_12) rfl ⟨Nat.le_of_ble_eq_true rfl, Nat.le_of_ble_eq_true rfl⟩ hl.1 rfl (rest := [.int y4L_15, .ref (bs + 1138)]) (Nat.le_of_ble_eq_true rfl) ⟨Nat.zero_le _, Nat.zero_le _⟩ dX12_game_53 (fun H locs hP hS => ?_)
            refine W.eq (g2 := F0 m 56 ls [.int r_13, .int y4L_15, .ref (bs + 1138)]) rfl ?_
            refine lv_iconst (v := -1) hx hb dX12_game_56 (by decide) ?_
            refine lv_icmp_eq (tgt := 64) hx hb dX12_game_57 (by decide) (fun c_14 => ?_) (fun c_14 => ?_)
            · have hf := itT hf c_14
              refine lv_iconst (v := 0) hx hb dX12_game_64 (by decide) ?_
              exact hJ65 mmL_15 y4L_15 (0 : Int32) y4L_15 H locs ls hf hP hS (lv_sub hl [0, 1, 2, 3] rfl)
            · have hf := itF hf c_14
              refine lv_iconst (v := 1) hx hb dX12_game_60 (by decide) ?_
              refine lv_goto (tgt := 65) hx hb dX12_game_61 (by decide) ?_
              exact hJ65 mmL_15 y4L_15 (1 : Int32) y4L_15 H locs ls hf hP hS (lv_sub hl [0, 1, 2, 3] rfl)
      · obtain ⟨mm_16, e_mm_16⟩ : ∃ z, z = q_24 := ⟨_, rfl⟩
        subst e_mm_16
        intro H locs ls hP hS hl
        refine lv_iload_n hx hb dX12_game_72 rfl (lv_at hl 1 rfl) ?_
        refine lv_if_ne (tgt := 91) hx hb dX12_game_73 (by decide) (fun c_17 => ?_) (fun c_17 => ?_)
        · have hf := itF hf c_17
          refine lv_aload_n hx hb dX12_game_91 rfl (lv_at hl 0 rfl) ?_
          refine wd_getR (q := 1138) X hP L1088 fl_X12_163 rfl dX12_game_92 ?_
          refine lv_iload_n hx hb dX12_game_95 rfl (lv_at hl 2 rfl) ?_
          have g_18 := gdN hf
          have hf := gdK hf
          refine wd_zald X hP L1138 g_18 dX12_game_96 ?_
          refine lv_if_eq (tgt := 108) hx hb dX12_game_97 (by decide) (fun c_19 => ?_) (fun c_19 => ?_)
          · have hf := itT hf c_19
            refine lv_bipush (v := -2) hx hb dX12_game_108 (by decide) ?_
            obtain ⟨rfl, rfl⟩ := Prod.mk.inj (Option.some.inj hf)
            exact wd_iret X hP hS hr0 dX12_game_110 ⟨rfl, rfl⟩
          · have hf := itF hf c_19
            refine lv_aload_n hx hb dX12_game_100 rfl (lv_at hl 0 rfl) ?_
            refine lv_iload_n hx hb dX12_game_101 rfl (lv_at hl 2 rfl) ?_
            obtain ⟨r_21, hc_20, hf⟩ := bi1S hf
            refine wd_cv X hP hS L1088 ml_X12_589 ⟨_, _, rfl⟩ (c_X12_winningFrom l D dA zz bs mm_16 r_6 r_21 hc_20) rfl ⟨Nat.le_of_ble_eq_true rfl, Nat.le_of_ble_eq_true rfl⟩ hl.1 rfl (rest := []) (Nat.le_of_ble_eq_true rfl) ⟨Nat.zero_le _, Nat.zero_le _⟩ dX12_game_102 (fun H locs hP hS => ?_)
            refine W.eq (g2 := F0 m 105 ls [.int r_21]) rfl ?_
            refine lv_goto (tgt := 110) hx hb dX12_game_105 (by decide) ?_
            obtain ⟨rfl, rfl⟩ := Prod.mk.inj (Option.some.inj hf)
            exact wd_iret X hP hS hr0 dX12_game_110 ⟨rfl, rfl⟩
        · have hf := itT hf c_17
          refine lv_aload_n hx hb dX12_game_76 rfl (lv_at hl 0 rfl) ?_
          refine wd_getR (q := 1138) X hP L1088 fl_X12_163 rfl dX12_game_77 ?_
          refine lv_iload_n hx hb dX12_game_80 rfl (lv_at hl 2 rfl) ?_
          have g_22 := gdN hf
          have hf := gdK hf
          refine wd_zald X hP L1138 g_22 dX12_game_81 ?_
          refine lv_if_eq (tgt := 89) hx hb dX12_game_82 (by decide) (fun c_23 => ?_) (fun c_23 => ?_)
          · have hf := itT hf c_23
            refine lv_iconst (v := 0) hx hb dX12_game_89 (by decide) ?_
            obtain ⟨rfl, rfl⟩ := Prod.mk.inj (Option.some.inj hf)
            exact wd_iret X hP hS hr0 dX12_game_90 ⟨rfl, rfl⟩
          · have hf := itF hf c_23
            refine lv_iconst (v := 1) hx hb dX12_game_85 (by decide) ?_
            refine lv_goto (tgt := 90) hx hb dX12_game_86 (by decide) ?_
            obtain ⟨rfl, rfl⟩ := Prod.mk.inj (Option.some.inj hf)
            exact wd_iret X hP hS hr0 dX12_game_90 ⟨rfl, rfl⟩
    · have hf := itT hf c_4
      refine lv_iconst (v := -1) hx hb dX12_game_18 (by decide) ?_
      obtain ⟨rfl, rfl⟩ := Prod.mk.inj (Option.some.inj hf)
      exact wd_iret X hP hS hr0 dX12_game_19 ⟨rfl, rfl⟩

noncomputable def f_X12_seed (mm : Mm) (x1 : Int32) : Option (Int32 × Mm) :=
  if 0 ≤ x1 then
    vlet (wI mm 1089 8 x1) fun mm_2 => some ((mm.1 1089 8), mm_2)
  else
    some ((-1 : Int32), mm)
set_option maxHeartbeats 4000000 in
set_option maxRecDepth 100000 in
theorem c_X12_seed (l : Launch) (D : va_G) (dA : Nat → ClassId) (zz : (Nat → Nat) × (Nat → Nat)) (bs : Nat) (mm : Mm) (x1 : Int32) (out : Int32) (m1 : Mm) (hf : f_X12_seed mm x1 = some (out, m1)) : Mw l D dA zz bs LY yX12_seed cX12_seed 3 (some .int) 0 0 [.ref (bs + 1088), .int x1] mm (some (.int out)) m1 := by
  refine Mw.of (own := RX12) (by decide) rfl (Nat.le_of_ble_eq_true rfl) ?_
  intro p e s m args below meth c X hr0 hP hS ls hl
  have hx := X.1
  have hb := X.2.1
  obtain ⟨H, hH⟩ : ∃ z : Heap, z = s.heap := ⟨_, rfl⟩
  obtain ⟨locs, hL⟩ : ∃ z : List Loc, z = [] := ⟨_, rfl⟩
  rw [← hH, ← hL]
  have hS : va_S (Aq bs) s.heap H locs := by rw [hH, hL]; exact hS
  have hP : Wd D dA bs LY mm H := by rw [hH]; exact hP
  have hl : lv_has ls 3 [(0, .ref (bs + 1088)), (1, .int x1)] := hl
  unfold f_X12_seed at hf
  refine lv_iload_n hx hb dX12_seed_0 rfl (lv_at hl 1 rfl) ?_
  refine lv_if_ge (tgt := 6) hx hb dX12_seed_1 (by decide) (fun c_1 => ?_) (fun c_1 => ?_)
  · have hf := itT hf c_1
    refine lv_aload_n hx hb dX12_seed_6 rfl (lv_at hl 0 rfl) ?_
    refine wd_getR (q := 1089) X hP L1088 fl_X12_9 rfl dX12_seed_7 ?_
    refine lv_bipush (v := 8) hx hb dX12_seed_10 (by decide) ?_
    refine wd_ialdK (k := 8) X hP L1089 (by decide) (by decide) dX12_seed_12 ?_
    refine lv_istore_n (lv' := [(2, .int (mm.1 1089 8)), (0, .ref (bs + 1088)), (1, .int x1)]) hx hb dX12_seed_13 rfl hl (by decide) rfl (fun ls hl => ?_)
    refine lv_aload_n hx hb dX12_seed_14 rfl (lv_at hl 1 rfl) ?_
    refine wd_getR (q := 1089) X hP L1088 fl_X12_9 rfl dX12_seed_15 ?_
    refine lv_bipush (v := 8) hx hb dX12_seed_18 (by decide) ?_
    refine lv_iload_n hx hb dX12_seed_20 rfl (lv_at hl 2 rfl) ?_
    refine wd_iastK (k := 8) X hP hS L1089 (by decide) (by decide) dX12_seed_21 (fun H locs mm_2 emm_2 hP hS => ?_)
    have hf := vl hf emm_2
    refine lv_iload_n hx hb dX12_seed_22 rfl (lv_at hl 0 rfl) ?_
    obtain ⟨rfl, rfl⟩ := Prod.mk.inj (Option.some.inj hf)
    exact wd_iret X hP hS hr0 dX12_seed_23 ⟨rfl, rfl⟩
  · have hf := itF hf c_1
    refine lv_iconst (v := -1) hx hb dX12_seed_4 (by decide) ?_
    obtain ⟨rfl, rfl⟩ := Prod.mk.inj (Option.some.inj hf)
    exact wd_iret X hP hS hr0 dX12_seed_5 ⟨rfl, rfl⟩

noncomputable def f_X12_draws (mm : Mm) (x1 : Int32) : Option (Int32 × Mm) :=
  vlet (wI mm 1089 8 ((((((mm.1 1089 8).toInt64) * (1103515245 : Int64)) + (12345 : Int64)) - ((((mm.1 1089 8).toInt64) * (1103515245 : Int64)) + (12345 : Int64)) / (2147483648 : Int64) * (2147483648 : Int64)).toInt32)) fun mm_1 =>
    if x1 = 0 then none else
      some ((((mm_1.1 1089 8) / (65536 : Int32)) - ((mm_1.1 1089 8) / (65536 : Int32)) / x1 * x1), mm_1)
set_option maxHeartbeats 4000000 in
set_option maxRecDepth 100000 in
theorem c_X12_draws (l : Launch) (D : va_G) (dA : Nat → ClassId) (zz : (Nat → Nat) × (Nat → Nat)) (bs : Nat) (mm : Mm) (x1 : Int32) (out : Int32) (m1 : Mm) (hf : f_X12_draws mm x1 = some (out, m1)) : Mw l D dA zz bs LY yX12_draws cX12_draws 2 (some .int) 0 0 [.ref (bs + 1088), .int x1] mm (some (.int out)) m1 := by
  refine Mw.of (own := RX12) (by decide) rfl (Nat.le_of_ble_eq_true rfl) ?_
  intro p e s m args below meth c X hr0 hP hS ls hl
  have hx := X.1
  have hb := X.2.1
  obtain ⟨H, hH⟩ : ∃ z : Heap, z = s.heap := ⟨_, rfl⟩
  obtain ⟨locs, hL⟩ : ∃ z : List Loc, z = [] := ⟨_, rfl⟩
  rw [← hH, ← hL]
  have hS : va_S (Aq bs) s.heap H locs := by rw [hH, hL]; exact hS
  have hP : Wd D dA bs LY mm H := by rw [hH]; exact hP
  have hl : lv_has ls 2 [(0, .ref (bs + 1088)), (1, .int x1)] := hl
  unfold f_X12_draws at hf
  refine lv_aload_n hx hb dX12_draws_0 rfl (lv_at hl 0 rfl) ?_
  refine wd_getR (q := 1089) X hP L1088 fl_X12_9 rfl dX12_draws_1 ?_
  refine lv_bipush (v := 8) hx hb dX12_draws_4 (by decide) ?_
  refine lv_aload_n hx hb dX12_draws_6 rfl (lv_at hl 0 rfl) ?_
  refine wd_getR (q := 1089) X hP L1088 fl_X12_9 rfl dX12_draws_7 ?_
  refine lv_bipush (v := 8) hx hb dX12_draws_10 (by decide) ?_
  refine wd_ialdK (k := 8) X hP L1089 (by decide) (by decide) dX12_draws_12 ?_
  refine lv_i2l hx hb dX12_draws_13 rfl ?_
  refine lv_ldc2 (own := RX12) (v := 1103515245) hx hb X.2.2.2.1 (X.2.2.2.2.1 _ (tb_at 1874 (by decide +kernel) (by decide +kernel))) dX12_draws_14 ?_
  refine lv_lmul hx hb dX12_draws_17 ?_
  refine lv_ldc2 (own := RX12) (v := 12345) hx hb X.2.2.2.1 (X.2.2.2.2.1 _ (tb_at 1875 (by decide +kernel) (by decide +kernel))) dX12_draws_18 ?_
  refine lv_ladd hx hb dX12_draws_21 ?_
  refine lv_ldc2 (own := RX12) (v := 2147483648) hx hb X.2.2.2.1 (X.2.2.2.2.1 _ (tb_at 1876 (by decide +kernel) (by decide +kernel))) dX12_draws_22 ?_
  refine lv_lrem hx hb dX12_draws_25 (by decide) ?_
  refine lv_l2i hx hb dX12_draws_26 rfl ?_
  refine wd_iastK (k := 8) X hP hS L1089 (by decide) (by decide) dX12_draws_27 (fun H locs mm_1 emm_1 hP hS => ?_)
  have hf := vl hf emm_1
  refine lv_aload_n hx hb dX12_draws_28 rfl (lv_at hl 0 rfl) ?_
  refine wd_getR (q := 1089) X hP L1088 fl_X12_9 rfl dX12_draws_29 ?_
  refine lv_bipush (v := 8) hx hb dX12_draws_32 (by decide) ?_
  refine wd_ialdK (k := 8) X hP L1089 (by decide) (by decide) dX12_draws_34 ?_
  refine lv_ldcw (own := RX12) (v := 65536) hx hb X.2.2.2.1 (X.2.2.2.2.1 _ (tb_at 1877 (by decide +kernel) (by decide +kernel))) dX12_draws_35 ?_
  refine lv_idiv hx hb dX12_draws_38 (by decide) ?_
  refine lv_iload_n hx hb dX12_draws_39 rfl (lv_at hl 1 rfl) ?_
  have g_2 := gdN hf
  have hf := gdK hf
  refine lv_irem hx hb dX12_draws_40 g_2 ?_
  obtain ⟨rfl, rfl⟩ := Prod.mk.inj (Option.some.inj hf)
  exact wd_iret X hP hS hr0 dX12_draws_41 ⟨rfl, rfl⟩

noncomputable def f_X12_drawn_j170 (mm : Mm) (y1 : Int32) (y2 : Int32) (y3 : Int32) (y4 : Int32) (y7 : Int32) (y8 : Int32) (z0 : Int32) (z1 : Int32) : Option ((Int32 × Int32 × Mm) ⊕ (Int32 × Mm)) :=
  some (.inl ((z1 + z0), (y8 + 1), mm))
noncomputable def f_X12_drawn_j138 (mm : Mm) (y1 : Int32) (y2 : Int32) (y3 : Int32) (y4 : Int32) (y6 : Int32) (y7 : Int32) (y8 : Int32) (z0 : Int32) : Option ((Int32 × Int32 × Mm) ⊕ (Int32 × Mm)) :=
  bi2 (f_X12_mileBy mm z0) fun r_13 mm_11 =>
    if y3 = 0 then
      f_X12_drawn_j170 mm_11 y1 y2 y3 y4 y7 y8 r_13 y6
    else
      if y3 = (1 : Int32) then
        f_X12_drawn_j170 mm_11 y1 y2 y3 y4 y7 y8 (mm_11.1 1088 51) y6
      else
        f_X12_drawn_j170 mm_11 y1 y2 y3 y4 y7 y8 (mm_11.1 1088 52) y6
noncomputable def f_X12_drawn_s94 (y1 : Int32) (y2 : Int32) (y3 : Int32) (y4 : Int32) (y7 : Int32) : (Int32 × Int32 × Mm) → Option ((Int32 × Int32 × Mm) ⊕ (Int32 × Mm)) :=
  fun q => match q with
  | (y6, y8, mm) =>
    if y2 ≤ y8 then
      some (.inr (y6, mm))
    else
      bi2 (f_X12_draws mm (10 : Int32)) fun r_20 mm_18 =>
        bi1 (f_X12_forceAt mm_18 ((mm_18.1 1089 6) + (1 : Int32))) fun r_22 =>
          if r_22 ≤ r_20 then
            f_X12_drawn_j138 mm_18 y1 y2 y3 y4 y6 y7 y8 r_20
          else
            f_X12_drawn_j138 mm_18 y1 y2 y3 y4 y6 y7 y8 r_22
noncomputable def f_X12_drawn_s76 (y1 : Int32) (y2 : Int32) (y3 : Int32) (y4 : Int32) : (Int32 × Int32 × Int32 × Mm) → Option ((Int32 × Int32 × Int32 × Mm) ⊕ (Int32 × Mm)) :=
  fun q => match q with
  | (y5, y6, y7, mm) =>
    if y1 ≤ y7 then
      some (.inr (y6, mm))
    else
      vlet (wI mm 1089 8 y5) fun mm_9 =>
        bi1 (lp (f_X12_drawn_s94 y1 y2 y3 y4 y7) (y6, (0 : Int32), mm_9)) fun q => match q with
        | (w6_25, mm_26) =>
          bi1 (f_X12_laysBack mm_26) fun mm_27 => some (.inl ((mm_26.1 1089 8), w6_25, (y7 + 1), mm_27))
noncomputable def f_X12_drawn (mm : Mm) (x1 : Int32) (x2 : Int32) (x3 : Int32) : Option (Int32 × Mm) :=
  if (f_X12_isRiver mm) = 0 then
    some ((-1 : Int32), mm)
  else
    if (f_X12_in (x1.toInt64) (1 : Int64) (20 : Int64)) = 0 then
      some ((-1 : Int32), mm)
    else
      if (f_X12_in (x2.toInt64) (1 : Int64) (60 : Int64)) = 0 then
        some ((-1 : Int32), mm)
      else
        if (f_X12_milesLeft mm) < x2 then
          some ((-1 : Int32), mm)
        else
          if (f_X12_in (x3.toInt64) (0 : Int64) (2 : Int64)) = 0 then
            some ((-1 : Int32), mm)
          else
            bi1 (f_X12_keepsAll mm) fun mm_6 =>
              bi1 (lp (f_X12_drawn_s76 x1 x2 x3 (mm.1 1089 8)) ((mm.1 1089 8), (0 : Int32), (0 : Int32), mm_6)) fun q => match q with
              | (w6_32, mm_33) =>
                vlet (wI mm_33 1089 8 (mm.1 1089 8)) fun mm_34 => some (w6_32, mm_34)
set_option maxHeartbeats 4000000 in
set_option maxRecDepth 100000 in
theorem c_X12_drawn (l : Launch) (D : va_G) (dA : Nat → ClassId) (zz : (Nat → Nat) × (Nat → Nat)) (bs : Nat) (mm : Mm) (x1 : Int32) (x2 : Int32) (x3 : Int32) (out : Int32) (m1 : Mm) (hf : f_X12_drawn mm x1 x2 x3 = some (out, m1)) : Mw l D dA zz bs LY yX12_drawn cX12_drawn 12 (some .int) 7 175 [.ref (bs + 1088), .int x1, .int x2, .int x3] mm (some (.int out)) m1 := by
  refine Mw.of (own := RX12) (by decide) rfl (Nat.le_of_ble_eq_true rfl) ?_
  intro p e s m args below meth c X hr0 hP hS ls hl
  have hx := X.1
  have hb := X.2.1
  obtain ⟨H, hH⟩ : ∃ z : Heap, z = s.heap := ⟨_, rfl⟩
  obtain ⟨locs, hL⟩ : ∃ z : List Loc, z = [] := ⟨_, rfl⟩
  rw [← hH, ← hL]
  have hS : va_S (Aq bs) s.heap H locs := by rw [hH, hL]; exact hS
  have hP : Wd D dA bs LY mm H := by rw [hH]; exact hP
  have hl : lv_has ls 12 [(0, .ref (bs + 1088)), (1, .int x1), (2, .int x2), (3, .int x3)] := hl
  unfold f_X12_drawn at hf
  refine lv_aload_n hx hb dX12_drawn_0 rfl (lv_at hl 0 rfl) ?_
  refine wd_cv X hP hS L1088 ml_X12_430 ⟨_, _, rfl⟩ (c_X12_isRiver l D dA zz bs mm (f_X12_isRiver mm) rfl) rfl ⟨Nat.le_of_ble_eq_true rfl, Nat.le_of_ble_eq_true rfl⟩ hl.1 rfl (rest := []) (Nat.le_of_ble_eq_true rfl) ⟨Nat.zero_le _, Nat.zero_le _⟩ dX12_drawn_1 (fun H locs hP hS => ?_)
  refine W.eq (g2 := F0 m 4 ls [.int (f_X12_isRiver mm)]) rfl ?_
  refine lv_if_eq (tgt := 51) hx hb dX12_drawn_4 (by decide) (fun c_1 => ?_) (fun c_1 => ?_)
  · have hf := itT hf c_1
    refine lv_iconst (v := -1) hx hb dX12_drawn_51 (by decide) ?_
    obtain ⟨rfl, rfl⟩ := Prod.mk.inj (Option.some.inj hf)
    exact wd_iret X hP hS hr0 dX12_drawn_52 ⟨rfl, rfl⟩
  · have hf := itF hf c_1
    refine lv_iload_n hx hb dX12_drawn_7 rfl (lv_at hl 1 rfl) ?_
    refine lv_i2l hx hb dX12_drawn_8 rfl ?_
    refine lv_lconst (v := 1) hx hb dX12_drawn_9 (by decide) ?_
    refine lv_ldc2 (own := RX12) (v := 20) hx hb X.2.2.2.1 (X.2.2.2.2.1 _ (tb_at 1868 (by decide +kernel) (by decide +kernel))) dX12_drawn_10 ?_
    refine wd_cs X hP hS ml_X12_176 (c_X12_in l D dA zz bs mm (x1.toInt64) (1 : Int64) (20 : Int64) (f_X12_in (x1.toInt64) (1 : Int64) (20 : Int64)) rfl) rfl ⟨Nat.le_of_ble_eq_true rfl, Nat.le_of_ble_eq_true rfl⟩ hl.1 rfl (rest := []) (Nat.le_of_ble_eq_true rfl) ⟨Nat.zero_le _, Nat.zero_le _⟩ dX12_drawn_13 (fun H locs hP hS => ?_)
    refine W.eq (g2 := F0 m 16 ls [.int (f_X12_in (x1.toInt64) (1 : Int64) (20 : Int64))]) rfl ?_
    refine lv_if_eq (tgt := 51) hx hb dX12_drawn_16 (by decide) (fun c_2 => ?_) (fun c_2 => ?_)
    · have hf := itT hf c_2
      refine lv_iconst (v := -1) hx hb dX12_drawn_51 (by decide) ?_
      obtain ⟨rfl, rfl⟩ := Prod.mk.inj (Option.some.inj hf)
      exact wd_iret X hP hS hr0 dX12_drawn_52 ⟨rfl, rfl⟩
    · have hf := itF hf c_2
      refine lv_iload_n hx hb dX12_drawn_19 rfl (lv_at hl 2 rfl) ?_
      refine lv_i2l hx hb dX12_drawn_20 rfl ?_
      refine lv_lconst (v := 1) hx hb dX12_drawn_21 (by decide) ?_
      refine lv_ldc2 (own := RX12) (v := 60) hx hb X.2.2.2.1 (X.2.2.2.2.1 _ (tb_at 1869 (by decide +kernel) (by decide +kernel))) dX12_drawn_22 ?_
      refine wd_cs X hP hS ml_X12_176 (c_X12_in l D dA zz bs mm (x2.toInt64) (1 : Int64) (60 : Int64) (f_X12_in (x2.toInt64) (1 : Int64) (60 : Int64)) rfl) rfl ⟨Nat.le_of_ble_eq_true rfl, Nat.le_of_ble_eq_true rfl⟩ hl.1 rfl (rest := []) (Nat.le_of_ble_eq_true rfl) ⟨Nat.zero_le _, Nat.zero_le _⟩ dX12_drawn_25 (fun H locs hP hS => ?_)
      refine W.eq (g2 := F0 m 28 ls [.int (f_X12_in (x2.toInt64) (1 : Int64) (60 : Int64))]) rfl ?_
      refine lv_if_eq (tgt := 51) hx hb dX12_drawn_28 (by decide) (fun c_3 => ?_) (fun c_3 => ?_)
      · have hf := itT hf c_3
        refine lv_iconst (v := -1) hx hb dX12_drawn_51 (by decide) ?_
        obtain ⟨rfl, rfl⟩ := Prod.mk.inj (Option.some.inj hf)
        exact wd_iret X hP hS hr0 dX12_drawn_52 ⟨rfl, rfl⟩
      · have hf := itF hf c_3
        refine lv_iload_n hx hb dX12_drawn_31 rfl (lv_at hl 2 rfl) ?_
        refine lv_aload_n hx hb dX12_drawn_32 rfl (lv_at hl 0 rfl) ?_
        refine wd_cv X hP hS L1088 ml_X12_487 ⟨_, _, rfl⟩ (c_X12_milesLeft l D dA zz bs mm (f_X12_milesLeft mm) rfl) rfl ⟨Nat.le_of_ble_eq_true rfl, Nat.le_of_ble_eq_true rfl⟩ hl.1 rfl (rest := [.int x2]) (Nat.le_of_ble_eq_true rfl) ⟨Nat.zero_le _, Nat.zero_le _⟩ dX12_drawn_33 (fun H locs hP hS => ?_)
        refine W.eq (g2 := F0 m 36 ls [.int (f_X12_milesLeft mm), .int x2]) rfl ?_
        refine lv_icmp_gt (tgt := 51) hx hb dX12_drawn_36 (by decide) (fun c_4 => ?_) (fun c_4 => ?_)
        · have hf := itT hf c_4
          refine lv_iconst (v := -1) hx hb dX12_drawn_51 (by decide) ?_
          obtain ⟨rfl, rfl⟩ := Prod.mk.inj (Option.some.inj hf)
          exact wd_iret X hP hS hr0 dX12_drawn_52 ⟨rfl, rfl⟩
        · have hf := itF hf c_4
          refine lv_iload_n hx hb dX12_drawn_39 rfl (lv_at hl 3 rfl) ?_
          refine lv_i2l hx hb dX12_drawn_40 rfl ?_
          refine lv_lconst (v := 0) hx hb dX12_drawn_41 (by decide) ?_
          refine lv_ldc2 (own := RX12) (v := 2) hx hb X.2.2.2.1 (X.2.2.2.2.1 _ (tb_at 1800 (by decide +kernel) (by decide +kernel))) dX12_drawn_42 ?_
          refine wd_cs X hP hS ml_X12_176 (c_X12_in l D dA zz bs mm (x3.toInt64) (0 : Int64) (2 : Int64) (f_X12_in (x3.toInt64) (0 : Int64) (2 : Int64)) rfl) rfl ⟨Nat.le_of_ble_eq_true rfl, Nat.le_of_ble_eq_true rfl⟩ hl.1 rfl (rest := []) (Nat.le_of_ble_eq_true rfl) ⟨Nat.zero_le _, Nat.zero_le _⟩ dX12_drawn_45 (fun H locs hP hS => ?_)
          refine W.eq (g2 := F0 m 48 ls [.int (f_X12_in (x3.toInt64) (0 : Int64) (2 : Int64))]) rfl ?_
          refine lv_if_ne (tgt := 53) hx hb dX12_drawn_48 (by decide) (fun c_5 => ?_) (fun c_5 => ?_)
          · have hf := itF hf c_5
            refine lv_aload_n hx hb dX12_drawn_53 rfl (lv_at hl 0 rfl) ?_
            refine wd_getR (q := 1089) X hP L1088 fl_X12_9 rfl dX12_drawn_54 ?_
            refine lv_bipush (v := 8) hx hb dX12_drawn_57 (by decide) ?_
            refine wd_ialdK (k := 8) X hP L1089 (by decide) (by decide) dX12_drawn_59 ?_
            refine lv_istore (lv' := [(4, .int (mm.1 1089 8)), (0, .ref (bs + 1088)), (1, .int x1), (2, .int x2), (3, .int x3)]) hx hb dX12_drawn_60 hl (by decide) rfl (fun ls hl => ?_)
            refine lv_iload hx hb dX12_drawn_62 (lv_at hl 0 rfl) ?_
            refine lv_istore (lv' := [(5, .int (mm.1 1089 8)), (4, .int (mm.1 1089 8)), (0, .ref (bs + 1088)), (1, .int x1), (2, .int x2), (3, .int x3)]) hx hb dX12_drawn_64 hl (by decide) rfl (fun ls hl => ?_)
            refine lv_iconst (v := 0) hx hb dX12_drawn_66 (by decide) ?_
            refine lv_istore (lv' := [(6, .int (0 : Int32)), (5, .int (mm.1 1089 8)), (4, .int (mm.1 1089 8)), (0, .ref (bs + 1088)), (1, .int x1), (2, .int x2), (3, .int x3)]) hx hb dX12_drawn_67 hl (by decide) rfl (fun ls hl => ?_)
            refine lv_aload_n hx hb dX12_drawn_69 rfl (lv_at hl 3 rfl) ?_
            obtain ⟨mm_6, hc_7, hf⟩ := bi1S hf
            refine wd_cv X hP hS L1088 ml_X12_521 ⟨_, _, rfl⟩ (c_X12_keepsAll l D dA zz bs mm mm_6 hc_7) rfl ⟨Nat.le_of_ble_eq_true rfl, Nat.le_of_ble_eq_true rfl⟩ hl.1 rfl (rest := []) (Nat.le_of_ble_eq_true rfl) ⟨Nat.zero_le _, Nat.zero_le _⟩ dX12_drawn_70 (fun H locs hP hS => ?_)
            refine W.eq (g2 := F0 m 73 ls []) rfl ?_
            refine lv_iconst (v := 0) hx hb dX12_drawn_73 (by decide) ?_
            refine lv_istore (lv' := [(7, .int (0 : Int32)), (6, .int (0 : Int32)), (5, .int (mm.1 1089 8)), (4, .int (mm.1 1089 8)), (0, .ref (bs + 1088)), (1, .int x1), (2, .int x2), (3, .int x3)]) hx hb dX12_drawn_74 hl (by decide) rfl (fun ls hl => ?_)
            obtain ⟨q_35, hlp_36, hf⟩ := bi1S hf
            refine lp_walk (Wh := (fun z => match z with | (y5L_31, y6L_31, y7L_31, mmL_31) => ∀ (H : Heap) (locs : List Loc) (ls : Array Slot), Wd D dA bs LY mmL_31 H → va_S (Aq bs) s.heap H locs → lv_has ls 12 [(0, .ref (bs + 1088)), (1, .int x1), (2, .int x2), (3, .int x3), (4, .int (mm.1 1089 8)), (5, .int y5L_31), (6, .int y6L_31), (7, .int y7L_31)] → Wz p l e s m args below meth c D dA bs (some (.int out)) m1 7 175 H locs 76 ls [])) (Ph := (fun z => match z with | (w6_32, mm_33) => ∀ (H : Heap) (locs : List Loc) (ls : Array Slot), Wd D dA bs LY mm_33 H → va_S (Aq bs) s.heap H locs → lv_has ls 12 [(0, .ref (bs + 1088)), (4, .int (mm.1 1089 8)), (6, .int w6_32)] → Wz p l e s m args below meth c D dA bs (some (.int out)) m1 7 175 H locs 198 ls [])) ?_ hlp_36 ?_ H locs ls hP hS (lv_sub hl [4, 5, 6, 7, 3, 2, 1, 0] rfl)
            · intro z o hf hB hE
              obtain ⟨y5L_31, y6L_31, y7L_31, mmL_31⟩ := z
              intro H locs ls hP hS hl
              have hf : f_X12_drawn_s76 x1 x2 x3 (mm.1 1089 8) (y5L_31, y6L_31, y7L_31, mmL_31) = some o := hf
              unfold f_X12_drawn_s76 at hf
              dsimp only at hf
              refine lv_iload hx hb dX12_drawn_76 (lv_at hl 7 rfl) ?_
              refine lv_iload_n hx hb dX12_drawn_78 rfl (lv_at hl 1 rfl) ?_
              refine lv_icmp_ge (tgt := 198) hx hb dX12_drawn_79 (by decide) (fun c_8 => ?_) (fun c_8 => ?_)
              · have hf := itT hf c_8
                obtain rfl := Option.some.inj hf
                exact hE _ rfl H locs ls hP hS (lv_sub hl [0, 4, 6] rfl)
              · have hf := itF hf c_8
                refine lv_aload_n hx hb dX12_drawn_82 rfl (lv_at hl 0 rfl) ?_
                refine wd_getR (q := 1089) X hP L1088 fl_X12_9 rfl dX12_drawn_83 ?_
                refine lv_bipush (v := 8) hx hb dX12_drawn_86 (by decide) ?_
                refine lv_iload hx hb dX12_drawn_88 (lv_at hl 5 rfl) ?_
                refine wd_iastK (k := 8) X hP hS L1089 (by decide) (by decide) dX12_drawn_90 (fun H locs mm_9 emm_9 hP hS => ?_)
                have hf := vl hf emm_9
                refine lv_iconst (v := 0) hx hb dX12_drawn_91 (by decide) ?_
                refine lv_istore (lv' := [(8, .int (0 : Int32)), (0, .ref (bs + 1088)), (1, .int x1), (2, .int x2), (3, .int x3), (4, .int (mm.1 1089 8)), (5, .int y5L_31), (6, .int y6L_31), (7, .int y7L_31)]) hx hb dX12_drawn_92 hl (by decide) rfl (fun ls hl => ?_)
                obtain ⟨q_29, hlp_30, hf⟩ := bi1S hf
                refine lp_walk (Wh := (fun z => match z with | (y6L_24, y8L_24, mmL_24) => ∀ (H : Heap) (locs : List Loc) (ls : Array Slot), Wd D dA bs LY mmL_24 H → va_S (Aq bs) s.heap H locs → lv_has ls 12 [(0, .ref (bs + 1088)), (1, .int x1), (2, .int x2), (3, .int x3), (4, .int (mm.1 1089 8)), (6, .int y6L_24), (7, .int y7L_31), (8, .int y8L_24)] → Wz p l e s m args below meth c D dA bs (some (.int out)) m1 7 175 H locs 94 ls [])) (Ph := (fun z => match z with | (w6_25, mm_26) => ∀ (H : Heap) (locs : List Loc) (ls : Array Slot), Wd D dA bs LY mm_26 H → va_S (Aq bs) s.heap H locs → lv_has ls 12 [(0, .ref (bs + 1088)), (1, .int x1), (2, .int x2), (3, .int x3), (4, .int (mm.1 1089 8)), (6, .int w6_25), (7, .int y7L_31)] → Wz p l e s m args below meth c D dA bs (some (.int out)) m1 7 175 H locs 179 ls [])) ?_ hlp_30 ?_ H locs ls hP hS (lv_sub hl [1, 2, 3, 4, 5, 7, 8, 0] rfl)
                · intro z o hf hB hE
                  obtain ⟨y6L_24, y8L_24, mmL_24⟩ := z
                  intro H locs ls hP hS hl
                  have hf : f_X12_drawn_s94 x1 x2 x3 (mm.1 1089 8) y7L_31 (y6L_24, y8L_24, mmL_24) = some o := hf
                  unfold f_X12_drawn_s94 at hf
                  dsimp only at hf
                  have hJ170 : ∀ (mmJ_10 : Mm) (y8J_10 : Int32) (z0J_10 : Int32) (z1J_10 : Int32) (H : Heap) (locs : List Loc) (ls : Array Slot), f_X12_drawn_j170 mmJ_10 x1 x2 x3 (mm.1 1089 8) y7L_31 y8J_10 z0J_10 z1J_10 = some o → Wd D dA bs LY mmJ_10 H → va_S (Aq bs) s.heap H locs → lv_has ls 12 [(0, .ref (bs + 1088)), (1, .int x1), (2, .int x2), (3, .int x3), (4, .int (mm.1 1089 8)), (7, .int y7L_31), (8, .int y8J_10)] → Wz p l e s m args below meth c D dA bs (some (.int out)) m1 7 175 H locs 170 ls [.int z0J_10, .int z1J_10] := by
                    intro mmJ_10 y8J_10 z0J_10 z1J_10 H locs ls hf hP hS hl
                    unfold f_X12_drawn_j170 at hf
                    refine lv_iadd hx hb dX12_drawn_170 ?_
                    refine lv_istore (lv' := [(6, .int (z1J_10 + z0J_10)), (0, .ref (bs + 1088)), (1, .int x1), (2, .int x2), (3, .int x3), (4, .int (mm.1 1089 8)), (7, .int y7L_31), (8, .int y8J_10)]) hx hb dX12_drawn_171 hl (by decide) rfl (fun ls hl => ?_)
                    refine lv_iinc (v := (y8J_10 + 1)) (lv' := [(8, .int (y8J_10 + 1)), (6, .int (z1J_10 + z0J_10)), (0, .ref (bs + 1088)), (1, .int x1), (2, .int x2), (3, .int x3), (4, .int (mm.1 1089 8)), (7, .int y7L_31)]) hx hb dX12_drawn_173 hl (k := 7) rfl rfl (by decide) rfl (fun ls hl => ?_)
                    refine lv_goto (tgt := 94) hx hb dX12_drawn_176 (by decide) ?_
                    obtain rfl := Option.some.inj hf
                    exact hB _ rfl H locs ls hP hS (lv_sub hl [2, 3, 4, 5, 6, 1, 7, 0] rfl)
                  have hJ138 : ∀ (mmJ_16 : Mm) (y6J_16 : Int32) (y8J_16 : Int32) (z0J_16 : Int32) (H : Heap) (locs : List Loc) (ls : Array Slot), f_X12_drawn_j138 mmJ_16 x1 x2 x3 (mm.1 1089 8) y6J_16 y7L_31 y8J_16 z0J_16 = some o → Wd D dA bs LY mmJ_16 H → va_S (Aq bs) s.heap H locs → lv_has ls 12 [(0, .ref (bs + 1088)), (1, .int x1), (2, .int x2), (3, .int x3), (4, .int (mm.1 1089 8)), (6, .int y6J_16), (7, .int y7L_31), (8, .int y8J_16)] → Wz p l e s m args below meth c D dA bs (some (.int out)) m1 7 175 H locs 138 ls [.int z0J_16, .ref (bs + 1088)] := by
                    intro mmJ_16 y6J_16 y8J_16 z0J_16 H locs ls hf hP hS hl
                    unfold f_X12_drawn_j138 at hf
                    obtain ⟨r_13, mm_11, hc_12, hf⟩ := bi2S hf
                    refine wd_cv X hP hS L1088 ml_X12_466 ⟨_, _, rfl⟩ (c_X12_mileBy l D dA zz bs mmJ_16 z0J_16 r_13 mm_11 hc_12) rfl ⟨Nat.le_of_ble_eq_true rfl, Nat.le_of_ble_eq_true rfl⟩ hl.1 rfl (rest := []) (Nat.le_of_ble_eq_true rfl) ⟨Nat.zero_le _, Nat.zero_le _⟩ dX12_drawn_138 (fun H locs hP hS => ?_)
                    refine W.eq (g2 := F0 m 141 ls [.int r_13]) rfl ?_
                    refine lv_istore (lv' := [(11, .int r_13), (0, .ref (bs + 1088)), (1, .int x1), (2, .int x2), (3, .int x3), (4, .int (mm.1 1089 8)), (6, .int y6J_16), (7, .int y7L_31), (8, .int y8J_16)]) hx hb dX12_drawn_141 hl (by decide) rfl (fun ls hl => ?_)
                    refine lv_iload hx hb dX12_drawn_143 (lv_at hl 6 rfl) ?_
                    refine lv_iload_n hx hb dX12_drawn_145 rfl (lv_at hl 4 rfl) ?_
                    refine lv_if_ne (tgt := 154) hx hb dX12_drawn_146 (by decide) (fun c_14 => ?_) (fun c_14 => ?_)
                    · have hf := itF hf c_14
                      refine lv_iload_n hx hb dX12_drawn_154 rfl (lv_at hl 4 rfl) ?_
                      refine lv_iconst (v := 1) hx hb dX12_drawn_155 (by decide) ?_
                      refine lv_icmp_ne (tgt := 166) hx hb dX12_drawn_156 (by decide) (fun c_15 => ?_) (fun c_15 => ?_)
                      · have hf := itF hf c_15
                        refine lv_aload_n hx hb dX12_drawn_166 rfl (lv_at hl 1 rfl) ?_
                        refine wd_getI X hP L1088 fl_X12_447 rfl dX12_drawn_167 ?_
                        exact hJ170 mm_11 y8J_16 (mm_11.1 1088 52) y6J_16 H locs ls hf hP hS (lv_sub hl [1, 2, 3, 4, 5, 7, 8] rfl)
                      · have hf := itT hf c_15
                        refine lv_aload_n hx hb dX12_drawn_159 rfl (lv_at hl 1 rfl) ?_
                        refine wd_getI X hP L1088 fl_X12_463 rfl dX12_drawn_160 ?_
                        refine lv_goto (tgt := 170) hx hb dX12_drawn_163 (by decide) ?_
                        exact hJ170 mm_11 y8J_16 (mm_11.1 1088 51) y6J_16 H locs ls hf hP hS (lv_sub hl [1, 2, 3, 4, 5, 7, 8] rfl)
                    · have hf := itT hf c_14
                      refine lv_iload hx hb dX12_drawn_149 (lv_at hl 0 rfl) ?_
                      refine lv_goto (tgt := 170) hx hb dX12_drawn_151 (by decide) ?_
                      exact hJ170 mm_11 y8J_16 r_13 y6J_16 H locs ls hf hP hS (lv_sub hl [1, 2, 3, 4, 5, 7, 8] rfl)
                  refine lv_iload hx hb dX12_drawn_94 (lv_at hl 7 rfl) ?_
                  refine lv_iload_n hx hb dX12_drawn_96 rfl (lv_at hl 2 rfl) ?_
                  refine lv_icmp_ge (tgt := 179) hx hb dX12_drawn_97 (by decide) (fun c_17 => ?_) (fun c_17 => ?_)
                  · have hf := itT hf c_17
                    obtain rfl := Option.some.inj hf
                    exact hE _ rfl H locs ls hP hS (lv_sub hl [0, 1, 2, 3, 4, 5, 6] rfl)
                  · have hf := itF hf c_17
                    refine lv_aload_n hx hb dX12_drawn_100 rfl (lv_at hl 0 rfl) ?_
                    refine lv_bipush (v := 10) hx hb dX12_drawn_101 (by decide) ?_
                    obtain ⟨r_20, mm_18, hc_19, hf⟩ := bi2S hf
                    refine wd_cv X hP hS L1088 ml_X12_603 ⟨_, _, rfl⟩ (c_X12_draws l D dA zz bs mmL_24 (10 : Int32) r_20 mm_18 hc_19) rfl ⟨Nat.le_of_ble_eq_true rfl, Nat.le_of_ble_eq_true rfl⟩ hl.1 rfl (rest := []) (Nat.le_of_ble_eq_true rfl) ⟨Nat.zero_le _, Nat.zero_le _⟩ dX12_drawn_103 (fun H locs hP hS => ?_)
                    refine W.eq (g2 := F0 m 106 ls [.int r_20]) rfl ?_
                    refine lv_istore (lv' := [(9, .int r_20), (0, .ref (bs + 1088)), (1, .int x1), (2, .int x2), (3, .int x3), (4, .int (mm.1 1089 8)), (6, .int y6L_24), (7, .int y7L_31), (8, .int y8L_24)]) hx hb dX12_drawn_106 hl (by decide) rfl (fun ls hl => ?_)
                    refine lv_aload_n hx hb dX12_drawn_108 rfl (lv_at hl 1 rfl) ?_
                    refine lv_aload_n hx hb dX12_drawn_109 rfl (lv_at hl 1 rfl) ?_
                    refine wd_getR (q := 1089) X hP L1088 fl_X12_9 rfl dX12_drawn_110 ?_
                    refine lv_bipush (v := 6) hx hb dX12_drawn_113 (by decide) ?_
                    refine wd_ialdK (k := 6) X hP L1089 (by decide) (by decide) dX12_drawn_115 ?_
                    refine lv_iconst (v := 1) hx hb dX12_drawn_116 (by decide) ?_
                    refine lv_iadd hx hb dX12_drawn_117 ?_
                    obtain ⟨r_22, hc_21, hf⟩ := bi1S hf
                    refine wd_cv X hP hS L1088 ml_X12_433 ⟨_, _, rfl⟩ (c_X12_forceAt l D dA zz bs mm_18 ((mm_18.1 1089 6) + (1 : Int32)) r_22 hc_21) rfl ⟨Nat.le_of_ble_eq_true rfl, Nat.le_of_ble_eq_true rfl⟩ hl.1 rfl (rest := []) (Nat.le_of_ble_eq_true rfl) ⟨Nat.zero_le _, Nat.zero_le _⟩ dX12_drawn_118 (fun H locs hP hS => ?_)
                    refine W.eq (g2 := F0 m 121 ls [.int r_22]) rfl ?_
                    refine lv_istore (lv' := [(10, .int r_22), (9, .int r_20), (0, .ref (bs + 1088)), (1, .int x1), (2, .int x2), (3, .int x3), (4, .int (mm.1 1089 8)), (6, .int y6L_24), (7, .int y7L_31), (8, .int y8L_24)]) hx hb dX12_drawn_121 hl (by decide) rfl (fun ls hl => ?_)
                    refine lv_aload_n hx hb dX12_drawn_123 rfl (lv_at hl 2 rfl) ?_
                    refine lv_iload hx hb dX12_drawn_124 (lv_at hl 0 rfl) ?_
                    refine lv_iload hx hb dX12_drawn_126 (lv_at hl 1 rfl) ?_
                    refine lv_icmp_le (tgt := 136) hx hb dX12_drawn_128 (by decide) (fun c_23 => ?_) (fun c_23 => ?_)
                    · have hf := itT hf c_23
                      refine lv_iload hx hb dX12_drawn_136 (lv_at hl 1 rfl) ?_
                      exact hJ138 mm_18 y6L_24 y8L_24 r_20 H locs ls hf hP hS (lv_sub hl [2, 3, 4, 5, 6, 7, 8, 9] rfl)
                    · have hf := itF hf c_23
                      refine lv_iload hx hb dX12_drawn_131 (lv_at hl 0 rfl) ?_
                      refine lv_goto (tgt := 138) hx hb dX12_drawn_133 (by decide) ?_
                      exact hJ138 mm_18 y6L_24 y8L_24 r_22 H locs ls hf hP hS (lv_sub hl [2, 3, 4, 5, 6, 7, 8, 9] rfl)
                · obtain ⟨w6_25, mm_26⟩ := q_29
                  dsimp only at hf
                  intro H locs ls hP hS hl
                  refine lv_aload_n hx hb dX12_drawn_179 rfl (lv_at hl 0 rfl) ?_
                  refine wd_getR (q := 1089) X hP L1088 fl_X12_9 rfl dX12_drawn_180 ?_
                  refine lv_bipush (v := 8) hx hb dX12_drawn_183 (by decide) ?_
                  refine wd_ialdK (k := 8) X hP L1089 (by decide) (by decide) dX12_drawn_185 ?_
                  refine lv_istore (lv' := [(5, .int (mm_26.1 1089 8)), (0, .ref (bs + 1088)), (1, .int x1), (2, .int x2), (3, .int x3), (4, .int (mm.1 1089 8)), (6, .int w6_25), (7, .int y7L_31)]) hx hb dX12_drawn_186 hl (by decide) rfl (fun ls hl => ?_)
                  refine lv_aload_n hx hb dX12_drawn_188 rfl (lv_at hl 1 rfl) ?_
                  obtain ⟨mm_27, hc_28, hf⟩ := bi1S hf
                  refine wd_cv X hP hS L1088 ml_X12_527 ⟨_, _, rfl⟩ (c_X12_laysBack l D dA zz bs mm_26 mm_27 hc_28) rfl ⟨Nat.le_of_ble_eq_true rfl, Nat.le_of_ble_eq_true rfl⟩ hl.1 rfl (rest := []) (Nat.le_of_ble_eq_true rfl) ⟨Nat.zero_le _, Nat.zero_le _⟩ dX12_drawn_189 (fun H locs hP hS => ?_)
                  refine W.eq (g2 := F0 m 192 ls []) rfl ?_
                  refine lv_iinc (v := (y7L_31 + 1)) (lv' := [(7, .int (y7L_31 + 1)), (5, .int (mm_26.1 1089 8)), (0, .ref (bs + 1088)), (1, .int x1), (2, .int x2), (3, .int x3), (4, .int (mm.1 1089 8)), (6, .int w6_25)]) hx hb dX12_drawn_192 hl (k := 7) rfl rfl (by decide) rfl (fun ls hl => ?_)
                  refine lv_goto (tgt := 76) hx hb dX12_drawn_195 (by decide) ?_
                  obtain rfl := Option.some.inj hf
                  exact hB _ rfl H locs ls hP hS (lv_sub hl [2, 3, 4, 5, 6, 1, 7, 0] rfl)
            · obtain ⟨w6_32, mm_33⟩ := q_35
              dsimp only at hf
              intro H locs ls hP hS hl
              refine lv_aload_n hx hb dX12_drawn_198 rfl (lv_at hl 0 rfl) ?_
              refine wd_getR (q := 1089) X hP L1088 fl_X12_9 rfl dX12_drawn_199 ?_
              refine lv_bipush (v := 8) hx hb dX12_drawn_202 (by decide) ?_
              refine lv_iload hx hb dX12_drawn_204 (lv_at hl 1 rfl) ?_
              refine wd_iastK (k := 8) X hP hS L1089 (by decide) (by decide) dX12_drawn_206 (fun H locs mm_34 emm_34 hP hS => ?_)
              have hf := vl hf emm_34
              refine lv_iload hx hb dX12_drawn_207 (lv_at hl 2 rfl) ?_
              obtain ⟨rfl, rfl⟩ := Prod.mk.inj (Option.some.inj hf)
              exact wd_iret X hP hS hr0 dX12_drawn_209 ⟨rfl, rfl⟩
          · have hf := itT hf c_5
            refine lv_iconst (v := -1) hx hb dX12_drawn_51 (by decide) ?_
            obtain ⟨rfl, rfl⟩ := Prod.mk.inj (Option.some.inj hf)
            exact wd_iret X hP hS hr0 dX12_drawn_52 ⟨rfl, rfl⟩

noncomputable def f_X12_pieces_j41 (mm : Mm) (y2 : Int32) (z0 : Int32) (z1 : Int32) : Option ((Int32 × Int32) ⊕ (Int32)) :=
  some (.inl ((z1 + z0), (y2 + 1)))
noncomputable def f_X12_pieces_j40 (mm : Mm) (y2 : Int32) (z0 : Int32) : Option ((Int32 × Int32) ⊕ (Int32)) :=
  f_X12_pieces_j41 mm y2 (0 : Int32) z0
noncomputable def f_X12_pieces_s4 (mm : Mm) : (Int32 × Int32) → Option ((Int32 × Int32) ⊕ (Int32)) :=
  fun q => match q with
  | (y1, y2) =>
    if (mm.1 1089 3) ≤ y2 then
      some (.inr y1)
    else
      if y2 < 0 ∨ 8 ≤ y2.toNatClampNeg then none else
        if (mm.1 1097 y2.toNatClampNeg) = 0 then
          bi1 (f_X12_pieceOf mm y2) fun r_7 =>
            bi1 (f_X12_least mm r_7) fun r_9 =>
              if r_9 = y2 then
                f_X12_pieces_j41 mm y2 (1 : Int32) y1
              else
                f_X12_pieces_j40 mm y2 y1
        else
          f_X12_pieces_j40 mm y2 y1
noncomputable def f_X12_pieces (mm : Mm) : Option (Int32) :=
  bi1 (lp (f_X12_pieces_s4 mm) ((0 : Int32), (0 : Int32))) fun w1_12 =>
    some w1_12
set_option maxHeartbeats 4000000 in
set_option maxRecDepth 100000 in
theorem c_X12_pieces (l : Launch) (D : va_G) (dA : Nat → ClassId) (zz : (Nat → Nat) × (Nat → Nat)) (bs : Nat) (mm : Mm) (out : Int32) (hf : f_X12_pieces mm = some out) : Mw l D dA zz bs LY yX12_pieces cX12_pieces 3 (some .int) 3 70 [.ref (bs + 1088)] mm (some (.int out)) mm := by
  refine Mw.of (own := RX12) (by decide) rfl (Nat.le_of_ble_eq_true rfl) ?_
  intro p e s m args below meth c X hr0 hP hS ls hl
  have hx := X.1
  have hb := X.2.1
  obtain ⟨H, hH⟩ : ∃ z : Heap, z = s.heap := ⟨_, rfl⟩
  obtain ⟨locs, hL⟩ : ∃ z : List Loc, z = [] := ⟨_, rfl⟩
  rw [← hH, ← hL]
  have hS : va_S (Aq bs) s.heap H locs := by rw [hH, hL]; exact hS
  have hP : Wd D dA bs LY mm H := by rw [hH]; exact hP
  have hl : lv_has ls 3 [(0, .ref (bs + 1088))] := hl
  unfold f_X12_pieces at hf
  refine lv_iconst (v := 0) hx hb dX12_pieces_0 (by decide) ?_
  refine lv_istore_n (lv' := [(1, .int (0 : Int32)), (0, .ref (bs + 1088))]) hx hb dX12_pieces_1 rfl hl (by decide) rfl (fun ls hl => ?_)
  refine lv_iconst (v := 0) hx hb dX12_pieces_2 (by decide) ?_
  refine lv_istore_n (lv' := [(2, .int (0 : Int32)), (1, .int (0 : Int32)), (0, .ref (bs + 1088))]) hx hb dX12_pieces_3 rfl hl (by decide) rfl (fun ls hl => ?_)
  obtain ⟨q_13, hlp_14, hf⟩ := bi1S hf
  refine lp_walk (Wh := (fun z => match z with | (y1L_11, y2L_11) => ∀ (H : Heap) (locs : List Loc) (ls : Array Slot), Wd D dA bs LY mm H → va_S (Aq bs) s.heap H locs → lv_has ls 3 [(0, .ref (bs + 1088)), (1, .int y1L_11), (2, .int y2L_11)] → Wz p l e s m args below meth c D dA bs (some (.int out)) mm 3 70 H locs 4 ls [])) (Ph := (fun w1_12 => ∀ (H : Heap) (locs : List Loc) (ls : Array Slot), Wd D dA bs LY mm H → va_S (Aq bs) s.heap H locs → lv_has ls 3 [(1, .int w1_12)] → Wz p l e s m args below meth c D dA bs (some (.int out)) mm 3 70 H locs 49 ls [])) ?_ hlp_14 ?_ H locs ls hP hS (lv_sub hl [2, 1, 0] rfl)
  · intro z o hf hB hE
    obtain ⟨y1L_11, y2L_11⟩ := z
    intro H locs ls hP hS hl
    have hf : f_X12_pieces_s4 mm (y1L_11, y2L_11) = some o := hf
    unfold f_X12_pieces_s4 at hf
    dsimp only at hf
    have hJ41 : ∀ (y2J_1 : Int32) (z0J_1 : Int32) (z1J_1 : Int32) (H : Heap) (locs : List Loc) (ls : Array Slot), f_X12_pieces_j41 mm y2J_1 z0J_1 z1J_1 = some o → Wd D dA bs LY mm H → va_S (Aq bs) s.heap H locs → lv_has ls 3 [(0, .ref (bs + 1088)), (2, .int y2J_1)] → Wz p l e s m args below meth c D dA bs (some (.int out)) mm 3 70 H locs 41 ls [.int z0J_1, .int z1J_1] := by
      intro y2J_1 z0J_1 z1J_1 H locs ls hf hP hS hl
      unfold f_X12_pieces_j41 at hf
      refine lv_iadd hx hb dX12_pieces_41 ?_
      refine lv_istore_n (lv' := [(1, .int (z1J_1 + z0J_1)), (0, .ref (bs + 1088)), (2, .int y2J_1)]) hx hb dX12_pieces_42 rfl hl (by decide) rfl (fun ls hl => ?_)
      refine lv_iinc (v := (y2J_1 + 1)) (lv' := [(2, .int (y2J_1 + 1)), (1, .int (z1J_1 + z0J_1)), (0, .ref (bs + 1088))]) hx hb dX12_pieces_43 hl (k := 2) rfl rfl (by decide) rfl (fun ls hl => ?_)
      refine lv_goto (tgt := 4) hx hb dX12_pieces_46 (by decide) ?_
      obtain rfl := Option.some.inj hf
      exact hB _ rfl H locs ls hP hS (lv_sub hl [2, 1, 0] rfl)
    have hJ40 : ∀ (y2J_2 : Int32) (z0J_2 : Int32) (H : Heap) (locs : List Loc) (ls : Array Slot), f_X12_pieces_j40 mm y2J_2 z0J_2 = some o → Wd D dA bs LY mm H → va_S (Aq bs) s.heap H locs → lv_has ls 3 [(0, .ref (bs + 1088)), (2, .int y2J_2)] → Wz p l e s m args below meth c D dA bs (some (.int out)) mm 3 70 H locs 40 ls [.int z0J_2] := by
      intro y2J_2 z0J_2 H locs ls hf hP hS hl
      unfold f_X12_pieces_j40 at hf
      refine lv_iconst (v := 0) hx hb dX12_pieces_40 (by decide) ?_
      exact hJ41 y2J_2 (0 : Int32) z0J_2 H locs ls hf hP hS (lv_sub hl [0, 1] rfl)
    refine lv_iload_n hx hb dX12_pieces_4 rfl (lv_at hl 2 rfl) ?_
    refine lv_aload_n hx hb dX12_pieces_5 rfl (lv_at hl 0 rfl) ?_
    refine wd_getR (q := 1089) X hP L1088 fl_X12_9 rfl dX12_pieces_6 ?_
    refine lv_iconst (v := 3) hx hb dX12_pieces_9 (by decide) ?_
    refine wd_ialdK (k := 3) X hP L1089 (by decide) (by decide) dX12_pieces_10 ?_
    refine lv_icmp_ge (tgt := 49) hx hb dX12_pieces_11 (by decide) (fun c_3 => ?_) (fun c_3 => ?_)
    · have hf := itT hf c_3
      obtain rfl := Option.some.inj hf
      exact hE _ rfl H locs ls hP hS (lv_sub hl [1] rfl)
    · have hf := itF hf c_3
      refine lv_iload_n hx hb dX12_pieces_14 rfl (lv_at hl 1 rfl) ?_
      refine lv_aload_n hx hb dX12_pieces_15 rfl (lv_at hl 0 rfl) ?_
      refine wd_getR (q := 1097) X hP L1088 fl_X12_34 rfl dX12_pieces_16 ?_
      refine lv_iload_n hx hb dX12_pieces_19 rfl (lv_at hl 2 rfl) ?_
      have g_4 := gdN hf
      have hf := gdK hf
      refine wd_iald X hP L1097 g_4 dX12_pieces_20 ?_
      refine lv_if_ne (tgt := 40) hx hb dX12_pieces_21 (by decide) (fun c_5 => ?_) (fun c_5 => ?_)
      · have hf := itF hf c_5
        exact hJ40 y2L_11 y1L_11 H locs ls hf hP hS (lv_sub hl [0, 2] rfl)
      · have hf := itT hf c_5
        refine lv_aload_n hx hb dX12_pieces_24 rfl (lv_at hl 0 rfl) ?_
        refine lv_iload_n hx hb dX12_pieces_25 rfl (lv_at hl 2 rfl) ?_
        obtain ⟨r_7, hc_6, hf⟩ := bi1S hf
        refine wd_cv X hP hS L1088 ml_X12_424 ⟨_, _, rfl⟩ (c_X12_pieceOf l D dA zz bs mm y2L_11 r_7 hc_6) rfl ⟨Nat.le_of_ble_eq_true rfl, Nat.le_of_ble_eq_true rfl⟩ hl.1 rfl (rest := [.int y1L_11]) (Nat.le_of_ble_eq_true rfl) ⟨Nat.zero_le _, Nat.zero_le _⟩ dX12_pieces_26 (fun H locs hP hS => ?_)
        refine W.eq (g2 := F0 m 29 ls [.int r_7, .int y1L_11]) rfl ?_
        obtain ⟨r_9, hc_8, hf⟩ := bi1S hf
        refine wd_cs X hP hS ml_X12_421 (c_X12_least l D dA zz bs mm r_7 r_9 hc_8) rfl ⟨Nat.le_of_ble_eq_true rfl, Nat.le_of_ble_eq_true rfl⟩ hl.1 rfl (rest := [.int y1L_11]) (Nat.le_of_ble_eq_true rfl) ⟨Nat.zero_le _, Nat.zero_le _⟩ dX12_pieces_29 (fun H locs hP hS => ?_)
        refine W.eq (g2 := F0 m 32 ls [.int r_9, .int y1L_11]) rfl ?_
        refine lv_iload_n hx hb dX12_pieces_32 rfl (lv_at hl 2 rfl) ?_
        refine lv_icmp_ne (tgt := 40) hx hb dX12_pieces_33 (by decide) (fun c_10 => ?_) (fun c_10 => ?_)
        · have hf := itF hf c_10
          exact hJ40 y2L_11 y1L_11 H locs ls hf hP hS (lv_sub hl [0, 2] rfl)
        · have hf := itT hf c_10
          refine lv_iconst (v := 1) hx hb dX12_pieces_36 (by decide) ?_
          refine lv_goto (tgt := 41) hx hb dX12_pieces_37 (by decide) ?_
          exact hJ41 y2L_11 (1 : Int32) y1L_11 H locs ls hf hP hS (lv_sub hl [0, 2] rfl)
  · obtain ⟨w1_12, e_w1_12⟩ : ∃ z, z = q_13 := ⟨_, rfl⟩
    subst e_w1_12
    intro H locs ls hP hS hl
    refine lv_iload_n hx hb dX12_pieces_49 rfl (lv_at hl 0 rfl) ?_
    obtain rfl := Option.some.inj hf
    exact wd_iret X hP hS hr0 dX12_pieces_50 ⟨rfl, rfl⟩

noncomputable def f_X12_count (mm : Mm) (x1 : Int32) : Option (Int32) :=
  if x1 = 0 then
    some (mm.1 1089 0)
  else if x1 = 1 then
    some (mm.1 1089 1)
  else if x1 = 2 then
    some (mm.1 1089 2)
  else if x1 = 3 then
    some (mm.1 1089 3)
  else if x1 = 4 then
    some (mm.1 1089 4)
  else if x1 = 5 then
    some (mm.1 1089 5)
  else if x1 = 6 then
    some (mm.1 1088 35)
  else if x1 = 7 then
    some (mm.1 1089 6)
  else if x1 = 8 then
    bi1 (f_X12_pieces mm) fun r_11 => some r_11
  else if x1 = 9 then
    bi1 (f_X12_afloat mm) fun r_14 => some r_14
  else if x1 = 10 then
    some (mm.1 1089 7)
  else if x1 = 11 then
    some (mm.1 1088 55)
  else if x1 = 12 then
    some (mm.1 1089 8)
  else if x1 = 13 then
    some (mm.1 1088 31)
  else
    some (-1 : Int32)
set_option maxHeartbeats 4000000 in
set_option maxRecDepth 100000 in
theorem c_X12_count (l : Launch) (D : va_G) (dA : Nat → ClassId) (zz : (Nat → Nat) × (Nat → Nat)) (bs : Nat) (mm : Mm) (x1 : Int32) (out : Int32) (hf : f_X12_count mm x1 = some out) : Mw l D dA zz bs LY yX12_count cX12_count 2 (some .int) 4 92 [.ref (bs + 1088), .int x1] mm (some (.int out)) mm := by
  refine Mw.of (own := RX12) (by decide) rfl (Nat.le_of_ble_eq_true rfl) ?_
  intro p e s m args below meth c X hr0 hP hS ls hl
  have hx := X.1
  have hb := X.2.1
  obtain ⟨H, hH⟩ : ∃ z : Heap, z = s.heap := ⟨_, rfl⟩
  obtain ⟨locs, hL⟩ : ∃ z : List Loc, z = [] := ⟨_, rfl⟩
  rw [← hH, ← hL]
  have hS : va_S (Aq bs) s.heap H locs := by rw [hH, hL]; exact hS
  have hP : Wd D dA bs LY mm H := by rw [hH]; exact hP
  have hl : lv_has ls 2 [(0, .ref (bs + 1088)), (1, .int x1)] := hl
  unfold f_X12_count at hf
  refine lv_iload_n hx hb dX12_count_0 rfl (lv_at hl 1 rfl) ?_
  by_cases c_1 : x1 = 0
  · have hf := itT hf c_1
    refine lv_tableIn (tgt := 72) (off := 71) hx hb dX12_count_1 (by rw [c_1]; decide) (by rw [c_1]; decide) (by rw [c_1]; decide) (by decide) ?_
    refine lv_aload_n hx hb dX12_count_72 rfl (lv_at hl 0 rfl) ?_
    refine wd_getR (q := 1089) X hP L1088 fl_X12_9 rfl dX12_count_73 ?_
    refine lv_iconst (v := 0) hx hb dX12_count_76 (by decide) ?_
    refine wd_ialdK (k := 0) X hP L1089 (by decide) (by decide) dX12_count_77 ?_
    obtain rfl := Option.some.inj hf
    exact wd_iret X hP hS hr0 dX12_count_78 ⟨rfl, rfl⟩
  · have hf := itF hf c_1
    by_cases c_2 : x1 = 1
    · have hf := itT hf c_2
      refine lv_tableIn (tgt := 79) (off := 78) hx hb dX12_count_1 (by rw [c_2]; decide) (by rw [c_2]; decide) (by rw [c_2]; decide) (by decide) ?_
      refine lv_aload_n hx hb dX12_count_79 rfl (lv_at hl 0 rfl) ?_
      refine wd_getR (q := 1089) X hP L1088 fl_X12_9 rfl dX12_count_80 ?_
      refine lv_iconst (v := 1) hx hb dX12_count_83 (by decide) ?_
      refine wd_ialdK (k := 1) X hP L1089 (by decide) (by decide) dX12_count_84 ?_
      obtain rfl := Option.some.inj hf
      exact wd_iret X hP hS hr0 dX12_count_85 ⟨rfl, rfl⟩
    · have hf := itF hf c_2
      by_cases c_3 : x1 = 2
      · have hf := itT hf c_3
        refine lv_tableIn (tgt := 86) (off := 85) hx hb dX12_count_1 (by rw [c_3]; decide) (by rw [c_3]; decide) (by rw [c_3]; decide) (by decide) ?_
        refine lv_aload_n hx hb dX12_count_86 rfl (lv_at hl 0 rfl) ?_
        refine wd_getR (q := 1089) X hP L1088 fl_X12_9 rfl dX12_count_87 ?_
        refine lv_iconst (v := 2) hx hb dX12_count_90 (by decide) ?_
        refine wd_ialdK (k := 2) X hP L1089 (by decide) (by decide) dX12_count_91 ?_
        obtain rfl := Option.some.inj hf
        exact wd_iret X hP hS hr0 dX12_count_92 ⟨rfl, rfl⟩
      · have hf := itF hf c_3
        by_cases c_4 : x1 = 3
        · have hf := itT hf c_4
          refine lv_tableIn (tgt := 93) (off := 92) hx hb dX12_count_1 (by rw [c_4]; decide) (by rw [c_4]; decide) (by rw [c_4]; decide) (by decide) ?_
          refine lv_aload_n hx hb dX12_count_93 rfl (lv_at hl 0 rfl) ?_
          refine wd_getR (q := 1089) X hP L1088 fl_X12_9 rfl dX12_count_94 ?_
          refine lv_iconst (v := 3) hx hb dX12_count_97 (by decide) ?_
          refine wd_ialdK (k := 3) X hP L1089 (by decide) (by decide) dX12_count_98 ?_
          obtain rfl := Option.some.inj hf
          exact wd_iret X hP hS hr0 dX12_count_99 ⟨rfl, rfl⟩
        · have hf := itF hf c_4
          by_cases c_5 : x1 = 4
          · have hf := itT hf c_5
            refine lv_tableIn (tgt := 100) (off := 99) hx hb dX12_count_1 (by rw [c_5]; decide) (by rw [c_5]; decide) (by rw [c_5]; decide) (by decide) ?_
            refine lv_aload_n hx hb dX12_count_100 rfl (lv_at hl 0 rfl) ?_
            refine wd_getR (q := 1089) X hP L1088 fl_X12_9 rfl dX12_count_101 ?_
            refine lv_iconst (v := 4) hx hb dX12_count_104 (by decide) ?_
            refine wd_ialdK (k := 4) X hP L1089 (by decide) (by decide) dX12_count_105 ?_
            obtain rfl := Option.some.inj hf
            exact wd_iret X hP hS hr0 dX12_count_106 ⟨rfl, rfl⟩
          · have hf := itF hf c_5
            by_cases c_6 : x1 = 5
            · have hf := itT hf c_6
              refine lv_tableIn (tgt := 107) (off := 106) hx hb dX12_count_1 (by rw [c_6]; decide) (by rw [c_6]; decide) (by rw [c_6]; decide) (by decide) ?_
              refine lv_aload_n hx hb dX12_count_107 rfl (lv_at hl 0 rfl) ?_
              refine wd_getR (q := 1089) X hP L1088 fl_X12_9 rfl dX12_count_108 ?_
              refine lv_iconst (v := 5) hx hb dX12_count_111 (by decide) ?_
              refine wd_ialdK (k := 5) X hP L1089 (by decide) (by decide) dX12_count_112 ?_
              obtain rfl := Option.some.inj hf
              exact wd_iret X hP hS hr0 dX12_count_113 ⟨rfl, rfl⟩
            · have hf := itF hf c_6
              by_cases c_7 : x1 = 6
              · have hf := itT hf c_7
                refine lv_tableIn (tgt := 114) (off := 113) hx hb dX12_count_1 (by rw [c_7]; decide) (by rw [c_7]; decide) (by rw [c_7]; decide) (by decide) ?_
                refine lv_aload_n hx hb dX12_count_114 rfl (lv_at hl 0 rfl) ?_
                refine wd_getI X hP L1088 fl_X12_372 rfl dX12_count_115 ?_
                obtain rfl := Option.some.inj hf
                exact wd_iret X hP hS hr0 dX12_count_118 ⟨rfl, rfl⟩
              · have hf := itF hf c_7
                by_cases c_8 : x1 = 7
                · have hf := itT hf c_8
                  refine lv_tableIn (tgt := 119) (off := 118) hx hb dX12_count_1 (by rw [c_8]; decide) (by rw [c_8]; decide) (by rw [c_8]; decide) (by decide) ?_
                  refine lv_aload_n hx hb dX12_count_119 rfl (lv_at hl 0 rfl) ?_
                  refine wd_getR (q := 1089) X hP L1088 fl_X12_9 rfl dX12_count_120 ?_
                  refine lv_bipush (v := 6) hx hb dX12_count_123 (by decide) ?_
                  refine wd_ialdK (k := 6) X hP L1089 (by decide) (by decide) dX12_count_125 ?_
                  obtain rfl := Option.some.inj hf
                  exact wd_iret X hP hS hr0 dX12_count_126 ⟨rfl, rfl⟩
                · have hf := itF hf c_8
                  by_cases c_9 : x1 = 8
                  · have hf := itT hf c_9
                    refine lv_tableIn (tgt := 127) (off := 126) hx hb dX12_count_1 (by rw [c_9]; decide) (by rw [c_9]; decide) (by rw [c_9]; decide) (by decide) ?_
                    refine lv_aload_n hx hb dX12_count_127 rfl (lv_at hl 0 rfl) ?_
                    obtain ⟨r_11, hc_10, hf⟩ := bi1S hf
                    refine wd_cv X hP hS L1088 ml_X12_606 ⟨_, _, rfl⟩ (c_X12_pieces l D dA zz bs mm r_11 hc_10) rfl ⟨Nat.le_of_ble_eq_true rfl, Nat.le_of_ble_eq_true rfl⟩ hl.1 rfl (rest := []) (Nat.le_of_ble_eq_true rfl) ⟨Nat.zero_le _, Nat.zero_le _⟩ dX12_count_128 (fun H locs hP hS => ?_)
                    refine W.eq (g2 := F0 m 131 ls [.int r_11]) rfl ?_
                    obtain rfl := Option.some.inj hf
                    exact wd_iret X hP hS hr0 dX12_count_131 ⟨rfl, rfl⟩
                  · have hf := itF hf c_9
                    by_cases c_12 : x1 = 9
                    · have hf := itT hf c_12
                      refine lv_tableIn (tgt := 132) (off := 131) hx hb dX12_count_1 (by rw [c_12]; decide) (by rw [c_12]; decide) (by rw [c_12]; decide) (by decide) ?_
                      refine lv_aload_n hx hb dX12_count_132 rfl (lv_at hl 0 rfl) ?_
                      obtain ⟨r_14, hc_13, hf⟩ := bi1S hf
                      refine wd_cv X hP hS L1088 ml_X12_393 ⟨_, _, rfl⟩ (c_X12_afloat l D dA zz bs mm r_14 hc_13) rfl ⟨Nat.le_of_ble_eq_true rfl, Nat.le_of_ble_eq_true rfl⟩ hl.1 rfl (rest := []) (Nat.le_of_ble_eq_true rfl) ⟨Nat.zero_le _, Nat.zero_le _⟩ dX12_count_133 (fun H locs hP hS => ?_)
                      refine W.eq (g2 := F0 m 136 ls [.int r_14]) rfl ?_
                      obtain rfl := Option.some.inj hf
                      exact wd_iret X hP hS hr0 dX12_count_136 ⟨rfl, rfl⟩
                    · have hf := itF hf c_12
                      by_cases c_15 : x1 = 10
                      · have hf := itT hf c_15
                        refine lv_tableIn (tgt := 137) (off := 136) hx hb dX12_count_1 (by rw [c_15]; decide) (by rw [c_15]; decide) (by rw [c_15]; decide) (by decide) ?_
                        refine lv_aload_n hx hb dX12_count_137 rfl (lv_at hl 0 rfl) ?_
                        refine wd_getR (q := 1089) X hP L1088 fl_X12_9 rfl dX12_count_138 ?_
                        refine lv_bipush (v := 7) hx hb dX12_count_141 (by decide) ?_
                        refine wd_ialdK (k := 7) X hP L1089 (by decide) (by decide) dX12_count_143 ?_
                        obtain rfl := Option.some.inj hf
                        exact wd_iret X hP hS hr0 dX12_count_144 ⟨rfl, rfl⟩
                      · have hf := itF hf c_15
                        by_cases c_16 : x1 = 11
                        · have hf := itT hf c_16
                          refine lv_tableIn (tgt := 145) (off := 144) hx hb dX12_count_1 (by rw [c_16]; decide) (by rw [c_16]; decide) (by rw [c_16]; decide) (by decide) ?_
                          refine lv_aload_n hx hb dX12_count_145 rfl (lv_at hl 0 rfl) ?_
                          refine wd_getI X hP L1088 fl_X12_359 rfl dX12_count_146 ?_
                          obtain rfl := Option.some.inj hf
                          exact wd_iret X hP hS hr0 dX12_count_149 ⟨rfl, rfl⟩
                        · have hf := itF hf c_16
                          by_cases c_17 : x1 = 12
                          · have hf := itT hf c_17
                            refine lv_tableIn (tgt := 150) (off := 149) hx hb dX12_count_1 (by rw [c_17]; decide) (by rw [c_17]; decide) (by rw [c_17]; decide) (by decide) ?_
                            refine lv_aload_n hx hb dX12_count_150 rfl (lv_at hl 0 rfl) ?_
                            refine wd_getR (q := 1089) X hP L1088 fl_X12_9 rfl dX12_count_151 ?_
                            refine lv_bipush (v := 8) hx hb dX12_count_154 (by decide) ?_
                            refine wd_ialdK (k := 8) X hP L1089 (by decide) (by decide) dX12_count_156 ?_
                            obtain rfl := Option.some.inj hf
                            exact wd_iret X hP hS hr0 dX12_count_157 ⟨rfl, rfl⟩
                          · have hf := itF hf c_17
                            by_cases c_18 : x1 = 13
                            · have hf := itT hf c_18
                              refine lv_tableIn (tgt := 158) (off := 157) hx hb dX12_count_1 (by rw [c_18]; decide) (by rw [c_18]; decide) (by rw [c_18]; decide) (by decide) ?_
                              refine lv_aload_n hx hb dX12_count_158 rfl (lv_at hl 0 rfl) ?_
                              refine wd_getI X hP L1088 fl_X12_184 rfl dX12_count_159 ?_
                              obtain rfl := Option.some.inj hf
                              exact wd_iret X hP hS hr0 dX12_count_162 ⟨rfl, rfl⟩
                            · have hf := itF hf c_18
                              refine lv_tableOut (tgt := 163) hx hb dX12_count_1 (tb_out14 c_1 c_2 c_3 c_4 c_5 c_6 c_7 c_8 c_9 c_12 c_15 c_16 c_17 c_18) (by decide) ?_
                              refine lv_iconst (v := -1) hx hb dX12_count_163 (by decide) ?_
                              obtain rfl := Option.some.inj hf
                              exact wd_iret X hP hS hr0 dX12_count_164 ⟨rfl, rfl⟩

noncomputable def f_X12_image (mm : Mm) (x1 : Int32) : Option (Int32 × Mm) :=
  if (f_X12_in (x1.toInt64) (0 : Int64) (3 : Int64)) = 0 then
    some ((-1 : Int32), mm)
  else
    if x1 < 0 ∨ 4 ≤ x1.toNatClampNeg then none else
      vlet (wI mm 1140 x1.toNatClampNeg (vp_nar .boolean (1 : Int32))) fun mm_2 =>
        bi1 (f_X12_carriesAll mm_2 x1 (0 : Int32)) fun mm_4 => some ((mm_4.1 1089 6), mm_4)
set_option maxHeartbeats 4000000 in
set_option maxRecDepth 100000 in
theorem c_X12_image (l : Launch) (D : va_G) (dA : Nat → ClassId) (zz : (Nat → Nat) × (Nat → Nat)) (bs : Nat) (mm : Mm) (x1 : Int32) (out : Int32) (m1 : Mm) (hf : f_X12_image mm x1 = some (out, m1)) : Mw l D dA zz bs LY yX12_image cX12_image 2 (some .int) 2 44 [.ref (bs + 1088), .int x1] mm (some (.int out)) m1 := by
  refine Mw.of (own := RX12) (by decide) rfl (Nat.le_of_ble_eq_true rfl) ?_
  intro p e s m args below meth c X hr0 hP hS ls hl
  have hx := X.1
  have hb := X.2.1
  obtain ⟨H, hH⟩ : ∃ z : Heap, z = s.heap := ⟨_, rfl⟩
  obtain ⟨locs, hL⟩ : ∃ z : List Loc, z = [] := ⟨_, rfl⟩
  rw [← hH, ← hL]
  have hS : va_S (Aq bs) s.heap H locs := by rw [hH, hL]; exact hS
  have hP : Wd D dA bs LY mm H := by rw [hH]; exact hP
  have hl : lv_has ls 2 [(0, .ref (bs + 1088)), (1, .int x1)] := hl
  unfold f_X12_image at hf
  refine lv_iload_n hx hb dX12_image_0 rfl (lv_at hl 1 rfl) ?_
  refine lv_i2l hx hb dX12_image_1 rfl ?_
  refine lv_lconst (v := 0) hx hb dX12_image_2 (by decide) ?_
  refine lv_ldc2 (own := RX12) (v := 3) hx hb X.2.2.2.1 (X.2.2.2.2.1 _ (tb_at 1741 (by decide +kernel) (by decide +kernel))) dX12_image_3 ?_
  refine wd_cs X hP hS ml_X12_176 (c_X12_in l D dA zz bs mm (x1.toInt64) (0 : Int64) (3 : Int64) (f_X12_in (x1.toInt64) (0 : Int64) (3 : Int64)) rfl) rfl ⟨Nat.le_of_ble_eq_true rfl, Nat.le_of_ble_eq_true rfl⟩ hl.1 rfl (rest := []) (Nat.le_of_ble_eq_true rfl) ⟨Nat.zero_le _, Nat.zero_le _⟩ dX12_image_6 (fun H locs hP hS => ?_)
  refine W.eq (g2 := F0 m 9 ls [.int (f_X12_in (x1.toInt64) (0 : Int64) (3 : Int64))]) rfl ?_
  refine lv_if_ne (tgt := 14) hx hb dX12_image_9 (by decide) (fun c_1 => ?_) (fun c_1 => ?_)
  · have hf := itF hf c_1
    refine lv_aload_n hx hb dX12_image_14 rfl (lv_at hl 0 rfl) ?_
    refine wd_getR (q := 1140) X hP L1088 fl_X12_170 rfl dX12_image_15 ?_
    refine lv_iload_n hx hb dX12_image_18 rfl (lv_at hl 1 rfl) ?_
    refine lv_iconst (v := 1) hx hb dX12_image_19 (by decide) ?_
    have g_3 := gdN hf
    have hf := gdK hf
    refine wd_zast X hP hS L1140 g_3 dX12_image_20 (fun H locs mm_2 emm_2 hP hS => ?_)
    have hf := vl hf emm_2
    refine lv_aload_n hx hb dX12_image_21 rfl (lv_at hl 0 rfl) ?_
    refine lv_iload_n hx hb dX12_image_22 rfl (lv_at hl 1 rfl) ?_
    refine lv_iconst (v := 0) hx hb dX12_image_23 (by decide) ?_
    obtain ⟨mm_4, hc_5, hf⟩ := bi1S hf
    refine wd_cv X hP hS L1088 ml_X12_516 ⟨_, _, rfl⟩ (c_X12_carriesAll l D dA zz bs mm_2 x1 (0 : Int32) mm_4 hc_5) rfl ⟨Nat.le_of_ble_eq_true rfl, Nat.le_of_ble_eq_true rfl⟩ hl.1 rfl (rest := []) (Nat.le_of_ble_eq_true rfl) ⟨Nat.zero_le _, Nat.zero_le _⟩ dX12_image_24 (fun H locs hP hS => ?_)
    refine W.eq (g2 := F0 m 27 ls []) rfl ?_
    refine lv_aload_n hx hb dX12_image_27 rfl (lv_at hl 0 rfl) ?_
    refine wd_getR (q := 1089) X hP L1088 fl_X12_9 rfl dX12_image_28 ?_
    refine lv_bipush (v := 6) hx hb dX12_image_31 (by decide) ?_
    refine wd_ialdK (k := 6) X hP L1089 (by decide) (by decide) dX12_image_33 ?_
    obtain ⟨rfl, rfl⟩ := Prod.mk.inj (Option.some.inj hf)
    exact wd_iret X hP hS hr0 dX12_image_34 ⟨rfl, rfl⟩
  · have hf := itT hf c_1
    refine lv_iconst (v := -1) hx hb dX12_image_12 (by decide) ?_
    obtain ⟨rfl, rfl⟩ := Prod.mk.inj (Option.some.inj hf)
    exact wd_iret X hP hS hr0 dX12_image_13 ⟨rfl, rfl⟩

noncomputable def f_X12_back (mm : Mm) (x1 : Int32) : Option (Int32 × Mm) :=
  if (f_X12_in (x1.toInt64) (0 : Int64) (3 : Int64)) = 0 then
    some ((-1 : Int32), mm)
  else
    if x1 < 0 ∨ 4 ≤ x1.toNatClampNeg then none else
      if (mm.1 1140 x1.toNatClampNeg) = 0 then
        some ((-1 : Int32), mm)
      else
        bi1 (f_X12_carriesAll mm x1 (1 : Int32)) fun mm_4 => some ((mm_4.1 1089 6), mm_4)
set_option maxHeartbeats 4000000 in
set_option maxRecDepth 100000 in
theorem c_X12_back (l : Launch) (D : va_G) (dA : Nat → ClassId) (zz : (Nat → Nat) × (Nat → Nat)) (bs : Nat) (mm : Mm) (x1 : Int32) (out : Int32) (m1 : Mm) (hf : f_X12_back mm x1 = some (out, m1)) : Mw l D dA zz bs LY yX12_back cX12_back 2 (some .int) 2 44 [.ref (bs + 1088), .int x1] mm (some (.int out)) m1 := by
  refine Mw.of (own := RX12) (by decide) rfl (Nat.le_of_ble_eq_true rfl) ?_
  intro p e s m args below meth c X hr0 hP hS ls hl
  have hx := X.1
  have hb := X.2.1
  obtain ⟨H, hH⟩ : ∃ z : Heap, z = s.heap := ⟨_, rfl⟩
  obtain ⟨locs, hL⟩ : ∃ z : List Loc, z = [] := ⟨_, rfl⟩
  rw [← hH, ← hL]
  have hS : va_S (Aq bs) s.heap H locs := by rw [hH, hL]; exact hS
  have hP : Wd D dA bs LY mm H := by rw [hH]; exact hP
  have hl : lv_has ls 2 [(0, .ref (bs + 1088)), (1, .int x1)] := hl
  unfold f_X12_back at hf
  refine lv_iload_n hx hb dX12_back_0 rfl (lv_at hl 1 rfl) ?_
  refine lv_i2l hx hb dX12_back_1 rfl ?_
  refine lv_lconst (v := 0) hx hb dX12_back_2 (by decide) ?_
  refine lv_ldc2 (own := RX12) (v := 3) hx hb X.2.2.2.1 (X.2.2.2.2.1 _ (tb_at 1741 (by decide +kernel) (by decide +kernel))) dX12_back_3 ?_
  refine wd_cs X hP hS ml_X12_176 (c_X12_in l D dA zz bs mm (x1.toInt64) (0 : Int64) (3 : Int64) (f_X12_in (x1.toInt64) (0 : Int64) (3 : Int64)) rfl) rfl ⟨Nat.le_of_ble_eq_true rfl, Nat.le_of_ble_eq_true rfl⟩ hl.1 rfl (rest := []) (Nat.le_of_ble_eq_true rfl) ⟨Nat.zero_le _, Nat.zero_le _⟩ dX12_back_6 (fun H locs hP hS => ?_)
  refine W.eq (g2 := F0 m 9 ls [.int (f_X12_in (x1.toInt64) (0 : Int64) (3 : Int64))]) rfl ?_
  refine lv_if_eq (tgt := 21) hx hb dX12_back_9 (by decide) (fun c_1 => ?_) (fun c_1 => ?_)
  · have hf := itT hf c_1
    refine lv_iconst (v := -1) hx hb dX12_back_21 (by decide) ?_
    obtain ⟨rfl, rfl⟩ := Prod.mk.inj (Option.some.inj hf)
    exact wd_iret X hP hS hr0 dX12_back_22 ⟨rfl, rfl⟩
  · have hf := itF hf c_1
    refine lv_aload_n hx hb dX12_back_12 rfl (lv_at hl 0 rfl) ?_
    refine wd_getR (q := 1140) X hP L1088 fl_X12_170 rfl dX12_back_13 ?_
    refine lv_iload_n hx hb dX12_back_16 rfl (lv_at hl 1 rfl) ?_
    have g_2 := gdN hf
    have hf := gdK hf
    refine wd_zald X hP L1140 g_2 dX12_back_17 ?_
    refine lv_if_ne (tgt := 23) hx hb dX12_back_18 (by decide) (fun c_3 => ?_) (fun c_3 => ?_)
    · have hf := itF hf c_3
      refine lv_aload_n hx hb dX12_back_23 rfl (lv_at hl 0 rfl) ?_
      refine lv_iload_n hx hb dX12_back_24 rfl (lv_at hl 1 rfl) ?_
      refine lv_iconst (v := 1) hx hb dX12_back_25 (by decide) ?_
      obtain ⟨mm_4, hc_5, hf⟩ := bi1S hf
      refine wd_cv X hP hS L1088 ml_X12_516 ⟨_, _, rfl⟩ (c_X12_carriesAll l D dA zz bs mm x1 (1 : Int32) mm_4 hc_5) rfl ⟨Nat.le_of_ble_eq_true rfl, Nat.le_of_ble_eq_true rfl⟩ hl.1 rfl (rest := []) (Nat.le_of_ble_eq_true rfl) ⟨Nat.zero_le _, Nat.zero_le _⟩ dX12_back_26 (fun H locs hP hS => ?_)
      refine W.eq (g2 := F0 m 29 ls []) rfl ?_
      refine lv_aload_n hx hb dX12_back_29 rfl (lv_at hl 0 rfl) ?_
      refine wd_getR (q := 1089) X hP L1088 fl_X12_9 rfl dX12_back_30 ?_
      refine lv_bipush (v := 6) hx hb dX12_back_33 (by decide) ?_
      refine wd_ialdK (k := 6) X hP L1089 (by decide) (by decide) dX12_back_35 ?_
      obtain ⟨rfl, rfl⟩ := Prod.mk.inj (Option.some.inj hf)
      exact wd_iret X hP hS hr0 dX12_back_36 ⟨rfl, rfl⟩
    · have hf := itT hf c_3
      refine lv_iconst (v := -1) hx hb dX12_back_21 (by decide) ?_
      obtain ⟨rfl, rfl⟩ := Prod.mk.inj (Option.some.inj hf)
      exact wd_iret X hP hS hr0 dX12_back_22 ⟨rfl, rfl⟩
