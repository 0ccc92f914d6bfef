noncomputable def f_X12_marginOf (mm : Mm) (x1 : Int32) (x2 : Int32) : Option (Int32) :=
  bi1 (f_X12_floatOf mm x1) fun r_2 =>
    bi1 (f_X12_weightOf mm x1) fun r_4 =>
      bi1 (f_X12_ridersOf mm x1 x2) fun r_6 => some ((r_2 - r_4) - r_6)
set_option maxHeartbeats 4000000 in
set_option maxRecDepth 100000 in
theorem c_X12_marginOf (l : Launch) (D : va_G) (dA : Nat → ClassId) (zz : (Nat → Nat) × (Nat → Nat)) (bs : Nat) (mm : Mm) (x1 : Int32) (x2 : Int32) (out : Int32) (hf : f_X12_marginOf mm x1 x2 = some out) : Mw l D dA zz bs LY yX12_marginOf cX12_marginOf 3 (some .int) 4 103 [.ref (bs + 1088), .int x1, .int x2] mm (some (.int out)) mm := by
  refine Mw.of (own := RX12) (by decide) rfl (Nat.le_of_ble_eq_true rfl) ?_
  intro p e s m args below meth c X hr0 hP hS ls hl
  have hx := X.1
  have hb := X.2.1
  obtain ⟨H, hH⟩ : ∃ z : Heap, z = s.heap := ⟨_, rfl⟩
  obtain ⟨locs, hL⟩ : ∃ z : List Loc, z = [] := ⟨_, rfl⟩
  rw [← hH, ← hL]
  have hS : va_S (Aq bs) s.heap H locs := by rw [hH, hL]; exact hS
  have hP : Wd D dA bs LY mm H := by rw [hH]; exact hP
  have hl : lv_has ls 3 [(0, .ref (bs + 1088)), (1, .int x1), (2, .int x2)] := hl
  unfold f_X12_marginOf at hf
  refine lv_aload_n hx hb dX12_marginOf_0 rfl (lv_at hl 0 rfl) ?_
  refine lv_iload_n hx hb dX12_marginOf_1 rfl (lv_at hl 1 rfl) ?_
  obtain ⟨r_2, hc_1, hf⟩ := bi1S hf
  refine wd_cv X hP hS L1088 ml_X12_406 ⟨_, _, rfl⟩ (c_X12_floatOf l D dA zz bs mm x1 r_2 hc_1) rfl ⟨Nat.le_of_ble_eq_true rfl, Nat.le_of_ble_eq_true rfl⟩ hl.1 rfl (rest := []) (Nat.le_of_ble_eq_true rfl) ⟨Nat.zero_le _, Nat.zero_le _⟩ dX12_marginOf_2 (fun H locs hP hS => ?_)
  refine W.eq (g2 := F0 m 5 ls [.int r_2]) rfl ?_
  refine lv_aload_n hx hb dX12_marginOf_5 rfl (lv_at hl 0 rfl) ?_
  refine lv_iload_n hx hb dX12_marginOf_6 rfl (lv_at hl 1 rfl) ?_
  obtain ⟨r_4, hc_3, hf⟩ := bi1S hf
  refine wd_cv X hP hS L1088 ml_X12_409 ⟨_, _, rfl⟩ (c_X12_weightOf l D dA zz bs mm x1 r_4 hc_3) rfl ⟨Nat.le_of_ble_eq_true rfl, Nat.le_of_ble_eq_true rfl⟩ hl.1 rfl (rest := [.int r_2]) (Nat.le_of_ble_eq_true rfl) ⟨Nat.zero_le _, Nat.zero_le _⟩ dX12_marginOf_7 (fun H locs hP hS => ?_)
  refine W.eq (g2 := F0 m 10 ls [.int r_4, .int r_2]) rfl ?_
  refine lv_isub hx hb dX12_marginOf_10 ?_
  refine lv_aload_n hx hb dX12_marginOf_11 rfl (lv_at hl 0 rfl) ?_
  refine lv_iload_n hx hb dX12_marginOf_12 rfl (lv_at hl 1 rfl) ?_
  refine lv_iload_n hx hb dX12_marginOf_13 rfl (lv_at hl 2 rfl) ?_
  obtain ⟨r_6, hc_5, hf⟩ := bi1S hf
  refine wd_cv X hP hS L1088 ml_X12_412 ⟨_, _, rfl⟩ (c_X12_ridersOf l D dA zz bs mm x1 x2 r_6 hc_5) rfl ⟨Nat.le_of_ble_eq_true rfl, Nat.le_of_ble_eq_true rfl⟩ hl.1 rfl (rest := [.int (r_2 - r_4)]) (Nat.le_of_ble_eq_true rfl) ⟨Nat.zero_le _, Nat.zero_le _⟩ dX12_marginOf_14 (fun H locs hP hS => ?_)
  refine W.eq (g2 := F0 m 17 ls [.int r_6, .int (r_2 - r_4)]) rfl ?_
  refine lv_isub hx hb dX12_marginOf_17 ?_
  obtain rfl := Option.some.inj hf
  exact wd_iret X hP hS hr0 dX12_marginOf_18 ⟨rfl, rfl⟩

noncomputable def f_X12_sinking_j77 (mm : Mm) (y1 : Int32) (y2 : Int32) (y4 : Int32) (y5 : Int32) (z0 : Int32) (z1 : Int32) : Option ((Int32 × Int32 × Int32) ⊕ (Int32)) :=
  some (.inl ((z1 ||| z0), y4, (y5 + 1)))
noncomputable def f_X12_sinking_s13 (mm : Mm) (y1 : Int32) (y2 : Int32) : (Int32 × Int32 × Int32) → Option ((Int32 × Int32 × Int32) ⊕ (Int32)) :=
  fun q => match q with
  | (y3, y4, y5) =>
    if (mm.1 1089 3) ≤ y5 then
      some (.inr y3)
    else
      if (f_X12_has y2 y5) = 0 then
        some (.inl (y3, y4, (y5 + 1)))
      else
        if (f_X12_has y4 y5) = 0 then
          bi1 (f_X12_hangsWith mm y5 y2 y1) fun r_8 =>
            bi1 (f_X12_marginOf mm r_8 y1) fun r_10 =>
              if 0 ≤ r_10 then
                f_X12_sinking_j77 mm y1 y2 (y4 ||| r_8) y5 (0 : Int32) y3
              else
                f_X12_sinking_j77 mm y1 y2 (y4 ||| r_8) y5 r_8 y3
        else
          some (.inl (y3, y4, (y5 + 1)))
noncomputable def f_X12_sinking (mm : Mm) (x1 : Int32) : Option (Int32) :=
  bi1 (f_X12_afloat mm) fun r_2 =>
    bi1 (lp (f_X12_sinking_s13 mm x1 r_2) ((0 : Int32), (0 : Int32), (0 : Int32))) fun w3_13 =>
      some w3_13
set_option maxHeartbeats 4000000 in
set_option maxRecDepth 100000 in
theorem c_X12_sinking (l : Launch) (D : va_G) (dA : Nat → ClassId) (zz : (Nat → Nat) × (Nat → Nat)) (bs : Nat) (mm : Mm) (x1 : Int32) (out : Int32) (hf : f_X12_sinking mm x1 = some out) : Mw l D dA zz bs LY yX12_sinking cX12_sinking 7 (some .int) 5 125 [.ref (bs + 1088), .int x1] mm (some (.int out)) mm := by
  refine Mw.of (own := RX12) (by decide) rfl (Nat.le_of_ble_eq_true rfl) ?_
  intro p e s m args below meth c X hr0 hP hS ls hl
  have hx := X.1
  have hb := X.2.1
  obtain ⟨H, hH⟩ : ∃ z : Heap, z = s.heap := ⟨_, rfl⟩
  obtain ⟨locs, hL⟩ : ∃ z : List Loc, z = [] := ⟨_, rfl⟩
  rw [← hH, ← hL]
  have hS : va_S (Aq bs) s.heap H locs := by rw [hH, hL]; exact hS
  have hP : Wd D dA bs LY mm H := by rw [hH]; exact hP
  have hl : lv_has ls 7 [(0, .ref (bs + 1088)), (1, .int x1)] := hl
  unfold f_X12_sinking at hf
  refine lv_aload_n hx hb dX12_sinking_0 rfl (lv_at hl 0 rfl) ?_
  obtain ⟨r_2, hc_1, hf⟩ := bi1S hf
  refine wd_cv X hP hS L1088 ml_X12_393 ⟨_, _, rfl⟩ (c_X12_afloat l D dA zz bs mm r_2 hc_1) rfl ⟨Nat.le_of_ble_eq_true rfl, Nat.le_of_ble_eq_true rfl⟩ hl.1 rfl (rest := []) (Nat.le_of_ble_eq_true rfl) ⟨Nat.zero_le _, Nat.zero_le _⟩ dX12_sinking_1 (fun H locs hP hS => ?_)
  refine W.eq (g2 := F0 m 4 ls [.int r_2]) rfl ?_
  refine lv_istore_n (lv' := [(2, .int r_2), (0, .ref (bs + 1088)), (1, .int x1)]) hx hb dX12_sinking_4 rfl hl (by decide) rfl (fun ls hl => ?_)
  refine lv_iconst (v := 0) hx hb dX12_sinking_5 (by decide) ?_
  refine lv_istore_n (lv' := [(3, .int (0 : Int32)), (2, .int r_2), (0, .ref (bs + 1088)), (1, .int x1)]) hx hb dX12_sinking_6 rfl hl (by decide) rfl (fun ls hl => ?_)
  refine lv_iconst (v := 0) hx hb dX12_sinking_7 (by decide) ?_
  refine lv_istore (lv' := [(4, .int (0 : Int32)), (3, .int (0 : Int32)), (2, .int r_2), (0, .ref (bs + 1088)), (1, .int x1)]) hx hb dX12_sinking_8 hl (by decide) rfl (fun ls hl => ?_)
  refine lv_iconst (v := 0) hx hb dX12_sinking_10 (by decide) ?_
  refine lv_istore (lv' := [(5, .int (0 : Int32)), (4, .int (0 : Int32)), (3, .int (0 : Int32)), (2, .int r_2), (0, .ref (bs + 1088)), (1, .int x1)]) hx hb dX12_sinking_11 hl (by decide) rfl (fun ls hl => ?_)
  obtain ⟨q_14, hlp_15, hf⟩ := bi1S hf
  refine lp_walk (Wh := (fun z => match z with | (y3L_12, y4L_12, y5L_12) => ∀ (H : Heap) (locs : List Loc) (ls : Array Slot), Wd D dA bs LY mm H → va_S (Aq bs) s.heap H locs → lv_has ls 7 [(0, .ref (bs + 1088)), (1, .int x1), (2, .int r_2), (3, .int y3L_12), (4, .int y4L_12), (5, .int y5L_12)] → Wz p l e s m args below meth c D dA bs (some (.int out)) mm 5 125 H locs 13 ls [])) (Ph := (fun w3_13 => ∀ (H : Heap) (locs : List Loc) (ls : Array Slot), Wd D dA bs LY mm H → va_S (Aq bs) s.heap H locs → lv_has ls 7 [(3, .int w3_13)] → Wz p l e s m args below meth c D dA bs (some (.int out)) mm 5 125 H locs 85 ls [])) ?_ hlp_15 ?_ H locs ls hP hS (lv_sub hl [4, 5, 3, 2, 1, 0] rfl)
  · intro z o hf hB hE
    obtain ⟨y3L_12, y4L_12, y5L_12⟩ := z
    intro H locs ls hP hS hl
    have hf : f_X12_sinking_s13 mm x1 r_2 (y3L_12, y4L_12, y5L_12) = some o := hf
    unfold f_X12_sinking_s13 at hf
    dsimp only at hf
    have hJ77 : ∀ (y4J_3 : Int32) (y5J_3 : Int32) (z0J_3 : Int32) (z1J_3 : Int32) (H : Heap) (locs : List Loc) (ls : Array Slot), f_X12_sinking_j77 mm x1 r_2 y4J_3 y5J_3 z0J_3 z1J_3 = some o → Wd D dA bs LY mm H → va_S (Aq bs) s.heap H locs → lv_has ls 7 [(0, .ref (bs + 1088)), (1, .int x1), (2, .int r_2), (4, .int y4J_3), (5, .int y5J_3)] → Wz p l e s m args below meth c D dA bs (some (.int out)) mm 5 125 H locs 77 ls [.int z0J_3, .int z1J_3] := by
      intro y4J_3 y5J_3 z0J_3 z1J_3 H locs ls hf hP hS hl
      unfold f_X12_sinking_j77 at hf
      refine lv_ior hx hb dX12_sinking_77 ?_
      refine lv_istore_n (lv' := [(3, .int (z1J_3 ||| z0J_3)), (0, .ref (bs + 1088)), (1, .int x1), (2, .int r_2), (4, .int y4J_3), (5, .int y5J_3)]) hx hb dX12_sinking_78 rfl hl (by decide) rfl (fun ls hl => ?_)
      refine lv_iinc (v := (y5J_3 + 1)) (lv' := [(5, .int (y5J_3 + 1)), (3, .int (z1J_3 ||| z0J_3)), (0, .ref (bs + 1088)), (1, .int x1), (2, .int r_2), (4, .int y4J_3)]) hx hb dX12_sinking_79 hl (k := 5) rfl rfl (by decide) rfl (fun ls hl => ?_)
      refine lv_goto (tgt := 13) hx hb dX12_sinking_82 (by decide) ?_
      obtain rfl := Option.some.inj hf
      exact hB _ rfl H locs ls hP hS (lv_sub hl [2, 3, 4, 1, 5, 0] rfl)
    refine lv_iload hx hb dX12_sinking_13 (lv_at hl 5 rfl) ?_
    refine lv_aload_n hx hb dX12_sinking_15 rfl (lv_at hl 0 rfl) ?_
    refine wd_getR (q := 1089) X hP L1088 fl_X12_9 rfl dX12_sinking_16 ?_
    refine lv_iconst (v := 3) hx hb dX12_sinking_19 (by decide) ?_
    refine wd_ialdK (k := 3) X hP L1089 (by decide) (by decide) dX12_sinking_20 ?_
    refine lv_icmp_ge (tgt := 85) hx hb dX12_sinking_21 (by decide) (fun c_4 => ?_) (fun c_4 => ?_)
    · have hf := itT hf c_4
      obtain rfl := Option.some.inj hf
      exact hE _ rfl H locs ls hP hS (lv_sub hl [3] rfl)
    · have hf := itF hf c_4
      refine lv_iload_n hx hb dX12_sinking_24 rfl (lv_at hl 2 rfl) ?_
      refine lv_iload hx hb dX12_sinking_25 (lv_at hl 5 rfl) ?_
      refine wd_cs X hP hS ml_X12_390 (c_X12_has l D dA zz bs mm r_2 y5L_12 (f_X12_has r_2 y5L_12) rfl) rfl ⟨Nat.le_of_ble_eq_true rfl, Nat.le_of_ble_eq_true rfl⟩ hl.1 rfl (rest := []) (Nat.le_of_ble_eq_true rfl) ⟨Nat.zero_le _, Nat.zero_le _⟩ dX12_sinking_27 (fun H locs hP hS => ?_)
      refine W.eq (g2 := F0 m 30 ls [.int (f_X12_has r_2 y5L_12)]) rfl ?_
      refine lv_if_eq (tgt := 79) hx hb dX12_sinking_30 (by decide) (fun c_5 => ?_) (fun c_5 => ?_)
      · have hf := itT hf c_5
        refine lv_iinc (v := (y5L_12 + 1)) (lv' := [(5, .int (y5L_12 + 1)), (0, .ref (bs + 1088)), (1, .int x1), (2, .int r_2), (3, .int y3L_12), (4, .int y4L_12)]) hx hb dX12_sinking_79 hl (k := 5) rfl rfl (by decide) rfl (fun ls hl => ?_)
        refine lv_goto (tgt := 13) hx hb dX12_sinking_82 (by decide) ?_
        obtain rfl := Option.some.inj hf
        exact hB _ rfl H locs ls hP hS (lv_sub hl [1, 2, 3, 4, 5, 0] rfl)
      · have hf := itF hf c_5
        refine lv_iload hx hb dX12_sinking_33 (lv_at hl 4 rfl) ?_
        refine lv_iload hx hb dX12_sinking_35 (lv_at hl 5 rfl) ?_
        refine wd_cs X hP hS ml_X12_390 (c_X12_has l D dA zz bs mm y4L_12 y5L_12 (f_X12_has y4L_12 y5L_12) rfl) rfl ⟨Nat.le_of_ble_eq_true rfl, Nat.le_of_ble_eq_true rfl⟩ hl.1 rfl (rest := []) (Nat.le_of_ble_eq_true rfl) ⟨Nat.zero_le _, Nat.zero_le _⟩ dX12_sinking_37 (fun H locs hP hS => ?_)
        refine W.eq (g2 := F0 m 40 ls [.int (f_X12_has y4L_12 y5L_12)]) rfl ?_
        refine lv_if_ne (tgt := 79) hx hb dX12_sinking_40 (by decide) (fun c_6 => ?_) (fun c_6 => ?_)
        · have hf := itF hf c_6
          refine lv_iinc (v := (y5L_12 + 1)) (lv' := [(5, .int (y5L_12 + 1)), (0, .ref (bs + 1088)), (1, .int x1), (2, .int r_2), (3, .int y3L_12), (4, .int y4L_12)]) hx hb dX12_sinking_79 hl (k := 5) rfl rfl (by decide) rfl (fun ls hl => ?_)
          refine lv_goto (tgt := 13) hx hb dX12_sinking_82 (by decide) ?_
          obtain rfl := Option.some.inj hf
          exact hB _ rfl H locs ls hP hS (lv_sub hl [1, 2, 3, 4, 5, 0] rfl)
        · have hf := itT hf c_6
          refine lv_aload_n hx hb dX12_sinking_43 rfl (lv_at hl 0 rfl) ?_
          refine lv_iload hx hb dX12_sinking_44 (lv_at hl 5 rfl) ?_
          refine lv_iload_n hx hb dX12_sinking_46 rfl (lv_at hl 2 rfl) ?_
          refine lv_iload_n hx hb dX12_sinking_47 rfl (lv_at hl 1 rfl) ?_
          obtain ⟨r_8, hc_7, hf⟩ := bi1S hf
          refine wd_cv X hP hS L1088 ml_X12_399 ⟨_, _, rfl⟩ (c_X12_hangsWith l D dA zz bs mm y5L_12 r_2 x1 r_8 hc_7) rfl ⟨Nat.le_of_ble_eq_true rfl, Nat.le_of_ble_eq_true rfl⟩ hl.1 rfl (rest := []) (Nat.le_of_ble_eq_true rfl) ⟨Nat.zero_le _, Nat.zero_le _⟩ dX12_sinking_48 (fun H locs hP hS => ?_)
          refine W.eq (g2 := F0 m 51 ls [.int r_8]) rfl ?_
          refine lv_istore (lv' := [(6, .int r_8), (0, .ref (bs + 1088)), (1, .int x1), (2, .int r_2), (3, .int y3L_12), (4, .int y4L_12), (5, .int y5L_12)]) hx hb dX12_sinking_51 hl (by decide) rfl (fun ls hl => ?_)
          refine lv_iload hx hb dX12_sinking_53 (lv_at hl 5 rfl) ?_
          refine lv_iload hx hb dX12_sinking_55 (lv_at hl 0 rfl) ?_
          refine lv_ior hx hb dX12_sinking_57 ?_
          refine lv_istore (lv' := [(4, .int (y4L_12 ||| r_8)), (6, .int r_8), (0, .ref (bs + 1088)), (1, .int x1), (2, .int r_2), (3, .int y3L_12), (5, .int y5L_12)]) hx hb dX12_sinking_58 hl (by decide) rfl (fun ls hl => ?_)
          refine lv_iload_n hx hb dX12_sinking_60 rfl (lv_at hl 5 rfl) ?_
          refine lv_aload_n hx hb dX12_sinking_61 rfl (lv_at hl 2 rfl) ?_
          refine lv_iload hx hb dX12_sinking_62 (lv_at hl 1 rfl) ?_
          refine lv_iload_n hx hb dX12_sinking_64 rfl (lv_at hl 3 rfl) ?_
          obtain ⟨r_10, hc_9, hf⟩ := bi1S hf
          refine wd_cv X hP hS L1088 ml_X12_415 ⟨_, _, rfl⟩ (c_X12_marginOf l D dA zz bs mm r_8 x1 r_10 hc_9) rfl ⟨Nat.le_of_ble_eq_true rfl, Nat.le_of_ble_eq_true rfl⟩ hl.1 rfl (rest := [.int y3L_12]) (Nat.le_of_ble_eq_true rfl) ⟨Nat.zero_le _, Nat.zero_le _⟩ dX12_sinking_65 (fun H locs hP hS => ?_)
          refine W.eq (g2 := F0 m 68 ls [.int r_10, .int y3L_12]) rfl ?_
          refine lv_if_ge (tgt := 76) hx hb dX12_sinking_68 (by decide) (fun c_11 => ?_) (fun c_11 => ?_)
          · have hf := itT hf c_11
            refine lv_iconst (v := 0) hx hb dX12_sinking_76 (by decide) ?_
            exact hJ77 (y4L_12 ||| r_8) y5L_12 (0 : Int32) y3L_12 H locs ls hf hP hS (lv_sub hl [2, 3, 4, 0, 6] rfl)
          · have hf := itF hf c_11
            refine lv_iload hx hb dX12_sinking_71 (lv_at hl 1 rfl) ?_
            refine lv_goto (tgt := 77) hx hb dX12_sinking_73 (by decide) ?_
            exact hJ77 (y4L_12 ||| r_8) y5L_12 r_8 y3L_12 H locs ls hf hP hS (lv_sub hl [2, 3, 4, 0, 6] rfl)
  · obtain ⟨w3_13, e_w3_13⟩ : ∃ z, z = q_14 := ⟨_, rfl⟩
    subst e_w3_13
    intro H locs ls hP hS hl
    refine lv_iload_n hx hb dX12_sinking_85 rfl (lv_at hl 0 rfl) ?_
    obtain rfl := Option.some.inj hf
    exact wd_iret X hP hS hr0 dX12_sinking_86 ⟨rfl, rfl⟩

noncomputable def f_X12_owner (mm : Mm) (x1 : Int32) (x2 : Int32) : Option (Int32) :=
  bi1 (f_X12_isOwner mm x1) fun r_2 =>
    if r_2 = 0 then
      some (-1 : Int32)
    else
      if x2 = 0 then
        if x1 < 0 ∨ 6 ≤ x1.toNatClampNeg then none else some (mm.1 1090 x1.toNatClampNeg)
      else if x2 = 1 then
        if x1 < 0 ∨ 6 ≤ x1.toNatClampNeg then none else some (mm.1 1091 x1.toNatClampNeg)
      else if x2 = 2 then
        if x1 < 0 ∨ 6 ≤ x1.toNatClampNeg then none else some (mm.1 1092 x1.toNatClampNeg)
      else if x2 = 3 then
        bi1 (f_X12_riddenBy mm x1 (f_X12_allRopes mm)) fun r_12 =>
          if r_12 = 0 then
            some (-1 : Int32)
          else
            bi1 (f_X12_least mm r_12) fun r_15 => some r_15
      else
        some (-1 : Int32)
set_option maxHeartbeats 4000000 in
set_option maxRecDepth 100000 in
theorem c_X12_owner (l : Launch) (D : va_G) (dA : Nat → ClassId) (zz : (Nat → Nat) × (Nat → Nat)) (bs : Nat) (mm : Mm) (x1 : Int32) (x2 : Int32) (out : Int32) (hf : f_X12_owner mm x1 x2 = some out) : Mw l D dA zz bs LY yX12_owner cX12_owner 4 (some .int) 3 79 [.ref (bs + 1088), .int x1, .int x2] mm (some (.int out)) mm := by
  refine Mw.of (own := RX12) (by decide) rfl (Nat.le_of_ble_eq_true rfl) ?_
  intro p e s m args below meth c X hr0 hP hS ls hl
  have hx := X.1
  have hb := X.2.1
  obtain ⟨H, hH⟩ : ∃ z : Heap, z = s.heap := ⟨_, rfl⟩
  obtain ⟨locs, hL⟩ : ∃ z : List Loc, z = [] := ⟨_, rfl⟩
  rw [← hH, ← hL]
  have hS : va_S (Aq bs) s.heap H locs := by rw [hH, hL]; exact hS
  have hP : Wd D dA bs LY mm H := by rw [hH]; exact hP
  have hl : lv_has ls 4 [(0, .ref (bs + 1088)), (1, .int x1), (2, .int x2)] := hl
  unfold f_X12_owner at hf
  refine lv_aload_n hx hb dX12_owner_0 rfl (lv_at hl 0 rfl) ?_
  refine lv_iload_n hx hb dX12_owner_1 rfl (lv_at hl 1 rfl) ?_
  obtain ⟨r_2, hc_1, hf⟩ := bi1S hf
  refine wd_cv X hP hS L1088 ml_X12_418 ⟨_, _, rfl⟩ (c_X12_isOwner l D dA zz bs mm x1 r_2 hc_1) rfl ⟨Nat.le_of_ble_eq_true rfl, Nat.le_of_ble_eq_true rfl⟩ hl.1 rfl (rest := []) (Nat.le_of_ble_eq_true rfl) ⟨Nat.zero_le _, Nat.zero_le _⟩ dX12_owner_2 (fun H locs hP hS => ?_)
  refine W.eq (g2 := F0 m 5 ls [.int r_2]) rfl ?_
  refine lv_if_ne (tgt := 10) hx hb dX12_owner_5 (by decide) (fun c_3 => ?_) (fun c_3 => ?_)
  · have hf := itF hf c_3
    refine lv_iload_n hx hb dX12_owner_10 rfl (lv_at hl 2 rfl) ?_
    by_cases c_4 : x2 = 0
    · have hf := itT hf c_4
      refine lv_tableIn (tgt := 40) (off := 29) hx hb dX12_owner_11 (by rw [c_4]; decide) (by rw [c_4]; decide) (by rw [c_4]; decide) (by decide) ?_
      refine lv_aload_n hx hb dX12_owner_40 rfl (lv_at hl 0 rfl) ?_
      refine wd_getR (q := 1090) X hP L1088 fl_X12_13 rfl dX12_owner_41 ?_
      refine lv_iload_n hx hb dX12_owner_44 rfl (lv_at hl 1 rfl) ?_
      have g_5 := gdN hf
      have hf := gdK hf
      refine wd_iald X hP L1090 g_5 dX12_owner_45 ?_
      obtain rfl := Option.some.inj hf
      exact wd_iret X hP hS hr0 dX12_owner_46 ⟨rfl, rfl⟩
    · have hf := itF hf c_4
      by_cases c_6 : x2 = 1
      · have hf := itT hf c_6
        refine lv_tableIn (tgt := 47) (off := 36) hx hb dX12_owner_11 (by rw [c_6]; decide) (by rw [c_6]; decide) (by rw [c_6]; decide) (by decide) ?_
        refine lv_aload_n hx hb dX12_owner_47 rfl (lv_at hl 0 rfl) ?_
        refine wd_getR (q := 1091) X hP L1088 fl_X12_16 rfl dX12_owner_48 ?_
        refine lv_iload_n hx hb dX12_owner_51 rfl (lv_at hl 1 rfl) ?_
        have g_7 := gdN hf
        have hf := gdK hf
        refine wd_iald X hP L1091 g_7 dX12_owner_52 ?_
        obtain rfl := Option.some.inj hf
        exact wd_iret X hP hS hr0 dX12_owner_53 ⟨rfl, rfl⟩
      · have hf := itF hf c_6
        by_cases c_8 : x2 = 2
        · have hf := itT hf c_8
          refine lv_tableIn (tgt := 54) (off := 43) hx hb dX12_owner_11 (by rw [c_8]; decide) (by rw [c_8]; decide) (by rw [c_8]; decide) (by decide) ?_
          refine lv_aload_n hx hb dX12_owner_54 rfl (lv_at hl 0 rfl) ?_
          refine wd_getR (q := 1092) X hP L1088 fl_X12_19 rfl dX12_owner_55 ?_
          refine lv_iload_n hx hb dX12_owner_58 rfl (lv_at hl 1 rfl) ?_
          have g_9 := gdN hf
          have hf := gdK hf
          refine wd_iald X hP L1092 g_9 dX12_owner_59 ?_
          obtain rfl := Option.some.inj hf
          exact wd_iret X hP hS hr0 dX12_owner_60 ⟨rfl, rfl⟩
        · have hf := itF hf c_8
          by_cases c_10 : x2 = 3
          · have hf := itT hf c_10
            refine lv_tableIn (tgt := 61) (off := 50) hx hb dX12_owner_11 (by rw [c_10]; decide) (by rw [c_10]; decide) (by rw [c_10]; decide) (by decide) ?_
            refine lv_aload_n hx hb dX12_owner_61 rfl (lv_at hl 0 rfl) ?_
            refine lv_iload_n hx hb dX12_owner_62 rfl (lv_at hl 1 rfl) ?_
            refine lv_aload_n hx hb dX12_owner_63 rfl (lv_at hl 0 rfl) ?_
            refine wd_cv X hP hS L1088 ml_X12_396 ⟨_, _, rfl⟩ (c_X12_allRopes l D dA zz bs mm (f_X12_allRopes mm) rfl) rfl ⟨Nat.le_of_ble_eq_true rfl, Nat.le_of_ble_eq_true rfl⟩ hl.1 rfl (rest := [.int x1, .ref (bs + 1088)]) (Nat.le_of_ble_eq_true rfl) ⟨Nat.zero_le _, Nat.zero_le _⟩ dX12_owner_64 (fun H locs hP hS => ?_)
            refine W.eq (g2 := F0 m 67 ls [.int (f_X12_allRopes mm), .int x1, .ref (bs + 1088)]) rfl ?_
            obtain ⟨r_12, hc_11, hf⟩ := bi1S hf
            refine wd_cv X hP hS L1088 ml_X12_403 ⟨_, _, rfl⟩ (c_X12_riddenBy l D dA zz bs mm x1 (f_X12_allRopes mm) r_12 hc_11) rfl ⟨Nat.le_of_ble_eq_true rfl, Nat.le_of_ble_eq_true rfl⟩ hl.1 rfl (rest := []) (Nat.le_of_ble_eq_true rfl) ⟨Nat.zero_le _, Nat.zero_le _⟩ dX12_owner_67 (fun H locs hP hS => ?_)
            refine W.eq (g2 := F0 m 70 ls [.int r_12]) rfl ?_
            refine lv_istore_n (lv' := [(3, .int r_12), (0, .ref (bs + 1088)), (1, .int x1), (2, .int x2)]) hx hb dX12_owner_70 rfl hl (by decide) rfl (fun ls hl => ?_)
            refine lv_iload_n hx hb dX12_owner_71 rfl (lv_at hl 0 rfl) ?_
            refine lv_if_ne (tgt := 79) hx hb dX12_owner_72 (by decide) (fun c_13 => ?_) (fun c_13 => ?_)
            · have hf := itF hf c_13
              refine lv_iload_n hx hb dX12_owner_79 rfl (lv_at hl 0 rfl) ?_
              obtain ⟨r_15, hc_14, hf⟩ := bi1S hf
              refine wd_cs X hP hS ml_X12_421 (c_X12_least l D dA zz bs mm r_12 r_15 hc_14) rfl ⟨Nat.le_of_ble_eq_true rfl, Nat.le_of_ble_eq_true rfl⟩ hl.1 rfl (rest := []) (Nat.le_of_ble_eq_true rfl) ⟨Nat.zero_le _, Nat.zero_le _⟩ dX12_owner_80 (fun H locs hP hS => ?_)
              refine W.eq (g2 := F0 m 83 ls [.int r_15]) rfl ?_
              obtain rfl := Option.some.inj hf
              exact wd_iret X hP hS hr0 dX12_owner_83 ⟨rfl, rfl⟩
            · have hf := itT hf c_13
              refine lv_iconst (v := -1) hx hb dX12_owner_75 (by decide) ?_
              refine lv_goto (tgt := 83) hx hb dX12_owner_76 (by decide) ?_
              obtain rfl := Option.some.inj hf
              exact wd_iret X hP hS hr0 dX12_owner_83 ⟨rfl, rfl⟩
          · have hf := itF hf c_10
            refine lv_tableOut (tgt := 84) hx hb dX12_owner_11 (tb_out4 c_4 c_6 c_8 c_10) (by decide) ?_
            refine lv_iconst (v := -1) hx hb dX12_owner_84 (by decide) ?_
            obtain rfl := Option.some.inj hf
            exact wd_iret X hP hS hr0 dX12_owner_85 ⟨rfl, rfl⟩
  · have hf := itT hf c_3
    refine lv_iconst (v := -1) hx hb dX12_owner_8 (by decide) ?_
    obtain rfl := Option.some.inj hf
    exact wd_iret X hP hS hr0 dX12_owner_9 ⟨rfl, rfl⟩

noncomputable def f_X12_thing (mm : Mm) (x1 : Int32) (x2 : Int32) : Option (Int32) :=
  bi1 (f_X12_isThing mm x1) fun r_2 =>
    if r_2 = 0 then
      some (-1 : Int32)
    else
      if x2 = 0 then
        if x1 < 0 ∨ 8 ≤ x1.toNatClampNeg then none else some (mm.1 1093 x1.toNatClampNeg)
      else if x2 = 1 then
        if x1 < 0 ∨ 8 ≤ x1.toNatClampNeg then none else some (mm.1 1094 x1.toNatClampNeg)
      else if x2 = 2 then
        if x1 < 0 ∨ 8 ≤ x1.toNatClampNeg then none else some (mm.1 1095 x1.toNatClampNeg)
      else if x2 = 3 then
        if x1 < 0 ∨ 8 ≤ x1.toNatClampNeg then none else some (mm.1 1096 x1.toNatClampNeg)
      else if x2 = 4 then
        if x1 < 0 ∨ 8 ≤ x1.toNatClampNeg then none else some (mm.1 1097 x1.toNatClampNeg)
      else if x2 = 5 then
        if x1 < 0 ∨ 8 ≤ x1.toNatClampNeg then none else
          if (mm.1 1097 x1.toNatClampNeg) = 0 then
            bi1 (f_X12_pieceOf mm x1) fun r_18 => some r_18
          else
            some (0 : Int32)
      else
        some (-1 : Int32)
set_option maxHeartbeats 4000000 in
set_option maxRecDepth 100000 in
theorem c_X12_thing (l : Launch) (D : va_G) (dA : Nat → ClassId) (zz : (Nat → Nat) × (Nat → Nat)) (bs : Nat) (mm : Mm) (x1 : Int32) (x2 : Int32) (out : Int32) (hf : f_X12_thing mm x1 x2 = some out) : Mw l D dA zz bs LY yX12_thing cX12_thing 3 (some .int) 3 70 [.ref (bs + 1088), .int x1, .int x2] mm (some (.int out)) mm := by
  refine Mw.of (own := RX12) (by decide) rfl (Nat.le_of_ble_eq_true rfl) ?_
  intro p e s m args below meth c X hr0 hP hS ls hl
  have hx := X.1
  have hb := X.2.1
  obtain ⟨H, hH⟩ : ∃ z : Heap, z = s.heap := ⟨_, rfl⟩
  obtain ⟨locs, hL⟩ : ∃ z : List Loc, z = [] := ⟨_, rfl⟩
  rw [← hH, ← hL]
  have hS : va_S (Aq bs) s.heap H locs := by rw [hH, hL]; exact hS
  have hP : Wd D dA bs LY mm H := by rw [hH]; exact hP
  have hl : lv_has ls 3 [(0, .ref (bs + 1088)), (1, .int x1), (2, .int x2)] := hl
  unfold f_X12_thing at hf
  refine lv_aload_n hx hb dX12_thing_0 rfl (lv_at hl 0 rfl) ?_
  refine lv_iload_n hx hb dX12_thing_1 rfl (lv_at hl 1 rfl) ?_
  obtain ⟨r_2, hc_1, hf⟩ := bi1S hf
  refine wd_cv X hP hS L1088 ml_X12_180 ⟨_, _, rfl⟩ (c_X12_isThing l D dA zz bs mm x1 r_2 hc_1) rfl ⟨Nat.le_of_ble_eq_true rfl, Nat.le_of_ble_eq_true rfl⟩ hl.1 rfl (rest := []) (Nat.le_of_ble_eq_true rfl) ⟨Nat.zero_le _, Nat.zero_le _⟩ dX12_thing_2 (fun H locs hP hS => ?_)
  refine W.eq (g2 := F0 m 5 ls [.int r_2]) rfl ?_
  refine lv_if_ne (tgt := 10) hx hb dX12_thing_5 (by decide) (fun c_3 => ?_) (fun c_3 => ?_)
  · have hf := itF hf c_3
    refine lv_iload_n hx hb dX12_thing_10 rfl (lv_at hl 2 rfl) ?_
    by_cases c_4 : x2 = 0
    · have hf := itT hf c_4
      refine lv_tableIn (tgt := 48) (off := 37) hx hb dX12_thing_11 (by rw [c_4]; decide) (by rw [c_4]; decide) (by rw [c_4]; decide) (by decide) ?_
      refine lv_aload_n hx hb dX12_thing_48 rfl (lv_at hl 0 rfl) ?_
      refine wd_getR (q := 1093) X hP L1088 fl_X12_22 rfl dX12_thing_49 ?_
      refine lv_iload_n hx hb dX12_thing_52 rfl (lv_at hl 1 rfl) ?_
      have g_5 := gdN hf
      have hf := gdK hf
      refine wd_iald X hP L1093 g_5 dX12_thing_53 ?_
      obtain rfl := Option.some.inj hf
      exact wd_iret X hP hS hr0 dX12_thing_54 ⟨rfl, rfl⟩
    · have hf := itF hf c_4
      by_cases c_6 : x2 = 1
      · have hf := itT hf c_6
        refine lv_tableIn (tgt := 55) (off := 44) hx hb dX12_thing_11 (by rw [c_6]; decide) (by rw [c_6]; decide) (by rw [c_6]; decide) (by decide) ?_
        refine lv_aload_n hx hb dX12_thing_55 rfl (lv_at hl 0 rfl) ?_
        refine wd_getR (q := 1094) X hP L1088 fl_X12_25 rfl dX12_thing_56 ?_
        refine lv_iload_n hx hb dX12_thing_59 rfl (lv_at hl 1 rfl) ?_
        have g_7 := gdN hf
        have hf := gdK hf
        refine wd_iald X hP L1094 g_7 dX12_thing_60 ?_
        obtain rfl := Option.some.inj hf
        exact wd_iret X hP hS hr0 dX12_thing_61 ⟨rfl, rfl⟩
      · have hf := itF hf c_6
        by_cases c_8 : x2 = 2
        · have hf := itT hf c_8
          refine lv_tableIn (tgt := 62) (off := 51) hx hb dX12_thing_11 (by rw [c_8]; decide) (by rw [c_8]; decide) (by rw [c_8]; decide) (by decide) ?_
          refine lv_aload_n hx hb dX12_thing_62 rfl (lv_at hl 0 rfl) ?_
          refine wd_getR (q := 1095) X hP L1088 fl_X12_28 rfl dX12_thing_63 ?_
          refine lv_iload_n hx hb dX12_thing_66 rfl (lv_at hl 1 rfl) ?_
          have g_9 := gdN hf
          have hf := gdK hf
          refine wd_iald X hP L1095 g_9 dX12_thing_67 ?_
          obtain rfl := Option.some.inj hf
          exact wd_iret X hP hS hr0 dX12_thing_68 ⟨rfl, rfl⟩
        · have hf := itF hf c_8
          by_cases c_10 : x2 = 3
          · have hf := itT hf c_10
            refine lv_tableIn (tgt := 69) (off := 58) hx hb dX12_thing_11 (by rw [c_10]; decide) (by rw [c_10]; decide) (by rw [c_10]; decide) (by decide) ?_
            refine lv_aload_n hx hb dX12_thing_69 rfl (lv_at hl 0 rfl) ?_
            refine wd_getR (q := 1096) X hP L1088 fl_X12_31 rfl dX12_thing_70 ?_
            refine lv_iload_n hx hb dX12_thing_73 rfl (lv_at hl 1 rfl) ?_
            have g_11 := gdN hf
            have hf := gdK hf
            refine wd_iald X hP L1096 g_11 dX12_thing_74 ?_
            obtain rfl := Option.some.inj hf
            exact wd_iret X hP hS hr0 dX12_thing_75 ⟨rfl, rfl⟩
          · have hf := itF hf c_10
            by_cases c_12 : x2 = 4
            · have hf := itT hf c_12
              refine lv_tableIn (tgt := 76) (off := 65) hx hb dX12_thing_11 (by rw [c_12]; decide) (by rw [c_12]; decide) (by rw [c_12]; decide) (by decide) ?_
              refine lv_aload_n hx hb dX12_thing_76 rfl (lv_at hl 0 rfl) ?_
              refine wd_getR (q := 1097) X hP L1088 fl_X12_34 rfl dX12_thing_77 ?_
              refine lv_iload_n hx hb dX12_thing_80 rfl (lv_at hl 1 rfl) ?_
              have g_13 := gdN hf
              have hf := gdK hf
              refine wd_iald X hP L1097 g_13 dX12_thing_81 ?_
              obtain rfl := Option.some.inj hf
              exact wd_iret X hP hS hr0 dX12_thing_82 ⟨rfl, rfl⟩
            · have hf := itF hf c_12
              by_cases c_14 : x2 = 5
              · have hf := itT hf c_14
                refine lv_tableIn (tgt := 83) (off := 72) hx hb dX12_thing_11 (by rw [c_14]; decide) (by rw [c_14]; decide) (by rw [c_14]; decide) (by decide) ?_
                refine lv_aload_n hx hb dX12_thing_83 rfl (lv_at hl 0 rfl) ?_
                refine wd_getR (q := 1097) X hP L1088 fl_X12_34 rfl dX12_thing_84 ?_
                refine lv_iload_n hx hb dX12_thing_87 rfl (lv_at hl 1 rfl) ?_
                have g_15 := gdN hf
                have hf := gdK hf
                refine wd_iald X hP L1097 g_15 dX12_thing_88 ?_
                refine lv_if_ne (tgt := 100) hx hb dX12_thing_89 (by decide) (fun c_16 => ?_) (fun c_16 => ?_)
                · have hf := itF hf c_16
                  refine lv_iconst (v := 0) hx hb dX12_thing_100 (by decide) ?_
                  obtain rfl := Option.some.inj hf
                  exact wd_iret X hP hS hr0 dX12_thing_101 ⟨rfl, rfl⟩
                · have hf := itT hf c_16
                  refine lv_aload_n hx hb dX12_thing_92 rfl (lv_at hl 0 rfl) ?_
                  refine lv_iload_n hx hb dX12_thing_93 rfl (lv_at hl 1 rfl) ?_
                  obtain ⟨r_18, hc_17, hf⟩ := bi1S hf
                  refine wd_cv X hP hS L1088 ml_X12_424 ⟨_, _, rfl⟩ (c_X12_pieceOf l D dA zz bs mm x1 r_18 hc_17) rfl ⟨Nat.le_of_ble_eq_true rfl, Nat.le_of_ble_eq_true rfl⟩ hl.1 rfl (rest := []) (Nat.le_of_ble_eq_true rfl) ⟨Nat.zero_le _, Nat.zero_le _⟩ dX12_thing_94 (fun H locs hP hS => ?_)
                  refine W.eq (g2 := F0 m 97 ls [.int r_18]) rfl ?_
                  refine lv_goto (tgt := 101) hx hb dX12_thing_97 (by decide) ?_
                  obtain rfl := Option.some.inj hf
                  exact wd_iret X hP hS hr0 dX12_thing_101 ⟨rfl, rfl⟩
              · have hf := itF hf c_14
                refine lv_tableOut (tgt := 102) hx hb dX12_thing_11 (tb_out6 c_4 c_6 c_8 c_10 c_12 c_14) (by decide) ?_
                refine lv_iconst (v := -1) hx hb dX12_thing_102 (by decide) ?_
                obtain rfl := Option.some.inj hf
                exact wd_iret X hP hS hr0 dX12_thing_103 ⟨rfl, rfl⟩
  · have hf := itT hf c_3
    refine lv_iconst (v := -1) hx hb dX12_thing_8 (by decide) ?_
    obtain rfl := Option.some.inj hf
    exact wd_iret X hP hS hr0 dX12_thing_9 ⟨rfl, rfl⟩

noncomputable def f_X12_rope (mm : Mm) (x1 : Int32) (x2 : Int32) : Option (Int32) :=
  bi1 (f_X12_isRope mm x1) fun r_2 =>
    if r_2 = 0 then
      some (-1 : Int32)
    else
      if x2 = 0 then
        if x1 < 0 ∨ 12 ≤ x1.toNatClampNeg then none else some (mm.1 1099 x1.toNatClampNeg)
      else if x2 = 1 then
        if x1 < 0 ∨ 12 ≤ x1.toNatClampNeg then none else some (mm.1 1100 x1.toNatClampNeg)
      else if x2 = 2 then
        if x1 < 0 ∨ 12 ≤ x1.toNatClampNeg then none else some (mm.1 1101 x1.toNatClampNeg)
      else
        some (-1 : Int32)
set_option maxHeartbeats 4000000 in
set_option maxRecDepth 100000 in
theorem c_X12_rope (l : Launch) (D : va_G) (dA : Nat → ClassId) (zz : (Nat → Nat) × (Nat → Nat)) (bs : Nat) (mm : Mm) (x1 : Int32) (x2 : Int32) (out : Int32) (hf : f_X12_rope mm x1 x2 = some out) : Mw l D dA zz bs LY yX12_rope cX12_rope 3 (some .int) 2 46 [.ref (bs + 1088), .int x1, .int x2] mm (some (.int out)) mm := by
  refine Mw.of (own := RX12) (by decide) rfl (Nat.le_of_ble_eq_true rfl) ?_
  intro p e s m args below meth c X hr0 hP hS ls hl
  have hx := X.1
  have hb := X.2.1
  obtain ⟨H, hH⟩ : ∃ z : Heap, z = s.heap := ⟨_, rfl⟩
  obtain ⟨locs, hL⟩ : ∃ z : List Loc, z = [] := ⟨_, rfl⟩
  rw [← hH, ← hL]
  have hS : va_S (Aq bs) s.heap H locs := by rw [hH, hL]; exact hS
  have hP : Wd D dA bs LY mm H := by rw [hH]; exact hP
  have hl : lv_has ls 3 [(0, .ref (bs + 1088)), (1, .int x1), (2, .int x2)] := hl
  unfold f_X12_rope at hf
  refine lv_aload_n hx hb dX12_rope_0 rfl (lv_at hl 0 rfl) ?_
  refine lv_iload_n hx hb dX12_rope_1 rfl (lv_at hl 1 rfl) ?_
  obtain ⟨r_2, hc_1, hf⟩ := bi1S hf
  refine wd_cv X hP hS L1088 ml_X12_427 ⟨_, _, rfl⟩ (c_X12_isRope l D dA zz bs mm x1 r_2 hc_1) rfl ⟨Nat.le_of_ble_eq_true rfl, Nat.le_of_ble_eq_true rfl⟩ hl.1 rfl (rest := []) (Nat.le_of_ble_eq_true rfl) ⟨Nat.zero_le _, Nat.zero_le _⟩ dX12_rope_2 (fun H locs hP hS => ?_)
  refine W.eq (g2 := F0 m 5 ls [.int r_2]) rfl ?_
  refine lv_if_ne (tgt := 10) hx hb dX12_rope_5 (by decide) (fun c_3 => ?_) (fun c_3 => ?_)
  · have hf := itF hf c_3
    refine lv_iload_n hx hb dX12_rope_10 rfl (lv_at hl 2 rfl) ?_
    by_cases c_4 : x2 = 0
    · have hf := itT hf c_4
      refine lv_tableIn (tgt := 36) (off := 25) hx hb dX12_rope_11 (by rw [c_4]; decide) (by rw [c_4]; decide) (by rw [c_4]; decide) (by decide) ?_
      refine lv_aload_n hx hb dX12_rope_36 rfl (lv_at hl 0 rfl) ?_
      refine wd_getR (q := 1099) X hP L1088 fl_X12_40 rfl dX12_rope_37 ?_
      refine lv_iload_n hx hb dX12_rope_40 rfl (lv_at hl 1 rfl) ?_
      have g_5 := gdN hf
      have hf := gdK hf
      refine wd_iald X hP L1099 g_5 dX12_rope_41 ?_
      obtain rfl := Option.some.inj hf
      exact wd_iret X hP hS hr0 dX12_rope_42 ⟨rfl, rfl⟩
    · have hf := itF hf c_4
      by_cases c_6 : x2 = 1
      · have hf := itT hf c_6
        refine lv_tableIn (tgt := 43) (off := 32) hx hb dX12_rope_11 (by rw [c_6]; decide) (by rw [c_6]; decide) (by rw [c_6]; decide) (by decide) ?_
        refine lv_aload_n hx hb dX12_rope_43 rfl (lv_at hl 0 rfl) ?_
        refine wd_getR (q := 1100) X hP L1088 fl_X12_43 rfl dX12_rope_44 ?_
        refine lv_iload_n hx hb dX12_rope_47 rfl (lv_at hl 1 rfl) ?_
        have g_7 := gdN hf
        have hf := gdK hf
        refine wd_iald X hP L1100 g_7 dX12_rope_48 ?_
        obtain rfl := Option.some.inj hf
        exact wd_iret X hP hS hr0 dX12_rope_49 ⟨rfl, rfl⟩
      · have hf := itF hf c_6
        by_cases c_8 : x2 = 2
        · have hf := itT hf c_8
          refine lv_tableIn (tgt := 50) (off := 39) hx hb dX12_rope_11 (by rw [c_8]; decide) (by rw [c_8]; decide) (by rw [c_8]; decide) (by decide) ?_
          refine lv_aload_n hx hb dX12_rope_50 rfl (lv_at hl 0 rfl) ?_
          refine wd_getR (q := 1101) X hP L1088 fl_X12_46 rfl dX12_rope_51 ?_
          refine lv_iload_n hx hb dX12_rope_54 rfl (lv_at hl 1 rfl) ?_
          have g_9 := gdN hf
          have hf := gdK hf
          refine wd_iald X hP L1101 g_9 dX12_rope_55 ?_
          obtain rfl := Option.some.inj hf
          exact wd_iret X hP hS hr0 dX12_rope_56 ⟨rfl, rfl⟩
        · have hf := itF hf c_8
          refine lv_tableOut (tgt := 57) hx hb dX12_rope_11 (tb_out3 c_4 c_6 c_8) (by decide) ?_
          refine lv_iconst (v := -1) hx hb dX12_rope_57 (by decide) ?_
          obtain rfl := Option.some.inj hf
          exact wd_iret X hP hS hr0 dX12_rope_58 ⟨rfl, rfl⟩
  · have hf := itT hf c_3
    refine lv_iconst (v := -1) hx hb dX12_rope_8 (by decide) ?_
    obtain rfl := Option.some.inj hf
    exact wd_iret X hP hS hr0 dX12_rope_9 ⟨rfl, rfl⟩

noncomputable def f_X12_forceAt_s2 (mm : Mm) (y1 : Int32) : (Int32) → Option ((Int32) ⊕ ((Int32) ⊕ (Unit))) :=
  fun (y2 : Int32) =>
    if (mm.1 1089 5) ≤ y2 then
      some (.inr (.inr (())))
    else
      if y2 < 0 ∨ 6 ≤ y2.toNatClampNeg then none else
        if (mm.1 1102 y2.toNatClampNeg) = y1 then
          some (.inr (.inl y2))
        else
          some (.inl (y2 + 1))
noncomputable def f_X12_forceAt (mm : Mm) (x1 : Int32) : Option (Int32) :=
  bi1 (lp (f_X12_forceAt_s2 mm x1) (0 : Int32)) fun q => match q with
  | .inl w2_5 =>
    if w2_5 < 0 ∨ 6 ≤ w2_5.toNatClampNeg then none else some (mm.1 1103 w2_5.toNatClampNeg)
  | .inr (()) =>
    some (0 : Int32)
set_option maxHeartbeats 4000000 in
set_option maxRecDepth 100000 in
theorem c_X12_forceAt (l : Launch) (D : va_G) (dA : Nat → ClassId) (zz : (Nat → Nat) × (Nat → Nat)) (bs : Nat) (mm : Mm) (x1 : Int32) (out : Int32) (hf : f_X12_forceAt mm x1 = some out) : Mw l D dA zz bs LY yX12_forceAt cX12_forceAt 3 (some .int) 0 0 [.ref (bs + 1088), .int x1] mm (some (.int out)) mm := by
  refine Mw.of (own := RX12) (by decide) rfl (Nat.le_of_ble_eq_true rfl) ?_
  intro p e s m args below meth c X hr0 hP hS ls hl
  have hx := X.1
  have hb := X.2.1
  obtain ⟨H, hH⟩ : ∃ z : Heap, z = s.heap := ⟨_, rfl⟩
  obtain ⟨locs, hL⟩ : ∃ z : List Loc, z = [] := ⟨_, rfl⟩
  rw [← hH, ← hL]
  have hS : va_S (Aq bs) s.heap H locs := by rw [hH, hL]; exact hS
  have hP : Wd D dA bs LY mm H := by rw [hH]; exact hP
  have hl : lv_has ls 3 [(0, .ref (bs + 1088)), (1, .int x1)] := hl
  unfold f_X12_forceAt at hf
  refine lv_iconst (v := 0) hx hb dX12_forceAt_0 (by decide) ?_
  refine lv_istore_n (lv' := [(2, .int (0 : Int32)), (0, .ref (bs + 1088)), (1, .int x1)]) hx hb dX12_forceAt_1 rfl hl (by decide) rfl (fun ls hl => ?_)
  obtain ⟨q_7, hlp_8, hf⟩ := bi1S hf
  refine lp_walk (Wh := (fun y2L_4 => ∀ (H : Heap) (locs : List Loc) (ls : Array Slot), Wd D dA bs LY mm H → va_S (Aq bs) s.heap H locs → lv_has ls 3 [(0, .ref (bs + 1088)), (1, .int x1), (2, .int y2L_4)] → Wz p l e s m args below meth c D dA bs (some (.int out)) mm 0 0 H locs 2 ls [])) (Ph := (fun z => match z with | .inl w2_5 => ∀ (H : Heap) (locs : List Loc) (ls : Array Slot), Wd D dA bs LY mm H → va_S (Aq bs) s.heap H locs → lv_has ls 3 [(0, .ref (bs + 1088)), (2, .int w2_5)] → Wz p l e s m args below meth c D dA bs (some (.int out)) mm 0 0 H locs 22 ls [] | .inr (()) => ∀ (H : Heap) (locs : List Loc) (ls : Array Slot), Wd D dA bs LY mm H → va_S (Aq bs) s.heap H locs → lv_has ls 3 [] → Wz p l e s m args below meth c D dA bs (some (.int out)) mm 0 0 H locs 35 ls [])) ?_ hlp_8 ?_ H locs ls hP hS (lv_sub hl [1, 2, 0] rfl)
  · intro y2L_4 o hf hB hE
    intro H locs ls hP hS hl
    have hf : f_X12_forceAt_s2 mm x1 y2L_4 = some o := hf
    unfold f_X12_forceAt_s2 at hf
    refine lv_iload_n hx hb dX12_forceAt_2 rfl (lv_at hl 2 rfl) ?_
    refine lv_aload_n hx hb dX12_forceAt_3 rfl (lv_at hl 0 rfl) ?_
    refine wd_getR (q := 1089) X hP L1088 fl_X12_9 rfl dX12_forceAt_4 ?_
    refine lv_iconst (v := 5) hx hb dX12_forceAt_7 (by decide) ?_
    refine wd_ialdK (k := 5) X hP L1089 (by decide) (by decide) dX12_forceAt_8 ?_
    refine lv_icmp_ge (tgt := 35) hx hb dX12_forceAt_9 (by decide) (fun c_1 => ?_) (fun c_1 => ?_)
    · have hf := itT hf c_1
      obtain rfl := Option.some.inj hf
      exact hE _ rfl H locs ls hP hS (lv_sub hl [] rfl)
    · have hf := itF hf c_1
      refine lv_aload_n hx hb dX12_forceAt_12 rfl (lv_at hl 0 rfl) ?_
      refine wd_getR (q := 1102) X hP L1088 fl_X12_49 rfl dX12_forceAt_13 ?_
      refine lv_iload_n hx hb dX12_forceAt_16 rfl (lv_at hl 2 rfl) ?_
      have g_2 := gdN hf
      have hf := gdK hf
      refine wd_iald X hP L1102 g_2 dX12_forceAt_17 ?_
      refine lv_iload_n hx hb dX12_forceAt_18 rfl (lv_at hl 1 rfl) ?_
      refine lv_icmp_ne (tgt := 29) hx hb dX12_forceAt_19 (by decide) (fun c_3 => ?_) (fun c_3 => ?_)
      · have hf := itF hf c_3
        refine lv_iinc (v := (y2L_4 + 1)) (lv' := [(2, .int (y2L_4 + 1)), (0, .ref (bs + 1088)), (1, .int x1)]) hx hb dX12_forceAt_29 hl (k := 2) rfl rfl (by decide) rfl (fun ls hl => ?_)
        refine lv_goto (tgt := 2) hx hb dX12_forceAt_32 (by decide) ?_
        obtain rfl := Option.some.inj hf
        exact hB _ rfl H locs ls hP hS (lv_sub hl [1, 2, 0] rfl)
      · have hf := itT hf c_3
        obtain rfl := Option.some.inj hf
        exact hE _ rfl H locs ls hP hS (lv_sub hl [0, 2] rfl)
  · rcases q_7 with w2_5 | ⟨⟩
    · dsimp only at hf
      intro H locs ls hP hS hl
      refine lv_aload_n hx hb dX12_forceAt_22 rfl (lv_at hl 0 rfl) ?_
      refine wd_getR (q := 1103) X hP L1088 fl_X12_52 rfl dX12_forceAt_23 ?_
      refine lv_iload_n hx hb dX12_forceAt_26 rfl (lv_at hl 1 rfl) ?_
      have g_6 := gdN hf
      have hf := gdK hf
      refine wd_iald X hP L1103 g_6 dX12_forceAt_27 ?_
      obtain rfl := Option.some.inj hf
      exact wd_iret X hP hS hr0 dX12_forceAt_28 ⟨rfl, rfl⟩
    · dsimp only at hf
      intro H locs ls hP hS hl
      refine lv_iconst (v := 0) hx hb dX12_forceAt_35 (by decide) ?_
      obtain rfl := Option.some.inj hf
      exact wd_iret X hP hS hr0 dX12_forceAt_36 ⟨rfl, rfl⟩

noncomputable def f_X12_rapid (mm : Mm) (x1 : Int32) : Option (Int32) :=
  if (f_X12_isRiver mm) = 0 then
    some (-1 : Int32)
  else
    if (f_X12_in (x1.toInt64) (0 : Int64) ((mm.1 1089 0).toInt64)) = 0 then
      some (-1 : Int32)
    else
      bi1 (f_X12_forceAt mm x1) fun r_4 => some r_4
set_option maxHeartbeats 4000000 in
set_option maxRecDepth 100000 in
theorem c_X12_rapid (l : Launch) (D : va_G) (dA : Nat → ClassId) (zz : (Nat → Nat) × (Nat → Nat)) (bs : Nat) (mm : Mm) (x1 : Int32) (out : Int32) (hf : f_X12_rapid mm x1 = some out) : Mw l D dA zz bs LY yX12_rapid cX12_rapid 2 (some .int) 1 25 [.ref (bs + 1088), .int x1] mm (some (.int out)) mm := by
  refine Mw.of (own := RX12) (by decide) rfl (Nat.le_of_ble_eq_true rfl) ?_
  intro p e s m args below meth c X hr0 hP hS ls hl
  have hx := X.1
  have hb := X.2.1
  obtain ⟨H, hH⟩ : ∃ z : Heap, z = s.heap := ⟨_, rfl⟩
  obtain ⟨locs, hL⟩ : ∃ z : List Loc, z = [] := ⟨_, rfl⟩
  rw [← hH, ← hL]
  have hS : va_S (Aq bs) s.heap H locs := by rw [hH, hL]; exact hS
  have hP : Wd D dA bs LY mm H := by rw [hH]; exact hP
  have hl : lv_has ls 2 [(0, .ref (bs + 1088)), (1, .int x1)] := hl
  unfold f_X12_rapid at hf
  refine lv_aload_n hx hb dX12_rapid_0 rfl (lv_at hl 0 rfl) ?_
  refine wd_cv X hP hS L1088 ml_X12_430 ⟨_, _, rfl⟩ (c_X12_isRiver l D dA zz bs mm (f_X12_isRiver mm) rfl) rfl ⟨Nat.le_of_ble_eq_true rfl, Nat.le_of_ble_eq_true rfl⟩ hl.1 rfl (rest := []) (Nat.le_of_ble_eq_true rfl) ⟨Nat.zero_le _, Nat.zero_le _⟩ dX12_rapid_1 (fun H locs hP hS => ?_)
  refine W.eq (g2 := F0 m 4 ls [.int (f_X12_isRiver mm)]) rfl ?_
  refine lv_if_eq (tgt := 31) hx hb dX12_rapid_4 (by decide) (fun c_1 => ?_) (fun c_1 => ?_)
  · have hf := itT hf c_1
    refine lv_iconst (v := -1) hx hb dX12_rapid_31 (by decide) ?_
    obtain rfl := Option.some.inj hf
    exact wd_iret X hP hS hr0 dX12_rapid_32 ⟨rfl, rfl⟩
  · have hf := itF hf c_1
    refine lv_iload_n hx hb dX12_rapid_7 rfl (lv_at hl 1 rfl) ?_
    refine lv_i2l hx hb dX12_rapid_8 rfl ?_
    refine lv_lconst (v := 0) hx hb dX12_rapid_9 (by decide) ?_
    refine lv_aload_n hx hb dX12_rapid_10 rfl (lv_at hl 0 rfl) ?_
    refine wd_getR (q := 1089) X hP L1088 fl_X12_9 rfl dX12_rapid_11 ?_
    refine lv_iconst (v := 0) hx hb dX12_rapid_14 (by decide) ?_
    refine wd_ialdK (k := 0) X hP L1089 (by decide) (by decide) dX12_rapid_15 ?_
    refine lv_i2l hx hb dX12_rapid_16 rfl ?_
    refine wd_cs X hP hS ml_X12_176 (c_X12_in l D dA zz bs mm (x1.toInt64) (0 : Int64) ((mm.1 1089 0).toInt64) (f_X12_in (x1.toInt64) (0 : Int64) ((mm.1 1089 0).toInt64)) rfl) rfl ⟨Nat.le_of_ble_eq_true rfl, Nat.le_of_ble_eq_true rfl⟩ hl.1 rfl (rest := []) (Nat.le_of_ble_eq_true rfl) ⟨Nat.zero_le _, Nat.zero_le _⟩ dX12_rapid_17 (fun H locs hP hS => ?_)
    refine W.eq (g2 := F0 m 20 ls [.int (f_X12_in (x1.toInt64) (0 : Int64) ((mm.1 1089 0).toInt64))]) rfl ?_
    refine lv_if_eq (tgt := 31) hx hb dX12_rapid_20 (by decide) (fun c_2 => ?_) (fun c_2 => ?_)
    · have hf := itT hf c_2
      refine lv_iconst (v := -1) hx hb dX12_rapid_31 (by decide) ?_
      obtain rfl := Option.some.inj hf
      exact wd_iret X hP hS hr0 dX12_rapid_32 ⟨rfl, rfl⟩
    · have hf := itF hf c_2
      refine lv_aload_n hx hb dX12_rapid_23 rfl (lv_at hl 0 rfl) ?_
      refine lv_iload_n hx hb dX12_rapid_24 rfl (lv_at hl 1 rfl) ?_
      obtain ⟨r_4, hc_3, hf⟩ := bi1S hf
      refine wd_cv X hP hS L1088 ml_X12_433 ⟨_, _, rfl⟩ (c_X12_forceAt l D dA zz bs mm x1 r_4 hc_3) rfl ⟨Nat.le_of_ble_eq_true rfl, Nat.le_of_ble_eq_true rfl⟩ hl.1 rfl (rest := []) (Nat.le_of_ble_eq_true rfl) ⟨Nat.zero_le _, Nat.zero_le _⟩ dX12_rapid_25 (fun H locs hP hS => ?_)
      refine W.eq (g2 := F0 m 28 ls [.int r_4]) rfl ?_
      refine lv_goto (tgt := 32) hx hb dX12_rapid_28 (by decide) ?_
      obtain rfl := Option.some.inj hf
      exact wd_iret X hP hS hr0 dX12_rapid_32 ⟨rfl, rfl⟩

noncomputable def f_X12_margin (mm : Mm) (x1 : Int32) : Option (Int32) :=
  bi1 (f_X12_isAfloat mm x1) fun r_2 =>
    if r_2 = 0 then
      some (-10000 : Int32)
    else
      bi1 (f_X12_pieceOf mm x1) fun r_5 =>
        bi1 (f_X12_marginOf mm r_5 (f_X12_allRopes mm)) fun r_7 => some r_7
set_option maxHeartbeats 4000000 in
set_option maxRecDepth 100000 in
theorem c_X12_margin (l : Launch) (D : va_G) (dA : Nat → ClassId) (zz : (Nat → Nat) × (Nat → Nat)) (bs : Nat) (mm : Mm) (x1 : Int32) (out : Int32) (hf : f_X12_margin mm x1 = some out) : Mw l D dA zz bs LY yX12_margin cX12_margin 2 (some .int) 5 125 [.ref (bs + 1088), .int x1] mm (some (.int out)) mm := by
  refine Mw.of (own := RX12) (by decide) rfl (Nat.le_of_ble_eq_true rfl) ?_
  intro p e s m args below meth c X hr0 hP hS ls hl
  have hx := X.1
  have hb := X.2.1
  obtain ⟨H, hH⟩ : ∃ z : Heap, z = s.heap := ⟨_, rfl⟩
  obtain ⟨locs, hL⟩ : ∃ z : List Loc, z = [] := ⟨_, rfl⟩
  rw [← hH, ← hL]
  have hS : va_S (Aq bs) s.heap H locs := by rw [hH, hL]; exact hS
  have hP : Wd D dA bs LY mm H := by rw [hH]; exact hP
  have hl : lv_has ls 2 [(0, .ref (bs + 1088)), (1, .int x1)] := hl
  unfold f_X12_margin at hf
  refine lv_aload_n hx hb dX12_margin_0 rfl (lv_at hl 0 rfl) ?_
  refine lv_iload_n hx hb dX12_margin_1 rfl (lv_at hl 1 rfl) ?_
  obtain ⟨r_2, hc_1, hf⟩ := bi1S hf
  refine wd_cv X hP hS L1088 ml_X12_436 ⟨_, _, rfl⟩ (c_X12_isAfloat l D dA zz bs mm x1 r_2 hc_1) rfl ⟨Nat.le_of_ble_eq_true rfl, Nat.le_of_ble_eq_true rfl⟩ hl.1 rfl (rest := []) (Nat.le_of_ble_eq_true rfl) ⟨Nat.zero_le _, Nat.zero_le _⟩ dX12_margin_2 (fun H locs hP hS => ?_)
  refine W.eq (g2 := F0 m 5 ls [.int r_2]) rfl ?_
  refine lv_if_eq (tgt := 24) hx hb dX12_margin_5 (by decide) (fun c_3 => ?_) (fun c_3 => ?_)
  · have hf := itT hf c_3
    refine lv_sipush (v := -10000) hx hb dX12_margin_24 (by decide) ?_
    obtain rfl := Option.some.inj hf
    exact wd_iret X hP hS hr0 dX12_margin_27 ⟨rfl, rfl⟩
  · have hf := itF hf c_3
    refine lv_aload_n hx hb dX12_margin_8 rfl (lv_at hl 0 rfl) ?_
    refine lv_aload_n hx hb dX12_margin_9 rfl (lv_at hl 0 rfl) ?_
    refine lv_iload_n hx hb dX12_margin_10 rfl (lv_at hl 1 rfl) ?_
    obtain ⟨r_5, hc_4, hf⟩ := bi1S hf
    refine wd_cv X hP hS L1088 ml_X12_424 ⟨_, _, rfl⟩ (c_X12_pieceOf l D dA zz bs mm x1 r_5 hc_4) rfl ⟨Nat.le_of_ble_eq_true rfl, Nat.le_of_ble_eq_true rfl⟩ hl.1 rfl (rest := [.ref (bs + 1088)]) (Nat.le_of_ble_eq_true rfl) ⟨Nat.zero_le _, Nat.zero_le _⟩ dX12_margin_11 (fun H locs hP hS => ?_)
    refine W.eq (g2 := F0 m 14 ls [.int r_5, .ref (bs + 1088)]) rfl ?_
    refine lv_aload_n hx hb dX12_margin_14 rfl (lv_at hl 0 rfl) ?_
    refine wd_cv X hP hS L1088 ml_X12_396 ⟨_, _, rfl⟩ (c_X12_allRopes l D dA zz bs mm (f_X12_allRopes mm) rfl) rfl ⟨Nat.le_of_ble_eq_true rfl, Nat.le_of_ble_eq_true rfl⟩ hl.1 rfl (rest := [.int r_5, .ref (bs + 1088)]) (Nat.le_of_ble_eq_true rfl) ⟨Nat.zero_le _, Nat.zero_le _⟩ dX12_margin_15 (fun H locs hP hS => ?_)
    refine W.eq (g2 := F0 m 18 ls [.int (f_X12_allRopes mm), .int r_5, .ref (bs + 1088)]) rfl ?_
    obtain ⟨r_7, hc_6, hf⟩ := bi1S hf
    refine wd_cv X hP hS L1088 ml_X12_415 ⟨_, _, rfl⟩ (c_X12_marginOf l D dA zz bs mm r_5 (f_X12_allRopes mm) r_7 hc_6) rfl ⟨Nat.le_of_ble_eq_true rfl, Nat.le_of_ble_eq_true rfl⟩ hl.1 rfl (rest := []) (Nat.le_of_ble_eq_true rfl) ⟨Nat.zero_le _, Nat.zero_le _⟩ dX12_margin_18 (fun H locs hP hS => ?_)
    refine W.eq (g2 := F0 m 21 ls [.int r_7]) rfl ?_
    refine lv_goto (tgt := 27) hx hb dX12_margin_21 (by decide) ?_
    obtain rfl := Option.some.inj hf
    exact wd_iret X hP hS hr0 dX12_margin_27 ⟨rfl, rfl⟩

noncomputable def f_X12_ropeGoes_s2  : (Int32 × Mm) → Option ((Int32 × Mm) ⊕ (Mm)) :=
  fun q => match q with
  | (y2, mm) =>
    if (mm.1 1089 4) ≤ (y2 + (1 : Int32)) then
      some (.inr mm)
    else
      if (y2 + (1 : Int32)) < 0 ∨ 12 ≤ (y2 + (1 : Int32)).toNatClampNeg then none else
        if y2 < 0 ∨ 12 ≤ y2.toNatClampNeg then none else
          vlet (wI mm 1099 y2.toNatClampNeg (mm.1 1099 (y2 + (1 : Int32)).toNatClampNeg)) fun mm_3 =>
            if (y2 + (1 : Int32)) < 0 ∨ 12 ≤ (y2 + (1 : Int32)).toNatClampNeg then none else
              if y2 < 0 ∨ 12 ≤ y2.toNatClampNeg then none else
                vlet (wI mm_3 1100 y2.toNatClampNeg (mm_3.1 1100 (y2 + (1 : Int32)).toNatClampNeg)) fun mm_6 =>
                  if (y2 + (1 : Int32)) < 0 ∨ 12 ≤ (y2 + (1 : Int32)).toNatClampNeg then none else
                    if y2 < 0 ∨ 12 ≤ y2.toNatClampNeg then none else
                      vlet (wI mm_6 1101 y2.toNatClampNeg (mm_6.1 1101 (y2 + (1 : Int32)).toNatClampNeg)) fun mm_9 => some (.inl ((y2 + 1), mm_9))
noncomputable def f_X12_ropeGoes (mm : Mm) (x1 : Int32) : Option (Mm) :=
  bi1 (lp (f_X12_ropeGoes_s2) (x1, mm)) fun mm_12 =>
    vlet (wI mm_12 1089 4 ((mm_12.1 1089 4) - (1 : Int32))) fun mm_13 => some mm_13
set_option maxHeartbeats 4000000 in
set_option maxRecDepth 100000 in
theorem c_X12_ropeGoes (l : Launch) (D : va_G) (dA : Nat → ClassId) (zz : (Nat → Nat) × (Nat → Nat)) (bs : Nat) (mm : Mm) (x1 : Int32) (m1 : Mm) (hf : f_X12_ropeGoes mm x1 = some m1) : Mw l D dA zz bs LY yX12_ropeGoes cX12_ropeGoes 3 none 0 0 [.ref (bs + 1088), .int x1] mm none m1 := by
  refine Mw.of (own := RX12) (by decide) rfl (Nat.le_of_ble_eq_true rfl) ?_
  intro p e s m args below meth c X hr0 hP hS ls hl
  have hx := X.1
  have hb := X.2.1
  obtain ⟨H, hH⟩ : ∃ z : Heap, z = s.heap := ⟨_, rfl⟩
  obtain ⟨locs, hL⟩ : ∃ z : List Loc, z = [] := ⟨_, rfl⟩
  rw [← hH, ← hL]
  have hS : va_S (Aq bs) s.heap H locs := by rw [hH, hL]; exact hS
  have hP : Wd D dA bs LY mm H := by rw [hH]; exact hP
  have hl : lv_has ls 3 [(0, .ref (bs + 1088)), (1, .int x1)] := hl
  unfold f_X12_ropeGoes at hf
  refine lv_iload_n hx hb dX12_ropeGoes_0 rfl (lv_at hl 1 rfl) ?_
  refine lv_istore_n (lv' := [(2, .int x1), (0, .ref (bs + 1088)), (1, .int x1)]) hx hb dX12_ropeGoes_1 rfl hl (by decide) rfl (fun ls hl => ?_)
  obtain ⟨q_14, hlp_15, hf⟩ := bi1S hf
  refine lp_walk (Wh := (fun z => match z with | (y2L_11, mmL_11) => ∀ (H : Heap) (locs : List Loc) (ls : Array Slot), Wd D dA bs LY mmL_11 H → va_S (Aq bs) s.heap H locs → lv_has ls 3 [(0, .ref (bs + 1088)), (2, .int y2L_11)] → Wz p l e s m args below meth c D dA bs none m1 0 0 H locs 2 ls [])) (Ph := (fun mm_12 => ∀ (H : Heap) (locs : List Loc) (ls : Array Slot), Wd D dA bs LY mm_12 H → va_S (Aq bs) s.heap H locs → lv_has ls 3 [(0, .ref (bs + 1088))] → Wz p l e s m args below meth c D dA bs none m1 0 0 H locs 62 ls [])) ?_ hlp_15 ?_ H locs ls hP hS (lv_sub hl [1, 0] rfl)
  · intro z o hf hB hE
    obtain ⟨y2L_11, mmL_11⟩ := z
    intro H locs ls hP hS hl
    have hf : f_X12_ropeGoes_s2 (y2L_11, mmL_11) = some o := hf
    unfold f_X12_ropeGoes_s2 at hf
    dsimp only at hf
    refine lv_iload_n hx hb dX12_ropeGoes_2 rfl (lv_at hl 1 rfl) ?_
    refine lv_iconst (v := 1) hx hb dX12_ropeGoes_3 (by decide) ?_
    refine lv_iadd hx hb dX12_ropeGoes_4 ?_
    refine lv_aload_n hx hb dX12_ropeGoes_5 rfl (lv_at hl 0 rfl) ?_
    refine wd_getR (q := 1089) X hP L1088 fl_X12_9 rfl dX12_ropeGoes_6 ?_
    refine lv_iconst (v := 4) hx hb dX12_ropeGoes_9 (by decide) ?_
    refine wd_ialdK (k := 4) X hP L1089 (by decide) (by decide) dX12_ropeGoes_10 ?_
    refine lv_icmp_ge (tgt := 62) hx hb dX12_ropeGoes_11 (by decide) (fun c_1 => ?_) (fun c_1 => ?_)
    · have hf := itT hf c_1
      obtain rfl := Option.some.inj hf
      exact hE _ rfl H locs ls hP hS (lv_sub hl [0] rfl)
    · have hf := itF hf c_1
      refine lv_aload_n hx hb dX12_ropeGoes_14 rfl (lv_at hl 0 rfl) ?_
      refine wd_getR (q := 1099) X hP L1088 fl_X12_40 rfl dX12_ropeGoes_15 ?_
      refine lv_iload_n hx hb dX12_ropeGoes_18 rfl (lv_at hl 1 rfl) ?_
      refine lv_aload_n hx hb dX12_ropeGoes_19 rfl (lv_at hl 0 rfl) ?_
      refine wd_getR (q := 1099) X hP L1088 fl_X12_40 rfl dX12_ropeGoes_20 ?_
      refine lv_iload_n hx hb dX12_ropeGoes_23 rfl (lv_at hl 1 rfl) ?_
      refine lv_iconst (v := 1) hx hb dX12_ropeGoes_24 (by decide) ?_
      refine lv_iadd hx hb dX12_ropeGoes_25 ?_
      have g_2 := gdN hf
      have hf := gdK hf
      refine wd_iald X hP L1099 g_2 dX12_ropeGoes_26 ?_
      have g_4 := gdN hf
      have hf := gdK hf
      refine wd_iast X hP hS L1099 g_4 dX12_ropeGoes_27 (fun H locs mm_3 emm_3 hP hS => ?_)
      have hf := vl hf emm_3
      refine lv_aload_n hx hb dX12_ropeGoes_28 rfl (lv_at hl 0 rfl) ?_
      refine wd_getR (q := 1100) X hP L1088 fl_X12_43 rfl dX12_ropeGoes_29 ?_
      refine lv_iload_n hx hb dX12_ropeGoes_32 rfl (lv_at hl 1 rfl) ?_
      refine lv_aload_n hx hb dX12_ropeGoes_33 rfl (lv_at hl 0 rfl) ?_
      refine wd_getR (q := 1100) X hP L1088 fl_X12_43 rfl dX12_ropeGoes_34 ?_
      refine lv_iload_n hx hb dX12_ropeGoes_37 rfl (lv_at hl 1 rfl) ?_
      refine lv_iconst (v := 1) hx hb dX12_ropeGoes_38 (by decide) ?_
      refine lv_iadd hx hb dX12_ropeGoes_39 ?_
      have g_5 := gdN hf
      have hf := gdK hf
      refine wd_iald X hP L1100 g_5 dX12_ropeGoes_40 ?_
      have g_7 := gdN hf
      have hf := gdK hf
      refine wd_iast X hP hS L1100 g_7 dX12_ropeGoes_41 (fun H locs mm_6 emm_6 hP hS => ?_)
      have hf := vl hf emm_6
      refine lv_aload_n hx hb dX12_ropeGoes_42 rfl (lv_at hl 0 rfl) ?_
      refine wd_getR (q := 1101) X hP L1088 fl_X12_46 rfl dX12_ropeGoes_43 ?_
      refine lv_iload_n hx hb dX12_ropeGoes_46 rfl (lv_at hl 1 rfl) ?_
      refine lv_aload_n hx hb dX12_ropeGoes_47 rfl (lv_at hl 0 rfl) ?_
      refine wd_getR (q := 1101) X hP L1088 fl_X12_46 rfl dX12_ropeGoes_48 ?_
      refine lv_iload_n hx hb dX12_ropeGoes_51 rfl (lv_at hl 1 rfl) ?_
      refine lv_iconst (v := 1) hx hb dX12_ropeGoes_52 (by decide) ?_
      refine lv_iadd hx hb dX12_ropeGoes_53 ?_
      have g_8 := gdN hf
      have hf := gdK hf
      refine wd_iald X hP L1101 g_8 dX12_ropeGoes_54 ?_
      have g_10 := gdN hf
      have hf := gdK hf
      refine wd_iast X hP hS L1101 g_10 dX12_ropeGoes_55 (fun H locs mm_9 emm_9 hP hS => ?_)
      have hf := vl hf emm_9
      refine lv_iinc (v := (y2L_11 + 1)) (lv' := [(2, .int (y2L_11 + 1)), (0, .ref (bs + 1088))]) hx hb dX12_ropeGoes_56 hl (k := 1) rfl rfl (by decide) rfl (fun ls hl => ?_)
      refine lv_goto (tgt := 2) hx hb dX12_ropeGoes_59 (by decide) ?_
      obtain rfl := Option.some.inj hf
      exact hB _ rfl H locs ls hP hS (lv_sub hl [1, 0] rfl)
  · obtain ⟨mm_12, e_mm_12⟩ : ∃ z, z = q_14 := ⟨_, rfl⟩
    subst e_mm_12
    intro H locs ls hP hS hl
    refine lv_aload_n hx hb dX12_ropeGoes_62 rfl (lv_at hl 0 rfl) ?_
    refine wd_getR (q := 1089) X hP L1088 fl_X12_9 rfl dX12_ropeGoes_63 ?_
    refine lv_iconst (v := 4) hx hb dX12_ropeGoes_66 (by decide) ?_
    refine lv_dup2_11 hx hb dX12_ropeGoes_67 rfl rfl ?_
    refine wd_ialdK (k := 4) X hP L1089 (by decide) (by decide) dX12_ropeGoes_68 ?_
    refine lv_iconst (v := 1) hx hb dX12_ropeGoes_69 (by decide) ?_
    refine lv_isub hx hb dX12_ropeGoes_70 ?_
    refine wd_iastK (k := 4) X hP hS L1089 (by decide) (by decide) dX12_ropeGoes_71 (fun H locs mm_13 emm_13 hP hS => ?_)
    have hf := vl hf emm_13
    obtain rfl := Option.some.inj hf
    exact wd_vret X hP hS hr0 dX12_ropeGoes_72 ⟨rfl, rfl⟩

noncomputable def f_X12_ropesGoOf_j67 (mm : Mm) (y1 : Int32) (y2 : Int32) (y3 : Int32) (y4 : Int32) (z0 : Int32) (z1 : Int32) (z2 : Int32) : Option ((Int32 × Int32 × Mm) ⊕ (Int32 × Mm)) :=
  if z2 < 0 ∨ 9 ≤ z2.toNatClampNeg then none else
    vlet (wI mm 1089 z2.toNatClampNeg (z1 + z0)) fun mm_2 =>
      bi1 (f_X12_ropeGoes mm_2 y4) fun mm_4 => some (.inl ((y3 + 1), (y4 + (-1)), mm_4))
noncomputable def f_X12_ropesGoOf_j45 (mm : Mm) (y1 : Int32) (y2 : Int32) (y3 : Int32) (y4 : Int32) : Option ((Int32 × Int32 × Mm) ⊕ (Int32 × Mm)) :=
  if y2 = 0 then
    f_X12_ropesGoOf_j67 mm y1 y2 y3 y4 (0 : Int32) (mm.1 1089 1) (1 : Int32)
  else
    if y4 < 0 ∨ 12 ≤ y4.toNatClampNeg then none else
      f_X12_ropesGoOf_j67 mm y1 y2 y3 y4 (mm.1 1101 y4.toNatClampNeg) (mm.1 1089 1) (1 : Int32)
noncomputable def f_X12_ropesGoOf_s12 (y1 : Int32) (y2 : Int32) : (Int32 × Int32 × Mm) → Option ((Int32 × Int32 × Mm) ⊕ (Int32 × Mm)) :=
  fun q => match q with
  | (y3, y4, mm) =>
    if y4 < 0 then
      some (.inr (y3, mm))
    else
      if y4 < 0 ∨ 12 ≤ y4.toNatClampNeg then none else
        if (f_X12_has y1 (mm.1 1099 y4.toNatClampNeg)) = 0 then
          if y4 < 0 ∨ 12 ≤ y4.toNatClampNeg then none else
            if (f_X12_has y1 (mm.1 1100 y4.toNatClampNeg)) = 0 then
              some (.inl (y3, (y4 + (-1)), mm))
            else
              f_X12_ropesGoOf_j45 mm y1 y2 y3 y4
        else
          f_X12_ropesGoOf_j45 mm y1 y2 y3 y4
noncomputable def f_X12_ropesGoOf (mm : Mm) (x1 : Int32) (x2 : Int32) : Option (Int32 × Mm) :=
  vlet ((mm.1 1089 4) - (1 : Int32)) fun (x4_1 : Int32) =>
    bi1 (lp (f_X12_ropesGoOf_s12 x1 x2) ((0 : Int32), x4_1, mm)) fun q => match q with
    | (w3_16, mm_17) =>
      some (w3_16, mm_17)
set_option maxHeartbeats 4000000 in
set_option maxRecDepth 100000 in
theorem c_X12_ropesGoOf (l : Launch) (D : va_G) (dA : Nat → ClassId) (zz : (Nat → Nat) × (Nat → Nat)) (bs : Nat) (mm : Mm) (x1 : Int32) (x2 : Int32) (out : Int32) (m1 : Mm) (hf : f_X12_ropesGoOf mm x1 x2 = some (out, m1)) : Mw l D dA zz bs LY yX12_ropesGoOf cX12_ropesGoOf 5 (some .int) 1 22 [.ref (bs + 1088), .int x1, .int x2] mm (some (.int out)) m1 := by
  refine Mw.of (own := RX12) (by decide) rfl (Nat.le_of_ble_eq_true rfl) ?_
  intro p e s m args below meth c X hr0 hP hS ls hl
  have hx := X.1
  have hb := X.2.1
  obtain ⟨H, hH⟩ : ∃ z : Heap, z = s.heap := ⟨_, rfl⟩
  obtain ⟨locs, hL⟩ : ∃ z : List Loc, z = [] := ⟨_, rfl⟩
  rw [← hH, ← hL]
  have hS : va_S (Aq bs) s.heap H locs := by rw [hH, hL]; exact hS
  have hP : Wd D dA bs LY mm H := by rw [hH]; exact hP
  have hl : lv_has ls 5 [(0, .ref (bs + 1088)), (1, .int x1), (2, .int x2)] := hl
  unfold f_X12_ropesGoOf at hf
  refine lv_iconst (v := 0) hx hb dX12_ropesGoOf_0 (by decide) ?_
  refine lv_istore_n (lv' := [(3, .int (0 : Int32)), (0, .ref (bs + 1088)), (1, .int x1), (2, .int x2)]) hx hb dX12_ropesGoOf_1 rfl hl (by decide) rfl (fun ls hl => ?_)
  refine lv_aload_n hx hb dX12_ropesGoOf_2 rfl (lv_at hl 1 rfl) ?_
  refine wd_getR (q := 1089) X hP L1088 fl_X12_9 rfl dX12_ropesGoOf_3 ?_
  refine lv_iconst (v := 4) hx hb dX12_ropesGoOf_6 (by decide) ?_
  refine wd_ialdK (k := 4) X hP L1089 (by decide) (by decide) dX12_ropesGoOf_7 ?_
  refine lv_iconst (v := 1) hx hb dX12_ropesGoOf_8 (by decide) ?_
  refine lv_isub hx hb dX12_ropesGoOf_9 ?_
  refine lv_topi (fun x4_1 ex4_1 => ?_)
  have hf := vl hf ex4_1
  refine lv_istore (lv' := [(4, .int x4_1), (3, .int (0 : Int32)), (0, .ref (bs + 1088)), (1, .int x1), (2, .int x2)]) hx hb dX12_ropesGoOf_10 hl (by decide) rfl (fun ls hl => ?_)
  obtain ⟨q_18, hlp_19, hf⟩ := bi1S hf
  refine lp_walk (Wh := (fun z => match z with | (y3L_15, y4L_15, mmL_15) => ∀ (H : Heap) (locs : List Loc) (ls : Array Slot), Wd D dA bs LY mmL_15 H → va_S (Aq bs) s.heap H locs → lv_has ls 5 [(0, .ref (bs + 1088)), (1, .int x1), (2, .int x2), (3, .int y3L_15), (4, .int y4L_15)] → Wz p l e s m args below meth c D dA bs (some (.int out)) m1 1 22 H locs 12 ls [])) (Ph := (fun z => match z with | (w3_16, mm_17) => ∀ (H : Heap) (locs : List Loc) (ls : Array Slot), Wd D dA bs LY mm_17 H → va_S (Aq bs) s.heap H locs → lv_has ls 5 [(3, .int w3_16)] → Wz p l e s m args below meth c D dA bs (some (.int out)) m1 1 22 H locs 84 ls [])) ?_ hlp_19 ?_ H locs ls hP hS (lv_sub hl [2, 3, 4, 1, 0] rfl)
  · intro z o hf hB hE
    obtain ⟨y3L_15, y4L_15, mmL_15⟩ := z
    intro H locs ls hP hS hl
    have hf : f_X12_ropesGoOf_s12 x1 x2 (y3L_15, y4L_15, mmL_15) = some o := hf
    unfold f_X12_ropesGoOf_s12 at hf
    dsimp only at hf
    have hJ67 : ∀ (mmJ_6 : Mm) (y3J_6 : Int32) (y4J_6 : Int32) (z0J_6 : Int32) (z1J_6 : Int32) (z2J_6 : Int32) (H : Heap) (locs : List Loc) (ls : Array Slot), f_X12_ropesGoOf_j67 mmJ_6 x1 x2 y3J_6 y4J_6 z0J_6 z1J_6 z2J_6 = some o → Wd D dA bs LY mmJ_6 H → va_S (Aq bs) s.heap H locs → lv_has ls 5 [(0, .ref (bs + 1088)), (1, .int x1), (2, .int x2), (3, .int y3J_6), (4, .int y4J_6)] → Wz p l e s m args below meth c D dA bs (some (.int out)) m1 1 22 H locs 67 ls [.int z0J_6, .int z1J_6, .int z2J_6, .ref (bs + 1089)] := by
      intro mmJ_6 y3J_6 y4J_6 z0J_6 z1J_6 z2J_6 H locs ls hf hP hS hl
      unfold f_X12_ropesGoOf_j67 at hf
      refine lv_iadd hx hb dX12_ropesGoOf_67 ?_
      have g_3 := gdN hf
      have hf := gdK hf
      refine wd_iast X hP hS L1089 g_3 dX12_ropesGoOf_68 (fun H locs mm_2 emm_2 hP hS => ?_)
      have hf := vl hf emm_2
      refine lv_aload_n hx hb dX12_ropesGoOf_69 rfl (lv_at hl 0 rfl) ?_
      refine lv_iload hx hb dX12_ropesGoOf_70 (lv_at hl 4 rfl) ?_
      obtain ⟨mm_4, hc_5, hf⟩ := bi1S hf
      refine wd_cv X hP hS L1088 ml_X12_439 ⟨_, _, rfl⟩ (c_X12_ropeGoes l D dA zz bs mm_2 y4J_6 mm_4 hc_5) rfl ⟨Nat.le_of_ble_eq_true rfl, Nat.le_of_ble_eq_true rfl⟩ hl.1 rfl (rest := []) (Nat.le_of_ble_eq_true rfl) ⟨Nat.zero_le _, Nat.zero_le _⟩ dX12_ropesGoOf_72 (fun H locs hP hS => ?_)
      refine W.eq (g2 := F0 m 75 ls []) rfl ?_
      refine lv_iinc (v := (y3J_6 + 1)) (lv' := [(3, .int (y3J_6 + 1)), (0, .ref (bs + 1088)), (1, .int x1), (2, .int x2), (4, .int y4J_6)]) hx hb dX12_ropesGoOf_75 hl (k := 3) rfl rfl (by decide) rfl (fun ls hl => ?_)
      refine lv_iinc (v := (y4J_6 + (-1))) (lv' := [(4, .int (y4J_6 + (-1))), (3, .int (y3J_6 + 1)), (0, .ref (bs + 1088)), (1, .int x1), (2, .int x2)]) hx hb dX12_ropesGoOf_78 hl (k := 4) rfl rfl (by decide) rfl (fun ls hl => ?_)
      refine lv_goto (tgt := 12) hx hb dX12_ropesGoOf_81 (by decide) ?_
      obtain rfl := Option.some.inj hf
      exact hB _ rfl H locs ls hP hS (lv_sub hl [2, 3, 4, 1, 0] rfl)
    have hJ45 : ∀ (mmJ_9 : Mm) (y3J_9 : Int32) (y4J_9 : Int32) (H : Heap) (locs : List Loc) (ls : Array Slot), f_X12_ropesGoOf_j45 mmJ_9 x1 x2 y3J_9 y4J_9 = some o → Wd D dA bs LY mmJ_9 H → va_S (Aq bs) s.heap H locs → lv_has ls 5 [(0, .ref (bs + 1088)), (1, .int x1), (2, .int x2), (3, .int y3J_9), (4, .int y4J_9)] → Wz p l e s m args below meth c D dA bs (some (.int out)) m1 1 22 H locs 45 ls [] := by
      intro mmJ_9 y3J_9 y4J_9 H locs ls hf hP hS hl
      unfold f_X12_ropesGoOf_j45 at hf
      refine lv_aload_n hx hb dX12_ropesGoOf_45 rfl (lv_at hl 0 rfl) ?_
      refine wd_getR (q := 1089) X hP L1088 fl_X12_9 rfl dX12_ropesGoOf_46 ?_
      refine lv_iconst (v := 1) hx hb dX12_ropesGoOf_49 (by decide) ?_
      refine lv_dup2_11 hx hb dX12_ropesGoOf_50 rfl rfl ?_
      refine wd_ialdK (k := 1) X hP L1089 (by decide) (by decide) dX12_ropesGoOf_51 ?_
      refine lv_iload_n hx hb dX12_ropesGoOf_52 rfl (lv_at hl 2 rfl) ?_
      refine lv_if_eq (tgt := 66) hx hb dX12_ropesGoOf_53 (by decide) (fun c_7 => ?_) (fun c_7 => ?_)
      · have hf := itT hf c_7
        refine lv_iconst (v := 0) hx hb dX12_ropesGoOf_66 (by decide) ?_
        exact hJ67 mmJ_9 y3J_9 y4J_9 (0 : Int32) (mmJ_9.1 1089 1) (1 : Int32) H locs ls hf hP hS (lv_sub hl [0, 1, 2, 3, 4] rfl)
      · have hf := itF hf c_7
        refine lv_aload_n hx hb dX12_ropesGoOf_56 rfl (lv_at hl 0 rfl) ?_
        refine wd_getR (q := 1101) X hP L1088 fl_X12_46 rfl dX12_ropesGoOf_57 ?_
        refine lv_iload hx hb dX12_ropesGoOf_60 (lv_at hl 4 rfl) ?_
        have g_8 := gdN hf
        have hf := gdK hf
        refine wd_iald X hP L1101 g_8 dX12_ropesGoOf_62 ?_
        refine lv_goto (tgt := 67) hx hb dX12_ropesGoOf_63 (by decide) ?_
        exact hJ67 mmJ_9 y3J_9 y4J_9 (mmJ_9.1 1101 y4J_9.toNatClampNeg) (mmJ_9.1 1089 1) (1 : Int32) H locs ls hf hP hS (lv_sub hl [0, 1, 2, 3, 4] rfl)
    refine lv_iload hx hb dX12_ropesGoOf_12 (lv_at hl 4 rfl) ?_
    refine lv_if_lt (tgt := 84) hx hb dX12_ropesGoOf_14 (by decide) (fun c_10 => ?_) (fun c_10 => ?_)
    · have hf := itT hf c_10
      obtain rfl := Option.some.inj hf
      exact hE _ rfl H locs ls hP hS (lv_sub hl [3] rfl)
    · have hf := itF hf c_10
      refine lv_iload_n hx hb dX12_ropesGoOf_17 rfl (lv_at hl 1 rfl) ?_
      refine lv_aload_n hx hb dX12_ropesGoOf_18 rfl (lv_at hl 0 rfl) ?_
      refine wd_getR (q := 1099) X hP L1088 fl_X12_40 rfl dX12_ropesGoOf_19 ?_
      refine lv_iload hx hb dX12_ropesGoOf_22 (lv_at hl 4 rfl) ?_
      have g_11 := gdN hf
      have hf := gdK hf
      refine wd_iald X hP L1099 g_11 dX12_ropesGoOf_24 ?_
      refine wd_cs X hP hS ml_X12_390 (c_X12_has l D dA zz bs mmL_15 x1 (mmL_15.1 1099 y4L_15.toNatClampNeg) (f_X12_has x1 (mmL_15.1 1099 y4L_15.toNatClampNeg)) rfl) rfl ⟨Nat.le_of_ble_eq_true rfl, Nat.le_of_ble_eq_true rfl⟩ hl.1 rfl (rest := []) (Nat.le_of_ble_eq_true rfl) ⟨Nat.zero_le _, Nat.zero_le _⟩ dX12_ropesGoOf_25 (fun H locs hP hS => ?_)
      refine W.eq (g2 := F0 m 28 ls [.int (f_X12_has x1 (mmL_15.1 1099 y4L_15.toNatClampNeg))]) rfl ?_
      refine lv_if_ne (tgt := 45) hx hb dX12_ropesGoOf_28 (by decide) (fun c_12 => ?_) (fun c_12 => ?_)
      · have hf := itF hf c_12
        exact hJ45 mmL_15 y3L_15 y4L_15 H locs ls hf hP hS (lv_sub hl [0, 1, 2, 3, 4] rfl)
      · have hf := itT hf c_12
        refine lv_iload_n hx hb dX12_ropesGoOf_31 rfl (lv_at hl 1 rfl) ?_
        refine lv_aload_n hx hb dX12_ropesGoOf_32 rfl (lv_at hl 0 rfl) ?_
        refine wd_getR (q := 1100) X hP L1088 fl_X12_43 rfl dX12_ropesGoOf_33 ?_
        refine lv_iload hx hb dX12_ropesGoOf_36 (lv_at hl 4 rfl) ?_
        have g_13 := gdN hf
        have hf := gdK hf
        refine wd_iald X hP L1100 g_13 dX12_ropesGoOf_38 ?_
        refine wd_cs X hP hS ml_X12_390 (c_X12_has l D dA zz bs mmL_15 x1 (mmL_15.1 1100 y4L_15.toNatClampNeg) (f_X12_has x1 (mmL_15.1 1100 y4L_15.toNatClampNeg)) rfl) rfl ⟨Nat.le_of_ble_eq_true rfl, Nat.le_of_ble_eq_true rfl⟩ hl.1 rfl (rest := []) (Nat.le_of_ble_eq_true rfl) ⟨Nat.zero_le _, Nat.zero_le _⟩ dX12_ropesGoOf_39 (fun H locs hP hS => ?_)
        refine W.eq (g2 := F0 m 42 ls [.int (f_X12_has x1 (mmL_15.1 1100 y4L_15.toNatClampNeg))]) rfl ?_
        refine lv_if_eq (tgt := 78) hx hb dX12_ropesGoOf_42 (by decide) (fun c_14 => ?_) (fun c_14 => ?_)
        · have hf := itT hf c_14
          refine lv_iinc (v := (y4L_15 + (-1))) (lv' := [(4, .int (y4L_15 + (-1))), (0, .ref (bs + 1088)), (1, .int x1), (2, .int x2), (3, .int y3L_15)]) hx hb dX12_ropesGoOf_78 hl (k := 4) rfl rfl (by decide) rfl (fun ls hl => ?_)
          refine lv_goto (tgt := 12) hx hb dX12_ropesGoOf_81 (by decide) ?_
          obtain rfl := Option.some.inj hf
          exact hB _ rfl H locs ls hP hS (lv_sub hl [1, 2, 3, 4, 0] rfl)
        · have hf := itF hf c_14
          exact hJ45 mmL_15 y3L_15 y4L_15 H locs ls hf hP hS (lv_sub hl [0, 1, 2, 3, 4] rfl)
  · obtain ⟨w3_16, mm_17⟩ := q_18
    dsimp only at hf
    intro H locs ls hP hS hl
    refine lv_iload_n hx hb dX12_ropesGoOf_84 rfl (lv_at hl 0 rfl) ?_
    obtain ⟨rfl, rfl⟩ := Prod.mk.inj (Option.some.inj hf)
    exact wd_iret X hP hS hr0 dX12_ropesGoOf_85 ⟨rfl, rfl⟩

noncomputable def f_X12_isBound_j32 (mm : Mm) (y1 : Int32) (y2 : Int32) (y3 : Int32) : Option ((Int32) ⊕ ((Unit) ⊕ (Unit))) :=
  if y3 < 0 ∨ 12 ≤ y3.toNatClampNeg then none else
    if (mm.1 1099 y3.toNatClampNeg) = y2 then
      if y3 < 0 ∨ 12 ≤ y3.toNatClampNeg then none else
        if (mm.1 1100 y3.toNatClampNeg) = y1 then
          some (.inr (.inl ()))
        else
          some (.inl (y3 + 1))
    else
      some (.inl (y3 + 1))
noncomputable def f_X12_isBound_s2 (mm : Mm) (y1 : Int32) (y2 : Int32) : (Int32) → Option ((Int32) ⊕ ((Unit) ⊕ (Unit))) :=
  fun (y3 : Int32) =>
    if (mm.1 1089 4) ≤ y3 then
      some (.inr (.inr (())))
    else
      if y3 < 0 ∨ 12 ≤ y3.toNatClampNeg then none else
        if (mm.1 1099 y3.toNatClampNeg) = y1 then
          if y3 < 0 ∨ 12 ≤ y3.toNatClampNeg then none else
            if (mm.1 1100 y3.toNatClampNeg) = y2 then
              some (.inr (.inl ()))
            else
              f_X12_isBound_j32 mm y1 y2 y3
        else
          f_X12_isBound_j32 mm y1 y2 y3
noncomputable def f_X12_isBound (mm : Mm) (x1 : Int32) (x2 : Int32) : Option (Int32) :=
  bi1 (lp (f_X12_isBound_s2 mm x1 x2) (0 : Int32)) fun q => match q with
  | .inl () =>
    some (1 : Int32)
  | .inr (()) =>
    some (0 : Int32)
set_option maxHeartbeats 4000000 in
set_option maxRecDepth 100000 in
theorem c_X12_isBound (l : Launch) (D : va_G) (dA : Nat → ClassId) (zz : (Nat → Nat) × (Nat → Nat)) (bs : Nat) (mm : Mm) (x1 : Int32) (x2 : Int32) (out : Int32) (hf : f_X12_isBound mm x1 x2 = some out) : Mw l D dA zz bs LY yX12_isBound cX12_isBound 4 (some .boolean) 0 0 [.ref (bs + 1088), .int x1, .int x2] mm (some (.int out)) mm := by
  refine Mw.of (own := RX12) (by decide) rfl (Nat.le_of_ble_eq_true rfl) ?_
  intro p e s m args below meth c X hr0 hP hS ls hl
  have hx := X.1
  have hb := X.2.1
  obtain ⟨H, hH⟩ : ∃ z : Heap, z = s.heap := ⟨_, rfl⟩
  obtain ⟨locs, hL⟩ : ∃ z : List Loc, z = [] := ⟨_, rfl⟩
  rw [← hH, ← hL]
  have hS : va_S (Aq bs) s.heap H locs := by rw [hH, hL]; exact hS
  have hP : Wd D dA bs LY mm H := by rw [hH]; exact hP
  have hl : lv_has ls 4 [(0, .ref (bs + 1088)), (1, .int x1), (2, .int x2)] := hl
  unfold f_X12_isBound at hf
  refine lv_iconst (v := 0) hx hb dX12_isBound_0 (by decide) ?_
  refine lv_istore_n (lv' := [(3, .int (0 : Int32)), (0, .ref (bs + 1088)), (1, .int x1), (2, .int x2)]) hx hb dX12_isBound_1 rfl hl (by decide) rfl (fun ls hl => ?_)
  obtain ⟨q_12, hlp_13, hf⟩ := bi1S hf
  refine lp_walk (Wh := (fun y3L_11 => ∀ (H : Heap) (locs : List Loc) (ls : Array Slot), Wd D dA bs LY mm H → va_S (Aq bs) s.heap H locs → lv_has ls 4 [(0, .ref (bs + 1088)), (1, .int x1), (2, .int x2), (3, .int y3L_11)] → Wz p l e s m args below meth c D dA bs (some (.int out)) mm 0 0 H locs 2 ls [])) (Ph := (fun z => match z with | .inl () => ∀ (H : Heap) (locs : List Loc) (ls : Array Slot), Wd D dA bs LY mm H → va_S (Aq bs) s.heap H locs → lv_has ls 4 [] → Wz p l e s m args below meth c D dA bs (some (.int out)) mm 0 0 H locs 52 ls [] | .inr (()) => ∀ (H : Heap) (locs : List Loc) (ls : Array Slot), Wd D dA bs LY mm H → va_S (Aq bs) s.heap H locs → lv_has ls 4 [] → Wz p l e s m args below meth c D dA bs (some (.int out)) mm 0 0 H locs 60 ls [])) ?_ hlp_13 ?_ H locs ls hP hS (lv_sub hl [1, 2, 3, 0] rfl)
  · intro y3L_11 o hf hB hE
    intro H locs ls hP hS hl
    have hf : f_X12_isBound_s2 mm x1 x2 y3L_11 = some o := hf
    unfold f_X12_isBound_s2 at hf
    have hJ32 : ∀ (y3J_5 : Int32) (H : Heap) (locs : List Loc) (ls : Array Slot), f_X12_isBound_j32 mm x1 x2 y3J_5 = some o → Wd D dA bs LY mm H → va_S (Aq bs) s.heap H locs → lv_has ls 4 [(0, .ref (bs + 1088)), (1, .int x1), (2, .int x2), (3, .int y3J_5)] → Wz p l e s m args below meth c D dA bs (some (.int out)) mm 0 0 H locs 32 ls [] := by
      intro y3J_5 H locs ls hf hP hS hl
      unfold f_X12_isBound_j32 at hf
      refine lv_aload_n hx hb dX12_isBound_32 rfl (lv_at hl 0 rfl) ?_
      refine wd_getR (q := 1099) X hP L1088 fl_X12_40 rfl dX12_isBound_33 ?_
      refine lv_iload_n hx hb dX12_isBound_36 rfl (lv_at hl 3 rfl) ?_
      have g_1 := gdN hf
      have hf := gdK hf
      refine wd_iald X hP L1099 g_1 dX12_isBound_37 ?_
      refine lv_iload_n hx hb dX12_isBound_38 rfl (lv_at hl 2 rfl) ?_
      refine lv_icmp_ne (tgt := 54) hx hb dX12_isBound_39 (by decide) (fun c_2 => ?_) (fun c_2 => ?_)
      · have hf := itF hf c_2
        refine lv_iinc (v := (y3J_5 + 1)) (lv' := [(3, .int (y3J_5 + 1)), (0, .ref (bs + 1088)), (1, .int x1), (2, .int x2)]) hx hb dX12_isBound_54 hl (k := 3) rfl rfl (by decide) rfl (fun ls hl => ?_)
        refine lv_goto (tgt := 2) hx hb dX12_isBound_57 (by decide) ?_
        obtain rfl := Option.some.inj hf
        exact hB _ rfl H locs ls hP hS (lv_sub hl [1, 2, 3, 0] rfl)
      · have hf := itT hf c_2
        refine lv_aload_n hx hb dX12_isBound_42 rfl (lv_at hl 0 rfl) ?_
        refine wd_getR (q := 1100) X hP L1088 fl_X12_43 rfl dX12_isBound_43 ?_
        refine lv_iload_n hx hb dX12_isBound_46 rfl (lv_at hl 3 rfl) ?_
        have g_3 := gdN hf
        have hf := gdK hf
        refine wd_iald X hP L1100 g_3 dX12_isBound_47 ?_
        refine lv_iload_n hx hb dX12_isBound_48 rfl (lv_at hl 1 rfl) ?_
        refine lv_icmp_ne (tgt := 54) hx hb dX12_isBound_49 (by decide) (fun c_4 => ?_) (fun c_4 => ?_)
        · have hf := itF hf c_4
          refine lv_iinc (v := (y3J_5 + 1)) (lv' := [(3, .int (y3J_5 + 1)), (0, .ref (bs + 1088)), (1, .int x1), (2, .int x2)]) hx hb dX12_isBound_54 hl (k := 3) rfl rfl (by decide) rfl (fun ls hl => ?_)
          refine lv_goto (tgt := 2) hx hb dX12_isBound_57 (by decide) ?_
          obtain rfl := Option.some.inj hf
          exact hB _ rfl H locs ls hP hS (lv_sub hl [1, 2, 3, 0] rfl)
        · have hf := itT hf c_4
          obtain rfl := Option.some.inj hf
          exact hE _ rfl H locs ls hP hS (lv_sub hl [] rfl)
    refine lv_iload_n hx hb dX12_isBound_2 rfl (lv_at hl 3 rfl) ?_
    refine lv_aload_n hx hb dX12_isBound_3 rfl (lv_at hl 0 rfl) ?_
    refine wd_getR (q := 1089) X hP L1088 fl_X12_9 rfl dX12_isBound_4 ?_
    refine lv_iconst (v := 4) hx hb dX12_isBound_7 (by decide) ?_
    refine wd_ialdK (k := 4) X hP L1089 (by decide) (by decide) dX12_isBound_8 ?_
    refine lv_icmp_ge (tgt := 60) hx hb dX12_isBound_9 (by decide) (fun c_6 => ?_) (fun c_6 => ?_)
    · have hf := itT hf c_6
      obtain rfl := Option.some.inj hf
      exact hE _ rfl H locs ls hP hS (lv_sub hl [] rfl)
    · have hf := itF hf c_6
      refine lv_aload_n hx hb dX12_isBound_12 rfl (lv_at hl 0 rfl) ?_
      refine wd_getR (q := 1099) X hP L1088 fl_X12_40 rfl dX12_isBound_13 ?_
      refine lv_iload_n hx hb dX12_isBound_16 rfl (lv_at hl 3 rfl) ?_
      have g_7 := gdN hf
      have hf := gdK hf
      refine wd_iald X hP L1099 g_7 dX12_isBound_17 ?_
      refine lv_iload_n hx hb dX12_isBound_18 rfl (lv_at hl 1 rfl) ?_
      refine lv_icmp_ne (tgt := 32) hx hb dX12_isBound_19 (by decide) (fun c_8 => ?_) (fun c_8 => ?_)
      · have hf := itF hf c_8
        exact hJ32 y3L_11 H locs ls hf hP hS (lv_sub hl [0, 1, 2, 3] rfl)
      · have hf := itT hf c_8
        refine lv_aload_n hx hb dX12_isBound_22 rfl (lv_at hl 0 rfl) ?_
        refine wd_getR (q := 1100) X hP L1088 fl_X12_43 rfl dX12_isBound_23 ?_
        refine lv_iload_n hx hb dX12_isBound_26 rfl (lv_at hl 3 rfl) ?_
        have g_9 := gdN hf
        have hf := gdK hf
        refine wd_iald X hP L1100 g_9 dX12_isBound_27 ?_
        refine lv_iload_n hx hb dX12_isBound_28 rfl (lv_at hl 2 rfl) ?_
        refine lv_icmp_eq (tgt := 52) hx hb dX12_isBound_29 (by decide) (fun c_10 => ?_) (fun c_10 => ?_)
        · have hf := itT hf c_10
          obtain rfl := Option.some.inj hf
          exact hE _ rfl H locs ls hP hS (lv_sub hl [] rfl)
        · have hf := itF hf c_10
          exact hJ32 y3L_11 H locs ls hf hP hS (lv_sub hl [0, 1, 2, 3] rfl)
  · rcases q_12 with ⟨⟩ | ⟨⟩
    · dsimp only at hf
      intro H locs ls hP hS hl
      refine lv_iconst (v := 1) hx hb dX12_isBound_52 (by decide) ?_
      obtain rfl := Option.some.inj hf
      exact wd_zret X hP hS hr0 (by decide) dX12_isBound_53 ⟨rfl, rfl⟩
    · dsimp only at hf
      intro H locs ls hP hS hl
      refine lv_iconst (v := 0) hx hb dX12_isBound_60 (by decide) ?_
      obtain rfl := Option.some.inj hf
      exact wd_zret X hP hS hr0 (by decide) dX12_isBound_61 ⟨rfl, rfl⟩

noncomputable def f_X12_canBind (mm : Mm) (x1 : Int32) (x2 : Int32) (x3 : Int32) : Option (Int32) :=
  bi1 (f_X12_isAfloat mm x1) fun r_2 =>
    if r_2 = 0 then
      some (0 : Int32)
    else
      bi1 (f_X12_isAfloat mm x2) fun r_5 =>
        if r_5 = 0 then
          some (0 : Int32)
        else
          if x1 = x2 then
            some (0 : Int32)
          else
            if (f_X12_in (x3.toInt64) (1 : Int64) (9 : Int64)) = 0 then
              some (0 : Int32)
            else
              if (mm.1 1089 1) < x3 then
                some (0 : Int32)
              else
                if (12 : Int32) ≤ (mm.1 1089 4) then
                  some (0 : Int32)
                else
                  bi1 (f_X12_isBound mm x1 x2) fun r_12 =>
                    if r_12 = 0 then
                      some (1 : Int32)
                    else
                      some (0 : Int32)
set_option maxHeartbeats 4000000 in
set_option maxRecDepth 100000 in
theorem c_X12_canBind (l : Launch) (D : va_G) (dA : Nat → ClassId) (zz : (Nat → Nat) × (Nat → Nat)) (bs : Nat) (mm : Mm) (x1 : Int32) (x2 : Int32) (x3 : Int32) (out : Int32) (hf : f_X12_canBind mm x1 x2 x3 = some out) : Mw l D dA zz bs LY yX12_canBind cX12_canBind 4 (some .boolean) 3 67 [.ref (bs + 1088), .int x1, .int x2, .int x3] mm (some (.int out)) mm := by
  refine Mw.of (own := RX12) (by decide) rfl (Nat.le_of_ble_eq_true rfl) ?_
  intro p e s m args below meth c X hr0 hP hS ls hl
  have hx := X.1
  have hb := X.2.1
  obtain ⟨H, hH⟩ : ∃ z : Heap, z = s.heap := ⟨_, rfl⟩
  obtain ⟨locs, hL⟩ : ∃ z : List Loc, z = [] := ⟨_, rfl⟩
  rw [← hH, ← hL]
  have hS : va_S (Aq bs) s.heap H locs := by rw [hH, hL]; exact hS
  have hP : Wd D dA bs LY mm H := by rw [hH]; exact hP
  have hl : lv_has ls 4 [(0, .ref (bs + 1088)), (1, .int x1), (2, .int x2), (3, .int x3)] := hl
  unfold f_X12_canBind at hf
  refine lv_aload_n hx hb dX12_canBind_0 rfl (lv_at hl 0 rfl) ?_
  refine lv_iload_n hx hb dX12_canBind_1 rfl (lv_at hl 1 rfl) ?_
  obtain ⟨r_2, hc_1, hf⟩ := bi1S hf
  refine wd_cv X hP hS L1088 ml_X12_436 ⟨_, _, rfl⟩ (c_X12_isAfloat l D dA zz bs mm x1 r_2 hc_1) rfl ⟨Nat.le_of_ble_eq_true rfl, Nat.le_of_ble_eq_true rfl⟩ hl.1 rfl (rest := []) (Nat.le_of_ble_eq_true rfl) ⟨Nat.zero_le _, Nat.zero_le _⟩ dX12_canBind_2 (fun H locs hP hS => ?_)
  refine W.eq (g2 := F0 m 5 ls [.int r_2]) rfl ?_
  refine lv_if_eq (tgt := 67) hx hb dX12_canBind_5 (by decide) (fun c_3 => ?_) (fun c_3 => ?_)
  · have hf := itT hf c_3
    refine lv_iconst (v := 0) hx hb dX12_canBind_67 (by decide) ?_
    obtain rfl := Option.some.inj hf
    exact wd_zret X hP hS hr0 (by decide) dX12_canBind_68 ⟨rfl, rfl⟩
  · have hf := itF hf c_3
    refine lv_aload_n hx hb dX12_canBind_8 rfl (lv_at hl 0 rfl) ?_
    refine lv_iload_n hx hb dX12_canBind_9 rfl (lv_at hl 2 rfl) ?_
    obtain ⟨r_5, hc_4, hf⟩ := bi1S hf
    refine wd_cv X hP hS L1088 ml_X12_436 ⟨_, _, rfl⟩ (c_X12_isAfloat l D dA zz bs mm x2 r_5 hc_4) rfl ⟨Nat.le_of_ble_eq_true rfl, Nat.le_of_ble_eq_true rfl⟩ hl.1 rfl (rest := []) (Nat.le_of_ble_eq_true rfl) ⟨Nat.zero_le _, Nat.zero_le _⟩ dX12_canBind_10 (fun H locs hP hS => ?_)
    refine W.eq (g2 := F0 m 13 ls [.int r_5]) rfl ?_
    refine lv_if_eq (tgt := 67) hx hb dX12_canBind_13 (by decide) (fun c_6 => ?_) (fun c_6 => ?_)
    · have hf := itT hf c_6
      refine lv_iconst (v := 0) hx hb dX12_canBind_67 (by decide) ?_
      obtain rfl := Option.some.inj hf
      exact wd_zret X hP hS hr0 (by decide) dX12_canBind_68 ⟨rfl, rfl⟩
    · have hf := itF hf c_6
      refine lv_iload_n hx hb dX12_canBind_16 rfl (lv_at hl 1 rfl) ?_
      refine lv_iload_n hx hb dX12_canBind_17 rfl (lv_at hl 2 rfl) ?_
      refine lv_icmp_eq (tgt := 67) hx hb dX12_canBind_18 (by decide) (fun c_7 => ?_) (fun c_7 => ?_)
      · have hf := itT hf c_7
        refine lv_iconst (v := 0) hx hb dX12_canBind_67 (by decide) ?_
        obtain rfl := Option.some.inj hf
        exact wd_zret X hP hS hr0 (by decide) dX12_canBind_68 ⟨rfl, rfl⟩
      · have hf := itF hf c_7
        refine lv_iload_n hx hb dX12_canBind_21 rfl (lv_at hl 3 rfl) ?_
        refine lv_i2l hx hb dX12_canBind_22 rfl ?_
        refine lv_lconst (v := 1) hx hb dX12_canBind_23 (by decide) ?_
        refine lv_ldc2 (own := RX12) (v := 9) hx hb X.2.2.2.1 (X.2.2.2.2.1 _ (tb_at 1686 (by decide +kernel) (by decide +kernel))) dX12_canBind_24 ?_
        refine wd_cs X hP hS ml_X12_176 (c_X12_in l D dA zz bs mm (x3.toInt64) (1 : Int64) (9 : Int64) (f_X12_in (x3.toInt64) (1 : Int64) (9 : Int64)) rfl) rfl ⟨Nat.le_of_ble_eq_true rfl, Nat.le_of_ble_eq_true rfl⟩ hl.1 rfl (rest := []) (Nat.le_of_ble_eq_true rfl) ⟨Nat.zero_le _, Nat.zero_le _⟩ dX12_canBind_27 (fun H locs hP hS => ?_)
        refine W.eq (g2 := F0 m 30 ls [.int (f_X12_in (x3.toInt64) (1 : Int64) (9 : Int64))]) rfl ?_
        refine lv_if_eq (tgt := 67) hx hb dX12_canBind_30 (by decide) (fun c_8 => ?_) (fun c_8 => ?_)
        · have hf := itT hf c_8
          refine lv_iconst (v := 0) hx hb dX12_canBind_67 (by decide) ?_
          obtain rfl := Option.some.inj hf
          exact wd_zret X hP hS hr0 (by decide) dX12_canBind_68 ⟨rfl, rfl⟩
        · have hf := itF hf c_8
          refine lv_iload_n hx hb dX12_canBind_33 rfl (lv_at hl 3 rfl) ?_
          refine lv_aload_n hx hb dX12_canBind_34 rfl (lv_at hl 0 rfl) ?_
          refine wd_getR (q := 1089) X hP L1088 fl_X12_9 rfl dX12_canBind_35 ?_
          refine lv_iconst (v := 1) hx hb dX12_canBind_38 (by decide) ?_
          refine wd_ialdK (k := 1) X hP L1089 (by decide) (by decide) dX12_canBind_39 ?_
          refine lv_icmp_gt (tgt := 67) hx hb dX12_canBind_40 (by decide) (fun c_9 => ?_) (fun c_9 => ?_)
          · have hf := itT hf c_9
            refine lv_iconst (v := 0) hx hb dX12_canBind_67 (by decide) ?_
            obtain rfl := Option.some.inj hf
            exact wd_zret X hP hS hr0 (by decide) dX12_canBind_68 ⟨rfl, rfl⟩
          · have hf := itF hf c_9
            refine lv_aload_n hx hb dX12_canBind_43 rfl (lv_at hl 0 rfl) ?_
            refine wd_getR (q := 1089) X hP L1088 fl_X12_9 rfl dX12_canBind_44 ?_
            refine lv_iconst (v := 4) hx hb dX12_canBind_47 (by decide) ?_
            refine wd_ialdK (k := 4) X hP L1089 (by decide) (by decide) dX12_canBind_48 ?_
            refine lv_bipush (v := 12) hx hb dX12_canBind_49 (by decide) ?_
            refine lv_icmp_ge (tgt := 67) hx hb dX12_canBind_51 (by decide) (fun c_10 => ?_) (fun c_10 => ?_)
            · have hf := itT hf c_10
              refine lv_iconst (v := 0) hx hb dX12_canBind_67 (by decide) ?_
              obtain rfl := Option.some.inj hf
              exact wd_zret X hP hS hr0 (by decide) dX12_canBind_68 ⟨rfl, rfl⟩
            · have hf := itF hf c_10
              refine lv_aload_n hx hb dX12_canBind_54 rfl (lv_at hl 0 rfl) ?_
              refine lv_iload_n hx hb dX12_canBind_55 rfl (lv_at hl 1 rfl) ?_
              refine lv_iload_n hx hb dX12_canBind_56 rfl (lv_at hl 2 rfl) ?_
              obtain ⟨r_12, hc_11, hf⟩ := bi1S hf
              refine wd_cv X hP hS L1088 ml_X12_444 ⟨_, _, rfl⟩ (c_X12_isBound l D dA zz bs mm x1 x2 r_12 hc_11) rfl ⟨Nat.le_of_ble_eq_true rfl, Nat.le_of_ble_eq_true rfl⟩ hl.1 rfl (rest := []) (Nat.le_of_ble_eq_true rfl) ⟨Nat.zero_le _, Nat.zero_le _⟩ dX12_canBind_57 (fun H locs hP hS => ?_)
              refine W.eq (g2 := F0 m 60 ls [.int r_12]) rfl ?_
              refine lv_if_ne (tgt := 67) hx hb dX12_canBind_60 (by decide) (fun c_13 => ?_) (fun c_13 => ?_)
              · have hf := itF hf c_13
                refine lv_iconst (v := 0) hx hb dX12_canBind_67 (by decide) ?_
                obtain rfl := Option.some.inj hf
                exact wd_zret X hP hS hr0 (by decide) dX12_canBind_68 ⟨rfl, rfl⟩
              · have hf := itT hf c_13
                refine lv_iconst (v := 1) hx hb dX12_canBind_63 (by decide) ?_
                refine lv_goto (tgt := 68) hx hb dX12_canBind_64 (by decide) ?_
                obtain rfl := Option.some.inj hf
                exact wd_zret X hP hS hr0 (by decide) dX12_canBind_68 ⟨rfl, rfl⟩

noncomputable def f_X12_binds_j41 (mm : Mm) (y3 : Int32) (y4 : Int32) (z0 : Int32) (z1 : Int32) : Option (Int32 × Mm) :=
  if z1 < 0 ∨ 12 ≤ z1.toNatClampNeg then none else
    vlet (wI mm 1100 z1.toNatClampNeg z0) fun mm_1 =>
      if y4 < 0 ∨ 12 ≤ y4.toNatClampNeg then none else
        vlet (wI mm_1 1101 y4.toNatClampNeg y3) fun mm_3 =>
          vlet (wI mm_3 1089 1 ((mm_3.1 1089 1) - y3)) fun mm_5 =>
            vlet (wI mm_5 1089 4 ((mm_5.1 1089 4) + (1 : Int32))) fun mm_6 => some (y4, mm_6)
noncomputable def f_X12_binds_j24 (mm : Mm) (y1 : Int32) (y2 : Int32) (y3 : Int32) (y4 : Int32) (z0 : Int32) (z1 : Int32) : Option (Int32 × Mm) :=
  if z1 < 0 ∨ 12 ≤ z1.toNatClampNeg then none else
    vlet (wI mm 1099 z1.toNatClampNeg z0) fun mm_8 =>
      if y2 ≤ y1 then
        f_X12_binds_j41 mm_8 y3 y4 y1 y4
      else
        f_X12_binds_j41 mm_8 y3 y4 y2 y4
noncomputable def f_X12_binds (mm : Mm) (x1 : Int32) (x2 : Int32) (x3 : Int32) : Option (Int32 × Mm) :=
  if x2 ≤ x1 then
    f_X12_binds_j24 mm x1 x2 x3 (mm.1 1089 4) x2 (mm.1 1089 4)
  else
    f_X12_binds_j24 mm x1 x2 x3 (mm.1 1089 4) x1 (mm.1 1089 4)
set_option maxHeartbeats 4000000 in
set_option maxRecDepth 100000 in
theorem c_X12_binds (l : Launch) (D : va_G) (dA : Nat → ClassId) (zz : (Nat → Nat) × (Nat → Nat)) (bs : Nat) (mm : Mm) (x1 : Int32) (x2 : Int32) (x3 : Int32) (out : Int32) (m1 : Mm) (hf : f_X12_binds mm x1 x2 x3 = some (out, m1)) : Mw l D dA zz bs LY yX12_binds cX12_binds 5 (some .int) 0 0 [.ref (bs + 1088), .int x1, .int x2, .int x3] mm (some (.int out)) m1 := by
  refine Mw.of (own := RX12) (by decide) rfl (Nat.le_of_ble_eq_true rfl) ?_
  intro p e s m args below meth c X hr0 hP hS ls hl
  have hx := X.1
  have hb := X.2.1
  obtain ⟨H, hH⟩ : ∃ z : Heap, z = s.heap := ⟨_, rfl⟩
  obtain ⟨locs, hL⟩ : ∃ z : List Loc, z = [] := ⟨_, rfl⟩
  rw [← hH, ← hL]
  have hS : va_S (Aq bs) s.heap H locs := by rw [hH, hL]; exact hS
  have hP : Wd D dA bs LY mm H := by rw [hH]; exact hP
  have hl : lv_has ls 5 [(0, .ref (bs + 1088)), (1, .int x1), (2, .int x2), (3, .int x3)] := hl
  have hJ41 : ∀ (mmJ_7 : Mm) (y3J_7 : Int32) (y4J_7 : Int32) (z0J_7 : Int32) (z1J_7 : Int32) (H : Heap) (locs : List Loc) (ls : Array Slot), f_X12_binds_j41 mmJ_7 y3J_7 y4J_7 z0J_7 z1J_7 = some (out, m1) → Wd D dA bs LY mmJ_7 H → va_S (Aq bs) s.heap H locs → lv_has ls 5 [(0, .ref (bs + 1088)), (3, .int y3J_7), (4, .int y4J_7)] → Wz p l e s m args below meth c D dA bs (some (.int out)) m1 0 0 H locs 41 ls [.int z0J_7, .int z1J_7, .ref (bs + 1100)] := by
    intro mmJ_7 y3J_7 y4J_7 z0J_7 z1J_7 H locs ls hf hP hS hl
    unfold f_X12_binds_j41 at hf
    have g_2 := gdN hf
    have hf := gdK hf
    refine wd_iast X hP hS L1100 g_2 dX12_binds_41 (fun H locs mm_1 emm_1 hP hS => ?_)
    have hf := vl hf emm_1
    refine lv_aload_n hx hb dX12_binds_42 rfl (lv_at hl 0 rfl) ?_
    refine wd_getR (q := 1101) X hP L1088 fl_X12_46 rfl dX12_binds_43 ?_
    refine lv_iload hx hb dX12_binds_46 (lv_at hl 2 rfl) ?_
    refine lv_iload_n hx hb dX12_binds_48 rfl (lv_at hl 1 rfl) ?_
    have g_4 := gdN hf
    have hf := gdK hf
    refine wd_iast X hP hS L1101 g_4 dX12_binds_49 (fun H locs mm_3 emm_3 hP hS => ?_)
    have hf := vl hf emm_3
    refine lv_aload_n hx hb dX12_binds_50 rfl (lv_at hl 0 rfl) ?_
    refine wd_getR (q := 1089) X hP L1088 fl_X12_9 rfl dX12_binds_51 ?_
    refine lv_iconst (v := 1) hx hb dX12_binds_54 (by decide) ?_
    refine lv_dup2_11 hx hb dX12_binds_55 rfl rfl ?_
    refine wd_ialdK (k := 1) X hP L1089 (by decide) (by decide) dX12_binds_56 ?_
    refine lv_iload_n hx hb dX12_binds_57 rfl (lv_at hl 1 rfl) ?_
    refine lv_isub hx hb dX12_binds_58 ?_
    refine wd_iastK (k := 1) X hP hS L1089 (by decide) (by decide) dX12_binds_59 (fun H locs mm_5 emm_5 hP hS => ?_)
    have hf := vl hf emm_5
    refine lv_aload_n hx hb dX12_binds_60 rfl (lv_at hl 0 rfl) ?_
    refine wd_getR (q := 1089) X hP L1088 fl_X12_9 rfl dX12_binds_61 ?_
    refine lv_iconst (v := 4) hx hb dX12_binds_64 (by decide) ?_
    refine lv_dup2_11 hx hb dX12_binds_65 rfl rfl ?_
    refine wd_ialdK (k := 4) X hP L1089 (by decide) (by decide) dX12_binds_66 ?_
    refine lv_iconst (v := 1) hx hb dX12_binds_67 (by decide) ?_
    refine lv_iadd hx hb dX12_binds_68 ?_
    refine wd_iastK (k := 4) X hP hS L1089 (by decide) (by decide) dX12_binds_69 (fun H locs mm_6 emm_6 hP hS => ?_)
    have hf := vl hf emm_6
    refine lv_iload hx hb dX12_binds_70 (lv_at hl 2 rfl) ?_
    obtain ⟨rfl, rfl⟩ := Prod.mk.inj (Option.some.inj hf)
    exact wd_iret X hP hS hr0 dX12_binds_72 ⟨rfl, rfl⟩
  have hJ24 : ∀ (mmJ_11 : Mm) (y1J_11 : Int32) (y2J_11 : Int32) (y3J_11 : Int32) (y4J_11 : Int32) (z0J_11 : Int32) (z1J_11 : Int32) (H : Heap) (locs : List Loc) (ls : Array Slot), f_X12_binds_j24 mmJ_11 y1J_11 y2J_11 y3J_11 y4J_11 z0J_11 z1J_11 = some (out, m1) → Wd D dA bs LY mmJ_11 H → va_S (Aq bs) s.heap H locs → lv_has ls 5 [(0, .ref (bs + 1088)), (1, .int y1J_11), (2, .int y2J_11), (3, .int y3J_11), (4, .int y4J_11)] → Wz p l e s m args below meth c D dA bs (some (.int out)) m1 0 0 H locs 24 ls [.int z0J_11, .int z1J_11, .ref (bs + 1099)] := by
    intro mmJ_11 y1J_11 y2J_11 y3J_11 y4J_11 z0J_11 z1J_11 H locs ls hf hP hS hl
    unfold f_X12_binds_j24 at hf
    have g_9 := gdN hf
    have hf := gdK hf
    refine wd_iast X hP hS L1099 g_9 dX12_binds_24 (fun H locs mm_8 emm_8 hP hS => ?_)
    have hf := vl hf emm_8
    refine lv_aload_n hx hb dX12_binds_25 rfl (lv_at hl 0 rfl) ?_
    refine wd_getR (q := 1100) X hP L1088 fl_X12_43 rfl dX12_binds_26 ?_
    refine lv_iload hx hb dX12_binds_29 (lv_at hl 4 rfl) ?_
    refine lv_iload_n hx hb dX12_binds_31 rfl (lv_at hl 1 rfl) ?_
    refine lv_iload_n hx hb dX12_binds_32 rfl (lv_at hl 2 rfl) ?_
    refine lv_icmp_ge (tgt := 40) hx hb dX12_binds_33 (by decide) (fun c_10 => ?_) (fun c_10 => ?_)
    · have hf := itT hf c_10
      refine lv_iload_n hx hb dX12_binds_40 rfl (lv_at hl 1 rfl) ?_
      exact hJ41 mm_8 y3J_11 y4J_11 y1J_11 y4J_11 H locs ls hf hP hS (lv_sub hl [0, 3, 4] rfl)
    · have hf := itF hf c_10
      refine lv_iload_n hx hb dX12_binds_36 rfl (lv_at hl 2 rfl) ?_
      refine lv_goto (tgt := 41) hx hb dX12_binds_37 (by decide) ?_
      exact hJ41 mm_8 y3J_11 y4J_11 y2J_11 y4J_11 H locs ls hf hP hS (lv_sub hl [0, 3, 4] rfl)
  unfold f_X12_binds at hf
  refine lv_aload_n hx hb dX12_binds_0 rfl (lv_at hl 0 rfl) ?_
  refine wd_getR (q := 1089) X hP L1088 fl_X12_9 rfl dX12_binds_1 ?_
  refine lv_iconst (v := 4) hx hb dX12_binds_4 (by decide) ?_
  refine wd_ialdK (k := 4) X hP L1089 (by decide) (by decide) dX12_binds_5 ?_
  refine lv_istore (lv' := [(4, .int (mm.1 1089 4)), (0, .ref (bs + 1088)), (1, .int x1), (2, .int x2), (3, .int x3)]) hx hb dX12_binds_6 hl (by decide) rfl (fun ls hl => ?_)
  refine lv_aload_n hx hb dX12_binds_8 rfl (lv_at hl 1 rfl) ?_
  refine wd_getR (q := 1099) X hP L1088 fl_X12_40 rfl dX12_binds_9 ?_
  refine lv_iload hx hb dX12_binds_12 (lv_at hl 0 rfl) ?_
  refine lv_iload_n hx hb dX12_binds_14 rfl (lv_at hl 2 rfl) ?_
  refine lv_iload_n hx hb dX12_binds_15 rfl (lv_at hl 3 rfl) ?_
  refine lv_icmp_ge (tgt := 23) hx hb dX12_binds_16 (by decide) (fun c_12 => ?_) (fun c_12 => ?_)
  · have hf := itT hf c_12
    refine lv_iload_n hx hb dX12_binds_23 rfl (lv_at hl 3 rfl) ?_
    exact hJ24 mm x1 x2 x3 (mm.1 1089 4) x2 (mm.1 1089 4) H locs ls hf hP hS (lv_sub hl [1, 2, 3, 4, 0] rfl)
  · have hf := itF hf c_12
    refine lv_iload_n hx hb dX12_binds_19 rfl (lv_at hl 2 rfl) ?_
    refine lv_goto (tgt := 24) hx hb dX12_binds_20 (by decide) ?_
    exact hJ24 mm x1 x2 x3 (mm.1 1089 4) x1 (mm.1 1089 4) H locs ls hf hP hS (lv_sub hl [1, 2, 3, 4, 0] rfl)

noncomputable def f_X12_lands_j85 (mm : Mm) (y2 : Int32) (y3 : Int32) (z0 : Int32) (z1 : Int32) : Option ((Int32 × Int32) ⊕ (Int32)) :=
  some (.inl ((z1 ||| z0), (y3 + 1)))
noncomputable def f_X12_lands_j84 (mm : Mm) (y2 : Int32) (y3 : Int32) (z0 : Int32) : Option ((Int32 × Int32) ⊕ (Int32)) :=
  f_X12_lands_j85 mm y2 y3 (0 : Int32) z0
noncomputable def f_X12_lands_s48 (mm : Mm) (y2 : Int32) : (Int32 × Int32) → Option ((Int32 × Int32) ⊕ (Int32)) :=
  fun q => match q with
  | (y1, y3) =>
    if (mm.1 1089 3) ≤ y3 then
      some (.inr y1)
    else
      if y3 < 0 ∨ 8 ≤ y3.toNatClampNeg then none else
        if (mm.1 1097 y3.toNatClampNeg) = 0 then
          if y3 < 0 ∨ 8 ≤ y3.toNatClampNeg then none else
            if (mm.1 1093 y3.toNatClampNeg) = y2 then
              f_X12_lands_j85 mm y2 y3 ((1 : Int32) <<< (y3 &&& 31)) y1
            else
              f_X12_lands_j84 mm y2 y3 y1
        else
          f_X12_lands_j84 mm y2 y3 y1
noncomputable def f_X12_lands_s4  : (Int32 × Int32 × Mm) → Option ((Int32 × Int32 × Mm) ⊕ (Int32 × Mm)) :=
  fun q => match q with
  | (y1, y2, mm) =>
    if (mm.1 1089 2) ≤ y2 then
      some (.inr (y1, mm))
    else
      if y2 < 0 ∨ 6 ≤ y2.toNatClampNeg then none else
        if (mm.1 1092 y2.toNatClampNeg) = 0 then
          if y2 < 0 ∨ 6 ≤ y2.toNatClampNeg then none else
            if (mm.1 1090 y2.toNatClampNeg) = (mm.1 1089 6) then
              if y2 < 0 ∨ 6 ≤ y2.toNatClampNeg then none else
                vlet (wI mm 1092 y2.toNatClampNeg (1 : Int32)) fun mm_6 =>
                  bi1 (lp (f_X12_lands_s48 mm_6 y2) (y1, (0 : Int32))) fun w1_16 =>
                    some (.inl (w1_16, (y2 + 1), mm_6))
            else
              some (.inl (y1, (y2 + 1), mm))
        else
          some (.inl (y1, (y2 + 1), mm))
noncomputable def f_X12_lands_j141 (mm : Mm) (y1 : Int32) (y2 : Int32) (z0 : Int32) (z1 : Int32) : Option ((Int32 × Mm) ⊕ (Mm)) :=
  if z1 < 0 ∨ 8 ≤ z1.toNatClampNeg then none else
    vlet (wI mm 1097 z1.toNatClampNeg z0) fun mm_25 => some (.inl ((y2 + 1), mm_25))
noncomputable def f_X12_lands_s108 (y1 : Int32) : (Int32 × Mm) → Option ((Int32 × Mm) ⊕ (Mm)) :=
  fun q => match q with
  | (y2, mm) =>
    if (mm.1 1089 3) ≤ y2 then
      some (.inr mm)
    else
      if (f_X12_has y1 y2) = 0 then
        if y2 < 0 ∨ 8 ≤ y2.toNatClampNeg then none else f_X12_lands_j141 mm y1 y2 (mm.1 1097 y2.toNatClampNeg) y2
      else
        f_X12_lands_j141 mm y1 y2 (1 : Int32) y2
noncomputable def f_X12_lands (mm : Mm) : Option (Mm) :=
  bi1 (lp (f_X12_lands_s4) ((0 : Int32), (0 : Int32), mm)) fun q => match q with
  | (w1_20, mm_21) =>
    bi2 (f_X12_ropesGoOf mm_21 w1_20 (1 : Int32)) fun r_24 mm_22 =>
      bi1 (lp (f_X12_lands_s108 w1_20) ((0 : Int32), mm_22)) fun mm_32 =>
        bi1 (f_X12_bits mm_32 w1_20) fun r_34 => vlet (wI mm_32 1088 51 r_34) fun mm_35 => some mm_35
set_option maxHeartbeats 4000000 in
set_option maxRecDepth 100000 in
theorem c_X12_lands (l : Launch) (D : va_G) (dA : Nat → ClassId) (zz : (Nat → Nat) × (Nat → Nat)) (bs : Nat) (mm : Mm) (m1 : Mm) (hf : f_X12_lands mm = some m1) : Mw l D dA zz bs LY yX12_lands cX12_lands 4 none 2 46 [.ref (bs + 1088)] mm none m1 := by
  refine Mw.of (own := RX12) (by decide) rfl (Nat.le_of_ble_eq_true rfl) ?_
  intro p e s m args below meth c X hr0 hP hS ls hl
  have hx := X.1
  have hb := X.2.1
  obtain ⟨H, hH⟩ : ∃ z : Heap, z = s.heap := ⟨_, rfl⟩
  obtain ⟨locs, hL⟩ : ∃ z : List Loc, z = [] := ⟨_, rfl⟩
  rw [← hH, ← hL]
  have hS : va_S (Aq bs) s.heap H locs := by rw [hH, hL]; exact hS
  have hP : Wd D dA bs LY mm H := by rw [hH]; exact hP
  have hl : lv_has ls 4 [(0, .ref (bs + 1088))] := hl
  unfold f_X12_lands at hf
  refine lv_iconst (v := 0) hx hb dX12_lands_0 (by decide) ?_
  refine lv_istore_n (lv' := [(1, .int (0 : Int32)), (0, .ref (bs + 1088))]) hx hb dX12_lands_1 rfl hl (by decide) rfl (fun ls hl => ?_)
  refine lv_iconst (v := 0) hx hb dX12_lands_2 (by decide) ?_
  refine lv_istore_n (lv' := [(2, .int (0 : Int32)), (1, .int (0 : Int32)), (0, .ref (bs + 1088))]) hx hb dX12_lands_3 rfl hl (by decide) rfl (fun ls hl => ?_)
  obtain ⟨q_38, hlp_39, hf⟩ := bi1S hf
  refine lp_walk (Wh := (fun z => match z with | (y1L_19, y2L_19, mmL_19) => ∀ (H : Heap) (locs : List Loc) (ls : Array Slot), Wd D dA bs LY mmL_19 H → va_S (Aq bs) s.heap H locs → lv_has ls 4 [(0, .ref (bs + 1088)), (1, .int y1L_19), (2, .int y2L_19)] → Wz p l e s m args below meth c D dA bs none m1 2 46 H locs 4 ls [])) (Ph := (fun z => match z with | (w1_20, mm_21) => ∀ (H : Heap) (locs : List Loc) (ls : Array Slot), Wd D dA bs LY mm_21 H → va_S (Aq bs) s.heap H locs → lv_has ls 4 [(0, .ref (bs + 1088)), (1, .int w1_20)] → Wz p l e s m args below meth c D dA bs none m1 2 46 H locs 99 ls [])) ?_ hlp_39 ?_ H locs ls hP hS (lv_sub hl [2, 1, 0] rfl)
  · intro z o hf hB hE
    obtain ⟨y1L_19, y2L_19, mmL_19⟩ := z
    intro H locs ls hP hS hl
    have hf : f_X12_lands_s4 (y1L_19, y2L_19, mmL_19) = some o := hf
    unfold f_X12_lands_s4 at hf
    dsimp only at hf
    refine lv_iload_n hx hb dX12_lands_4 rfl (lv_at hl 2 rfl) ?_
    refine lv_aload_n hx hb dX12_lands_5 rfl (lv_at hl 0 rfl) ?_
    refine wd_getR (q := 1089) X hP L1088 fl_X12_9 rfl dX12_lands_6 ?_
    refine lv_iconst (v := 2) hx hb dX12_lands_9 (by decide) ?_
    refine wd_ialdK (k := 2) X hP L1089 (by decide) (by decide) dX12_lands_10 ?_
    refine lv_icmp_ge (tgt := 99) hx hb dX12_lands_11 (by decide) (fun c_1 => ?_) (fun c_1 => ?_)
    · have hf := itT hf c_1
      obtain rfl := Option.some.inj hf
      exact hE _ rfl H locs ls hP hS (lv_sub hl [0, 1] rfl)
    · have hf := itF hf c_1
      refine lv_aload_n hx hb dX12_lands_14 rfl (lv_at hl 0 rfl) ?_
      refine wd_getR (q := 1092) X hP L1088 fl_X12_19 rfl dX12_lands_15 ?_
      refine lv_iload_n hx hb dX12_lands_18 rfl (lv_at hl 2 rfl) ?_
      have g_2 := gdN hf
      have hf := gdK hf
      refine wd_iald X hP L1092 g_2 dX12_lands_19 ?_
      refine lv_if_ne (tgt := 93) hx hb dX12_lands_20 (by decide) (fun c_3 => ?_) (fun c_3 => ?_)
      · have hf := itF hf c_3
        refine lv_iinc (v := (y2L_19 + 1)) (lv' := [(2, .int (y2L_19 + 1)), (0, .ref (bs + 1088)), (1, .int y1L_19)]) hx hb dX12_lands_93 hl (k := 2) rfl rfl (by decide) rfl (fun ls hl => ?_)
        refine lv_goto (tgt := 4) hx hb dX12_lands_96 (by decide) ?_
        obtain rfl := Option.some.inj hf
        exact hB _ rfl H locs ls hP hS (lv_sub hl [1, 2, 0] rfl)
      · have hf := itT hf c_3
        refine lv_aload_n hx hb dX12_lands_23 rfl (lv_at hl 0 rfl) ?_
        refine wd_getR (q := 1090) X hP L1088 fl_X12_13 rfl dX12_lands_24 ?_
        refine lv_iload_n hx hb dX12_lands_27 rfl (lv_at hl 2 rfl) ?_
        have g_4 := gdN hf
        have hf := gdK hf
        refine wd_iald X hP L1090 g_4 dX12_lands_28 ?_
        refine lv_aload_n hx hb dX12_lands_29 rfl (lv_at hl 0 rfl) ?_
        refine wd_getR (q := 1089) X hP L1088 fl_X12_9 rfl dX12_lands_30 ?_
        refine lv_bipush (v := 6) hx hb dX12_lands_33 (by decide) ?_
        refine wd_ialdK (k := 6) X hP L1089 (by decide) (by decide) dX12_lands_35 ?_
        refine lv_icmp_ne (tgt := 93) hx hb dX12_lands_36 (by decide) (fun c_5 => ?_) (fun c_5 => ?_)
        · have hf := itF hf c_5
          refine lv_iinc (v := (y2L_19 + 1)) (lv' := [(2, .int (y2L_19 + 1)), (0, .ref (bs + 1088)), (1, .int y1L_19)]) hx hb dX12_lands_93 hl (k := 2) rfl rfl (by decide) rfl (fun ls hl => ?_)
          refine lv_goto (tgt := 4) hx hb dX12_lands_96 (by decide) ?_
          obtain rfl := Option.some.inj hf
          exact hB _ rfl H locs ls hP hS (lv_sub hl [1, 2, 0] rfl)
        · have hf := itT hf c_5
          refine lv_aload_n hx hb dX12_lands_39 rfl (lv_at hl 0 rfl) ?_
          refine wd_getR (q := 1092) X hP L1088 fl_X12_19 rfl dX12_lands_40 ?_
          refine lv_iload_n hx hb dX12_lands_43 rfl (lv_at hl 2 rfl) ?_
          refine lv_iconst (v := 1) hx hb dX12_lands_44 (by decide) ?_
          have g_7 := gdN hf
          have hf := gdK hf
          refine wd_iast X hP hS L1092 g_7 dX12_lands_45 (fun H locs mm_6 emm_6 hP hS => ?_)
          have hf := vl hf emm_6
          refine lv_iconst (v := 0) hx hb dX12_lands_46 (by decide) ?_
          refine lv_istore_n (lv' := [(3, .int (0 : Int32)), (0, .ref (bs + 1088)), (1, .int y1L_19), (2, .int y2L_19)]) hx hb dX12_lands_47 rfl hl (by decide) rfl (fun ls hl => ?_)
          obtain ⟨q_17, hlp_18, hf⟩ := bi1S hf
          refine lp_walk (Wh := (fun z => match z with | (y1L_15, y3L_15) => ∀ (H : Heap) (locs : List Loc) (ls : Array Slot), Wd D dA bs LY mm_6 H → va_S (Aq bs) s.heap H locs → lv_has ls 4 [(0, .ref (bs + 1088)), (1, .int y1L_15), (2, .int y2L_19), (3, .int y3L_15)] → Wz p l e s m args below meth c D dA bs none m1 2 46 H locs 48 ls [])) (Ph := (fun w1_16 => ∀ (H : Heap) (locs : List Loc) (ls : Array Slot), Wd D dA bs LY mm_6 H → va_S (Aq bs) s.heap H locs → lv_has ls 4 [(0, .ref (bs + 1088)), (1, .int w1_16), (2, .int y2L_19)] → Wz p l e s m args below meth c D dA bs none m1 2 46 H locs 93 ls [])) ?_ hlp_18 ?_ H locs ls hP hS (lv_sub hl [1, 2, 3, 0] rfl)
          · intro z o hf hB hE
            obtain ⟨y1L_15, y3L_15⟩ := z
            intro H locs ls hP hS hl
            have hf : f_X12_lands_s48 mm_6 y2L_19 (y1L_15, y3L_15) = some o := hf
            unfold f_X12_lands_s48 at hf
            dsimp only at hf
            have hJ85 : ∀ (y3J_8 : Int32) (z0J_8 : Int32) (z1J_8 : Int32) (H : Heap) (locs : List Loc) (ls : Array Slot), f_X12_lands_j85 mm_6 y2L_19 y3J_8 z0J_8 z1J_8 = some o → Wd D dA bs LY mm_6 H → va_S (Aq bs) s.heap H locs → lv_has ls 4 [(0, .ref (bs + 1088)), (2, .int y2L_19), (3, .int y3J_8)] → Wz p l e s m args below meth c D dA bs none m1 2 46 H locs 85 ls [.int z0J_8, .int z1J_8] := by
              intro y3J_8 z0J_8 z1J_8 H locs ls hf hP hS hl
              unfold f_X12_lands_j85 at hf
              refine lv_ior hx hb dX12_lands_85 ?_
              refine lv_istore_n (lv' := [(1, .int (z1J_8 ||| z0J_8)), (0, .ref (bs + 1088)), (2, .int y2L_19), (3, .int y3J_8)]) hx hb dX12_lands_86 rfl hl (by decide) rfl (fun ls hl => ?_)
              refine lv_iinc (v := (y3J_8 + 1)) (lv' := [(3, .int (y3J_8 + 1)), (1, .int (z1J_8 ||| z0J_8)), (0, .ref (bs + 1088)), (2, .int y2L_19)]) hx hb dX12_lands_87 hl (k := 3) rfl rfl (by decide) rfl (fun ls hl => ?_)
              refine lv_goto (tgt := 48) hx hb dX12_lands_90 (by decide) ?_
              obtain rfl := Option.some.inj hf
              exact hB _ rfl H locs ls hP hS (lv_sub hl [2, 1, 3, 0] rfl)
            have hJ84 : ∀ (y3J_9 : Int32) (z0J_9 : Int32) (H : Heap) (locs : List Loc) (ls : Array Slot), f_X12_lands_j84 mm_6 y2L_19 y3J_9 z0J_9 = some o → Wd D dA bs LY mm_6 H → va_S (Aq bs) s.heap H locs → lv_has ls 4 [(0, .ref (bs + 1088)), (2, .int y2L_19), (3, .int y3J_9)] → Wz p l e s m args below meth c D dA bs none m1 2 46 H locs 84 ls [.int z0J_9] := by
              intro y3J_9 z0J_9 H locs ls hf hP hS hl
              unfold f_X12_lands_j84 at hf
              refine lv_iconst (v := 0) hx hb dX12_lands_84 (by decide) ?_
              exact hJ85 y3J_9 (0 : Int32) z0J_9 H locs ls hf hP hS (lv_sub hl [0, 1, 2] rfl)
            refine lv_iload_n hx hb dX12_lands_48 rfl (lv_at hl 3 rfl) ?_
            refine lv_aload_n hx hb dX12_lands_49 rfl (lv_at hl 0 rfl) ?_
            refine wd_getR (q := 1089) X hP L1088 fl_X12_9 rfl dX12_lands_50 ?_
            refine lv_iconst (v := 3) hx hb dX12_lands_53 (by decide) ?_
            refine wd_ialdK (k := 3) X hP L1089 (by decide) (by decide) dX12_lands_54 ?_
            refine lv_icmp_ge (tgt := 93) hx hb dX12_lands_55 (by decide) (fun c_10 => ?_) (fun c_10 => ?_)
            · have hf := itT hf c_10
              obtain rfl := Option.some.inj hf
              exact hE _ rfl H locs ls hP hS (lv_sub hl [0, 1, 2] rfl)
            · have hf := itF hf c_10
              refine lv_iload_n hx hb dX12_lands_58 rfl (lv_at hl 1 rfl) ?_
              refine lv_aload_n hx hb dX12_lands_59 rfl (lv_at hl 0 rfl) ?_
              refine wd_getR (q := 1097) X hP L1088 fl_X12_34 rfl dX12_lands_60 ?_
              refine lv_iload_n hx hb dX12_lands_63 rfl (lv_at hl 3 rfl) ?_
              have g_11 := gdN hf
              have hf := gdK hf
              refine wd_iald X hP L1097 g_11 dX12_lands_64 ?_
              refine lv_if_ne (tgt := 84) hx hb dX12_lands_65 (by decide) (fun c_12 => ?_) (fun c_12 => ?_)
              · have hf := itF hf c_12
                exact hJ84 y3L_15 y1L_15 H locs ls hf hP hS (lv_sub hl [0, 2, 3] rfl)
              · have hf := itT hf c_12
                refine lv_aload_n hx hb dX12_lands_68 rfl (lv_at hl 0 rfl) ?_
                refine wd_getR (q := 1093) X hP L1088 fl_X12_22 rfl dX12_lands_69 ?_
                refine lv_iload_n hx hb dX12_lands_72 rfl (lv_at hl 3 rfl) ?_
                have g_13 := gdN hf
                have hf := gdK hf
                refine wd_iald X hP L1093 g_13 dX12_lands_73 ?_
                refine lv_iload_n hx hb dX12_lands_74 rfl (lv_at hl 2 rfl) ?_
                refine lv_icmp_ne (tgt := 84) hx hb dX12_lands_75 (by decide) (fun c_14 => ?_) (fun c_14 => ?_)
                · have hf := itF hf c_14
                  exact hJ84 y3L_15 y1L_15 H locs ls hf hP hS (lv_sub hl [0, 2, 3] rfl)
                · have hf := itT hf c_14
                  refine lv_iconst (v := 1) hx hb dX12_lands_78 (by decide) ?_
                  refine lv_iload_n hx hb dX12_lands_79 rfl (lv_at hl 3 rfl) ?_
                  refine lv_ishl hx hb dX12_lands_80 ?_
                  refine lv_goto (tgt := 85) hx hb dX12_lands_81 (by decide) ?_
                  exact hJ85 y3L_15 ((1 : Int32) <<< (y3L_15 &&& 31)) y1L_15 H locs ls hf hP hS (lv_sub hl [0, 2, 3] rfl)
          · obtain ⟨w1_16, e_w1_16⟩ : ∃ z, z = q_17 := ⟨_, rfl⟩
            subst e_w1_16
            intro H locs ls hP hS hl
            refine lv_iinc (v := (y2L_19 + 1)) (lv' := [(2, .int (y2L_19 + 1)), (0, .ref (bs + 1088)), (1, .int w1_16)]) hx hb dX12_lands_93 hl (k := 2) rfl rfl (by decide) rfl (fun ls hl => ?_)
            refine lv_goto (tgt := 4) hx hb dX12_lands_96 (by decide) ?_
            obtain rfl := Option.some.inj hf
            exact hB _ rfl H locs ls hP hS (lv_sub hl [1, 2, 0] rfl)
  · obtain ⟨w1_20, mm_21⟩ := q_38
    dsimp only at hf
    intro H locs ls hP hS hl
    refine lv_aload_n hx hb dX12_lands_99 rfl (lv_at hl 0 rfl) ?_
    refine lv_iload_n hx hb dX12_lands_100 rfl (lv_at hl 1 rfl) ?_
    refine lv_iconst (v := 1) hx hb dX12_lands_101 (by decide) ?_
    obtain ⟨r_24, mm_22, hc_23, hf⟩ := bi2S hf
    refine wd_cv X hP hS L1088 ml_X12_456 ⟨_, _, rfl⟩ (c_X12_ropesGoOf l D dA zz bs mm_21 w1_20 (1 : Int32) r_24 mm_22 hc_23) rfl ⟨Nat.le_of_ble_eq_true rfl, Nat.le_of_ble_eq_true rfl⟩ hl.1 rfl (rest := []) (Nat.le_of_ble_eq_true rfl) ⟨Nat.zero_le _, Nat.zero_le _⟩ dX12_lands_102 (fun H locs hP hS => ?_)
    refine W.eq (g2 := F0 m 105 ls [.int r_24]) rfl ?_
    refine lv_pop hx hb dX12_lands_105 rfl ?_
    refine lv_iconst (v := 0) hx hb dX12_lands_106 (by decide) ?_
    refine lv_istore_n (lv' := [(2, .int (0 : Int32)), (0, .ref (bs + 1088)), (1, .int w1_20)]) hx hb dX12_lands_107 rfl hl (by decide) rfl (fun ls hl => ?_)
    obtain ⟨q_36, hlp_37, hf⟩ := bi1S hf
    refine lp_walk (Wh := (fun z => match z with | (y2L_31, mmL_31) => ∀ (H : Heap) (locs : List Loc) (ls : Array Slot), Wd D dA bs LY mmL_31 H → va_S (Aq bs) s.heap H locs → lv_has ls 4 [(0, .ref (bs + 1088)), (1, .int w1_20), (2, .int y2L_31)] → Wz p l e s m args below meth c D dA bs none m1 2 46 H locs 108 ls [])) (Ph := (fun mm_32 => ∀ (H : Heap) (locs : List Loc) (ls : Array Slot), Wd D dA bs LY mm_32 H → va_S (Aq bs) s.heap H locs → lv_has ls 4 [(0, .ref (bs + 1088)), (1, .int w1_20)] → Wz p l e s m args below meth c D dA bs none m1 2 46 H locs 148 ls [])) ?_ hlp_37 ?_ H locs ls hP hS (lv_sub hl [1, 2, 0] rfl)
    · intro z o hf hB hE
      obtain ⟨y2L_31, mmL_31⟩ := z
      intro H locs ls hP hS hl
      have hf : f_X12_lands_s108 w1_20 (y2L_31, mmL_31) = some o := hf
      unfold f_X12_lands_s108 at hf
      dsimp only at hf
      have hJ141 : ∀ (mmJ_27 : Mm) (y2J_27 : Int32) (z0J_27 : Int32) (z1J_27 : Int32) (H : Heap) (locs : List Loc) (ls : Array Slot), f_X12_lands_j141 mmJ_27 w1_20 y2J_27 z0J_27 z1J_27 = some o → Wd D dA bs LY mmJ_27 H → va_S (Aq bs) s.heap H locs → lv_has ls 4 [(0, .ref (bs + 1088)), (1, .int w1_20), (2, .int y2J_27)] → Wz p l e s m args below meth c D dA bs none m1 2 46 H locs 141 ls [.int z0J_27, .int z1J_27, .ref (bs + 1097)] := by
        intro mmJ_27 y2J_27 z0J_27 z1J_27 H locs ls hf hP hS hl
        unfold f_X12_lands_j141 at hf
        have g_26 := gdN hf
        have hf := gdK hf
        refine wd_iast X hP hS L1097 g_26 dX12_lands_141 (fun H locs mm_25 emm_25 hP hS => ?_)
        have hf := vl hf emm_25
        refine lv_iinc (v := (y2J_27 + 1)) (lv' := [(2, .int (y2J_27 + 1)), (0, .ref (bs + 1088)), (1, .int w1_20)]) hx hb dX12_lands_142 hl (k := 2) rfl rfl (by decide) rfl (fun ls hl => ?_)
        refine lv_goto (tgt := 108) hx hb dX12_lands_145 (by decide) ?_
        obtain rfl := Option.some.inj hf
        exact hB _ rfl H locs ls hP hS (lv_sub hl [1, 2, 0] rfl)
      refine lv_iload_n hx hb dX12_lands_108 rfl (lv_at hl 2 rfl) ?_
      refine lv_aload_n hx hb dX12_lands_109 rfl (lv_at hl 0 rfl) ?_
      refine wd_getR (q := 1089) X hP L1088 fl_X12_9 rfl dX12_lands_110 ?_
      refine lv_iconst (v := 3) hx hb dX12_lands_113 (by decide) ?_
      refine wd_ialdK (k := 3) X hP L1089 (by decide) (by decide) dX12_lands_114 ?_
      refine lv_icmp_ge (tgt := 148) hx hb dX12_lands_115 (by decide) (fun c_28 => ?_) (fun c_28 => ?_)
      · have hf := itT hf c_28
        obtain rfl := Option.some.inj hf
        exact hE _ rfl H locs ls hP hS (lv_sub hl [0, 1] rfl)
      · have hf := itF hf c_28
        refine lv_aload_n hx hb dX12_lands_118 rfl (lv_at hl 0 rfl) ?_
        refine wd_getR (q := 1097) X hP L1088 fl_X12_34 rfl dX12_lands_119 ?_
        refine lv_iload_n hx hb dX12_lands_122 rfl (lv_at hl 2 rfl) ?_
        refine lv_iload_n hx hb dX12_lands_123 rfl (lv_at hl 1 rfl) ?_
        refine lv_iload_n hx hb dX12_lands_124 rfl (lv_at hl 2 rfl) ?_
        refine wd_cs X hP hS ml_X12_390 (c_X12_has l D dA zz bs mmL_31 w1_20 y2L_31 (f_X12_has w1_20 y2L_31) rfl) rfl ⟨Nat.le_of_ble_eq_true rfl, Nat.le_of_ble_eq_true rfl⟩ hl.1 rfl (rest := [.int y2L_31, .ref (bs + 1097)]) (Nat.le_of_ble_eq_true rfl) ⟨Nat.zero_le _, Nat.zero_le _⟩ dX12_lands_125 (fun H locs hP hS => ?_)
        refine W.eq (g2 := F0 m 128 ls [.int (f_X12_has w1_20 y2L_31), .int y2L_31, .ref (bs + 1097)]) rfl ?_
        refine lv_if_eq (tgt := 135) hx hb dX12_lands_128 (by decide) (fun c_29 => ?_) (fun c_29 => ?_)
        · have hf := itT hf c_29
          refine lv_aload_n hx hb dX12_lands_135 rfl (lv_at hl 0 rfl) ?_
          refine wd_getR (q := 1097) X hP L1088 fl_X12_34 rfl dX12_lands_136 ?_
          refine lv_iload_n hx hb dX12_lands_139 rfl (lv_at hl 2 rfl) ?_
          have g_30 := gdN hf
          have hf := gdK hf
          refine wd_iald X hP L1097 g_30 dX12_lands_140 ?_
          exact hJ141 mmL_31 y2L_31 (mmL_31.1 1097 y2L_31.toNatClampNeg) y2L_31 H locs ls hf hP hS (lv_sub hl [0, 1, 2] rfl)
        · have hf := itF hf c_29
          refine lv_iconst (v := 1) hx hb dX12_lands_131 (by decide) ?_
          refine lv_goto (tgt := 141) hx hb dX12_lands_132 (by decide) ?_
          exact hJ141 mmL_31 y2L_31 (1 : Int32) y2L_31 H locs ls hf hP hS (lv_sub hl [0, 1, 2] rfl)
    · obtain ⟨mm_32, e_mm_32⟩ : ∃ z, z = q_36 := ⟨_, rfl⟩
      subst e_mm_32
      intro H locs ls hP hS hl
      refine lv_aload_n hx hb dX12_lands_148 rfl (lv_at hl 0 rfl) ?_
      refine lv_iload_n hx hb dX12_lands_149 rfl (lv_at hl 1 rfl) ?_
      obtain ⟨r_34, hc_33, hf⟩ := bi1S hf
      refine wd_cs X hP hS ml_X12_460 (c_X12_bits l D dA zz bs mm_32 w1_20 r_34 hc_33) rfl ⟨Nat.le_of_ble_eq_true rfl, Nat.le_of_ble_eq_true rfl⟩ hl.1 rfl (rest := [.ref (bs + 1088)]) (Nat.le_of_ble_eq_true rfl) ⟨Nat.zero_le _, Nat.zero_le _⟩ dX12_lands_150 (fun H locs hP hS => ?_)
      refine W.eq (g2 := F0 m 153 ls [.int r_34, .ref (bs + 1088)]) rfl ?_
      refine wd_putI X hP hS L1088 fp_X12_463 rfl dX12_lands_153 (fun H locs mm_35 emm_35 hP hS => ?_)
      have hf := vl hf emm_35
      obtain rfl := Option.some.inj hf
      exact wd_vret X hP hS hr0 dX12_lands_156 ⟨rfl, rfl⟩

noncomputable def f_X12_mileBy_j69 (mm : Mm) (y1 : Int32) (y2 : Int32) (z0 : Int32) (z1 : Int32) : Option ((Int32 × Mm) ⊕ (Mm)) :=
  if z1 < 0 ∨ 8 ≤ z1.toNatClampNeg then none else
    vlet (wI mm 1095 z1.toNatClampNeg z0) fun mm_2 => some (.inl ((y2 + 1), mm_2))
noncomputable def f_X12_mileBy_s13 (y1 : Int32) : (Int32 × Mm) → Option ((Int32 × Mm) ⊕ (Mm)) :=
  fun q => match q with
  | (y2, mm) =>
    if (mm.1 1089 3) ≤ y2 then
      some (.inr mm)
    else
      if y2 < 0 ∨ 8 ≤ y2.toNatClampNeg then none else
        if (mm.1 1097 y2.toNatClampNeg) = 0 then
          if y2 < 0 ∨ 8 ≤ y2.toNatClampNeg then none else
            if y2 < 0 ∨ 8 ≤ y2.toNatClampNeg then none else
              if (mm.1 1095 y2.toNatClampNeg) ≤ (mm.1 1096 y2.toNatClampNeg) then
                f_X12_mileBy_j69 mm y1 y2 (0 : Int32) y2
              else
                if y2 < 0 ∨ 8 ≤ y2.toNatClampNeg then none else
                  if y2 < 0 ∨ 8 ≤ y2.toNatClampNeg then none else
                    f_X12_mileBy_j69 mm y1 y2 ((mm.1 1095 y2.toNatClampNeg) - (mm.1 1096 y2.toNatClampNeg)) y2
        else
          some (.inl ((y2 + 1), mm))
noncomputable def f_X12_mileBy_s90 (y1 : Int32) : (Int32 × Mm) → Option ((Int32 × Mm) ⊕ (Mm)) :=
  fun q => match q with
  | (y2, mm) =>
    if y2 < 0 then
      some (.inr mm)
    else
      if y2 < 0 ∨ 12 ≤ y2.toNatClampNeg then none else
        if y1 ≤ (mm.1 1101 y2.toNatClampNeg) then
          some (.inl ((y2 + (-1)), mm))
        else
          bi1 (f_X12_ropeGoes mm y2) fun mm_20 =>
            vlet (wI mm_20 1088 52 ((mm_20.1 1088 52) + (1 : Int32))) fun mm_22 => some (.inl ((y2 + (-1)), mm_22))
noncomputable def f_X12_mileBy_j178 (mm : Mm) (y2 : Int32) (y4 : Int32) (z0 : Int32) (z1 : Int32) : Option ((Int32 × Int32) ⊕ (Int32)) :=
  some (.inl ((z1 ||| z0), (y4 + 1)))
noncomputable def f_X12_mileBy_s143 (mm : Mm) (y2 : Int32) : (Int32 × Int32) → Option ((Int32 × Int32) ⊕ (Int32)) :=
  fun q => match q with
  | (y3, y4) =>
    if (mm.1 1089 2) ≤ y4 then
      some (.inr y3)
    else
      bi1 (f_X12_riddenBy mm y4 (f_X12_allRopes mm)) fun r_32 =>
        if (r_32 &&& y2) = 0 then
          f_X12_mileBy_j178 mm y2 y4 (0 : Int32) y3
        else
          f_X12_mileBy_j178 mm y2 y4 ((1 : Int32) <<< (y4 &&& 31)) y3
noncomputable def f_X12_mileBy_j226 (mm : Mm) (y2 : Int32) (y3 : Int32) (y4 : Int32) (z0 : Int32) (z1 : Int32) : Option ((Int32 × Mm) ⊕ (Mm)) :=
  if z1 < 0 ∨ 6 ≤ z1.toNatClampNeg then none else
    vlet (wI mm 1092 z1.toNatClampNeg z0) fun mm_36 => some (.inl ((y4 + 1), mm_36))
noncomputable def f_X12_mileBy_s189 (y2 : Int32) (y3 : Int32) : (Int32 × Mm) → Option ((Int32 × Mm) ⊕ (Mm)) :=
  fun q => match q with
  | (y4, mm) =>
    if (mm.1 1089 2) ≤ y4 then
      some (.inr mm)
    else
      if (f_X12_has y3 y4) = 0 then
        if y4 < 0 ∨ 6 ≤ y4.toNatClampNeg then none else
          f_X12_mileBy_j226 mm y2 y3 y4 (mm.1 1092 y4.toNatClampNeg) y4
      else
        f_X12_mileBy_j226 mm y2 y3 y4 (2 : Int32) y4
noncomputable def f_X12_mileBy_s243 (y2 : Int32) : (Int32 × Mm) → Option ((Int32 × Mm) ⊕ (Mm)) :=
  fun q => match q with
  | (y4, mm) =>
    if (mm.1 1089 3) ≤ y4 then
      some (.inr mm)
    else
      if (f_X12_has y2 y4) = 0 then
        some (.inl ((y4 + 1), mm))
      else
        if y4 < 0 ∨ 8 ≤ y4.toNatClampNeg then none else
          vlet (wI mm 1097 y4.toNatClampNeg (2 : Int32)) fun mm_49 =>
            if y4 < 0 ∨ 8 ≤ y4.toNatClampNeg then none else
              vlet (wI mm_49 1098 y4.toNatClampNeg (mm_49.1 1089 6)) fun mm_51 => some (.inl ((y4 + 1), mm_51))
noncomputable def f_X12_mileBy (mm : Mm) (x1 : Int32) : Option (Int32 × Mm) :=
  vlet (wI mm 1089 6 ((mm.1 1089 6) + (1 : Int32))) fun mm_1 =>
    bi1 (lp (f_X12_mileBy_s13 x1) ((0 : Int32), mm_1)) fun mm_14 =>
      vlet (wI mm_14 1088 52 (0 : Int32)) fun mm_15 =>
        vlet ((mm_15.1 1089 4) - (1 : Int32)) fun (x2_16 : Int32) =>
          bi1 (lp (f_X12_mileBy_s90 x1) (x2_16, mm_15)) fun mm_24 =>
            bi1 (f_X12_lands mm_24) fun mm_25 =>
              bi1 (f_X12_sinking mm_25 (f_X12_allRopes mm_25)) fun r_28 =>
                bi1 (lp (f_X12_mileBy_s143 mm_25 r_28) ((0 : Int32), (0 : Int32))) fun w3_35 =>
                  bi1 (lp (f_X12_mileBy_s189 r_28 w3_35) ((0 : Int32), mm_25)) fun mm_43 =>
                    bi2 (f_X12_ropesGoOf mm_43 r_28 (0 : Int32)) fun r_46 mm_44 =>
                      bi1 (lp (f_X12_mileBy_s243 r_28) ((0 : Int32), mm_44)) fun mm_54 =>
                        bi1 (f_X12_bits mm_54 r_28) fun r_56 => some (r_56, mm_54)
set_option maxHeartbeats 4000000 in
set_option maxRecDepth 100000 in
theorem c_X12_mileBy (l : Launch) (D : va_G) (dA : Nat → ClassId) (zz : (Nat → Nat) × (Nat → Nat)) (bs : Nat) (mm : Mm) (x1 : Int32) (out : Int32) (m1 : Mm) (hf : f_X12_mileBy mm x1 = some (out, m1)) : Mw l D dA zz bs LY yX12_mileBy cX12_mileBy 5 (some .int) 6 151 [.ref (bs + 1088), .int x1] mm (some (.int out)) m1 := by
  refine Mw.of (own := RX12) (by decide) rfl (Nat.le_of_ble_eq_true rfl) ?_
  intro p e s m args below meth c X hr0 hP hS ls hl
  have hx := X.1
  have hb := X.2.1
  obtain ⟨H, hH⟩ : ∃ z : Heap, z = s.heap := ⟨_, rfl⟩
  obtain ⟨locs, hL⟩ : ∃ z : List Loc, z = [] := ⟨_, rfl⟩
  rw [← hH, ← hL]
  have hS : va_S (Aq bs) s.heap H locs := by rw [hH, hL]; exact hS
  have hP : Wd D dA bs LY mm H := by rw [hH]; exact hP
  have hl : lv_has ls 5 [(0, .ref (bs + 1088)), (1, .int x1)] := hl
  unfold f_X12_mileBy at hf
  refine lv_aload_n hx hb dX12_mileBy_0 rfl (lv_at hl 0 rfl) ?_
  refine wd_getR (q := 1089) X hP L1088 fl_X12_9 rfl dX12_mileBy_1 ?_
  refine lv_bipush (v := 6) hx hb dX12_mileBy_4 (by decide) ?_
  refine lv_dup2_11 hx hb dX12_mileBy_6 rfl rfl ?_
  refine wd_ialdK (k := 6) X hP L1089 (by decide) (by decide) dX12_mileBy_7 ?_
  refine lv_iconst (v := 1) hx hb dX12_mileBy_8 (by decide) ?_
  refine lv_iadd hx hb dX12_mileBy_9 ?_
  refine wd_iastK (k := 6) X hP hS L1089 (by decide) (by decide) dX12_mileBy_10 (fun H locs mm_1 emm_1 hP hS => ?_)
  have hf := vl hf emm_1
  refine lv_iconst (v := 0) hx hb dX12_mileBy_11 (by decide) ?_
  refine lv_istore_n (lv' := [(2, .int (0 : Int32)), (0, .ref (bs + 1088)), (1, .int x1)]) hx hb dX12_mileBy_12 rfl hl (by decide) rfl (fun ls hl => ?_)
  obtain ⟨q_65, hlp_66, hf⟩ := bi1S hf
  refine lp_walk (Wh := (fun z => match z with | (y2L_13, mmL_13) => ∀ (H : Heap) (locs : List Loc) (ls : Array Slot), Wd D dA bs LY mmL_13 H → va_S (Aq bs) s.heap H locs → lv_has ls 5 [(0, .ref (bs + 1088)), (1, .int x1), (2, .int y2L_13)] → Wz p l e s m args below meth c D dA bs (some (.int out)) m1 6 151 H locs 13 ls [])) (Ph := (fun mm_14 => ∀ (H : Heap) (locs : List Loc) (ls : Array Slot), Wd D dA bs LY mm_14 H → va_S (Aq bs) s.heap H locs → lv_has ls 5 [(0, .ref (bs + 1088)), (1, .int x1)] → Wz p l e s m args below meth c D dA bs (some (.int out)) m1 6 151 H locs 76 ls [])) ?_ hlp_66 ?_ H locs ls hP hS (lv_sub hl [1, 2, 0] rfl)
  · intro z o hf hB hE
    obtain ⟨y2L_13, mmL_13⟩ := z
    intro H locs ls hP hS hl
    have hf : f_X12_mileBy_s13 x1 (y2L_13, mmL_13) = some o := hf
    unfold f_X12_mileBy_s13 at hf
    dsimp only at hf
    have hJ69 : ∀ (mmJ_4 : Mm) (y2J_4 : Int32) (z0J_4 : Int32) (z1J_4 : Int32) (H : Heap) (locs : List Loc) (ls : Array Slot), f_X12_mileBy_j69 mmJ_4 x1 y2J_4 z0J_4 z1J_4 = some o → Wd D dA bs LY mmJ_4 H → va_S (Aq bs) s.heap H locs → lv_has ls 5 [(0, .ref (bs + 1088)), (1, .int x1), (2, .int y2J_4)] → Wz p l e s m args below meth c D dA bs (some (.int out)) m1 6 151 H locs 69 ls [.int z0J_4, .int z1J_4, .ref (bs + 1095)] := by
      intro mmJ_4 y2J_4 z0J_4 z1J_4 H locs ls hf hP hS hl
      unfold f_X12_mileBy_j69 at hf
      have g_3 := gdN hf
      have hf := gdK hf
      refine wd_iast X hP hS L1095 g_3 dX12_mileBy_69 (fun H locs mm_2 emm_2 hP hS => ?_)
      have hf := vl hf emm_2
      refine lv_iinc (v := (y2J_4 + 1)) (lv' := [(2, .int (y2J_4 + 1)), (0, .ref (bs + 1088)), (1, .int x1)]) hx hb dX12_mileBy_70 hl (k := 2) rfl rfl (by decide) rfl (fun ls hl => ?_)
      refine lv_goto (tgt := 13) hx hb dX12_mileBy_73 (by decide) ?_
      obtain rfl := Option.some.inj hf
      exact hB _ rfl H locs ls hP hS (lv_sub hl [1, 2, 0] rfl)
    refine lv_iload_n hx hb dX12_mileBy_13 rfl (lv_at hl 2 rfl) ?_
    refine lv_aload_n hx hb dX12_mileBy_14 rfl (lv_at hl 0 rfl) ?_
    refine wd_getR (q := 1089) X hP L1088 fl_X12_9 rfl dX12_mileBy_15 ?_
    refine lv_iconst (v := 3) hx hb dX12_mileBy_18 (by decide) ?_
    refine wd_ialdK (k := 3) X hP L1089 (by decide) (by decide) dX12_mileBy_19 ?_
    refine lv_icmp_ge (tgt := 76) hx hb dX12_mileBy_20 (by decide) (fun c_5 => ?_) (fun c_5 => ?_)
    · have hf := itT hf c_5
      obtain rfl := Option.some.inj hf
      exact hE _ rfl H locs ls hP hS (lv_sub hl [0, 1] rfl)
    · have hf := itF hf c_5
      refine lv_aload_n hx hb dX12_mileBy_23 rfl (lv_at hl 0 rfl) ?_
      refine wd_getR (q := 1097) X hP L1088 fl_X12_34 rfl dX12_mileBy_24 ?_
      refine lv_iload_n hx hb dX12_mileBy_27 rfl (lv_at hl 2 rfl) ?_
      have g_6 := gdN hf
      have hf := gdK hf
      refine wd_iald X hP L1097 g_6 dX12_mileBy_28 ?_
      refine lv_if_ne (tgt := 70) hx hb dX12_mileBy_29 (by decide) (fun c_7 => ?_) (fun c_7 => ?_)
      · have hf := itF hf c_7
        refine lv_iinc (v := (y2L_13 + 1)) (lv' := [(2, .int (y2L_13 + 1)), (0, .ref (bs + 1088)), (1, .int x1)]) hx hb dX12_mileBy_70 hl (k := 2) rfl rfl (by decide) rfl (fun ls hl => ?_)
        refine lv_goto (tgt := 13) hx hb dX12_mileBy_73 (by decide) ?_
        obtain rfl := Option.some.inj hf
        exact hB _ rfl H locs ls hP hS (lv_sub hl [1, 2, 0] rfl)
      · have hf := itT hf c_7
        refine lv_aload_n hx hb dX12_mileBy_32 rfl (lv_at hl 0 rfl) ?_
        refine wd_getR (q := 1095) X hP L1088 fl_X12_28 rfl dX12_mileBy_33 ?_
        refine lv_iload_n hx hb dX12_mileBy_36 rfl (lv_at hl 2 rfl) ?_
        refine lv_aload_n hx hb dX12_mileBy_37 rfl (lv_at hl 0 rfl) ?_
        refine wd_getR (q := 1095) X hP L1088 fl_X12_28 rfl dX12_mileBy_38 ?_
        refine lv_iload_n hx hb dX12_mileBy_41 rfl (lv_at hl 2 rfl) ?_
        have g_8 := gdN hf
        have hf := gdK hf
        refine wd_iald X hP L1095 g_8 dX12_mileBy_42 ?_
        refine lv_aload_n hx hb dX12_mileBy_43 rfl (lv_at hl 0 rfl) ?_
        refine wd_getR (q := 1096) X hP L1088 fl_X12_31 rfl dX12_mileBy_44 ?_
        refine lv_iload_n hx hb dX12_mileBy_47 rfl (lv_at hl 2 rfl) ?_
        have g_9 := gdN hf
        have hf := gdK hf
        refine wd_iald X hP L1096 g_9 dX12_mileBy_48 ?_
        refine lv_icmp_le (tgt := 68) hx hb dX12_mileBy_49 (by decide) (fun c_10 => ?_) (fun c_10 => ?_)
        · have hf := itT hf c_10
          refine lv_iconst (v := 0) hx hb dX12_mileBy_68 (by decide) ?_
          exact hJ69 mmL_13 y2L_13 (0 : Int32) y2L_13 H locs ls hf hP hS (lv_sub hl [0, 1, 2] rfl)
        · have hf := itF hf c_10
          refine lv_aload_n hx hb dX12_mileBy_52 rfl (lv_at hl 0 rfl) ?_
          refine wd_getR (q := 1095) X hP L1088 fl_X12_28 rfl dX12_mileBy_53 ?_
          refine lv_iload_n hx hb dX12_mileBy_56 rfl (lv_at hl 2 rfl) ?_
          have g_11 := gdN hf
          have hf := gdK hf
          refine wd_iald X hP L1095 g_11 dX12_mileBy_57 ?_
          refine lv_aload_n hx hb dX12_mileBy_58 rfl (lv_at hl 0 rfl) ?_
          refine wd_getR (q := 1096) X hP L1088 fl_X12_31 rfl dX12_mileBy_59 ?_
          refine lv_iload_n hx hb dX12_mileBy_62 rfl (lv_at hl 2 rfl) ?_
          have g_12 := gdN hf
          have hf := gdK hf
          refine wd_iald X hP L1096 g_12 dX12_mileBy_63 ?_
          refine lv_isub hx hb dX12_mileBy_64 ?_
          refine lv_goto (tgt := 69) hx hb dX12_mileBy_65 (by decide) ?_
          exact hJ69 mmL_13 y2L_13 ((mmL_13.1 1095 y2L_13.toNatClampNeg) - (mmL_13.1 1096 y2L_13.toNatClampNeg)) y2L_13 H locs ls hf hP hS (lv_sub hl [0, 1, 2] rfl)
  · obtain ⟨mm_14, e_mm_14⟩ : ∃ z, z = q_65 := ⟨_, rfl⟩
    subst e_mm_14
    intro H locs ls hP hS hl
    refine lv_aload_n hx hb dX12_mileBy_76 rfl (lv_at hl 0 rfl) ?_
    refine lv_iconst (v := 0) hx hb dX12_mileBy_77 (by decide) ?_
    refine wd_putI X hP hS L1088 fp_X12_447 rfl dX12_mileBy_78 (fun H locs mm_15 emm_15 hP hS => ?_)
    have hf := vl hf emm_15
    refine lv_aload_n hx hb dX12_mileBy_81 rfl (lv_at hl 0 rfl) ?_
    refine wd_getR (q := 1089) X hP L1088 fl_X12_9 rfl dX12_mileBy_82 ?_
    refine lv_iconst (v := 4) hx hb dX12_mileBy_85 (by decide) ?_
    refine wd_ialdK (k := 4) X hP L1089 (by decide) (by decide) dX12_mileBy_86 ?_
    refine lv_iconst (v := 1) hx hb dX12_mileBy_87 (by decide) ?_
    refine lv_isub hx hb dX12_mileBy_88 ?_
    refine lv_topi (fun x2_16 ex2_16 => ?_)
    have hf := vl hf ex2_16
    refine lv_istore_n (lv' := [(2, .int x2_16), (0, .ref (bs + 1088)), (1, .int x1)]) hx hb dX12_mileBy_89 rfl hl (by decide) rfl (fun ls hl => ?_)
    obtain ⟨q_63, hlp_64, hf⟩ := bi1S hf
    refine lp_walk (Wh := (fun z => match z with | (y2L_23, mmL_23) => ∀ (H : Heap) (locs : List Loc) (ls : Array Slot), Wd D dA bs LY mmL_23 H → va_S (Aq bs) s.heap H locs → lv_has ls 5 [(0, .ref (bs + 1088)), (1, .int x1), (2, .int y2L_23)] → Wz p l e s m args below meth c D dA bs (some (.int out)) m1 6 151 H locs 90 ls [])) (Ph := (fun mm_24 => ∀ (H : Heap) (locs : List Loc) (ls : Array Slot), Wd D dA bs LY mm_24 H → va_S (Aq bs) s.heap H locs → lv_has ls 5 [(0, .ref (bs + 1088))] → Wz p l e s m args below meth c D dA bs (some (.int out)) m1 6 151 H locs 125 ls [])) ?_ hlp_64 ?_ H locs ls hP hS (lv_sub hl [1, 2, 0] rfl)
    · intro z o hf hB hE
      obtain ⟨y2L_23, mmL_23⟩ := z
      intro H locs ls hP hS hl
      have hf : f_X12_mileBy_s90 x1 (y2L_23, mmL_23) = some o := hf
      unfold f_X12_mileBy_s90 at hf
      dsimp only at hf
      refine lv_iload_n hx hb dX12_mileBy_90 rfl (lv_at hl 2 rfl) ?_
      refine lv_if_lt (tgt := 125) hx hb dX12_mileBy_91 (by decide) (fun c_17 => ?_) (fun c_17 => ?_)
      · have hf := itT hf c_17
        obtain rfl := Option.some.inj hf
        exact hE _ rfl H locs ls hP hS (lv_sub hl [0] rfl)
      · have hf := itF hf c_17
        refine lv_aload_n hx hb dX12_mileBy_94 rfl (lv_at hl 0 rfl) ?_
        refine wd_getR (q := 1101) X hP L1088 fl_X12_46 rfl dX12_mileBy_95 ?_
        refine lv_iload_n hx hb dX12_mileBy_98 rfl (lv_at hl 2 rfl) ?_
        have g_18 := gdN hf
        have hf := gdK hf
        refine wd_iald X hP L1101 g_18 dX12_mileBy_99 ?_
        refine lv_iload_n hx hb dX12_mileBy_100 rfl (lv_at hl 1 rfl) ?_
        refine lv_icmp_ge (tgt := 119) hx hb dX12_mileBy_101 (by decide) (fun c_19 => ?_) (fun c_19 => ?_)
        · have hf := itT hf c_19
          refine lv_iinc (v := (y2L_23 + (-1))) (lv' := [(2, .int (y2L_23 + (-1))), (0, .ref (bs + 1088)), (1, .int x1)]) hx hb dX12_mileBy_119 hl (k := 2) rfl rfl (by decide) rfl (fun ls hl => ?_)
          refine lv_goto (tgt := 90) hx hb dX12_mileBy_122 (by decide) ?_
          obtain rfl := Option.some.inj hf
          exact hB _ rfl H locs ls hP hS (lv_sub hl [1, 2, 0] rfl)
        · have hf := itF hf c_19
          refine lv_aload_n hx hb dX12_mileBy_104 rfl (lv_at hl 0 rfl) ?_
          refine lv_iload_n hx hb dX12_mileBy_105 rfl (lv_at hl 2 rfl) ?_
          obtain ⟨mm_20, hc_21, hf⟩ := bi1S hf
          refine wd_cv X hP hS L1088 ml_X12_439 ⟨_, _, rfl⟩ (c_X12_ropeGoes l D dA zz bs mmL_23 y2L_23 mm_20 hc_21) rfl ⟨Nat.le_of_ble_eq_true rfl, Nat.le_of_ble_eq_true rfl⟩ hl.1 rfl (rest := []) (Nat.le_of_ble_eq_true rfl) ⟨Nat.zero_le _, Nat.zero_le _⟩ dX12_mileBy_106 (fun H locs hP hS => ?_)
          refine W.eq (g2 := F0 m 109 ls []) rfl ?_
          refine lv_aload_n hx hb dX12_mileBy_109 rfl (lv_at hl 0 rfl) ?_
          refine lv_dup hx hb dX12_mileBy_110 rfl ?_
          refine wd_getI X hP L1088 fl_X12_447 rfl dX12_mileBy_111 ?_
          refine lv_iconst (v := 1) hx hb dX12_mileBy_114 (by decide) ?_
          refine lv_iadd hx hb dX12_mileBy_115 ?_
          refine wd_putI X hP hS L1088 fp_X12_447 rfl dX12_mileBy_116 (fun H locs mm_22 emm_22 hP hS => ?_)
          have hf := vl hf emm_22
          refine lv_iinc (v := (y2L_23 + (-1))) (lv' := [(2, .int (y2L_23 + (-1))), (0, .ref (bs + 1088)), (1, .int x1)]) hx hb dX12_mileBy_119 hl (k := 2) rfl rfl (by decide) rfl (fun ls hl => ?_)
          refine lv_goto (tgt := 90) hx hb dX12_mileBy_122 (by decide) ?_
          obtain rfl := Option.some.inj hf
          exact hB _ rfl H locs ls hP hS (lv_sub hl [1, 2, 0] rfl)
    · obtain ⟨mm_24, e_mm_24⟩ : ∃ z, z = q_63 := ⟨_, rfl⟩
      subst e_mm_24
      intro H locs ls hP hS hl
      refine lv_aload_n hx hb dX12_mileBy_125 rfl (lv_at hl 0 rfl) ?_
      obtain ⟨mm_25, hc_26, hf⟩ := bi1S hf
      refine wd_cv X hP hS L1088 ml_X12_450 ⟨_, _, rfl⟩ (c_X12_lands l D dA zz bs mm_24 mm_25 hc_26) rfl ⟨Nat.le_of_ble_eq_true rfl, Nat.le_of_ble_eq_true rfl⟩ hl.1 rfl (rest := []) (Nat.le_of_ble_eq_true rfl) ⟨Nat.zero_le _, Nat.zero_le _⟩ dX12_mileBy_126 (fun H locs hP hS => ?_)
      refine W.eq (g2 := F0 m 129 ls []) rfl ?_
      refine lv_aload_n hx hb dX12_mileBy_129 rfl (lv_at hl 0 rfl) ?_
      refine lv_aload_n hx hb dX12_mileBy_130 rfl (lv_at hl 0 rfl) ?_
      refine wd_cv X hP hS L1088 ml_X12_396 ⟨_, _, rfl⟩ (c_X12_allRopes l D dA zz bs mm_25 (f_X12_allRopes mm_25) rfl) rfl ⟨Nat.le_of_ble_eq_true rfl, Nat.le_of_ble_eq_true rfl⟩ hl.1 rfl (rest := [.ref (bs + 1088)]) (Nat.le_of_ble_eq_true rfl) ⟨Nat.zero_le _, Nat.zero_le _⟩ dX12_mileBy_131 (fun H locs hP hS => ?_)
      refine W.eq (g2 := F0 m 134 ls [.int (f_X12_allRopes mm_25), .ref (bs + 1088)]) rfl ?_
      obtain ⟨r_28, hc_27, hf⟩ := bi1S hf
      refine wd_cv X hP hS L1088 ml_X12_453 ⟨_, _, rfl⟩ (c_X12_sinking l D dA zz bs mm_25 (f_X12_allRopes mm_25) r_28 hc_27) rfl ⟨Nat.le_of_ble_eq_true rfl, Nat.le_of_ble_eq_true rfl⟩ hl.1 rfl (rest := []) (Nat.le_of_ble_eq_true rfl) ⟨Nat.zero_le _, Nat.zero_le _⟩ dX12_mileBy_134 (fun H locs hP hS => ?_)
      refine W.eq (g2 := F0 m 137 ls [.int r_28]) rfl ?_
      refine lv_istore_n (lv' := [(2, .int r_28), (0, .ref (bs + 1088))]) hx hb dX12_mileBy_137 rfl hl (by decide) rfl (fun ls hl => ?_)
      refine lv_iconst (v := 0) hx hb dX12_mileBy_138 (by decide) ?_
      refine lv_istore_n (lv' := [(3, .int (0 : Int32)), (2, .int r_28), (0, .ref (bs + 1088))]) hx hb dX12_mileBy_139 rfl hl (by decide) rfl (fun ls hl => ?_)
      refine lv_iconst (v := 0) hx hb dX12_mileBy_140 (by decide) ?_
      refine lv_istore (lv' := [(4, .int (0 : Int32)), (3, .int (0 : Int32)), (2, .int r_28), (0, .ref (bs + 1088))]) hx hb dX12_mileBy_141 hl (by decide) rfl (fun ls hl => ?_)
      obtain ⟨q_61, hlp_62, hf⟩ := bi1S hf
      refine lp_walk (Wh := (fun z => match z with | (y3L_34, y4L_34) => ∀ (H : Heap) (locs : List Loc) (ls : Array Slot), Wd D dA bs LY mm_25 H → va_S (Aq bs) s.heap H locs → lv_has ls 5 [(0, .ref (bs + 1088)), (2, .int r_28), (3, .int y3L_34), (4, .int y4L_34)] → Wz p l e s m args below meth c D dA bs (some (.int out)) m1 6 151 H locs 143 ls [])) (Ph := (fun w3_35 => ∀ (H : Heap) (locs : List Loc) (ls : Array Slot), Wd D dA bs LY mm_25 H → va_S (Aq bs) s.heap H locs → lv_has ls 5 [(0, .ref (bs + 1088)), (2, .int r_28), (3, .int w3_35)] → Wz p l e s m args below meth c D dA bs (some (.int out)) m1 6 151 H locs 186 ls [])) ?_ hlp_62 ?_ H locs ls hP hS (lv_sub hl [3, 2, 1, 0] rfl)
      · intro z o hf hB hE
        obtain ⟨y3L_34, y4L_34⟩ := z
        intro H locs ls hP hS hl
        have hf : f_X12_mileBy_s143 mm_25 r_28 (y3L_34, y4L_34) = some o := hf
        unfold f_X12_mileBy_s143 at hf
        dsimp only at hf
        have hJ178 : ∀ (y4J_29 : Int32) (z0J_29 : Int32) (z1J_29 : Int32) (H : Heap) (locs : List Loc) (ls : Array Slot), f_X12_mileBy_j178 mm_25 r_28 y4J_29 z0J_29 z1J_29 = some o → Wd D dA bs LY mm_25 H → va_S (Aq bs) s.heap H locs → lv_has ls 5 [(0, .ref (bs + 1088)), (2, .int r_28), (4, .int y4J_29)] → Wz p l e s m args below meth c D dA bs (some (.int out)) m1 6 151 H locs 178 ls [.int z0J_29, .int z1J_29] := by
          intro y4J_29 z0J_29 z1J_29 H locs ls hf hP hS hl
          unfold f_X12_mileBy_j178 at hf
          refine lv_ior hx hb dX12_mileBy_178 ?_
          refine lv_istore_n (lv' := [(3, .int (z1J_29 ||| z0J_29)), (0, .ref (bs + 1088)), (2, .int r_28), (4, .int y4J_29)]) hx hb dX12_mileBy_179 rfl hl (by decide) rfl (fun ls hl => ?_)
          refine lv_iinc (v := (y4J_29 + 1)) (lv' := [(4, .int (y4J_29 + 1)), (3, .int (z1J_29 ||| z0J_29)), (0, .ref (bs + 1088)), (2, .int r_28)]) hx hb dX12_mileBy_180 hl (k := 3) rfl rfl (by decide) rfl (fun ls hl => ?_)
          refine lv_goto (tgt := 143) hx hb dX12_mileBy_183 (by decide) ?_
          obtain rfl := Option.some.inj hf
          exact hB _ rfl H locs ls hP hS (lv_sub hl [2, 3, 1, 0] rfl)
        refine lv_iload hx hb dX12_mileBy_143 (lv_at hl 3 rfl) ?_
        refine lv_aload_n hx hb dX12_mileBy_145 rfl (lv_at hl 0 rfl) ?_
        refine wd_getR (q := 1089) X hP L1088 fl_X12_9 rfl dX12_mileBy_146 ?_
        refine lv_iconst (v := 2) hx hb dX12_mileBy_149 (by decide) ?_
        refine wd_ialdK (k := 2) X hP L1089 (by decide) (by decide) dX12_mileBy_150 ?_
        refine lv_icmp_ge (tgt := 186) hx hb dX12_mileBy_151 (by decide) (fun c_30 => ?_) (fun c_30 => ?_)
        · have hf := itT hf c_30
          obtain rfl := Option.some.inj hf
          exact hE _ rfl H locs ls hP hS (lv_sub hl [0, 1, 2] rfl)
        · have hf := itF hf c_30
          refine lv_iload_n hx hb dX12_mileBy_154 rfl (lv_at hl 2 rfl) ?_
          refine lv_aload_n hx hb dX12_mileBy_155 rfl (lv_at hl 0 rfl) ?_
          refine lv_iload hx hb dX12_mileBy_156 (lv_at hl 3 rfl) ?_
          refine lv_aload_n hx hb dX12_mileBy_158 rfl (lv_at hl 0 rfl) ?_
          refine wd_cv X hP hS L1088 ml_X12_396 ⟨_, _, rfl⟩ (c_X12_allRopes l D dA zz bs mm_25 (f_X12_allRopes mm_25) rfl) rfl ⟨Nat.le_of_ble_eq_true rfl, Nat.le_of_ble_eq_true rfl⟩ hl.1 rfl (rest := [.int y4L_34, .ref (bs + 1088), .int y3L_34]) (Nat.le_of_ble_eq_true rfl) ⟨Nat.zero_le _, Nat.zero_le _⟩ dX12_mileBy_159 (fun H locs hP hS => ?_)
          refine W.eq (g2 := F0 m 162 ls [.int (f_X12_allRopes mm_25), .int y4L_34, .ref (bs + 1088), .int y3L_34]) rfl ?_
          obtain ⟨r_32, hc_31, hf⟩ := bi1S hf
          refine wd_cv X hP hS L1088 ml_X12_403 ⟨_, _, rfl⟩ (c_X12_riddenBy l D dA zz bs mm_25 y4L_34 (f_X12_allRopes mm_25) r_32 hc_31) rfl ⟨Nat.le_of_ble_eq_true rfl, Nat.le_of_ble_eq_true rfl⟩ hl.1 rfl (rest := [.int y3L_34]) (Nat.le_of_ble_eq_true rfl) ⟨Nat.zero_le _, Nat.zero_le _⟩ dX12_mileBy_162 (fun H locs hP hS => ?_)
          refine W.eq (g2 := F0 m 165 ls [.int r_32, .int y3L_34]) rfl ?_
          refine lv_iload_n hx hb dX12_mileBy_165 rfl (lv_at hl 1 rfl) ?_
          refine lv_iand hx hb dX12_mileBy_166 ?_
          refine lv_if_eq (tgt := 177) hx hb dX12_mileBy_167 (by decide) (fun c_33 => ?_) (fun c_33 => ?_)
          · have hf := itT hf c_33
            refine lv_iconst (v := 0) hx hb dX12_mileBy_177 (by decide) ?_
            exact hJ178 y4L_34 (0 : Int32) y3L_34 H locs ls hf hP hS (lv_sub hl [0, 1, 3] rfl)
          · have hf := itF hf c_33
            refine lv_iconst (v := 1) hx hb dX12_mileBy_170 (by decide) ?_
            refine lv_iload hx hb dX12_mileBy_171 (lv_at hl 3 rfl) ?_
            refine lv_ishl hx hb dX12_mileBy_173 ?_
            refine lv_goto (tgt := 178) hx hb dX12_mileBy_174 (by decide) ?_
            exact hJ178 y4L_34 ((1 : Int32) <<< (y4L_34 &&& 31)) y3L_34 H locs ls hf hP hS (lv_sub hl [0, 1, 3] rfl)
      · obtain ⟨w3_35, e_w3_35⟩ : ∃ z, z = q_61 := ⟨_, rfl⟩
        subst e_w3_35
        intro H locs ls hP hS hl
        refine lv_iconst (v := 0) hx hb dX12_mileBy_186 (by decide) ?_
        refine lv_istore (lv' := [(4, .int (0 : Int32)), (0, .ref (bs + 1088)), (2, .int r_28), (3, .int w3_35)]) hx hb dX12_mileBy_187 hl (by decide) rfl (fun ls hl => ?_)
        obtain ⟨q_59, hlp_60, hf⟩ := bi1S hf
        refine lp_walk (Wh := (fun z => match z with | (y4L_42, mmL_42) => ∀ (H : Heap) (locs : List Loc) (ls : Array Slot), Wd D dA bs LY mmL_42 H → va_S (Aq bs) s.heap H locs → lv_has ls 5 [(0, .ref (bs + 1088)), (2, .int r_28), (3, .int w3_35), (4, .int y4L_42)] → Wz p l e s m args below meth c D dA bs (some (.int out)) m1 6 151 H locs 189 ls [])) (Ph := (fun mm_43 => ∀ (H : Heap) (locs : List Loc) (ls : Array Slot), Wd D dA bs LY mm_43 H → va_S (Aq bs) s.heap H locs → lv_has ls 5 [(0, .ref (bs + 1088)), (2, .int r_28)] → Wz p l e s m args below meth c D dA bs (some (.int out)) m1 6 151 H locs 233 ls [])) ?_ hlp_60 ?_ H locs ls hP hS (lv_sub hl [1, 2, 3, 0] rfl)
        · intro z o hf hB hE
          obtain ⟨y4L_42, mmL_42⟩ := z
          intro H locs ls hP hS hl
          have hf : f_X12_mileBy_s189 r_28 w3_35 (y4L_42, mmL_42) = some o := hf
          unfold f_X12_mileBy_s189 at hf
          dsimp only at hf
          have hJ226 : ∀ (mmJ_38 : Mm) (y4J_38 : Int32) (z0J_38 : Int32) (z1J_38 : Int32) (H : Heap) (locs : List Loc) (ls : Array Slot), f_X12_mileBy_j226 mmJ_38 r_28 w3_35 y4J_38 z0J_38 z1J_38 = some o → Wd D dA bs LY mmJ_38 H → va_S (Aq bs) s.heap H locs → lv_has ls 5 [(0, .ref (bs + 1088)), (2, .int r_28), (3, .int w3_35), (4, .int y4J_38)] → Wz p l e s m args below meth c D dA bs (some (.int out)) m1 6 151 H locs 226 ls [.int z0J_38, .int z1J_38, .ref (bs + 1092)] := by
            intro mmJ_38 y4J_38 z0J_38 z1J_38 H locs ls hf hP hS hl
            unfold f_X12_mileBy_j226 at hf
            have g_37 := gdN hf
            have hf := gdK hf
            refine wd_iast X hP hS L1092 g_37 dX12_mileBy_226 (fun H locs mm_36 emm_36 hP hS => ?_)
            have hf := vl hf emm_36
            refine lv_iinc (v := (y4J_38 + 1)) (lv' := [(4, .int (y4J_38 + 1)), (0, .ref (bs + 1088)), (2, .int r_28), (3, .int w3_35)]) hx hb dX12_mileBy_227 hl (k := 3) rfl rfl (by decide) rfl (fun ls hl => ?_)
            refine lv_goto (tgt := 189) hx hb dX12_mileBy_230 (by decide) ?_
            obtain rfl := Option.some.inj hf
            exact hB _ rfl H locs ls hP hS (lv_sub hl [1, 2, 3, 0] rfl)
          refine lv_iload hx hb dX12_mileBy_189 (lv_at hl 3 rfl) ?_
          refine lv_aload_n hx hb dX12_mileBy_191 rfl (lv_at hl 0 rfl) ?_
          refine wd_getR (q := 1089) X hP L1088 fl_X12_9 rfl dX12_mileBy_192 ?_
          refine lv_iconst (v := 2) hx hb dX12_mileBy_195 (by decide) ?_
          refine wd_ialdK (k := 2) X hP L1089 (by decide) (by decide) dX12_mileBy_196 ?_
          refine lv_icmp_ge (tgt := 233) hx hb dX12_mileBy_197 (by decide) (fun c_39 => ?_) (fun c_39 => ?_)
          · have hf := itT hf c_39
            obtain rfl := Option.some.inj hf
            exact hE _ rfl H locs ls hP hS (lv_sub hl [0, 1] rfl)
          · have hf := itF hf c_39
            refine lv_aload_n hx hb dX12_mileBy_200 rfl (lv_at hl 0 rfl) ?_
            refine wd_getR (q := 1092) X hP L1088 fl_X12_19 rfl dX12_mileBy_201 ?_
            refine lv_iload hx hb dX12_mileBy_204 (lv_at hl 3 rfl) ?_
            refine lv_iload_n hx hb dX12_mileBy_206 rfl (lv_at hl 2 rfl) ?_
            refine lv_iload hx hb dX12_mileBy_207 (lv_at hl 3 rfl) ?_
            refine wd_cs X hP hS ml_X12_390 (c_X12_has l D dA zz bs mmL_42 w3_35 y4L_42 (f_X12_has w3_35 y4L_42) rfl) rfl ⟨Nat.le_of_ble_eq_true rfl, Nat.le_of_ble_eq_true rfl⟩ hl.1 rfl (rest := [.int y4L_42, .ref (bs + 1092)]) (Nat.le_of_ble_eq_true rfl) ⟨Nat.zero_le _, Nat.zero_le _⟩ dX12_mileBy_209 (fun H locs hP hS => ?_)
            refine W.eq (g2 := F0 m 212 ls [.int (f_X12_has w3_35 y4L_42), .int y4L_42, .ref (bs + 1092)]) rfl ?_
            refine lv_if_eq (tgt := 219) hx hb dX12_mileBy_212 (by decide) (fun c_40 => ?_) (fun c_40 => ?_)
            · have hf := itT hf c_40
              refine lv_aload_n hx hb dX12_mileBy_219 rfl (lv_at hl 0 rfl) ?_
              refine wd_getR (q := 1092) X hP L1088 fl_X12_19 rfl dX12_mileBy_220 ?_
              refine lv_iload hx hb dX12_mileBy_223 (lv_at hl 3 rfl) ?_
              have g_41 := gdN hf
              have hf := gdK hf
              refine wd_iald X hP L1092 g_41 dX12_mileBy_225 ?_
              exact hJ226 mmL_42 y4L_42 (mmL_42.1 1092 y4L_42.toNatClampNeg) y4L_42 H locs ls hf hP hS (lv_sub hl [0, 1, 2, 3] rfl)
            · have hf := itF hf c_40
              refine lv_iconst (v := 2) hx hb dX12_mileBy_215 (by decide) ?_
              refine lv_goto (tgt := 226) hx hb dX12_mileBy_216 (by decide) ?_
              exact hJ226 mmL_42 y4L_42 (2 : Int32) y4L_42 H locs ls hf hP hS (lv_sub hl [0, 1, 2, 3] rfl)
        · obtain ⟨mm_43, e_mm_43⟩ : ∃ z, z = q_59 := ⟨_, rfl⟩
          subst e_mm_43
          intro H locs ls hP hS hl
          refine lv_aload_n hx hb dX12_mileBy_233 rfl (lv_at hl 0 rfl) ?_
          refine lv_iload_n hx hb dX12_mileBy_234 rfl (lv_at hl 1 rfl) ?_
          refine lv_iconst (v := 0) hx hb dX12_mileBy_235 (by decide) ?_
          obtain ⟨r_46, mm_44, hc_45, hf⟩ := bi2S hf
          refine wd_cv X hP hS L1088 ml_X12_456 ⟨_, _, rfl⟩ (c_X12_ropesGoOf l D dA zz bs mm_43 r_28 (0 : Int32) r_46 mm_44 hc_45) rfl ⟨Nat.le_of_ble_eq_true rfl, Nat.le_of_ble_eq_true rfl⟩ hl.1 rfl (rest := []) (Nat.le_of_ble_eq_true rfl) ⟨Nat.zero_le _, Nat.zero_le _⟩ dX12_mileBy_236 (fun H locs hP hS => ?_)
          refine W.eq (g2 := F0 m 239 ls [.int r_46]) rfl ?_
          refine lv_pop hx hb dX12_mileBy_239 rfl ?_
          refine lv_iconst (v := 0) hx hb dX12_mileBy_240 (by decide) ?_
          refine lv_istore (lv' := [(4, .int (0 : Int32)), (0, .ref (bs + 1088)), (2, .int r_28)]) hx hb dX12_mileBy_241 hl (by decide) rfl (fun ls hl => ?_)
          obtain ⟨q_57, hlp_58, hf⟩ := bi1S hf
          refine lp_walk (Wh := (fun z => match z with | (y4L_53, mmL_53) => ∀ (H : Heap) (locs : List Loc) (ls : Array Slot), Wd D dA bs LY mmL_53 H → va_S (Aq bs) s.heap H locs → lv_has ls 5 [(0, .ref (bs + 1088)), (2, .int r_28), (4, .int y4L_53)] → Wz p l e s m args below meth c D dA bs (some (.int out)) m1 6 151 H locs 243 ls [])) (Ph := (fun mm_54 => ∀ (H : Heap) (locs : List Loc) (ls : Array Slot), Wd D dA bs LY mm_54 H → va_S (Aq bs) s.heap H locs → lv_has ls 5 [(2, .int r_28)] → Wz p l e s m args below meth c D dA bs (some (.int out)) m1 6 151 H locs 291 ls [])) ?_ hlp_58 ?_ H locs ls hP hS (lv_sub hl [1, 2, 0] rfl)
          · intro z o hf hB hE
            obtain ⟨y4L_53, mmL_53⟩ := z
            intro H locs ls hP hS hl
            have hf : f_X12_mileBy_s243 r_28 (y4L_53, mmL_53) = some o := hf
            unfold f_X12_mileBy_s243 at hf
            dsimp only at hf
            refine lv_iload hx hb dX12_mileBy_243 (lv_at hl 2 rfl) ?_
            refine lv_aload_n hx hb dX12_mileBy_245 rfl (lv_at hl 0 rfl) ?_
            refine wd_getR (q := 1089) X hP L1088 fl_X12_9 rfl dX12_mileBy_246 ?_
            refine lv_iconst (v := 3) hx hb dX12_mileBy_249 (by decide) ?_
            refine wd_ialdK (k := 3) X hP L1089 (by decide) (by decide) dX12_mileBy_250 ?_
            refine lv_icmp_ge (tgt := 291) hx hb dX12_mileBy_251 (by decide) (fun c_47 => ?_) (fun c_47 => ?_)
            · have hf := itT hf c_47
              obtain rfl := Option.some.inj hf
              exact hE _ rfl H locs ls hP hS (lv_sub hl [1] rfl)
            · have hf := itF hf c_47
              refine lv_iload_n hx hb dX12_mileBy_254 rfl (lv_at hl 1 rfl) ?_
              refine lv_iload hx hb dX12_mileBy_255 (lv_at hl 2 rfl) ?_
              refine wd_cs X hP hS ml_X12_390 (c_X12_has l D dA zz bs mmL_53 r_28 y4L_53 (f_X12_has r_28 y4L_53) rfl) rfl ⟨Nat.le_of_ble_eq_true rfl, Nat.le_of_ble_eq_true rfl⟩ hl.1 rfl (rest := []) (Nat.le_of_ble_eq_true rfl) ⟨Nat.zero_le _, Nat.zero_le _⟩ dX12_mileBy_257 (fun H locs hP hS => ?_)
              refine W.eq (g2 := F0 m 260 ls [.int (f_X12_has r_28 y4L_53)]) rfl ?_
              refine lv_if_eq (tgt := 285) hx hb dX12_mileBy_260 (by decide) (fun c_48 => ?_) (fun c_48 => ?_)
              · have hf := itT hf c_48
                refine lv_iinc (v := (y4L_53 + 1)) (lv' := [(4, .int (y4L_53 + 1)), (0, .ref (bs + 1088)), (2, .int r_28)]) hx hb dX12_mileBy_285 hl (k := 2) rfl rfl (by decide) rfl (fun ls hl => ?_)
                refine lv_goto (tgt := 243) hx hb dX12_mileBy_288 (by decide) ?_
                obtain rfl := Option.some.inj hf
                exact hB _ rfl H locs ls hP hS (lv_sub hl [1, 2, 0] rfl)
              · have hf := itF hf c_48
                refine lv_aload_n hx hb dX12_mileBy_263 rfl (lv_at hl 0 rfl) ?_
                refine wd_getR (q := 1097) X hP L1088 fl_X12_34 rfl dX12_mileBy_264 ?_
                refine lv_iload hx hb dX12_mileBy_267 (lv_at hl 2 rfl) ?_
                refine lv_iconst (v := 2) hx hb dX12_mileBy_269 (by decide) ?_
                have g_50 := gdN hf
                have hf := gdK hf
                refine wd_iast X hP hS L1097 g_50 dX12_mileBy_270 (fun H locs mm_49 emm_49 hP hS => ?_)
                have hf := vl hf emm_49
                refine lv_aload_n hx hb dX12_mileBy_271 rfl (lv_at hl 0 rfl) ?_
                refine wd_getR (q := 1098) X hP L1088 fl_X12_37 rfl dX12_mileBy_272 ?_
                refine lv_iload hx hb dX12_mileBy_275 (lv_at hl 2 rfl) ?_
                refine lv_aload_n hx hb dX12_mileBy_277 rfl (lv_at hl 0 rfl) ?_
                refine wd_getR (q := 1089) X hP L1088 fl_X12_9 rfl dX12_mileBy_278 ?_
                refine lv_bipush (v := 6) hx hb dX12_mileBy_281 (by decide) ?_
                refine wd_ialdK (k := 6) X hP L1089 (by decide) (by decide) dX12_mileBy_283 ?_
                have g_52 := gdN hf
                have hf := gdK hf
                refine wd_iast X hP hS L1098 g_52 dX12_mileBy_284 (fun H locs mm_51 emm_51 hP hS => ?_)
                have hf := vl hf emm_51
                refine lv_iinc (v := (y4L_53 + 1)) (lv' := [(4, .int (y4L_53 + 1)), (0, .ref (bs + 1088)), (2, .int r_28)]) hx hb dX12_mileBy_285 hl (k := 2) rfl rfl (by decide) rfl (fun ls hl => ?_)
                refine lv_goto (tgt := 243) hx hb dX12_mileBy_288 (by decide) ?_
                obtain rfl := Option.some.inj hf
                exact hB _ rfl H locs ls hP hS (lv_sub hl [1, 2, 0] rfl)
          · obtain ⟨mm_54, e_mm_54⟩ : ∃ z, z = q_57 := ⟨_, rfl⟩
            subst e_mm_54
            intro H locs ls hP hS hl
            refine lv_iload_n hx hb dX12_mileBy_291 rfl (lv_at hl 0 rfl) ?_
            obtain ⟨r_56, hc_55, hf⟩ := bi1S hf
            refine wd_cs X hP hS ml_X12_460 (c_X12_bits l D dA zz bs mm_54 r_28 r_56 hc_55) rfl ⟨Nat.le_of_ble_eq_true rfl, Nat.le_of_ble_eq_true rfl⟩ hl.1 rfl (rest := []) (Nat.le_of_ble_eq_true rfl) ⟨Nat.zero_le _, Nat.zero_le _⟩ dX12_mileBy_292 (fun H locs hP hS => ?_)
            refine W.eq (g2 := F0 m 295 ls [.int r_56]) rfl ?_
            obtain ⟨rfl, rfl⟩ := Prod.mk.inj (Option.some.inj hf)
            exact wd_iret X hP hS hr0 dX12_mileBy_295 ⟨rfl, rfl⟩

noncomputable def f_X12_goesMile (mm : Mm) : Option (Int32 × Mm) :=
  bi1 (f_X12_forceAt mm ((mm.1 1089 6) + (1 : Int32))) fun r_2 => bi2 (f_X12_mileBy mm r_2) fun r_5 mm_3 => some (r_5, mm_3)
set_option maxHeartbeats 4000000 in
set_option maxRecDepth 100000 in
theorem c_X12_goesMile (l : Launch) (D : va_G) (dA : Nat → ClassId) (zz : (Nat → Nat) × (Nat → Nat)) (bs : Nat) (mm : Mm) (out : Int32) (m1 : Mm) (hf : f_X12_goesMile mm = some (out, m1)) : Mw l D dA zz bs LY yX12_goesMile cX12_goesMile 1 (some .int) 7 175 [.ref (bs + 1088)] mm (some (.int out)) m1 := by
  refine Mw.of (own := RX12) (by decide) rfl (Nat.le_of_ble_eq_true rfl) ?_
  intro p e s m args below meth c X hr0 hP hS ls hl
  have hx := X.1
  have hb := X.2.1
  obtain ⟨H, hH⟩ : ∃ z : Heap, z = s.heap := ⟨_, rfl⟩
  obtain ⟨locs, hL⟩ : ∃ z : List Loc, z = [] := ⟨_, rfl⟩
  rw [← hH, ← hL]
  have hS : va_S (Aq bs) s.heap H locs := by rw [hH, hL]; exact hS
  have hP : Wd D dA bs LY mm H := by rw [hH]; exact hP
  have hl : lv_has ls 1 [(0, .ref (bs + 1088))] := hl
  unfold f_X12_goesMile at hf
  refine lv_aload_n hx hb dX12_goesMile_0 rfl (lv_at hl 0 rfl) ?_
  refine lv_aload_n hx hb dX12_goesMile_1 rfl (lv_at hl 0 rfl) ?_
  refine lv_aload_n hx hb dX12_goesMile_2 rfl (lv_at hl 0 rfl) ?_
  refine wd_getR (q := 1089) X hP L1088 fl_X12_9 rfl dX12_goesMile_3 ?_
  refine lv_bipush (v := 6) hx hb dX12_goesMile_6 (by decide) ?_
  refine wd_ialdK (k := 6) X hP L1089 (by decide) (by decide) dX12_goesMile_8 ?_
  refine lv_iconst (v := 1) hx hb dX12_goesMile_9 (by decide) ?_
  refine lv_iadd hx hb dX12_goesMile_10 ?_
  obtain ⟨r_2, hc_1, hf⟩ := bi1S hf
  refine wd_cv X hP hS L1088 ml_X12_433 ⟨_, _, rfl⟩ (c_X12_forceAt l D dA zz bs mm ((mm.1 1089 6) + (1 : Int32)) r_2 hc_1) rfl ⟨Nat.le_of_ble_eq_true rfl, Nat.le_of_ble_eq_true rfl⟩ hl.1 rfl (rest := [.ref (bs + 1088)]) (Nat.le_of_ble_eq_true rfl) ⟨Nat.zero_le _, Nat.zero_le _⟩ dX12_goesMile_11 (fun H locs hP hS => ?_)
  refine W.eq (g2 := F0 m 14 ls [.int r_2, .ref (bs + 1088)]) rfl ?_
  obtain ⟨r_5, mm_3, hc_4, hf⟩ := bi2S hf
  refine wd_cv X hP hS L1088 ml_X12_466 ⟨_, _, rfl⟩ (c_X12_mileBy l D dA zz bs mm r_2 r_5 mm_3 hc_4) rfl ⟨Nat.le_of_ble_eq_true rfl, Nat.le_of_ble_eq_true rfl⟩ hl.1 rfl (rest := []) (Nat.le_of_ble_eq_true rfl) ⟨Nat.zero_le _, Nat.zero_le _⟩ dX12_goesMile_14 (fun H locs hP hS => ?_)
  refine W.eq (g2 := F0 m 17 ls [.int r_5]) rfl ?_
  obtain ⟨rfl, rfl⟩ := Prod.mk.inj (Option.some.inj hf)
  exact wd_iret X hP hS hr0 dX12_goesMile_17 ⟨rfl, rfl⟩

noncomputable def f_X12_moves_j20 (mm : Mm) (z0 : Int32) : Option (Int32 × Mm) :=
  if (mm.1 1088 56) < 0 ∨ 1540 ≤ (mm.1 1088 56).toNatClampNeg then none else
    vlet (wI mm 1129 (mm.1 1088 56).toNatClampNeg z0) fun mm_1 =>
      vlet (wI mm_1 1088 56 ((mm_1.1 1088 56) + (1 : Int32))) fun mm_3 => some (z0, mm_3)
noncomputable def f_X12_moves (mm : Mm) (x1 : Int32) : Option (Int32 × Mm) :=
  if (mm.1 1088 57) = 0 then
    f_X12_moves_j20 mm x1
  else
    if (mm.1 1088 56) < 0 ∨ 1540 ≤ (mm.1 1088 56).toNatClampNeg then none else f_X12_moves_j20 mm (mm.1 1129 (mm.1 1088 56).toNatClampNeg)
set_option maxHeartbeats 4000000 in
set_option maxRecDepth 100000 in
theorem c_X12_moves (l : Launch) (D : va_G) (dA : Nat → ClassId) (zz : (Nat → Nat) × (Nat → Nat)) (bs : Nat) (mm : Mm) (x1 : Int32) (out : Int32) (m1 : Mm) (hf : f_X12_moves mm x1 = some (out, m1)) : Mw l D dA zz bs LY yX12_moves cX12_moves 3 (some .int) 0 0 [.ref (bs + 1088), .int x1] mm (some (.int out)) m1 := by
  refine Mw.of (own := RX12) (by decide) rfl (Nat.le_of_ble_eq_true rfl) ?_
  intro p e s m args below meth c X hr0 hP hS ls hl
  have hx := X.1
  have hb := X.2.1
  obtain ⟨H, hH⟩ : ∃ z : Heap, z = s.heap := ⟨_, rfl⟩
  obtain ⟨locs, hL⟩ : ∃ z : List Loc, z = [] := ⟨_, rfl⟩
  rw [← hH, ← hL]
  have hS : va_S (Aq bs) s.heap H locs := by rw [hH, hL]; exact hS
  have hP : Wd D dA bs LY mm H := by rw [hH]; exact hP
  have hl : lv_has ls 3 [(0, .ref (bs + 1088)), (1, .int x1)] := hl
  have hJ20 : ∀ (mmJ_4 : Mm) (z0J_4 : Int32) (H : Heap) (locs : List Loc) (ls : Array Slot), f_X12_moves_j20 mmJ_4 z0J_4 = some (out, m1) → Wd D dA bs LY mmJ_4 H → va_S (Aq bs) s.heap H locs → lv_has ls 3 [(0, .ref (bs + 1088))] → Wz p l e s m args below meth c D dA bs (some (.int out)) m1 0 0 H locs 20 ls [.int z0J_4] := by
    intro mmJ_4 z0J_4 H locs ls hf hP hS hl
    unfold f_X12_moves_j20 at hf
    refine lv_istore_n (lv' := [(2, .int z0J_4), (0, .ref (bs + 1088))]) hx hb dX12_moves_20 rfl hl (by decide) rfl (fun ls hl => ?_)
    refine lv_aload_n hx hb dX12_moves_21 rfl (lv_at hl 1 rfl) ?_
    refine wd_getR (q := 1129) X hP L1088 fl_X12_136 rfl dX12_moves_22 ?_
    refine lv_aload_n hx hb dX12_moves_25 rfl (lv_at hl 1 rfl) ?_
    refine wd_getI X hP L1088 fl_X12_473 rfl dX12_moves_26 ?_
    refine lv_iload_n hx hb dX12_moves_29 rfl (lv_at hl 0 rfl) ?_
    have g_2 := gdN hf
    have hf := gdK hf
    refine wd_iast X hP hS L1129 g_2 dX12_moves_30 (fun H locs mm_1 emm_1 hP hS => ?_)
    have hf := vl hf emm_1
    refine lv_aload_n hx hb dX12_moves_31 rfl (lv_at hl 1 rfl) ?_
    refine lv_dup hx hb dX12_moves_32 rfl ?_
    refine wd_getI X hP L1088 fl_X12_473 rfl dX12_moves_33 ?_
    refine lv_iconst (v := 1) hx hb dX12_moves_36 (by decide) ?_
    refine lv_iadd hx hb dX12_moves_37 ?_
    refine wd_putI X hP hS L1088 fp_X12_473 rfl dX12_moves_38 (fun H locs mm_3 emm_3 hP hS => ?_)
    have hf := vl hf emm_3
    refine lv_iload_n hx hb dX12_moves_41 rfl (lv_at hl 0 rfl) ?_
    obtain ⟨rfl, rfl⟩ := Prod.mk.inj (Option.some.inj hf)
    exact wd_iret X hP hS hr0 dX12_moves_42 ⟨rfl, rfl⟩
  unfold f_X12_moves at hf
  refine lv_aload_n hx hb dX12_moves_0 rfl (lv_at hl 0 rfl) ?_
  refine wd_getI X hP L1088 fl_X12_469 rfl dX12_moves_1 ?_
  refine lv_if_eq (tgt := 19) hx hb dX12_moves_4 (by decide) (fun c_5 => ?_) (fun c_5 => ?_)
  · have hf := itT hf c_5
    refine lv_iload_n hx hb dX12_moves_19 rfl (lv_at hl 1 rfl) ?_
    exact hJ20 mm x1 H locs ls hf hP hS (lv_sub hl [0] rfl)
  · have hf := itF hf c_5
    refine lv_aload_n hx hb dX12_moves_7 rfl (lv_at hl 0 rfl) ?_
    refine wd_getR (q := 1129) X hP L1088 fl_X12_136 rfl dX12_moves_8 ?_
    refine lv_aload_n hx hb dX12_moves_11 rfl (lv_at hl 0 rfl) ?_
    refine wd_getI X hP L1088 fl_X12_473 rfl dX12_moves_12 ?_
    have g_6 := gdN hf
    have hf := gdK hf
    refine wd_iald X hP L1129 g_6 dX12_moves_15 ?_
    refine lv_goto (tgt := 20) hx hb dX12_moves_16 (by decide) ?_
    exact hJ20 mm (mm.1 1129 (mm.1 1088 56).toNatClampNeg) H locs ls hf hP hS (lv_sub hl [0] rfl)

noncomputable def f_X12_movesRow_s2 (a : Nat) (n : Nat) : (Int32 × Mm) → Option ((Int32 × Mm) ⊕ (Mm)) :=
  fun q => match q with
  | (y2, mm) =>
    if (Int32.ofNat n) ≤ y2 then
      some (.inr mm)
    else
      if y2 < 0 ∨ n ≤ y2.toNatClampNeg then none else
        bi2 (f_X12_moves mm (mm.1 a y2.toNatClampNeg)) fun r_5 mm_3 =>
          if y2 < 0 ∨ n ≤ y2.toNatClampNeg then none else
            vlet (wI mm_3 a y2.toNatClampNeg r_5) fun mm_6 => some (.inl ((y2 + 1), mm_6))
noncomputable def f_X12_movesRow (mm : Mm) (a : Nat) (n : Nat) : Option (Mm) :=
  bi1 (lp (f_X12_movesRow_s2 a n) ((0 : Int32), mm)) fun mm_9 =>
    some mm_9
set_option maxHeartbeats 4000000 in
set_option maxRecDepth 100000 in
theorem c_X12_movesRow (l : Launch) (D : va_G) (dA : Nat → ClassId) (zz : (Nat → Nat) × (Nat → Nat)) (bs : Nat) (mm : Mm) (a : Nat) (n : Nat) (ha : LY[a]? = some (.inr (0, n, ng))) (m1 : Mm) (hf : f_X12_movesRow mm a n = some m1) : Mw l D dA zz bs LY yX12_movesRow cX12_movesRow 3 none 1 22 [.ref (bs + 1088), .ref (bs + a)] mm none m1 := by
  refine Mw.of (own := RX12) (by decide) rfl (Nat.le_of_ble_eq_true rfl) ?_
  intro p e s m args below meth c X hr0 hP hS ls hl
  have hx := X.1
  have hb := X.2.1
  obtain ⟨H, hH⟩ : ∃ z : Heap, z = s.heap := ⟨_, rfl⟩
  obtain ⟨locs, hL⟩ : ∃ z : List Loc, z = [] := ⟨_, rfl⟩
  rw [← hH, ← hL]
  have hS : va_S (Aq bs) s.heap H locs := by rw [hH, hL]; exact hS
  have hP : Wd D dA bs LY mm H := by rw [hH]; exact hP
  have hl : lv_has ls 3 [(0, .ref (bs + 1088)), (1, .ref (bs + a))] := hl
  unfold f_X12_movesRow at hf
  refine lv_iconst (v := 0) hx hb dX12_movesRow_0 (by decide) ?_
  refine lv_istore_n (lv' := [(2, .int (0 : Int32)), (0, .ref (bs + 1088)), (1, .ref (bs + a))]) hx hb dX12_movesRow_1 rfl hl (by decide) rfl (fun ls hl => ?_)
  obtain ⟨q_10, hlp_11, hf⟩ := bi1S hf
  refine lp_walk (Wh := (fun z => match z with | (y2L_8, mmL_8) => ∀ (H : Heap) (locs : List Loc) (ls : Array Slot), Wd D dA bs LY mmL_8 H → va_S (Aq bs) s.heap H locs → lv_has ls 3 [(0, .ref (bs + 1088)), (1, .ref (bs + a)), (2, .int y2L_8)] → Wz p l e s m args below meth c D dA bs none m1 1 22 H locs 2 ls [])) (Ph := (fun mm_9 => ∀ (H : Heap) (locs : List Loc) (ls : Array Slot), Wd D dA bs LY mm_9 H → va_S (Aq bs) s.heap H locs → lv_has ls 3 [] → Wz p l e s m args below meth c D dA bs none m1 1 22 H locs 24 ls [])) ?_ hlp_11 ?_ H locs ls hP hS (lv_sub hl [1, 2, 0] rfl)
  · intro z o hf hB hE
    obtain ⟨y2L_8, mmL_8⟩ := z
    intro H locs ls hP hS hl
    have hf : f_X12_movesRow_s2 a n (y2L_8, mmL_8) = some o := hf
    unfold f_X12_movesRow_s2 at hf
    dsimp only at hf
    refine lv_iload_n hx hb dX12_movesRow_2 rfl (lv_at hl 2 rfl) ?_
    refine lv_aload_n hx hb dX12_movesRow_3 rfl (lv_at hl 1 rfl) ?_
    refine wd_alen X hP ha rfl rfl dX12_movesRow_4 ?_
    refine lv_icmp_ge (tgt := 24) hx hb dX12_movesRow_5 (by decide) (fun c_1 => ?_) (fun c_1 => ?_)
    · have hf := itT hf c_1
      obtain rfl := Option.some.inj hf
      exact hE _ rfl H locs ls hP hS (lv_sub hl [] rfl)
    · have hf := itF hf c_1
      refine lv_aload_n hx hb dX12_movesRow_8 rfl (lv_at hl 1 rfl) ?_
      refine lv_iload_n hx hb dX12_movesRow_9 rfl (lv_at hl 2 rfl) ?_
      refine lv_aload_n hx hb dX12_movesRow_10 rfl (lv_at hl 0 rfl) ?_
      refine lv_aload_n hx hb dX12_movesRow_11 rfl (lv_at hl 1 rfl) ?_
      refine lv_iload_n hx hb dX12_movesRow_12 rfl (lv_at hl 2 rfl) ?_
      have g_2 := gdN hf
      have hf := gdK hf
      refine wd_iald X hP ha g_2 dX12_movesRow_13 ?_
      obtain ⟨r_5, mm_3, hc_4, hf⟩ := bi2S hf
      refine wd_cv X hP hS L1088 ml_X12_476 ⟨_, _, rfl⟩ (c_X12_moves l D dA zz bs mmL_8 (mmL_8.1 a y2L_8.toNatClampNeg) r_5 mm_3 hc_4) rfl ⟨Nat.le_of_ble_eq_true rfl, Nat.le_of_ble_eq_true rfl⟩ hl.1 rfl (rest := [.int y2L_8, .ref (bs + a)]) (Nat.le_of_ble_eq_true rfl) ⟨Nat.zero_le _, Nat.zero_le _⟩ dX12_movesRow_14 (fun H locs hP hS => ?_)
      refine W.eq (g2 := F0 m 17 ls [.int r_5, .int y2L_8, .ref (bs + a)]) rfl ?_
      have g_7 := gdN hf
      have hf := gdK hf
      refine wd_iast X hP hS ha g_7 dX12_movesRow_17 (fun H locs mm_6 emm_6 hP hS => ?_)
      have hf := vl hf emm_6
      refine lv_iinc (v := (y2L_8 + 1)) (lv' := [(2, .int (y2L_8 + 1)), (0, .ref (bs + 1088)), (1, .ref (bs + a))]) hx hb dX12_movesRow_18 hl (k := 2) rfl rfl (by decide) rfl (fun ls hl => ?_)
      refine lv_goto (tgt := 2) hx hb dX12_movesRow_21 (by decide) ?_
      obtain rfl := Option.some.inj hf
      exact hB _ rfl H locs ls hP hS (lv_sub hl [1, 2, 0] rfl)
  · obtain ⟨mm_9, e_mm_9⟩ : ∃ z, z = q_10 := ⟨_, rfl⟩
    subst e_mm_9
    intro H locs ls hP hS hl
    obtain rfl := Option.some.inj hf
    exact wd_vret X hP hS hr0 dX12_movesRow_24 ⟨rfl, rfl⟩

noncomputable def f_X12_movesAll (mm : Mm) (x1 : Int32) (x2 : Int32) : Option (Mm) :=
  vlet (wI mm 1088 56 ((77 : Int32) * x1)) fun mm_1 =>
    if ¬ x2 = 0 ∧ ¬ x2 = 1 then none else
      vlet (wI mm_1 1088 57 x2) fun mm_2 =>
        bi2 (f_X12_moves mm_2 (mm_2.1 1089 6)) fun r_6 mm_4 =>
          vlet (wI mm_4 1089 6 r_6) fun mm_7 =>
            bi2 (f_X12_moves mm_7 (mm_7.1 1089 1)) fun r_10 mm_8 =>
              vlet (wI mm_8 1089 1 r_10) fun mm_11 =>
                bi2 (f_X12_moves mm_11 (mm_11.1 1089 4)) fun r_14 mm_12 =>
                  vlet (wI mm_12 1089 4 r_14) fun mm_15 =>
                    bi1 (f_X12_movesRow mm_15 1092 6) fun mm_16 =>
                      bi1 (f_X12_movesRow mm_16 1093 8) fun mm_18 =>
                        bi1 (f_X12_movesRow mm_18 1095 8) fun mm_20 =>
                          bi1 (f_X12_movesRow mm_20 1097 8) fun mm_22 =>
                            bi1 (f_X12_movesRow mm_22 1098 8) fun mm_24 =>
                              bi1 (f_X12_movesRow mm_24 1099 12) fun mm_26 =>
                                bi1 (f_X12_movesRow mm_26 1100 12) fun mm_28 => bi1 (f_X12_movesRow mm_28 1101 12) fun mm_30 => some mm_30
set_option maxHeartbeats 4000000 in
set_option maxRecDepth 100000 in
theorem c_X12_movesAll (l : Launch) (D : va_G) (dA : Nat → ClassId) (zz : (Nat → Nat) × (Nat → Nat)) (bs : Nat) (mm : Mm) (x1 : Int32) (x2 : Int32) (m1 : Mm) (hf : f_X12_movesAll mm x1 x2 = some m1) : Mw l D dA zz bs LY yX12_movesAll cX12_movesAll 3 none 2 44 [.ref (bs + 1088), .int x1, .int x2] mm none m1 := by
  refine Mw.of (own := RX12) (by decide) rfl (Nat.le_of_ble_eq_true rfl) ?_
  intro p e s m args below meth c X hr0 hP hS ls hl
  have hx := X.1
  have hb := X.2.1
  obtain ⟨H, hH⟩ : ∃ z : Heap, z = s.heap := ⟨_, rfl⟩
  obtain ⟨locs, hL⟩ : ∃ z : List Loc, z = [] := ⟨_, rfl⟩
  rw [← hH, ← hL]
  have hS : va_S (Aq bs) s.heap H locs := by rw [hH, hL]; exact hS
  have hP : Wd D dA bs LY mm H := by rw [hH]; exact hP
  have hl : lv_has ls 3 [(0, .ref (bs + 1088)), (1, .int x1), (2, .int x2)] := hl
  unfold f_X12_movesAll at hf
  refine lv_aload_n hx hb dX12_movesAll_0 rfl (lv_at hl 0 rfl) ?_
  refine lv_bipush (v := 77) hx hb dX12_movesAll_1 (by decide) ?_
  refine lv_iload_n hx hb dX12_movesAll_3 rfl (lv_at hl 1 rfl) ?_
  refine lv_imul hx hb dX12_movesAll_4 ?_
  refine wd_putI X hP hS L1088 fp_X12_473 rfl dX12_movesAll_5 (fun H locs mm_1 emm_1 hP hS => ?_)
  have hf := vl hf emm_1
  refine lv_aload_n hx hb dX12_movesAll_8 rfl (lv_at hl 0 rfl) ?_
  refine lv_iload_n hx hb dX12_movesAll_9 rfl (lv_at hl 2 rfl) ?_
  have g_3 := gdN hf
  have hf := gdK hf
  refine wd_putZ X hP hS L1088 fp_X12_469 rfl g_3 dX12_movesAll_10 (fun H locs mm_2 emm_2 hP hS => ?_)
  have hf := vl hf emm_2
  refine lv_aload_n hx hb dX12_movesAll_13 rfl (lv_at hl 0 rfl) ?_
  refine wd_getR (q := 1089) X hP L1088 fl_X12_9 rfl dX12_movesAll_14 ?_
  refine lv_bipush (v := 6) hx hb dX12_movesAll_17 (by decide) ?_
  refine lv_aload_n hx hb dX12_movesAll_19 rfl (lv_at hl 0 rfl) ?_
  refine lv_aload_n hx hb dX12_movesAll_20 rfl (lv_at hl 0 rfl) ?_
  refine wd_getR (q := 1089) X hP L1088 fl_X12_9 rfl dX12_movesAll_21 ?_
  refine lv_bipush (v := 6) hx hb dX12_movesAll_24 (by decide) ?_
  refine wd_ialdK (k := 6) X hP L1089 (by decide) (by decide) dX12_movesAll_26 ?_
  obtain ⟨r_6, mm_4, hc_5, hf⟩ := bi2S hf
  refine wd_cv X hP hS L1088 ml_X12_476 ⟨_, _, rfl⟩ (c_X12_moves l D dA zz bs mm_2 (mm_2.1 1089 6) r_6 mm_4 hc_5) rfl ⟨Nat.le_of_ble_eq_true rfl, Nat.le_of_ble_eq_true rfl⟩ hl.1 rfl (rest := [.int (6 : Int32), .ref (bs + 1089)]) (Nat.le_of_ble_eq_true rfl) ⟨Nat.zero_le _, Nat.zero_le _⟩ dX12_movesAll_27 (fun H locs hP hS => ?_)
  refine W.eq (g2 := F0 m 30 ls [.int r_6, .int (6 : Int32), .ref (bs + 1089)]) rfl ?_
  refine wd_iastK (k := 6) X hP hS L1089 (by decide) (by decide) dX12_movesAll_30 (fun H locs mm_7 emm_7 hP hS => ?_)
  have hf := vl hf emm_7
  refine lv_aload_n hx hb dX12_movesAll_31 rfl (lv_at hl 0 rfl) ?_
  refine wd_getR (q := 1089) X hP L1088 fl_X12_9 rfl dX12_movesAll_32 ?_
  refine lv_iconst (v := 1) hx hb dX12_movesAll_35 (by decide) ?_
  refine lv_aload_n hx hb dX12_movesAll_36 rfl (lv_at hl 0 rfl) ?_
  refine lv_aload_n hx hb dX12_movesAll_37 rfl (lv_at hl 0 rfl) ?_
  refine wd_getR (q := 1089) X hP L1088 fl_X12_9 rfl dX12_movesAll_38 ?_
  refine lv_iconst (v := 1) hx hb dX12_movesAll_41 (by decide) ?_
  refine wd_ialdK (k := 1) X hP L1089 (by decide) (by decide) dX12_movesAll_42 ?_
  obtain ⟨r_10, mm_8, hc_9, hf⟩ := bi2S hf
  refine wd_cv X hP hS L1088 ml_X12_476 ⟨_, _, rfl⟩ (c_X12_moves l D dA zz bs mm_7 (mm_7.1 1089 1) r_10 mm_8 hc_9) rfl ⟨Nat.le_of_ble_eq_true rfl, Nat.le_of_ble_eq_true rfl⟩ hl.1 rfl (rest := [.int (1 : Int32), .ref (bs + 1089)]) (Nat.le_of_ble_eq_true rfl) ⟨Nat.zero_le _, Nat.zero_le _⟩ dX12_movesAll_43 (fun H locs hP hS => ?_)
  refine W.eq (g2 := F0 m 46 ls [.int r_10, .int (1 : Int32), .ref (bs + 1089)]) rfl ?_
  refine wd_iastK (k := 1) X hP hS L1089 (by decide) (by decide) dX12_movesAll_46 (fun H locs mm_11 emm_11 hP hS => ?_)
  have hf := vl hf emm_11
  refine lv_aload_n hx hb dX12_movesAll_47 rfl (lv_at hl 0 rfl) ?_
  refine wd_getR (q := 1089) X hP L1088 fl_X12_9 rfl dX12_movesAll_48 ?_
  refine lv_iconst (v := 4) hx hb dX12_movesAll_51 (by decide) ?_
  refine lv_aload_n hx hb dX12_movesAll_52 rfl (lv_at hl 0 rfl) ?_
  refine lv_aload_n hx hb dX12_movesAll_53 rfl (lv_at hl 0 rfl) ?_
  refine wd_getR (q := 1089) X hP L1088 fl_X12_9 rfl dX12_movesAll_54 ?_
  refine lv_iconst (v := 4) hx hb dX12_movesAll_57 (by decide) ?_
  refine wd_ialdK (k := 4) X hP L1089 (by decide) (by decide) dX12_movesAll_58 ?_
  obtain ⟨r_14, mm_12, hc_13, hf⟩ := bi2S hf
  refine wd_cv X hP hS L1088 ml_X12_476 ⟨_, _, rfl⟩ (c_X12_moves l D dA zz bs mm_11 (mm_11.1 1089 4) r_14 mm_12 hc_13) rfl ⟨Nat.le_of_ble_eq_true rfl, Nat.le_of_ble_eq_true rfl⟩ hl.1 rfl (rest := [.int (4 : Int32), .ref (bs + 1089)]) (Nat.le_of_ble_eq_true rfl) ⟨Nat.zero_le _, Nat.zero_le _⟩ dX12_movesAll_59 (fun H locs hP hS => ?_)
  refine W.eq (g2 := F0 m 62 ls [.int r_14, .int (4 : Int32), .ref (bs + 1089)]) rfl ?_
  refine wd_iastK (k := 4) X hP hS L1089 (by decide) (by decide) dX12_movesAll_62 (fun H locs mm_15 emm_15 hP hS => ?_)
  have hf := vl hf emm_15
  refine lv_aload_n hx hb dX12_movesAll_63 rfl (lv_at hl 0 rfl) ?_
  refine lv_aload_n hx hb dX12_movesAll_64 rfl (lv_at hl 0 rfl) ?_
  refine wd_getR (q := 1092) X hP L1088 fl_X12_19 rfl dX12_movesAll_65 ?_
  obtain ⟨mm_16, hc_17, hf⟩ := bi1S hf
  refine wd_cv X hP hS L1088 ml_X12_479 ⟨_, _, rfl⟩ (c_X12_movesRow l D dA zz bs mm_15 1092 6 L1092 mm_16 hc_17) rfl ⟨Nat.le_of_ble_eq_true rfl, Nat.le_of_ble_eq_true rfl⟩ hl.1 rfl (rest := []) (Nat.le_of_ble_eq_true rfl) ⟨Nat.zero_le _, Nat.zero_le _⟩ dX12_movesAll_68 (fun H locs hP hS => ?_)
  refine W.eq (g2 := F0 m 71 ls []) rfl ?_
  refine lv_aload_n hx hb dX12_movesAll_71 rfl (lv_at hl 0 rfl) ?_
  refine lv_aload_n hx hb dX12_movesAll_72 rfl (lv_at hl 0 rfl) ?_
  refine wd_getR (q := 1093) X hP L1088 fl_X12_22 rfl dX12_movesAll_73 ?_
  obtain ⟨mm_18, hc_19, hf⟩ := bi1S hf
  refine wd_cv X hP hS L1088 ml_X12_479 ⟨_, _, rfl⟩ (c_X12_movesRow l D dA zz bs mm_16 1093 8 L1093 mm_18 hc_19) rfl ⟨Nat.le_of_ble_eq_true rfl, Nat.le_of_ble_eq_true rfl⟩ hl.1 rfl (rest := []) (Nat.le_of_ble_eq_true rfl) ⟨Nat.zero_le _, Nat.zero_le _⟩ dX12_movesAll_76 (fun H locs hP hS => ?_)
  refine W.eq (g2 := F0 m 79 ls []) rfl ?_
  refine lv_aload_n hx hb dX12_movesAll_79 rfl (lv_at hl 0 rfl) ?_
  refine lv_aload_n hx hb dX12_movesAll_80 rfl (lv_at hl 0 rfl) ?_
  refine wd_getR (q := 1095) X hP L1088 fl_X12_28 rfl dX12_movesAll_81 ?_
  obtain ⟨mm_20, hc_21, hf⟩ := bi1S hf
  refine wd_cv X hP hS L1088 ml_X12_479 ⟨_, _, rfl⟩ (c_X12_movesRow l D dA zz bs mm_18 1095 8 L1095 mm_20 hc_21) rfl ⟨Nat.le_of_ble_eq_true rfl, Nat.le_of_ble_eq_true rfl⟩ hl.1 rfl (rest := []) (Nat.le_of_ble_eq_true rfl) ⟨Nat.zero_le _, Nat.zero_le _⟩ dX12_movesAll_84 (fun H locs hP hS => ?_)
  refine W.eq (g2 := F0 m 87 ls []) rfl ?_
  refine lv_aload_n hx hb dX12_movesAll_87 rfl (lv_at hl 0 rfl) ?_
  refine lv_aload_n hx hb dX12_movesAll_88 rfl (lv_at hl 0 rfl) ?_
  refine wd_getR (q := 1097) X hP L1088 fl_X12_34 rfl dX12_movesAll_89 ?_
  obtain ⟨mm_22, hc_23, hf⟩ := bi1S hf
  refine wd_cv X hP hS L1088 ml_X12_479 ⟨_, _, rfl⟩ (c_X12_movesRow l D dA zz bs mm_20 1097 8 L1097 mm_22 hc_23) rfl ⟨Nat.le_of_ble_eq_true rfl, Nat.le_of_ble_eq_true rfl⟩ hl.1 rfl (rest := []) (Nat.le_of_ble_eq_true rfl) ⟨Nat.zero_le _, Nat.zero_le _⟩ dX12_movesAll_92 (fun H locs hP hS => ?_)
  refine W.eq (g2 := F0 m 95 ls []) rfl ?_
  refine lv_aload_n hx hb dX12_movesAll_95 rfl (lv_at hl 0 rfl) ?_
  refine lv_aload_n hx hb dX12_movesAll_96 rfl (lv_at hl 0 rfl) ?_
  refine wd_getR (q := 1098) X hP L1088 fl_X12_37 rfl dX12_movesAll_97 ?_
  obtain ⟨mm_24, hc_25, hf⟩ := bi1S hf
  refine wd_cv X hP hS L1088 ml_X12_479 ⟨_, _, rfl⟩ (c_X12_movesRow l D dA zz bs mm_22 1098 8 L1098 mm_24 hc_25) rfl ⟨Nat.le_of_ble_eq_true rfl, Nat.le_of_ble_eq_true rfl⟩ hl.1 rfl (rest := []) (Nat.le_of_ble_eq_true rfl) ⟨Nat.zero_le _, Nat.zero_le _⟩ dX12_movesAll_100 (fun H locs hP hS => ?_)
  refine W.eq (g2 := F0 m 103 ls []) rfl ?_
  refine lv_aload_n hx hb dX12_movesAll_103 rfl (lv_at hl 0 rfl) ?_
  refine lv_aload_n hx hb dX12_movesAll_104 rfl (lv_at hl 0 rfl) ?_
  refine wd_getR (q := 1099) X hP L1088 fl_X12_40 rfl dX12_movesAll_105 ?_
  obtain ⟨mm_26, hc_27, hf⟩ := bi1S hf
  refine wd_cv X hP hS L1088 ml_X12_479 ⟨_, _, rfl⟩ (c_X12_movesRow l D dA zz bs mm_24 1099 12 L1099 mm_26 hc_27) rfl ⟨Nat.le_of_ble_eq_true rfl, Nat.le_of_ble_eq_true rfl⟩ hl.1 rfl (rest := []) (Nat.le_of_ble_eq_true rfl) ⟨Nat.zero_le _, Nat.zero_le _⟩ dX12_movesAll_108 (fun H locs hP hS => ?_)
  refine W.eq (g2 := F0 m 111 ls []) rfl ?_
  refine lv_aload_n hx hb dX12_movesAll_111 rfl (lv_at hl 0 rfl) ?_
  refine lv_aload_n hx hb dX12_movesAll_112 rfl (lv_at hl 0 rfl) ?_
  refine wd_getR (q := 1100) X hP L1088 fl_X12_43 rfl dX12_movesAll_113 ?_
  obtain ⟨mm_28, hc_29, hf⟩ := bi1S hf
  refine wd_cv X hP hS L1088 ml_X12_479 ⟨_, _, rfl⟩ (c_X12_movesRow l D dA zz bs mm_26 1100 12 L1100 mm_28 hc_29) rfl ⟨Nat.le_of_ble_eq_true rfl, Nat.le_of_ble_eq_true rfl⟩ hl.1 rfl (rest := []) (Nat.le_of_ble_eq_true rfl) ⟨Nat.zero_le _, Nat.zero_le _⟩ dX12_movesAll_116 (fun H locs hP hS => ?_)
  refine W.eq (g2 := F0 m 119 ls []) rfl ?_
  refine lv_aload_n hx hb dX12_movesAll_119 rfl (lv_at hl 0 rfl) ?_
  refine lv_aload_n hx hb dX12_movesAll_120 rfl (lv_at hl 0 rfl) ?_
  refine wd_getR (q := 1101) X hP L1088 fl_X12_46 rfl dX12_movesAll_121 ?_
  obtain ⟨mm_30, hc_31, hf⟩ := bi1S hf
  refine wd_cv X hP hS L1088 ml_X12_479 ⟨_, _, rfl⟩ (c_X12_movesRow l D dA zz bs mm_28 1101 12 L1101 mm_30 hc_31) rfl ⟨Nat.le_of_ble_eq_true rfl, Nat.le_of_ble_eq_true rfl⟩ hl.1 rfl (rest := []) (Nat.le_of_ble_eq_true rfl) ⟨Nat.zero_le _, Nat.zero_le _⟩ dX12_movesAll_124 (fun H locs hP hS => ?_)
  refine W.eq (g2 := F0 m 127 ls []) rfl ?_
  obtain rfl := Option.some.inj hf
  exact wd_vret X hP hS hr0 dX12_movesAll_127 ⟨rfl, rfl⟩

noncomputable def f_X12_keepsAct_j50 (mm : Mm) : Option (Mm) :=
  bi1 (f_X12_movesAll mm (mm.1 1088 55) (0 : Int32)) fun mm_1 =>
    vlet (wI mm_1 1088 55 ((mm_1.1 1088 55) + (1 : Int32))) fun mm_3 => some mm_3
noncomputable def f_X12_keepsAct_s12  : (Int32 × Mm) → Option ((Int32 × Mm) ⊕ (Mm)) :=
  fun q => match q with
  | (y1, mm) =>
    if (1540 : Int32) ≤ y1 then
      some (.inr mm)
    else
      if y1 < 0 ∨ 1540 ≤ y1.toNatClampNeg then none else
        if (y1 - (77 : Int32)) < 0 ∨ 1540 ≤ (y1 - (77 : Int32)).toNatClampNeg then none else
          vlet (wI mm 1129 (y1 - (77 : Int32)).toNatClampNeg (mm.1 1129 y1.toNatClampNeg)) fun mm_8 => some (.inl ((y1 + 1), mm_8))
noncomputable def f_X12_keepsAct (mm : Mm) : Option (Mm) :=
  if (mm.1 1088 55) = (20 : Int32) then
    bi1 (lp (f_X12_keepsAct_s12) ((77 : Int32), mm)) fun mm_11 =>
      vlet (wI mm_11 1088 55 ((mm_11.1 1088 55) - (1 : Int32))) fun mm_12 => f_X12_keepsAct_j50 mm_12
  else
    f_X12_keepsAct_j50 mm
set_option maxHeartbeats 4000000 in
set_option maxRecDepth 100000 in
theorem c_X12_keepsAct (l : Launch) (D : va_G) (dA : Nat → ClassId) (zz : (Nat → Nat) × (Nat → Nat)) (bs : Nat) (mm : Mm) (m1 : Mm) (hf : f_X12_keepsAct mm = some m1) : Mw l D dA zz bs LY yX12_keepsAct cX12_keepsAct 2 none 3 66 [.ref (bs + 1088)] mm none m1 := by
  refine Mw.of (own := RX12) (by decide) rfl (Nat.le_of_ble_eq_true rfl) ?_
  intro p e s m args below meth c X hr0 hP hS ls hl
  have hx := X.1
  have hb := X.2.1
  obtain ⟨H, hH⟩ : ∃ z : Heap, z = s.heap := ⟨_, rfl⟩
  obtain ⟨locs, hL⟩ : ∃ z : List Loc, z = [] := ⟨_, rfl⟩
  rw [← hH, ← hL]
  have hS : va_S (Aq bs) s.heap H locs := by rw [hH, hL]; exact hS
  have hP : Wd D dA bs LY mm H := by rw [hH]; exact hP
  have hl : lv_has ls 2 [(0, .ref (bs + 1088))] := hl
  have hJ50 : ∀ (mmJ_4 : Mm) (H : Heap) (locs : List Loc) (ls : Array Slot), f_X12_keepsAct_j50 mmJ_4 = some m1 → Wd D dA bs LY mmJ_4 H → va_S (Aq bs) s.heap H locs → lv_has ls 2 [(0, .ref (bs + 1088))] → Wz p l e s m args below meth c D dA bs none m1 3 66 H locs 50 ls [] := by
    intro mmJ_4 H locs ls hf hP hS hl
    unfold f_X12_keepsAct_j50 at hf
    refine lv_aload_n hx hb dX12_keepsAct_50 rfl (lv_at hl 0 rfl) ?_
    refine lv_aload_n hx hb dX12_keepsAct_51 rfl (lv_at hl 0 rfl) ?_
    refine wd_getI X hP L1088 fl_X12_359 rfl dX12_keepsAct_52 ?_
    refine lv_iconst (v := 0) hx hb dX12_keepsAct_55 (by decide) ?_
    obtain ⟨mm_1, hc_2, hf⟩ := bi1S hf
    refine wd_cv X hP hS L1088 ml_X12_483 ⟨_, _, rfl⟩ (c_X12_movesAll l D dA zz bs mmJ_4 (mmJ_4.1 1088 55) (0 : Int32) mm_1 hc_2) rfl ⟨Nat.le_of_ble_eq_true rfl, Nat.le_of_ble_eq_true rfl⟩ hl.1 rfl (rest := []) (Nat.le_of_ble_eq_true rfl) ⟨Nat.zero_le _, Nat.zero_le _⟩ dX12_keepsAct_56 (fun H locs hP hS => ?_)
    refine W.eq (g2 := F0 m 59 ls []) rfl ?_
    refine lv_aload_n hx hb dX12_keepsAct_59 rfl (lv_at hl 0 rfl) ?_
    refine lv_dup hx hb dX12_keepsAct_60 rfl ?_
    refine wd_getI X hP L1088 fl_X12_359 rfl dX12_keepsAct_61 ?_
    refine lv_iconst (v := 1) hx hb dX12_keepsAct_64 (by decide) ?_
    refine lv_iadd hx hb dX12_keepsAct_65 ?_
    refine wd_putI X hP hS L1088 fp_X12_359 rfl dX12_keepsAct_66 (fun H locs mm_3 emm_3 hP hS => ?_)
    have hf := vl hf emm_3
    obtain rfl := Option.some.inj hf
    exact wd_vret X hP hS hr0 dX12_keepsAct_69 ⟨rfl, rfl⟩
  unfold f_X12_keepsAct at hf
  refine lv_aload_n hx hb dX12_keepsAct_0 rfl (lv_at hl 0 rfl) ?_
  refine wd_getI X hP L1088 fl_X12_359 rfl dX12_keepsAct_1 ?_
  refine lv_bipush (v := 20) hx hb dX12_keepsAct_4 (by decide) ?_
  refine lv_icmp_ne (tgt := 50) hx hb dX12_keepsAct_6 (by decide) (fun c_5 => ?_) (fun c_5 => ?_)
  · have hf := itF hf c_5
    exact hJ50 mm H locs ls hf hP hS (lv_sub hl [0] rfl)
  · have hf := itT hf c_5
    refine lv_bipush (v := 77) hx hb dX12_keepsAct_9 (by decide) ?_
    refine lv_istore_n (lv' := [(1, .int (77 : Int32)), (0, .ref (bs + 1088))]) hx hb dX12_keepsAct_11 rfl hl (by decide) rfl (fun ls hl => ?_)
    obtain ⟨q_13, hlp_14, hf⟩ := bi1S hf
    refine lp_walk (Wh := (fun z => match z with | (y1L_10, mmL_10) => ∀ (H : Heap) (locs : List Loc) (ls : Array Slot), Wd D dA bs LY mmL_10 H → va_S (Aq bs) s.heap H locs → lv_has ls 2 [(0, .ref (bs + 1088)), (1, .int y1L_10)] → Wz p l e s m args below meth c D dA bs none m1 3 66 H locs 12 ls [])) (Ph := (fun mm_11 => ∀ (H : Heap) (locs : List Loc) (ls : Array Slot), Wd D dA bs LY mm_11 H → va_S (Aq bs) s.heap H locs → lv_has ls 2 [(0, .ref (bs + 1088))] → Wz p l e s m args below meth c D dA bs none m1 3 66 H locs 40 ls [])) ?_ hlp_14 ?_ H locs ls hP hS (lv_sub hl [1, 0] rfl)
    · intro z o hf hB hE
      obtain ⟨y1L_10, mmL_10⟩ := z
      intro H locs ls hP hS hl
      have hf : f_X12_keepsAct_s12 (y1L_10, mmL_10) = some o := hf
      unfold f_X12_keepsAct_s12 at hf
      dsimp only at hf
      refine lv_iload_n hx hb dX12_keepsAct_12 rfl (lv_at hl 1 rfl) ?_
      refine lv_sipush (v := 1540) hx hb dX12_keepsAct_13 (by decide) ?_
      refine lv_icmp_ge (tgt := 40) hx hb dX12_keepsAct_16 (by decide) (fun c_6 => ?_) (fun c_6 => ?_)
      · have hf := itT hf c_6
        obtain rfl := Option.some.inj hf
        exact hE _ rfl H locs ls hP hS (lv_sub hl [0] rfl)
      · have hf := itF hf c_6
        refine lv_aload_n hx hb dX12_keepsAct_19 rfl (lv_at hl 0 rfl) ?_
        refine wd_getR (q := 1129) X hP L1088 fl_X12_136 rfl dX12_keepsAct_20 ?_
        refine lv_iload_n hx hb dX12_keepsAct_23 rfl (lv_at hl 1 rfl) ?_
        refine lv_bipush (v := 77) hx hb dX12_keepsAct_24 (by decide) ?_
        refine lv_isub hx hb dX12_keepsAct_26 ?_
        refine lv_aload_n hx hb dX12_keepsAct_27 rfl (lv_at hl 0 rfl) ?_
        refine wd_getR (q := 1129) X hP L1088 fl_X12_136 rfl dX12_keepsAct_28 ?_
        refine lv_iload_n hx hb dX12_keepsAct_31 rfl (lv_at hl 1 rfl) ?_
        have g_7 := gdN hf
        have hf := gdK hf
        refine wd_iald X hP L1129 g_7 dX12_keepsAct_32 ?_
        have g_9 := gdN hf
        have hf := gdK hf
        refine wd_iast X hP hS L1129 g_9 dX12_keepsAct_33 (fun H locs mm_8 emm_8 hP hS => ?_)
        have hf := vl hf emm_8
        refine lv_iinc (v := (y1L_10 + 1)) (lv' := [(1, .int (y1L_10 + 1)), (0, .ref (bs + 1088))]) hx hb dX12_keepsAct_34 hl (k := 1) rfl rfl (by decide) rfl (fun ls hl => ?_)
        refine lv_goto (tgt := 12) hx hb dX12_keepsAct_37 (by decide) ?_
        obtain rfl := Option.some.inj hf
        exact hB _ rfl H locs ls hP hS (lv_sub hl [1, 0] rfl)
    · obtain ⟨mm_11, e_mm_11⟩ : ∃ z, z = q_13 := ⟨_, rfl⟩
      subst e_mm_11
      intro H locs ls hP hS hl
      refine lv_aload_n hx hb dX12_keepsAct_40 rfl (lv_at hl 0 rfl) ?_
      refine lv_dup hx hb dX12_keepsAct_41 rfl ?_
      refine wd_getI X hP L1088 fl_X12_359 rfl dX12_keepsAct_42 ?_
      refine lv_iconst (v := 1) hx hb dX12_keepsAct_45 (by decide) ?_
      refine lv_isub hx hb dX12_keepsAct_46 ?_
      refine wd_putI X hP hS L1088 fp_X12_359 rfl dX12_keepsAct_47 (fun H locs mm_12 emm_12 hP hS => ?_)
      have hf := vl hf emm_12
      exact hJ50 mm_12 H locs ls hf hP hS (lv_sub hl [0] rfl)

noncomputable def f_X12_undo (mm : Mm) : Option (Int32 × Mm) :=
  if (mm.1 1088 55) = 0 then
    some ((-2 : Int32), mm)
  else
    vlet (wI mm 1088 55 ((mm.1 1088 55) - (1 : Int32))) fun mm_2 =>
      bi1 (f_X12_movesAll mm_2 (mm_2.1 1088 55) (1 : Int32)) fun mm_3 => some ((mm_3.1 1088 55), mm_3)
set_option maxHeartbeats 4000000 in
set_option maxRecDepth 100000 in
theorem c_X12_undo (l : Launch) (D : va_G) (dA : Nat → ClassId) (zz : (Nat → Nat) × (Nat → Nat)) (bs : Nat) (mm : Mm) (out : Int32) (m1 : Mm) (hf : f_X12_undo mm = some (out, m1)) : Mw l D dA zz bs LY yX12_undo cX12_undo 1 (some .int) 3 66 [.ref (bs + 1088)] mm (some (.int out)) m1 := by
  refine Mw.of (own := RX12) (by decide) rfl (Nat.le_of_ble_eq_true rfl) ?_
  intro p e s m args below meth c X hr0 hP hS ls hl
  have hx := X.1
  have hb := X.2.1
  obtain ⟨H, hH⟩ : ∃ z : Heap, z = s.heap := ⟨_, rfl⟩
  obtain ⟨locs, hL⟩ : ∃ z : List Loc, z = [] := ⟨_, rfl⟩
  rw [← hH, ← hL]
  have hS : va_S (Aq bs) s.heap H locs := by rw [hH, hL]; exact hS
  have hP : Wd D dA bs LY mm H := by rw [hH]; exact hP
  have hl : lv_has ls 1 [(0, .ref (bs + 1088))] := hl
  unfold f_X12_undo at hf
  refine lv_aload_n hx hb dX12_undo_0 rfl (lv_at hl 0 rfl) ?_
  refine wd_getI X hP L1088 fl_X12_359 rfl dX12_undo_1 ?_
  refine lv_if_ne (tgt := 10) hx hb dX12_undo_4 (by decide) (fun c_1 => ?_) (fun c_1 => ?_)
  · have hf := itF hf c_1
    refine lv_aload_n hx hb dX12_undo_10 rfl (lv_at hl 0 rfl) ?_
    refine lv_dup hx hb dX12_undo_11 rfl ?_
    refine wd_getI X hP L1088 fl_X12_359 rfl dX12_undo_12 ?_
    refine lv_iconst (v := 1) hx hb dX12_undo_15 (by decide) ?_
    refine lv_isub hx hb dX12_undo_16 ?_
    refine wd_putI X hP hS L1088 fp_X12_359 rfl dX12_undo_17 (fun H locs mm_2 emm_2 hP hS => ?_)
    have hf := vl hf emm_2
    refine lv_aload_n hx hb dX12_undo_20 rfl (lv_at hl 0 rfl) ?_
    refine lv_aload_n hx hb dX12_undo_21 rfl (lv_at hl 0 rfl) ?_
    refine wd_getI X hP L1088 fl_X12_359 rfl dX12_undo_22 ?_
    refine lv_iconst (v := 1) hx hb dX12_undo_25 (by decide) ?_
    obtain ⟨mm_3, hc_4, hf⟩ := bi1S hf
    refine wd_cv X hP hS L1088 ml_X12_483 ⟨_, _, rfl⟩ (c_X12_movesAll l D dA zz bs mm_2 (mm_2.1 1088 55) (1 : Int32) mm_3 hc_4) rfl ⟨Nat.le_of_ble_eq_true rfl, Nat.le_of_ble_eq_true rfl⟩ hl.1 rfl (rest := []) (Nat.le_of_ble_eq_true rfl) ⟨Nat.zero_le _, Nat.zero_le _⟩ dX12_undo_26 (fun H locs hP hS => ?_)
    refine W.eq (g2 := F0 m 29 ls []) rfl ?_
    refine lv_aload_n hx hb dX12_undo_29 rfl (lv_at hl 0 rfl) ?_
    refine wd_getI X hP L1088 fl_X12_359 rfl dX12_undo_30 ?_
    obtain ⟨rfl, rfl⟩ := Prod.mk.inj (Option.some.inj hf)
    exact wd_iret X hP hS hr0 dX12_undo_33 ⟨rfl, rfl⟩
  · have hf := itT hf c_1
    refine lv_bipush (v := -2) hx hb dX12_undo_7 (by decide) ?_
    obtain ⟨rfl, rfl⟩ := Prod.mk.inj (Option.some.inj hf)
    exact wd_iret X hP hS hr0 dX12_undo_9 ⟨rfl, rfl⟩

noncomputable def f_X12_mile (mm : Mm) : Option (Int32 × Mm) :=
  if (f_X12_isRiver mm) = 0 then
    some ((-1 : Int32), mm)
  else
    if (f_X12_milesLeft mm) = 0 then
      some ((-1 : Int32), mm)
    else
      bi1 (f_X12_keepsAct mm) fun mm_3 => bi2 (f_X12_goesMile mm_3) fun r_7 mm_5 => some (r_7, mm_5)
set_option maxHeartbeats 4000000 in
set_option maxRecDepth 100000 in
theorem c_X12_mile (l : Launch) (D : va_G) (dA : Nat → ClassId) (zz : (Nat → Nat) × (Nat → Nat)) (bs : Nat) (mm : Mm) (out : Int32) (m1 : Mm) (hf : f_X12_mile mm = some (out, m1)) : Mw l D dA zz bs LY yX12_mile cX12_mile 1 (some .int) 8 195 [.ref (bs + 1088)] mm (some (.int out)) m1 := by
  refine Mw.of (own := RX12) (by decide) rfl (Nat.le_of_ble_eq_true rfl) ?_
  intro p e s m args below meth c X hr0 hP hS ls hl
  have hx := X.1
  have hb := X.2.1
  obtain ⟨H, hH⟩ : ∃ z : Heap, z = s.heap := ⟨_, rfl⟩
  obtain ⟨locs, hL⟩ : ∃ z : List Loc, z = [] := ⟨_, rfl⟩
  rw [← hH, ← hL]
  have hS : va_S (Aq bs) s.heap H locs := by rw [hH, hL]; exact hS
  have hP : Wd D dA bs LY mm H := by rw [hH]; exact hP
  have hl : lv_has ls 1 [(0, .ref (bs + 1088))] := hl
  unfold f_X12_mile at hf
  refine lv_aload_n hx hb dX12_mile_0 rfl (lv_at hl 0 rfl) ?_
  refine wd_cv X hP hS L1088 ml_X12_430 ⟨_, _, rfl⟩ (c_X12_isRiver l D dA zz bs mm (f_X12_isRiver mm) rfl) rfl ⟨Nat.le_of_ble_eq_true rfl, Nat.le_of_ble_eq_true rfl⟩ hl.1 rfl (rest := []) (Nat.le_of_ble_eq_true rfl) ⟨Nat.zero_le _, Nat.zero_le _⟩ dX12_mile_1 (fun H locs hP hS => ?_)
  refine W.eq (g2 := F0 m 4 ls [.int (f_X12_isRiver mm)]) rfl ?_
  refine lv_if_eq (tgt := 14) hx hb dX12_mile_4 (by decide) (fun c_1 => ?_) (fun c_1 => ?_)
  · have hf := itT hf c_1
    refine lv_iconst (v := -1) hx hb dX12_mile_14 (by decide) ?_
    obtain ⟨rfl, rfl⟩ := Prod.mk.inj (Option.some.inj hf)
    exact wd_iret X hP hS hr0 dX12_mile_15 ⟨rfl, rfl⟩
  · have hf := itF hf c_1
    refine lv_aload_n hx hb dX12_mile_7 rfl (lv_at hl 0 rfl) ?_
    refine wd_cv X hP hS L1088 ml_X12_487 ⟨_, _, rfl⟩ (c_X12_milesLeft l D dA zz bs mm (f_X12_milesLeft mm) rfl) rfl ⟨Nat.le_of_ble_eq_true rfl, Nat.le_of_ble_eq_true rfl⟩ hl.1 rfl (rest := []) (Nat.le_of_ble_eq_true rfl) ⟨Nat.zero_le _, Nat.zero_le _⟩ dX12_mile_8 (fun H locs hP hS => ?_)
    refine W.eq (g2 := F0 m 11 ls [.int (f_X12_milesLeft mm)]) rfl ?_
    refine lv_if_ne (tgt := 16) hx hb dX12_mile_11 (by decide) (fun c_2 => ?_) (fun c_2 => ?_)
    · have hf := itF hf c_2
      refine lv_aload_n hx hb dX12_mile_16 rfl (lv_at hl 0 rfl) ?_
      obtain ⟨mm_3, hc_4, hf⟩ := bi1S hf
      refine wd_cv X hP hS L1088 ml_X12_490 ⟨_, _, rfl⟩ (c_X12_keepsAct l D dA zz bs mm mm_3 hc_4) rfl ⟨Nat.le_of_ble_eq_true rfl, Nat.le_of_ble_eq_true rfl⟩ hl.1 rfl (rest := []) (Nat.le_of_ble_eq_true rfl) ⟨Nat.zero_le _, Nat.zero_le _⟩ dX12_mile_17 (fun H locs hP hS => ?_)
      refine W.eq (g2 := F0 m 20 ls []) rfl ?_
      refine lv_aload_n hx hb dX12_mile_20 rfl (lv_at hl 0 rfl) ?_
      obtain ⟨r_7, mm_5, hc_6, hf⟩ := bi2S hf
      refine wd_cv X hP hS L1088 ml_X12_493 ⟨_, _, rfl⟩ (c_X12_goesMile l D dA zz bs mm_3 r_7 mm_5 hc_6) rfl ⟨Nat.le_of_ble_eq_true rfl, Nat.le_of_ble_eq_true rfl⟩ hl.1 rfl (rest := []) (Nat.le_of_ble_eq_true rfl) ⟨Nat.zero_le _, Nat.zero_le _⟩ dX12_mile_21 (fun H locs hP hS => ?_)
      refine W.eq (g2 := F0 m 24 ls [.int r_7]) rfl ?_
      obtain ⟨rfl, rfl⟩ := Prod.mk.inj (Option.some.inj hf)
      exact wd_iret X hP hS hr0 dX12_mile_24 ⟨rfl, rfl⟩
    · have hf := itT hf c_2
      refine lv_iconst (v := -1) hx hb dX12_mile_14 (by decide) ?_
      obtain ⟨rfl, rfl⟩ := Prod.mk.inj (Option.some.inj hf)
      exact wd_iret X hP hS hr0 dX12_mile_15 ⟨rfl, rfl⟩

noncomputable def f_X12_bind (mm : Mm) (x1 : Int32) (x2 : Int32) (x3 : Int32) : Option (Int32 × Mm) :=
  bi1 (f_X12_canBind mm x1 x2 x3) fun r_2 =>
    if r_2 = 0 then
      some ((-1 : Int32), mm)
    else
      bi1 (f_X12_keepsAct mm) fun mm_4 =>
        bi2 (f_X12_binds mm_4 x1 x2 x3) fun r_8 mm_6 => some (r_8, mm_6)
set_option maxHeartbeats 4000000 in
set_option maxRecDepth 100000 in
theorem c_X12_bind (l : Launch) (D : va_G) (dA : Nat → ClassId) (zz : (Nat → Nat) × (Nat → Nat)) (bs : Nat) (mm : Mm) (x1 : Int32) (x2 : Int32) (x3 : Int32) (out : Int32) (m1 : Mm) (hf : f_X12_bind mm x1 x2 x3 = some (out, m1)) : Mw l D dA zz bs LY yX12_bind cX12_bind 4 (some .int) 4 90 [.ref (bs + 1088), .int x1, .int x2, .int x3] mm (some (.int out)) m1 := by
  refine Mw.of (own := RX12) (by decide) rfl (Nat.le_of_ble_eq_true rfl) ?_
  intro p e s m args below meth c X hr0 hP hS ls hl
  have hx := X.1
  have hb := X.2.1
  obtain ⟨H, hH⟩ : ∃ z : Heap, z = s.heap := ⟨_, rfl⟩
  obtain ⟨locs, hL⟩ : ∃ z : List Loc, z = [] := ⟨_, rfl⟩
  rw [← hH, ← hL]
  have hS : va_S (Aq bs) s.heap H locs := by rw [hH, hL]; exact hS
  have hP : Wd D dA bs LY mm H := by rw [hH]; exact hP
  have hl : lv_has ls 4 [(0, .ref (bs + 1088)), (1, .int x1), (2, .int x2), (3, .int x3)] := hl
  unfold f_X12_bind at hf
  refine lv_aload_n hx hb dX12_bind_0 rfl (lv_at hl 0 rfl) ?_
  refine lv_iload_n hx hb dX12_bind_1 rfl (lv_at hl 1 rfl) ?_
  refine lv_iload_n hx hb dX12_bind_2 rfl (lv_at hl 2 rfl) ?_
  refine lv_iload_n hx hb dX12_bind_3 rfl (lv_at hl 3 rfl) ?_
  obtain ⟨r_2, hc_1, hf⟩ := bi1S hf
  refine wd_cv X hP hS L1088 ml_X12_496 ⟨_, _, rfl⟩ (c_X12_canBind l D dA zz bs mm x1 x2 x3 r_2 hc_1) rfl ⟨Nat.le_of_ble_eq_true rfl, Nat.le_of_ble_eq_true rfl⟩ hl.1 rfl (rest := []) (Nat.le_of_ble_eq_true rfl) ⟨Nat.zero_le _, Nat.zero_le _⟩ dX12_bind_4 (fun H locs hP hS => ?_)
  refine W.eq (g2 := F0 m 7 ls [.int r_2]) rfl ?_
  refine lv_if_ne (tgt := 12) hx hb dX12_bind_7 (by decide) (fun c_3 => ?_) (fun c_3 => ?_)
  · have hf := itF hf c_3
    refine lv_aload_n hx hb dX12_bind_12 rfl (lv_at hl 0 rfl) ?_
    obtain ⟨mm_4, hc_5, hf⟩ := bi1S hf
    refine wd_cv X hP hS L1088 ml_X12_490 ⟨_, _, rfl⟩ (c_X12_keepsAct l D dA zz bs mm mm_4 hc_5) rfl ⟨Nat.le_of_ble_eq_true rfl, Nat.le_of_ble_eq_true rfl⟩ hl.1 rfl (rest := []) (Nat.le_of_ble_eq_true rfl) ⟨Nat.zero_le _, Nat.zero_le _⟩ dX12_bind_13 (fun H locs hP hS => ?_)
    refine W.eq (g2 := F0 m 16 ls []) rfl ?_
    refine lv_aload_n hx hb dX12_bind_16 rfl (lv_at hl 0 rfl) ?_
    refine lv_iload_n hx hb dX12_bind_17 rfl (lv_at hl 1 rfl) ?_
    refine lv_iload_n hx hb dX12_bind_18 rfl (lv_at hl 2 rfl) ?_
    refine lv_iload_n hx hb dX12_bind_19 rfl (lv_at hl 3 rfl) ?_
    obtain ⟨r_8, mm_6, hc_7, hf⟩ := bi2S hf
    refine wd_cv X hP hS L1088 ml_X12_500 ⟨_, _, rfl⟩ (c_X12_binds l D dA zz bs mm_4 x1 x2 x3 r_8 mm_6 hc_7) rfl ⟨Nat.le_of_ble_eq_true rfl, Nat.le_of_ble_eq_true rfl⟩ hl.1 rfl (rest := []) (Nat.le_of_ble_eq_true rfl) ⟨Nat.zero_le _, Nat.zero_le _⟩ dX12_bind_20 (fun H locs hP hS => ?_)
    refine W.eq (g2 := F0 m 23 ls [.int r_8]) rfl ?_
    obtain ⟨rfl, rfl⟩ := Prod.mk.inj (Option.some.inj hf)
    exact wd_iret X hP hS hr0 dX12_bind_23 ⟨rfl, rfl⟩
  · have hf := itT hf c_3
    refine lv_iconst (v := -1) hx hb dX12_bind_10 (by decide) ?_
    obtain ⟨rfl, rfl⟩ := Prod.mk.inj (Option.some.inj hf)
    exact wd_iret X hP hS hr0 dX12_bind_11 ⟨rfl, rfl⟩

noncomputable def f_X12_cut (mm : Mm) (x1 : Int32) : Option (Int32 × Mm) :=
  bi1 (f_X12_isRope mm x1) fun r_2 =>
    if r_2 = 0 then
      some ((-1 : Int32), mm)
    else
      bi1 (f_X12_keepsAct mm) fun mm_4 =>
        if x1 < 0 ∨ 12 ≤ x1.toNatClampNeg then none else
          vlet (wI mm_4 1089 1 ((mm_4.1 1089 1) + (mm_4.1 1101 x1.toNatClampNeg))) fun mm_7 =>
            bi1 (f_X12_ropeGoes mm_7 x1) fun mm_8 => some ((mm_8.1 1089 1), mm_8)
set_option maxHeartbeats 4000000 in
set_option maxRecDepth 100000 in
theorem c_X12_cut (l : Launch) (D : va_G) (dA : Nat → ClassId) (zz : (Nat → Nat) × (Nat → Nat)) (bs : Nat) (mm : Mm) (x1 : Int32) (out : Int32) (m1 : Mm) (hf : f_X12_cut mm x1 = some (out, m1)) : Mw l D dA zz bs LY yX12_cut cX12_cut 2 (some .int) 4 87 [.ref (bs + 1088), .int x1] mm (some (.int out)) m1 := by
  refine Mw.of (own := RX12) (by decide) rfl (Nat.le_of_ble_eq_true rfl) ?_
  intro p e s m args below meth c X hr0 hP hS ls hl
  have hx := X.1
  have hb := X.2.1
  obtain ⟨H, hH⟩ : ∃ z : Heap, z = s.heap := ⟨_, rfl⟩
  obtain ⟨locs, hL⟩ : ∃ z : List Loc, z = [] := ⟨_, rfl⟩
  rw [← hH, ← hL]
  have hS : va_S (Aq bs) s.heap H locs := by rw [hH, hL]; exact hS
  have hP : Wd D dA bs LY mm H := by rw [hH]; exact hP
  have hl : lv_has ls 2 [(0, .ref (bs + 1088)), (1, .int x1)] := hl
  unfold f_X12_cut at hf
  refine lv_aload_n hx hb dX12_cut_0 rfl (lv_at hl 0 rfl) ?_
  refine lv_iload_n hx hb dX12_cut_1 rfl (lv_at hl 1 rfl) ?_
  obtain ⟨r_2, hc_1, hf⟩ := bi1S hf
  refine wd_cv X hP hS L1088 ml_X12_427 ⟨_, _, rfl⟩ (c_X12_isRope l D dA zz bs mm x1 r_2 hc_1) rfl ⟨Nat.le_of_ble_eq_true rfl, Nat.le_of_ble_eq_true rfl⟩ hl.1 rfl (rest := []) (Nat.le_of_ble_eq_true rfl) ⟨Nat.zero_le _, Nat.zero_le _⟩ dX12_cut_2 (fun H locs hP hS => ?_)
  refine W.eq (g2 := F0 m 5 ls [.int r_2]) rfl ?_
  refine lv_if_ne (tgt := 10) hx hb dX12_cut_5 (by decide) (fun c_3 => ?_) (fun c_3 => ?_)
  · have hf := itF hf c_3
    refine lv_aload_n hx hb dX12_cut_10 rfl (lv_at hl 0 rfl) ?_
    obtain ⟨mm_4, hc_5, hf⟩ := bi1S hf
    refine wd_cv X hP hS L1088 ml_X12_490 ⟨_, _, rfl⟩ (c_X12_keepsAct l D dA zz bs mm mm_4 hc_5) rfl ⟨Nat.le_of_ble_eq_true rfl, Nat.le_of_ble_eq_true rfl⟩ hl.1 rfl (rest := []) (Nat.le_of_ble_eq_true rfl) ⟨Nat.zero_le _, Nat.zero_le _⟩ dX12_cut_11 (fun H locs hP hS => ?_)
    refine W.eq (g2 := F0 m 14 ls []) rfl ?_
    refine lv_aload_n hx hb dX12_cut_14 rfl (lv_at hl 0 rfl) ?_
    refine wd_getR (q := 1089) X hP L1088 fl_X12_9 rfl dX12_cut_15 ?_
    refine lv_iconst (v := 1) hx hb dX12_cut_18 (by decide) ?_
    refine lv_dup2_11 hx hb dX12_cut_19 rfl rfl ?_
    refine wd_ialdK (k := 1) X hP L1089 (by decide) (by decide) dX12_cut_20 ?_
    refine lv_aload_n hx hb dX12_cut_21 rfl (lv_at hl 0 rfl) ?_
    refine wd_getR (q := 1101) X hP L1088 fl_X12_46 rfl dX12_cut_22 ?_
    refine lv_iload_n hx hb dX12_cut_25 rfl (lv_at hl 1 rfl) ?_
    have g_6 := gdN hf
    have hf := gdK hf
    refine wd_iald X hP L1101 g_6 dX12_cut_26 ?_
    refine lv_iadd hx hb dX12_cut_27 ?_
    refine wd_iastK (k := 1) X hP hS L1089 (by decide) (by decide) dX12_cut_28 (fun H locs mm_7 emm_7 hP hS => ?_)
    have hf := vl hf emm_7
    refine lv_aload_n hx hb dX12_cut_29 rfl (lv_at hl 0 rfl) ?_
    refine lv_iload_n hx hb dX12_cut_30 rfl (lv_at hl 1 rfl) ?_
    obtain ⟨mm_8, hc_9, hf⟩ := bi1S hf
    refine wd_cv X hP hS L1088 ml_X12_439 ⟨_, _, rfl⟩ (c_X12_ropeGoes l D dA zz bs mm_7 x1 mm_8 hc_9) rfl ⟨Nat.le_of_ble_eq_true rfl, Nat.le_of_ble_eq_true rfl⟩ hl.1 rfl (rest := []) (Nat.le_of_ble_eq_true rfl) ⟨Nat.zero_le _, Nat.zero_le _⟩ dX12_cut_31 (fun H locs hP hS => ?_)
    refine W.eq (g2 := F0 m 34 ls []) rfl ?_
    refine lv_aload_n hx hb dX12_cut_34 rfl (lv_at hl 0 rfl) ?_
    refine wd_getR (q := 1089) X hP L1088 fl_X12_9 rfl dX12_cut_35 ?_
    refine lv_iconst (v := 1) hx hb dX12_cut_38 (by decide) ?_
    refine wd_ialdK (k := 1) X hP L1089 (by decide) (by decide) dX12_cut_39 ?_
    obtain ⟨rfl, rfl⟩ := Prod.mk.inj (Option.some.inj hf)
    exact wd_iret X hP hS hr0 dX12_cut_40 ⟨rfl, rfl⟩
  · have hf := itT hf c_3
    refine lv_iconst (v := -1) hx hb dX12_cut_8 (by decide) ?_
    obtain ⟨rfl, rfl⟩ := Prod.mk.inj (Option.some.inj hf)
    exact wd_iret X hP hS hr0 dX12_cut_9 ⟨rfl, rfl⟩

noncomputable def f_X12_saw (mm : Mm) (x1 : Int32) : Option (Int32 × Mm) :=
  bi1 (f_X12_isAfloat mm x1) fun r_2 =>
    if r_2 = 0 then
      some ((-1 : Int32), mm)
    else
      bi1 (f_X12_keepsAct mm) fun mm_4 =>
        bi2 (f_X12_ropesGoOf mm_4 ((1 : Int32) <<< (x1 &&& 31)) (0 : Int32)) fun r_8 mm_6 => some (r_8, mm_6)
set_option maxHeartbeats 4000000 in
set_option maxRecDepth 100000 in
theorem c_X12_saw (l : Launch) (D : va_G) (dA : Nat → ClassId) (zz : (Nat → Nat) × (Nat → Nat)) (bs : Nat) (mm : Mm) (x1 : Int32) (out : Int32) (m1 : Mm) (hf : f_X12_saw mm x1 = some (out, m1)) : Mw l D dA zz bs LY yX12_saw cX12_saw 2 (some .int) 4 87 [.ref (bs + 1088), .int x1] mm (some (.int out)) m1 := by
  refine Mw.of (own := RX12) (by decide) rfl (Nat.le_of_ble_eq_true rfl) ?_
  intro p e s m args below meth c X hr0 hP hS ls hl
  have hx := X.1
  have hb := X.2.1
  obtain ⟨H, hH⟩ : ∃ z : Heap, z = s.heap := ⟨_, rfl⟩
  obtain ⟨locs, hL⟩ : ∃ z : List Loc, z = [] := ⟨_, rfl⟩
  rw [← hH, ← hL]
  have hS : va_S (Aq bs) s.heap H locs := by rw [hH, hL]; exact hS
  have hP : Wd D dA bs LY mm H := by rw [hH]; exact hP
  have hl : lv_has ls 2 [(0, .ref (bs + 1088)), (1, .int x1)] := hl
  unfold f_X12_saw at hf
  refine lv_aload_n hx hb dX12_saw_0 rfl (lv_at hl 0 rfl) ?_
  refine lv_iload_n hx hb dX12_saw_1 rfl (lv_at hl 1 rfl) ?_
  obtain ⟨r_2, hc_1, hf⟩ := bi1S hf
  refine wd_cv X hP hS L1088 ml_X12_436 ⟨_, _, rfl⟩ (c_X12_isAfloat l D dA zz bs mm x1 r_2 hc_1) rfl ⟨Nat.le_of_ble_eq_true rfl, Nat.le_of_ble_eq_true rfl⟩ hl.1 rfl (rest := []) (Nat.le_of_ble_eq_true rfl) ⟨Nat.zero_le _, Nat.zero_le _⟩ dX12_saw_2 (fun H locs hP hS => ?_)
  refine W.eq (g2 := F0 m 5 ls [.int r_2]) rfl ?_
  refine lv_if_ne (tgt := 10) hx hb dX12_saw_5 (by decide) (fun c_3 => ?_) (fun c_3 => ?_)
  · have hf := itF hf c_3
    refine lv_aload_n hx hb dX12_saw_10 rfl (lv_at hl 0 rfl) ?_
    obtain ⟨mm_4, hc_5, hf⟩ := bi1S hf
    refine wd_cv X hP hS L1088 ml_X12_490 ⟨_, _, rfl⟩ (c_X12_keepsAct l D dA zz bs mm mm_4 hc_5) rfl ⟨Nat.le_of_ble_eq_true rfl, Nat.le_of_ble_eq_true rfl⟩ hl.1 rfl (rest := []) (Nat.le_of_ble_eq_true rfl) ⟨Nat.zero_le _, Nat.zero_le _⟩ dX12_saw_11 (fun H locs hP hS => ?_)
    refine W.eq (g2 := F0 m 14 ls []) rfl ?_
    refine lv_aload_n hx hb dX12_saw_14 rfl (lv_at hl 0 rfl) ?_
    refine lv_iconst (v := 1) hx hb dX12_saw_15 (by decide) ?_
    refine lv_iload_n hx hb dX12_saw_16 rfl (lv_at hl 1 rfl) ?_
    refine lv_ishl hx hb dX12_saw_17 ?_
    refine lv_iconst (v := 0) hx hb dX12_saw_18 (by decide) ?_
    obtain ⟨r_8, mm_6, hc_7, hf⟩ := bi2S hf
    refine wd_cv X hP hS L1088 ml_X12_456 ⟨_, _, rfl⟩ (c_X12_ropesGoOf l D dA zz bs mm_4 ((1 : Int32) <<< (x1 &&& 31)) (0 : Int32) r_8 mm_6 hc_7) rfl ⟨Nat.le_of_ble_eq_true rfl, Nat.le_of_ble_eq_true rfl⟩ hl.1 rfl (rest := []) (Nat.le_of_ble_eq_true rfl) ⟨Nat.zero_le _, Nat.zero_le _⟩ dX12_saw_19 (fun H locs hP hS => ?_)
    refine W.eq (g2 := F0 m 22 ls [.int r_8]) rfl ?_
    obtain ⟨rfl, rfl⟩ := Prod.mk.inj (Option.some.inj hf)
    exact wd_iret X hP hS hr0 dX12_saw_22 ⟨rfl, rfl⟩
  · have hf := itT hf c_3
    refine lv_iconst (v := -1) hx hb dX12_saw_8 (by decide) ?_
    obtain ⟨rfl, rfl⟩ := Prod.mk.inj (Option.some.inj hf)
    exact wd_iret X hP hS hr0 dX12_saw_9 ⟨rfl, rfl⟩

noncomputable def f_X12_push (mm : Mm) (x1 : Int32) (x2 : Int32) : Option (Int32 × Mm) :=
  bi1 (f_X12_isAfloat mm x1) fun r_2 =>
    if r_2 = 0 then
      some ((-1 : Int32), mm)
    else
      bi1 (f_X12_isOwner mm x2) fun r_5 =>
        if r_5 = 0 then
          some ((-1 : Int32), mm)
        else
          if x1 < 0 ∨ 8 ≤ x1.toNatClampNeg then none else
            if (mm.1 1093 x1.toNatClampNeg) = x2 then
              some ((-1 : Int32), mm)
            else
              bi1 (f_X12_keepsAct mm) fun mm_9 =>
                if x1 < 0 ∨ 8 ≤ x1.toNatClampNeg then none else
                  vlet (mm_9.1 1093 x1.toNatClampNeg) fun (x3_12 : Int32) =>
                    if x1 < 0 ∨ 8 ≤ x1.toNatClampNeg then none else
                      vlet (wI mm_9 1093 x1.toNatClampNeg x2) fun mm_13 => some (x3_12, mm_13)
set_option maxHeartbeats 4000000 in
set_option maxRecDepth 100000 in
theorem c_X12_push (l : Launch) (D : va_G) (dA : Nat → ClassId) (zz : (Nat → Nat) × (Nat → Nat)) (bs : Nat) (mm : Mm) (x1 : Int32) (x2 : Int32) (out : Int32) (m1 : Mm) (hf : f_X12_push mm x1 x2 = some (out, m1)) : Mw l D dA zz bs LY yX12_push cX12_push 4 (some .int) 4 87 [.ref (bs + 1088), .int x1, .int x2] mm (some (.int out)) m1 := by
  refine Mw.of (own := RX12) (by decide) rfl (Nat.le_of_ble_eq_true rfl) ?_
  intro p e s m args below meth c X hr0 hP hS ls hl
  have hx := X.1
  have hb := X.2.1
  obtain ⟨H, hH⟩ : ∃ z : Heap, z = s.heap := ⟨_, rfl⟩
  obtain ⟨locs, hL⟩ : ∃ z : List Loc, z = [] := ⟨_, rfl⟩
  rw [← hH, ← hL]
  have hS : va_S (Aq bs) s.heap H locs := by rw [hH, hL]; exact hS
  have hP : Wd D dA bs LY mm H := by rw [hH]; exact hP
  have hl : lv_has ls 4 [(0, .ref (bs + 1088)), (1, .int x1), (2, .int x2)] := hl
  unfold f_X12_push at hf
  refine lv_aload_n hx hb dX12_push_0 rfl (lv_at hl 0 rfl) ?_
  refine lv_iload_n hx hb dX12_push_1 rfl (lv_at hl 1 rfl) ?_
  obtain ⟨r_2, hc_1, hf⟩ := bi1S hf
  refine wd_cv X hP hS L1088 ml_X12_436 ⟨_, _, rfl⟩ (c_X12_isAfloat l D dA zz bs mm x1 r_2 hc_1) rfl ⟨Nat.le_of_ble_eq_true rfl, Nat.le_of_ble_eq_true rfl⟩ hl.1 rfl (rest := []) (Nat.le_of_ble_eq_true rfl) ⟨Nat.zero_le _, Nat.zero_le _⟩ dX12_push_2 (fun H locs hP hS => ?_)
  refine W.eq (g2 := F0 m 5 ls [.int r_2]) rfl ?_
  refine lv_if_eq (tgt := 26) hx hb dX12_push_5 (by decide) (fun c_3 => ?_) (fun c_3 => ?_)
  · have hf := itT hf c_3
    refine lv_iconst (v := -1) hx hb dX12_push_26 (by decide) ?_
    obtain ⟨rfl, rfl⟩ := Prod.mk.inj (Option.some.inj hf)
    exact wd_iret X hP hS hr0 dX12_push_27 ⟨rfl, rfl⟩
  · have hf := itF hf c_3
    refine lv_aload_n hx hb dX12_push_8 rfl (lv_at hl 0 rfl) ?_
    refine lv_iload_n hx hb dX12_push_9 rfl (lv_at hl 2 rfl) ?_
    obtain ⟨r_5, hc_4, hf⟩ := bi1S hf
    refine wd_cv X hP hS L1088 ml_X12_418 ⟨_, _, rfl⟩ (c_X12_isOwner l D dA zz bs mm x2 r_5 hc_4) rfl ⟨Nat.le_of_ble_eq_true rfl, Nat.le_of_ble_eq_true rfl⟩ hl.1 rfl (rest := []) (Nat.le_of_ble_eq_true rfl) ⟨Nat.zero_le _, Nat.zero_le _⟩ dX12_push_10 (fun H locs hP hS => ?_)
    refine W.eq (g2 := F0 m 13 ls [.int r_5]) rfl ?_
    refine lv_if_eq (tgt := 26) hx hb dX12_push_13 (by decide) (fun c_6 => ?_) (fun c_6 => ?_)
    · have hf := itT hf c_6
      refine lv_iconst (v := -1) hx hb dX12_push_26 (by decide) ?_
      obtain ⟨rfl, rfl⟩ := Prod.mk.inj (Option.some.inj hf)
      exact wd_iret X hP hS hr0 dX12_push_27 ⟨rfl, rfl⟩
    · have hf := itF hf c_6
      refine lv_aload_n hx hb dX12_push_16 rfl (lv_at hl 0 rfl) ?_
      refine wd_getR (q := 1093) X hP L1088 fl_X12_22 rfl dX12_push_17 ?_
      refine lv_iload_n hx hb dX12_push_20 rfl (lv_at hl 1 rfl) ?_
      have g_7 := gdN hf
      have hf := gdK hf
      refine wd_iald X hP L1093 g_7 dX12_push_21 ?_
      refine lv_iload_n hx hb dX12_push_22 rfl (lv_at hl 2 rfl) ?_
      refine lv_icmp_ne (tgt := 28) hx hb dX12_push_23 (by decide) (fun c_8 => ?_) (fun c_8 => ?_)
      · have hf := itF hf c_8
        refine lv_aload_n hx hb dX12_push_28 rfl (lv_at hl 0 rfl) ?_
        obtain ⟨mm_9, hc_10, hf⟩ := bi1S hf
        refine wd_cv X hP hS L1088 ml_X12_490 ⟨_, _, rfl⟩ (c_X12_keepsAct l D dA zz bs mm mm_9 hc_10) rfl ⟨Nat.le_of_ble_eq_true rfl, Nat.le_of_ble_eq_true rfl⟩ hl.1 rfl (rest := []) (Nat.le_of_ble_eq_true rfl) ⟨Nat.zero_le _, Nat.zero_le _⟩ dX12_push_29 (fun H locs hP hS => ?_)
        refine W.eq (g2 := F0 m 32 ls []) rfl ?_
        refine lv_aload_n hx hb dX12_push_32 rfl (lv_at hl 0 rfl) ?_
        refine wd_getR (q := 1093) X hP L1088 fl_X12_22 rfl dX12_push_33 ?_
        refine lv_iload_n hx hb dX12_push_36 rfl (lv_at hl 1 rfl) ?_
        have g_11 := gdN hf
        have hf := gdK hf
        refine wd_iald X hP L1093 g_11 dX12_push_37 ?_
        refine lv_topi (fun x3_12 ex3_12 => ?_)
        have hf := vl hf ex3_12
        refine lv_istore_n (lv' := [(3, .int x3_12), (0, .ref (bs + 1088)), (1, .int x1), (2, .int x2)]) hx hb dX12_push_38 rfl hl (by decide) rfl (fun ls hl => ?_)
        refine lv_aload_n hx hb dX12_push_39 rfl (lv_at hl 1 rfl) ?_
        refine wd_getR (q := 1093) X hP L1088 fl_X12_22 rfl dX12_push_40 ?_
        refine lv_iload_n hx hb dX12_push_43 rfl (lv_at hl 2 rfl) ?_
        refine lv_iload_n hx hb dX12_push_44 rfl (lv_at hl 3 rfl) ?_
        have g_14 := gdN hf
        have hf := gdK hf
        refine wd_iast X hP hS L1093 g_14 dX12_push_45 (fun H locs mm_13 emm_13 hP hS => ?_)
        have hf := vl hf emm_13
        refine lv_iload_n hx hb dX12_push_46 rfl (lv_at hl 0 rfl) ?_
        obtain ⟨rfl, rfl⟩ := Prod.mk.inj (Option.some.inj hf)
        exact wd_iret X hP hS hr0 dX12_push_47 ⟨rfl, rfl⟩
      · have hf := itT hf c_8
        refine lv_iconst (v := -1) hx hb dX12_push_26 (by decide) ?_
        obtain ⟨rfl, rfl⟩ := Prod.mk.inj (Option.some.inj hf)
        exact wd_iret X hP hS hr0 dX12_push_27 ⟨rfl, rfl⟩

noncomputable def f_X12_asks_j296 (mm : Mm) (z0 : Int64) (z1 : Int32) : Option (Mm) :=
  if z1 < 0 ∨ 12 ≤ z1.toNatClampNeg then none else
    vlet (wL mm 1127 z1.toNatClampNeg z0) fun mm_1 =>
      bi1 (f_X12_afloat mm_1) fun r_4 =>
        bi1 (f_X12_bits mm_1 r_4) fun r_6 => vlet (wL mm_1 1127 11 (r_6.toInt64)) fun mm_7 => some mm_7
noncomputable def f_X12_asks_j199 (mm : Mm) (y1 : Int32) (y2 : Int32) (y3 : Int32) (z0 : Int64) (z1 : Int32) : Option (Mm) :=
  if z1 < 0 ∨ 12 ≤ z1.toNatClampNeg then none else
    vlet (wL mm 1127 z1.toNatClampNeg z0) fun mm_9 =>
      vlet (wL mm_9 1127 7 (y3.toInt64)) fun mm_11 =>
        vlet (wL mm_11 1127 8 ((mm_11.1 1089 1).toInt64)) fun mm_12 =>
          vlet (wL mm_12 1127 9 ((mm_12.1 1089 6).toInt64)) fun mm_13 =>
            if y1 < 0 ∨ 8 ≤ y1.toNatClampNeg then none else
              if (mm_13.1 1093 y1.toNatClampNeg) < 0 ∨ 6 ≤ (mm_13.1 1093 y1.toNatClampNeg).toNatClampNeg then none else
                if y2 < 0 ∨ 8 ≤ y2.toNatClampNeg then none else
                  if (mm_13.1 1093 y2.toNatClampNeg) < 0 ∨ 6 ≤ (mm_13.1 1093 y2.toNatClampNeg).toNatClampNeg then none else
                    if (mm_13.1 1090 (mm_13.1 1093 y2.toNatClampNeg).toNatClampNeg) ≤ (mm_13.1 1090 (mm_13.1 1093 y1.toNatClampNeg).toNatClampNeg) then
                      if y2 < 0 ∨ 8 ≤ y2.toNatClampNeg then none else
                        if (mm_13.1 1093 y2.toNatClampNeg) < 0 ∨ 6 ≤ (mm_13.1 1093 y2.toNatClampNeg).toNatClampNeg then none else
                          f_X12_asks_j296 mm_13 ((mm_13.1 1090 (mm_13.1 1093 y2.toNatClampNeg).toNatClampNeg).toInt64) (10 : Int32)
                    else
                      if y1 < 0 ∨ 8 ≤ y1.toNatClampNeg then none else
                        if (mm_13.1 1093 y1.toNatClampNeg) < 0 ∨ 6 ≤ (mm_13.1 1093 y1.toNatClampNeg).toNatClampNeg then none else
                          f_X12_asks_j296 mm_13 ((mm_13.1 1090 (mm_13.1 1093 y1.toNatClampNeg).toNatClampNeg).toInt64) (10 : Int32)
noncomputable def f_X12_asks_j175 (mm : Mm) (y1 : Int32) (y2 : Int32) (y3 : Int32) (z0 : Int64) (z1 : Int32) : Option (Mm) :=
  if z1 < 0 ∨ 12 ≤ z1.toNatClampNeg then none else
    vlet (wL mm 1127 z1.toNatClampNeg z0) fun mm_24 =>
      bi1 (f_X12_pieceOf mm_24 y1) fun r_27 =>
        if (f_X12_has r_27 y2) = 0 then
          f_X12_asks_j199 mm_24 y1 y2 y3 (1 : Int64) (6 : Int32)
        else
          f_X12_asks_j199 mm_24 y1 y2 y3 (0 : Int64) (6 : Int32)
noncomputable def f_X12_asks_j66 (mm : Mm) (y1 : Int32) (y2 : Int32) (y4 : Int32) (z0 : Int32) (z1 : Int32) : Option ((Int32 × Int32) ⊕ (Int32)) :=
  some (.inl ((z1 + z0), (y4 + 1)))
noncomputable def f_X12_asks_j61 (mm : Mm) (y1 : Int32) (y2 : Int32) (y4 : Int32) (z0 : Int32) : Option ((Int32 × Int32) ⊕ (Int32)) :=
  f_X12_asks_j66 mm y1 y2 y4 (1 : Int32) z0
noncomputable def f_X12_asks_s5 (mm : Mm) (y1 : Int32) (y2 : Int32) : (Int32 × Int32) → Option ((Int32 × Int32) ⊕ (Int32)) :=
  fun q => match q with
  | (y3, y4) =>
    if (mm.1 1089 4) ≤ y4 then
      some (.inr y3)
    else
      if y4 < 0 ∨ 12 ≤ y4.toNatClampNeg then none else
        if (mm.1 1099 y4.toNatClampNeg) = y1 then
          f_X12_asks_j61 mm y1 y2 y4 y3
        else
          if y4 < 0 ∨ 12 ≤ y4.toNatClampNeg then none else
            if (mm.1 1100 y4.toNatClampNeg) = y1 then
              f_X12_asks_j61 mm y1 y2 y4 y3
            else
              if y4 < 0 ∨ 12 ≤ y4.toNatClampNeg then none else
                if (mm.1 1099 y4.toNatClampNeg) = y2 then
                  f_X12_asks_j61 mm y1 y2 y4 y3
                else
                  if y4 < 0 ∨ 12 ≤ y4.toNatClampNeg then none else
                    if (mm.1 1100 y4.toNatClampNeg) = y2 then
                      f_X12_asks_j61 mm y1 y2 y4 y3
                    else
                      f_X12_asks_j66 mm y1 y2 y4 (0 : Int32) y3
noncomputable def f_X12_asks (mm : Mm) (x1 : Int32) (x2 : Int32) : Option (Mm) :=
  bi1 (lp (f_X12_asks_s5 mm x1 x2) ((0 : Int32), (0 : Int32))) fun w3_42 =>
    vlet (wL mm 1127 0 (x1.toInt64)) fun mm_43 =>
      vlet (wL mm_43 1127 1 (x2.toInt64)) fun mm_44 =>
        if x1 < 0 ∨ 8 ≤ x1.toNatClampNeg then none else
          if x2 < 0 ∨ 8 ≤ x2.toNatClampNeg then none else
            vlet (wL mm_44 1127 2 (((mm_44.1 1095 x1.toNatClampNeg) + (mm_44.1 1095 x2.toNatClampNeg)).toInt64)) fun mm_47 =>
              if x1 < 0 ∨ 8 ≤ x1.toNatClampNeg then none else
                if x2 < 0 ∨ 8 ≤ x2.toNatClampNeg then none else
                  vlet (wL mm_47 1127 3 (((mm_47.1 1094 x1.toNatClampNeg) + (mm_47.1 1094 x2.toNatClampNeg)).toInt64)) fun mm_50 =>
                    if x1 < 0 ∨ 8 ≤ x1.toNatClampNeg then none else
                      if x2 < 0 ∨ 8 ≤ x2.toNatClampNeg then none else
                        vlet (wL mm_50 1127 4 (((mm_50.1 1096 x1.toNatClampNeg) + (mm_50.1 1096 x2.toNatClampNeg)).toInt64)) fun mm_53 =>
                          if x1 < 0 ∨ 8 ≤ x1.toNatClampNeg then none else
                            if x2 < 0 ∨ 8 ≤ x2.toNatClampNeg then none else
                              if (mm_53.1 1093 x1.toNatClampNeg) = (mm_53.1 1093 x2.toNatClampNeg) then
                                f_X12_asks_j175 mm_53 x1 x2 w3_42 (1 : Int64) (5 : Int32)
                              else
                                f_X12_asks_j175 mm_53 x1 x2 w3_42 (0 : Int64) (5 : Int32)
set_option maxHeartbeats 4000000 in
set_option maxRecDepth 100000 in
theorem c_X12_asks (l : Launch) (D : va_G) (dA : Nat → ClassId) (zz : (Nat → Nat) × (Nat → Nat)) (bs : Nat) (mm : Mm) (x1 : Int32) (x2 : Int32) (m1 : Mm) (hf : f_X12_asks mm x1 x2 = some m1) : Mw l D dA zz bs LY yX12_asks cX12_asks 5 none 3 70 [.ref (bs + 1088), .int x1, .int x2] mm none m1 := by
  refine Mw.of (own := RX12) (by decide) rfl (Nat.le_of_ble_eq_true rfl) ?_
  intro p e s m args below meth c X hr0 hP hS ls hl
  have hx := X.1
  have hb := X.2.1
  obtain ⟨H, hH⟩ : ∃ z : Heap, z = s.heap := ⟨_, rfl⟩
  obtain ⟨locs, hL⟩ : ∃ z : List Loc, z = [] := ⟨_, rfl⟩
  rw [← hH, ← hL]
  have hS : va_S (Aq bs) s.heap H locs := by rw [hH, hL]; exact hS
  have hP : Wd D dA bs LY mm H := by rw [hH]; exact hP
  have hl : lv_has ls 5 [(0, .ref (bs + 1088)), (1, .int x1), (2, .int x2)] := hl
  have hJ296 : ∀ (mmJ_8 : Mm) (z0J_8 : Int64) (z1J_8 : Int32) (H : Heap) (locs : List Loc) (ls : Array Slot), f_X12_asks_j296 mmJ_8 z0J_8 z1J_8 = some m1 → Wd D dA bs LY mmJ_8 H → va_S (Aq bs) s.heap H locs → lv_has ls 5 [(0, .ref (bs + 1088))] → Wz p l e s m args below meth c D dA bs none m1 3 70 H locs 296 ls [.long z0J_8, .int z1J_8, .ref (bs + 1127)] := by
    intro mmJ_8 z0J_8 z1J_8 H locs ls hf hP hS hl
    unfold f_X12_asks_j296 at hf
    have g_2 := gdN hf
    have hf := gdK hf
    refine wd_last X hP hS L1127 g_2 dX12_asks_296 (fun H locs mm_1 emm_1 hP hS => ?_)
    have hf := vl hf emm_1
    refine lv_aload_n hx hb dX12_asks_297 rfl (lv_at hl 0 rfl) ?_
    refine wd_getR (q := 1127) X hP L1088 fl_X12_129 rfl dX12_asks_298 ?_
    refine lv_bipush (v := 11) hx hb dX12_asks_301 (by decide) ?_
    refine lv_aload_n hx hb dX12_asks_303 rfl (lv_at hl 0 rfl) ?_
    obtain ⟨r_4, hc_3, hf⟩ := bi1S hf
    refine wd_cv X hP hS L1088 ml_X12_393 ⟨_, _, rfl⟩ (c_X12_afloat l D dA zz bs mm_1 r_4 hc_3) rfl ⟨Nat.le_of_ble_eq_true rfl, Nat.le_of_ble_eq_true rfl⟩ hl.1 rfl (rest := [.int (11 : Int32), .ref (bs + 1127)]) (Nat.le_of_ble_eq_true rfl) ⟨Nat.zero_le _, Nat.zero_le _⟩ dX12_asks_304 (fun H locs hP hS => ?_)
    refine W.eq (g2 := F0 m 307 ls [.int r_4, .int (11 : Int32), .ref (bs + 1127)]) rfl ?_
    obtain ⟨r_6, hc_5, hf⟩ := bi1S hf
    refine wd_cs X hP hS ml_X12_460 (c_X12_bits l D dA zz bs mm_1 r_4 r_6 hc_5) rfl ⟨Nat.le_of_ble_eq_true rfl, Nat.le_of_ble_eq_true rfl⟩ hl.1 rfl (rest := [.int (11 : Int32), .ref (bs + 1127)]) (Nat.le_of_ble_eq_true rfl) ⟨Nat.zero_le _, Nat.zero_le _⟩ dX12_asks_307 (fun H locs hP hS => ?_)
    refine W.eq (g2 := F0 m 310 ls [.int r_6, .int (11 : Int32), .ref (bs + 1127)]) rfl ?_
    refine lv_i2l hx hb dX12_asks_310 rfl ?_
    refine wd_lastK (k := 11) X hP hS L1127 (by decide) (by decide) dX12_asks_311 (fun H locs mm_7 emm_7 hP hS => ?_)
    have hf := vl hf emm_7
    obtain rfl := Option.some.inj hf
    exact wd_vret X hP hS hr0 dX12_asks_312 ⟨rfl, rfl⟩
  have hJ199 : ∀ (mmJ_23 : Mm) (y1J_23 : Int32) (y2J_23 : Int32) (y3J_23 : Int32) (z0J_23 : Int64) (z1J_23 : Int32) (H : Heap) (locs : List Loc) (ls : Array Slot), f_X12_asks_j199 mmJ_23 y1J_23 y2J_23 y3J_23 z0J_23 z1J_23 = some m1 → Wd D dA bs LY mmJ_23 H → va_S (Aq bs) s.heap H locs → lv_has ls 5 [(0, .ref (bs + 1088)), (1, .int y1J_23), (2, .int y2J_23), (3, .int y3J_23)] → Wz p l e s m args below meth c D dA bs none m1 3 70 H locs 199 ls [.long z0J_23, .int z1J_23, .ref (bs + 1127)] := by
    intro mmJ_23 y1J_23 y2J_23 y3J_23 z0J_23 z1J_23 H locs ls hf hP hS hl
    unfold f_X12_asks_j199 at hf
    have g_10 := gdN hf
    have hf := gdK hf
    refine wd_last X hP hS L1127 g_10 dX12_asks_199 (fun H locs mm_9 emm_9 hP hS => ?_)
    have hf := vl hf emm_9
    refine lv_aload_n hx hb dX12_asks_200 rfl (lv_at hl 0 rfl) ?_
    refine wd_getR (q := 1127) X hP L1088 fl_X12_129 rfl dX12_asks_201 ?_
    refine lv_bipush (v := 7) hx hb dX12_asks_204 (by decide) ?_
    refine lv_iload_n hx hb dX12_asks_206 rfl (lv_at hl 3 rfl) ?_
    refine lv_i2l hx hb dX12_asks_207 rfl ?_
    refine wd_lastK (k := 7) X hP hS L1127 (by decide) (by decide) dX12_asks_208 (fun H locs mm_11 emm_11 hP hS => ?_)
    have hf := vl hf emm_11
    refine lv_aload_n hx hb dX12_asks_209 rfl (lv_at hl 0 rfl) ?_
    refine wd_getR (q := 1127) X hP L1088 fl_X12_129 rfl dX12_asks_210 ?_
    refine lv_bipush (v := 8) hx hb dX12_asks_213 (by decide) ?_
    refine lv_aload_n hx hb dX12_asks_215 rfl (lv_at hl 0 rfl) ?_
    refine wd_getR (q := 1089) X hP L1088 fl_X12_9 rfl dX12_asks_216 ?_
    refine lv_iconst (v := 1) hx hb dX12_asks_219 (by decide) ?_
    refine wd_ialdK (k := 1) X hP L1089 (by decide) (by decide) dX12_asks_220 ?_
    refine lv_i2l hx hb dX12_asks_221 rfl ?_
    refine wd_lastK (k := 8) X hP hS L1127 (by decide) (by decide) dX12_asks_222 (fun H locs mm_12 emm_12 hP hS => ?_)
    have hf := vl hf emm_12
    refine lv_aload_n hx hb dX12_asks_223 rfl (lv_at hl 0 rfl) ?_
    refine wd_getR (q := 1127) X hP L1088 fl_X12_129 rfl dX12_asks_224 ?_
    refine lv_bipush (v := 9) hx hb dX12_asks_227 (by decide) ?_
    refine lv_aload_n hx hb dX12_asks_229 rfl (lv_at hl 0 rfl) ?_
    refine wd_getR (q := 1089) X hP L1088 fl_X12_9 rfl dX12_asks_230 ?_
    refine lv_bipush (v := 6) hx hb dX12_asks_233 (by decide) ?_
    refine wd_ialdK (k := 6) X hP L1089 (by decide) (by decide) dX12_asks_235 ?_
    refine lv_i2l hx hb dX12_asks_236 rfl ?_
    refine wd_lastK (k := 9) X hP hS L1127 (by decide) (by decide) dX12_asks_237 (fun H locs mm_13 emm_13 hP hS => ?_)
    have hf := vl hf emm_13
    refine lv_aload_n hx hb dX12_asks_238 rfl (lv_at hl 0 rfl) ?_
    refine wd_getR (q := 1127) X hP L1088 fl_X12_129 rfl dX12_asks_239 ?_
    refine lv_bipush (v := 10) hx hb dX12_asks_242 (by decide) ?_
    refine lv_aload_n hx hb dX12_asks_244 rfl (lv_at hl 0 rfl) ?_
    refine wd_getR (q := 1090) X hP L1088 fl_X12_13 rfl dX12_asks_245 ?_
    refine lv_aload_n hx hb dX12_asks_248 rfl (lv_at hl 0 rfl) ?_
    refine wd_getR (q := 1093) X hP L1088 fl_X12_22 rfl dX12_asks_249 ?_
    refine lv_iload_n hx hb dX12_asks_252 rfl (lv_at hl 1 rfl) ?_
    have g_14 := gdN hf
    have hf := gdK hf
    refine wd_iald X hP L1093 g_14 dX12_asks_253 ?_
    have g_15 := gdN hf
    have hf := gdK hf
    refine wd_iald X hP L1090 g_15 dX12_asks_254 ?_
    refine lv_aload_n hx hb dX12_asks_255 rfl (lv_at hl 0 rfl) ?_
    refine wd_getR (q := 1090) X hP L1088 fl_X12_13 rfl dX12_asks_256 ?_
    refine lv_aload_n hx hb dX12_asks_259 rfl (lv_at hl 0 rfl) ?_
    refine wd_getR (q := 1093) X hP L1088 fl_X12_22 rfl dX12_asks_260 ?_
    refine lv_iload_n hx hb dX12_asks_263 rfl (lv_at hl 2 rfl) ?_
    have g_16 := gdN hf
    have hf := gdK hf
    refine wd_iald X hP L1093 g_16 dX12_asks_264 ?_
    have g_17 := gdN hf
    have hf := gdK hf
    refine wd_iald X hP L1090 g_17 dX12_asks_265 ?_
    refine lv_icmp_ge (tgt := 284) hx hb dX12_asks_266 (by decide) (fun c_18 => ?_) (fun c_18 => ?_)
    · have hf := itT hf c_18
      refine lv_aload_n hx hb dX12_asks_284 rfl (lv_at hl 0 rfl) ?_
      refine wd_getR (q := 1090) X hP L1088 fl_X12_13 rfl dX12_asks_285 ?_
      refine lv_aload_n hx hb dX12_asks_288 rfl (lv_at hl 0 rfl) ?_
      refine wd_getR (q := 1093) X hP L1088 fl_X12_22 rfl dX12_asks_289 ?_
      refine lv_iload_n hx hb dX12_asks_292 rfl (lv_at hl 2 rfl) ?_
      have g_19 := gdN hf
      have hf := gdK hf
      refine wd_iald X hP L1093 g_19 dX12_asks_293 ?_
      have g_20 := gdN hf
      have hf := gdK hf
      refine wd_iald X hP L1090 g_20 dX12_asks_294 ?_
      refine lv_i2l hx hb dX12_asks_295 rfl ?_
      exact hJ296 mm_13 ((mm_13.1 1090 (mm_13.1 1093 y2J_23.toNatClampNeg).toNatClampNeg).toInt64) (10 : Int32) H locs ls hf hP hS (lv_sub hl [0] rfl)
    · have hf := itF hf c_18
      refine lv_aload_n hx hb dX12_asks_269 rfl (lv_at hl 0 rfl) ?_
      refine wd_getR (q := 1090) X hP L1088 fl_X12_13 rfl dX12_asks_270 ?_
      refine lv_aload_n hx hb dX12_asks_273 rfl (lv_at hl 0 rfl) ?_
      refine wd_getR (q := 1093) X hP L1088 fl_X12_22 rfl dX12_asks_274 ?_
      refine lv_iload_n hx hb dX12_asks_277 rfl (lv_at hl 1 rfl) ?_
      have g_21 := gdN hf
      have hf := gdK hf
      refine wd_iald X hP L1093 g_21 dX12_asks_278 ?_
      have g_22 := gdN hf
      have hf := gdK hf
      refine wd_iald X hP L1090 g_22 dX12_asks_279 ?_
      refine lv_i2l hx hb dX12_asks_280 rfl ?_
      refine lv_goto (tgt := 296) hx hb dX12_asks_281 (by decide) ?_
      exact hJ296 mm_13 ((mm_13.1 1090 (mm_13.1 1093 y1J_23.toNatClampNeg).toNatClampNeg).toInt64) (10 : Int32) H locs ls hf hP hS (lv_sub hl [0] rfl)
  have hJ175 : ∀ (mmJ_29 : Mm) (y1J_29 : Int32) (y2J_29 : Int32) (y3J_29 : Int32) (z0J_29 : Int64) (z1J_29 : Int32) (H : Heap) (locs : List Loc) (ls : Array Slot), f_X12_asks_j175 mmJ_29 y1J_29 y2J_29 y3J_29 z0J_29 z1J_29 = some m1 → Wd D dA bs LY mmJ_29 H → va_S (Aq bs) s.heap H locs → lv_has ls 5 [(0, .ref (bs + 1088)), (1, .int y1J_29), (2, .int y2J_29), (3, .int y3J_29)] → Wz p l e s m args below meth c D dA bs none m1 3 70 H locs 175 ls [.long z0J_29, .int z1J_29, .ref (bs + 1127)] := by
    intro mmJ_29 y1J_29 y2J_29 y3J_29 z0J_29 z1J_29 H locs ls hf hP hS hl
    unfold f_X12_asks_j175 at hf
    have g_25 := gdN hf
    have hf := gdK hf
    refine wd_last X hP hS L1127 g_25 dX12_asks_175 (fun H locs mm_24 emm_24 hP hS => ?_)
    have hf := vl hf emm_24
    refine lv_aload_n hx hb dX12_asks_176 rfl (lv_at hl 0 rfl) ?_
    refine wd_getR (q := 1127) X hP L1088 fl_X12_129 rfl dX12_asks_177 ?_
    refine lv_bipush (v := 6) hx hb dX12_asks_180 (by decide) ?_
    refine lv_aload_n hx hb dX12_asks_182 rfl (lv_at hl 0 rfl) ?_
    refine lv_iload_n hx hb dX12_asks_183 rfl (lv_at hl 1 rfl) ?_
    obtain ⟨r_27, hc_26, hf⟩ := bi1S hf
    refine wd_cv X hP hS L1088 ml_X12_424 ⟨_, _, rfl⟩ (c_X12_pieceOf l D dA zz bs mm_24 y1J_29 r_27 hc_26) rfl ⟨Nat.le_of_ble_eq_true rfl, Nat.le_of_ble_eq_true rfl⟩ hl.1 rfl (rest := [.int (6 : Int32), .ref (bs + 1127)]) (Nat.le_of_ble_eq_true rfl) ⟨Nat.zero_le _, Nat.zero_le _⟩ dX12_asks_184 (fun H locs hP hS => ?_)
    refine W.eq (g2 := F0 m 187 ls [.int r_27, .int (6 : Int32), .ref (bs + 1127)]) rfl ?_
    refine lv_iload_n hx hb dX12_asks_187 rfl (lv_at hl 2 rfl) ?_
    refine wd_cs X hP hS ml_X12_390 (c_X12_has l D dA zz bs mm_24 r_27 y2J_29 (f_X12_has r_27 y2J_29) rfl) rfl ⟨Nat.le_of_ble_eq_true rfl, Nat.le_of_ble_eq_true rfl⟩ hl.1 rfl (rest := [.int (6 : Int32), .ref (bs + 1127)]) (Nat.le_of_ble_eq_true rfl) ⟨Nat.zero_le _, Nat.zero_le _⟩ dX12_asks_188 (fun H locs hP hS => ?_)
    refine W.eq (g2 := F0 m 191 ls [.int (f_X12_has r_27 y2J_29), .int (6 : Int32), .ref (bs + 1127)]) rfl ?_
    refine lv_if_eq (tgt := 198) hx hb dX12_asks_191 (by decide) (fun c_28 => ?_) (fun c_28 => ?_)
    · have hf := itT hf c_28
      refine lv_lconst (v := 1) hx hb dX12_asks_198 (by decide) ?_
      exact hJ199 mm_24 y1J_29 y2J_29 y3J_29 (1 : Int64) (6 : Int32) H locs ls hf hP hS (lv_sub hl [0, 1, 2, 3] rfl)
    · have hf := itF hf c_28
      refine lv_lconst (v := 0) hx hb dX12_asks_194 (by decide) ?_
      refine lv_goto (tgt := 199) hx hb dX12_asks_195 (by decide) ?_
      exact hJ199 mm_24 y1J_29 y2J_29 y3J_29 (0 : Int64) (6 : Int32) H locs ls hf hP hS (lv_sub hl [0, 1, 2, 3] rfl)
  unfold f_X12_asks at hf
  refine lv_iconst (v := 0) hx hb dX12_asks_0 (by decide) ?_
  refine lv_istore_n (lv' := [(3, .int (0 : Int32)), (0, .ref (bs + 1088)), (1, .int x1), (2, .int x2)]) hx hb dX12_asks_1 rfl hl (by decide) rfl (fun ls hl => ?_)
  refine lv_iconst (v := 0) hx hb dX12_asks_2 (by decide) ?_
  refine lv_istore (lv' := [(4, .int (0 : Int32)), (3, .int (0 : Int32)), (0, .ref (bs + 1088)), (1, .int x1), (2, .int x2)]) hx hb dX12_asks_3 hl (by decide) rfl (fun ls hl => ?_)
  obtain ⟨q_57, hlp_58, hf⟩ := bi1S hf
  refine lp_walk (Wh := (fun z => match z with | (y3L_41, y4L_41) => ∀ (H : Heap) (locs : List Loc) (ls : Array Slot), Wd D dA bs LY mm H → va_S (Aq bs) s.heap H locs → lv_has ls 5 [(0, .ref (bs + 1088)), (1, .int x1), (2, .int x2), (3, .int y3L_41), (4, .int y4L_41)] → Wz p l e s m args below meth c D dA bs none m1 3 70 H locs 5 ls [])) (Ph := (fun w3_42 => ∀ (H : Heap) (locs : List Loc) (ls : Array Slot), Wd D dA bs LY mm H → va_S (Aq bs) s.heap H locs → lv_has ls 5 [(0, .ref (bs + 1088)), (1, .int x1), (2, .int x2), (3, .int w3_42)] → Wz p l e s m args below meth c D dA bs none m1 3 70 H locs 74 ls [])) ?_ hlp_58 ?_ H locs ls hP hS (lv_sub hl [2, 3, 4, 1, 0] rfl)
  · intro z o hf hB hE
    obtain ⟨y3L_41, y4L_41⟩ := z
    intro H locs ls hP hS hl
    have hf : f_X12_asks_s5 mm x1 x2 (y3L_41, y4L_41) = some o := hf
    unfold f_X12_asks_s5 at hf
    dsimp only at hf
    have hJ66 : ∀ (y4J_30 : Int32) (z0J_30 : Int32) (z1J_30 : Int32) (H : Heap) (locs : List Loc) (ls : Array Slot), f_X12_asks_j66 mm x1 x2 y4J_30 z0J_30 z1J_30 = some o → Wd D dA bs LY mm H → va_S (Aq bs) s.heap H locs → lv_has ls 5 [(0, .ref (bs + 1088)), (1, .int x1), (2, .int x2), (4, .int y4J_30)] → Wz p l e s m args below meth c D dA bs none m1 3 70 H locs 66 ls [.int z0J_30, .int z1J_30] := by
      intro y4J_30 z0J_30 z1J_30 H locs ls hf hP hS hl
      unfold f_X12_asks_j66 at hf
      refine lv_iadd hx hb dX12_asks_66 ?_
      refine lv_istore_n (lv' := [(3, .int (z1J_30 + z0J_30)), (0, .ref (bs + 1088)), (1, .int x1), (2, .int x2), (4, .int y4J_30)]) hx hb dX12_asks_67 rfl hl (by decide) rfl (fun ls hl => ?_)
      refine lv_iinc (v := (y4J_30 + 1)) (lv' := [(4, .int (y4J_30 + 1)), (3, .int (z1J_30 + z0J_30)), (0, .ref (bs + 1088)), (1, .int x1), (2, .int x2)]) hx hb dX12_asks_68 hl (k := 4) rfl rfl (by decide) rfl (fun ls hl => ?_)
      refine lv_goto (tgt := 5) hx hb dX12_asks_71 (by decide) ?_
      obtain rfl := Option.some.inj hf
      exact hB _ rfl H locs ls hP hS (lv_sub hl [2, 3, 4, 1, 0] rfl)
    have hJ61 : ∀ (y4J_31 : Int32) (z0J_31 : Int32) (H : Heap) (locs : List Loc) (ls : Array Slot), f_X12_asks_j61 mm x1 x2 y4J_31 z0J_31 = some o → Wd D dA bs LY mm H → va_S (Aq bs) s.heap H locs → lv_has ls 5 [(0, .ref (bs + 1088)), (1, .int x1), (2, .int x2), (4, .int y4J_31)] → Wz p l e s m args below meth c D dA bs none m1 3 70 H locs 61 ls [.int z0J_31] := by
      intro y4J_31 z0J_31 H locs ls hf hP hS hl
      unfold f_X12_asks_j61 at hf
      refine lv_iconst (v := 1) hx hb dX12_asks_61 (by decide) ?_
      refine lv_goto (tgt := 66) hx hb dX12_asks_62 (by decide) ?_
      exact hJ66 y4J_31 (1 : Int32) z0J_31 H locs ls hf hP hS (lv_sub hl [0, 1, 2, 3] rfl)
    refine lv_iload hx hb dX12_asks_5 (lv_at hl 4 rfl) ?_
    refine lv_aload_n hx hb dX12_asks_7 rfl (lv_at hl 0 rfl) ?_
    refine wd_getR (q := 1089) X hP L1088 fl_X12_9 rfl dX12_asks_8 ?_
    refine lv_iconst (v := 4) hx hb dX12_asks_11 (by decide) ?_
    refine wd_ialdK (k := 4) X hP L1089 (by decide) (by decide) dX12_asks_12 ?_
    refine lv_icmp_ge (tgt := 74) hx hb dX12_asks_13 (by decide) (fun c_32 => ?_) (fun c_32 => ?_)
    · have hf := itT hf c_32
      obtain rfl := Option.some.inj hf
      exact hE _ rfl H locs ls hP hS (lv_sub hl [0, 1, 2, 3] rfl)
    · have hf := itF hf c_32
      refine lv_iload_n hx hb dX12_asks_16 rfl (lv_at hl 3 rfl) ?_
      refine lv_aload_n hx hb dX12_asks_17 rfl (lv_at hl 0 rfl) ?_
      refine wd_getR (q := 1099) X hP L1088 fl_X12_40 rfl dX12_asks_18 ?_
      refine lv_iload hx hb dX12_asks_21 (lv_at hl 4 rfl) ?_
      have g_33 := gdN hf
      have hf := gdK hf
      refine wd_iald X hP L1099 g_33 dX12_asks_23 ?_
      refine lv_iload_n hx hb dX12_asks_24 rfl (lv_at hl 1 rfl) ?_
      refine lv_icmp_eq (tgt := 61) hx hb dX12_asks_25 (by decide) (fun c_34 => ?_) (fun c_34 => ?_)
      · have hf := itT hf c_34
        exact hJ61 y4L_41 y3L_41 H locs ls hf hP hS (lv_sub hl [0, 1, 2, 4] rfl)
      · have hf := itF hf c_34
        refine lv_aload_n hx hb dX12_asks_28 rfl (lv_at hl 0 rfl) ?_
        refine wd_getR (q := 1100) X hP L1088 fl_X12_43 rfl dX12_asks_29 ?_
        refine lv_iload hx hb dX12_asks_32 (lv_at hl 4 rfl) ?_
        have g_35 := gdN hf
        have hf := gdK hf
        refine wd_iald X hP L1100 g_35 dX12_asks_34 ?_
        refine lv_iload_n hx hb dX12_asks_35 rfl (lv_at hl 1 rfl) ?_
        refine lv_icmp_eq (tgt := 61) hx hb dX12_asks_36 (by decide) (fun c_36 => ?_) (fun c_36 => ?_)
        · have hf := itT hf c_36
          exact hJ61 y4L_41 y3L_41 H locs ls hf hP hS (lv_sub hl [0, 1, 2, 4] rfl)
        · have hf := itF hf c_36
          refine lv_aload_n hx hb dX12_asks_39 rfl (lv_at hl 0 rfl) ?_
          refine wd_getR (q := 1099) X hP L1088 fl_X12_40 rfl dX12_asks_40 ?_
          refine lv_iload hx hb dX12_asks_43 (lv_at hl 4 rfl) ?_
          have g_37 := gdN hf
          have hf := gdK hf
          refine wd_iald X hP L1099 g_37 dX12_asks_45 ?_
          refine lv_iload_n hx hb dX12_asks_46 rfl (lv_at hl 2 rfl) ?_
          refine lv_icmp_eq (tgt := 61) hx hb dX12_asks_47 (by decide) (fun c_38 => ?_) (fun c_38 => ?_)
          · have hf := itT hf c_38
            exact hJ61 y4L_41 y3L_41 H locs ls hf hP hS (lv_sub hl [0, 1, 2, 4] rfl)
          · have hf := itF hf c_38
            refine lv_aload_n hx hb dX12_asks_50 rfl (lv_at hl 0 rfl) ?_
            refine wd_getR (q := 1100) X hP L1088 fl_X12_43 rfl dX12_asks_51 ?_
            refine lv_iload hx hb dX12_asks_54 (lv_at hl 4 rfl) ?_
            have g_39 := gdN hf
            have hf := gdK hf
            refine wd_iald X hP L1100 g_39 dX12_asks_56 ?_
            refine lv_iload_n hx hb dX12_asks_57 rfl (lv_at hl 2 rfl) ?_
            refine lv_icmp_ne (tgt := 65) hx hb dX12_asks_58 (by decide) (fun c_40 => ?_) (fun c_40 => ?_)
            · have hf := itF hf c_40
              refine lv_iconst (v := 0) hx hb dX12_asks_65 (by decide) ?_
              exact hJ66 y4L_41 (0 : Int32) y3L_41 H locs ls hf hP hS (lv_sub hl [0, 1, 2, 4] rfl)
            · have hf := itT hf c_40
              exact hJ61 y4L_41 y3L_41 H locs ls hf hP hS (lv_sub hl [0, 1, 2, 4] rfl)
  · obtain ⟨w3_42, e_w3_42⟩ : ∃ z, z = q_57 := ⟨_, rfl⟩
    subst e_w3_42
    intro H locs ls hP hS hl
    refine lv_aload_n hx hb dX12_asks_74 rfl (lv_at hl 0 rfl) ?_
    refine wd_getR (q := 1127) X hP L1088 fl_X12_129 rfl dX12_asks_75 ?_
    refine lv_iconst (v := 0) hx hb dX12_asks_78 (by decide) ?_
    refine lv_iload_n hx hb dX12_asks_79 rfl (lv_at hl 1 rfl) ?_
    refine lv_i2l hx hb dX12_asks_80 rfl ?_
    refine wd_lastK (k := 0) X hP hS L1127 (by decide) (by decide) dX12_asks_81 (fun H locs mm_43 emm_43 hP hS => ?_)
    have hf := vl hf emm_43
    refine lv_aload_n hx hb dX12_asks_82 rfl (lv_at hl 0 rfl) ?_
    refine wd_getR (q := 1127) X hP L1088 fl_X12_129 rfl dX12_asks_83 ?_
    refine lv_iconst (v := 1) hx hb dX12_asks_86 (by decide) ?_
    refine lv_iload_n hx hb dX12_asks_87 rfl (lv_at hl 2 rfl) ?_
    refine lv_i2l hx hb dX12_asks_88 rfl ?_
    refine wd_lastK (k := 1) X hP hS L1127 (by decide) (by decide) dX12_asks_89 (fun H locs mm_44 emm_44 hP hS => ?_)
    have hf := vl hf emm_44
    refine lv_aload_n hx hb dX12_asks_90 rfl (lv_at hl 0 rfl) ?_
    refine wd_getR (q := 1127) X hP L1088 fl_X12_129 rfl dX12_asks_91 ?_
    refine lv_iconst (v := 2) hx hb dX12_asks_94 (by decide) ?_
    refine lv_aload_n hx hb dX12_asks_95 rfl (lv_at hl 0 rfl) ?_
    refine wd_getR (q := 1095) X hP L1088 fl_X12_28 rfl dX12_asks_96 ?_
    refine lv_iload_n hx hb dX12_asks_99 rfl (lv_at hl 1 rfl) ?_
    have g_45 := gdN hf
    have hf := gdK hf
    refine wd_iald X hP L1095 g_45 dX12_asks_100 ?_
    refine lv_aload_n hx hb dX12_asks_101 rfl (lv_at hl 0 rfl) ?_
    refine wd_getR (q := 1095) X hP L1088 fl_X12_28 rfl dX12_asks_102 ?_
    refine lv_iload_n hx hb dX12_asks_105 rfl (lv_at hl 2 rfl) ?_
    have g_46 := gdN hf
    have hf := gdK hf
    refine wd_iald X hP L1095 g_46 dX12_asks_106 ?_
    refine lv_iadd hx hb dX12_asks_107 ?_
    refine lv_i2l hx hb dX12_asks_108 rfl ?_
    refine wd_lastK (k := 2) X hP hS L1127 (by decide) (by decide) dX12_asks_109 (fun H locs mm_47 emm_47 hP hS => ?_)
    have hf := vl hf emm_47
    refine lv_aload_n hx hb dX12_asks_110 rfl (lv_at hl 0 rfl) ?_
    refine wd_getR (q := 1127) X hP L1088 fl_X12_129 rfl dX12_asks_111 ?_
    refine lv_iconst (v := 3) hx hb dX12_asks_114 (by decide) ?_
    refine lv_aload_n hx hb dX12_asks_115 rfl (lv_at hl 0 rfl) ?_
    refine wd_getR (q := 1094) X hP L1088 fl_X12_25 rfl dX12_asks_116 ?_
    refine lv_iload_n hx hb dX12_asks_119 rfl (lv_at hl 1 rfl) ?_
    have g_48 := gdN hf
    have hf := gdK hf
    refine wd_iald X hP L1094 g_48 dX12_asks_120 ?_
    refine lv_aload_n hx hb dX12_asks_121 rfl (lv_at hl 0 rfl) ?_
    refine wd_getR (q := 1094) X hP L1088 fl_X12_25 rfl dX12_asks_122 ?_
    refine lv_iload_n hx hb dX12_asks_125 rfl (lv_at hl 2 rfl) ?_
    have g_49 := gdN hf
    have hf := gdK hf
    refine wd_iald X hP L1094 g_49 dX12_asks_126 ?_
    refine lv_iadd hx hb dX12_asks_127 ?_
    refine lv_i2l hx hb dX12_asks_128 rfl ?_
    refine wd_lastK (k := 3) X hP hS L1127 (by decide) (by decide) dX12_asks_129 (fun H locs mm_50 emm_50 hP hS => ?_)
    have hf := vl hf emm_50
    refine lv_aload_n hx hb dX12_asks_130 rfl (lv_at hl 0 rfl) ?_
    refine wd_getR (q := 1127) X hP L1088 fl_X12_129 rfl dX12_asks_131 ?_
    refine lv_iconst (v := 4) hx hb dX12_asks_134 (by decide) ?_
    refine lv_aload_n hx hb dX12_asks_135 rfl (lv_at hl 0 rfl) ?_
    refine wd_getR (q := 1096) X hP L1088 fl_X12_31 rfl dX12_asks_136 ?_
    refine lv_iload_n hx hb dX12_asks_139 rfl (lv_at hl 1 rfl) ?_
    have g_51 := gdN hf
    have hf := gdK hf
    refine wd_iald X hP L1096 g_51 dX12_asks_140 ?_
    refine lv_aload_n hx hb dX12_asks_141 rfl (lv_at hl 0 rfl) ?_
    refine wd_getR (q := 1096) X hP L1088 fl_X12_31 rfl dX12_asks_142 ?_
    refine lv_iload_n hx hb dX12_asks_145 rfl (lv_at hl 2 rfl) ?_
    have g_52 := gdN hf
    have hf := gdK hf
    refine wd_iald X hP L1096 g_52 dX12_asks_146 ?_
    refine lv_iadd hx hb dX12_asks_147 ?_
    refine lv_i2l hx hb dX12_asks_148 rfl ?_
    refine wd_lastK (k := 4) X hP hS L1127 (by decide) (by decide) dX12_asks_149 (fun H locs mm_53 emm_53 hP hS => ?_)
    have hf := vl hf emm_53
    refine lv_aload_n hx hb dX12_asks_150 rfl (lv_at hl 0 rfl) ?_
    refine wd_getR (q := 1127) X hP L1088 fl_X12_129 rfl dX12_asks_151 ?_
    refine lv_iconst (v := 5) hx hb dX12_asks_154 (by decide) ?_
    refine lv_aload_n hx hb dX12_asks_155 rfl (lv_at hl 0 rfl) ?_
    refine wd_getR (q := 1093) X hP L1088 fl_X12_22 rfl dX12_asks_156 ?_
    refine lv_iload_n hx hb dX12_asks_159 rfl (lv_at hl 1 rfl) ?_
    have g_54 := gdN hf
    have hf := gdK hf
    refine wd_iald X hP L1093 g_54 dX12_asks_160 ?_
    refine lv_aload_n hx hb dX12_asks_161 rfl (lv_at hl 0 rfl) ?_
    refine wd_getR (q := 1093) X hP L1088 fl_X12_22 rfl dX12_asks_162 ?_
    refine lv_iload_n hx hb dX12_asks_165 rfl (lv_at hl 2 rfl) ?_
    have g_55 := gdN hf
    have hf := gdK hf
    refine wd_iald X hP L1093 g_55 dX12_asks_166 ?_
    refine lv_icmp_ne (tgt := 174) hx hb dX12_asks_167 (by decide) (fun c_56 => ?_) (fun c_56 => ?_)
    · have hf := itF hf c_56
      refine lv_lconst (v := 0) hx hb dX12_asks_174 (by decide) ?_
      exact hJ175 mm_53 x1 x2 w3_42 (0 : Int64) (5 : Int32) H locs ls hf hP hS (lv_sub hl [0, 1, 2, 3] rfl)
    · have hf := itT hf c_56
      refine lv_lconst (v := 1) hx hb dX12_asks_170 (by decide) ?_
      refine lv_goto (tgt := 175) hx hb dX12_asks_171 (by decide) ?_
      exact hJ175 mm_53 x1 x2 w3_42 (1 : Int64) (5 : Int32) H locs ls hf hP hS (lv_sub hl [0, 1, 2, 3] rfl)

noncomputable def f_X12_tiesBy_s28 (y1 : Int32) (y2 : Int32) (y7 : Int32) : (Int32 × Int32 × Int64 × Int32 × Mm) → Option ((Int32 × Int32 × Int64 × Int32 × Mm) ⊕ (Int32 × Int32 × Int64 × Mm)) :=
  fun q => match q with
  | (y3, y4, y5, y8, mm) =>
    if (mm.1 1089 3) ≤ y8 then
      some (.inr (y3, y4, y5, mm))
    else
      bi1 (f_X12_canBind mm y7 y8 y2) fun r_4 =>
        if r_4 = 0 then
          some (.inl (y3, y4, y5, (y8 + 1), mm))
        else
          bi1 (f_X12_asks mm y7 y8) fun mm_6 =>
            bi2 (f_X12_wanted mm_6 y1) fun r_10 mm_8 =>
              if (lg_cmp r_10 y5) ≤ 0 then
                some (.inl (y3, y4, y5, (y8 + 1), mm_8))
              else
                some (.inl (y7, y8, r_10, (y8 + 1), mm_8))
noncomputable def f_X12_tiesBy_s11 (y1 : Int32) (y2 : Int32) : (Int32 × Int32 × Int64 × Int32 × Mm) → Option ((Int32 × Int32 × Int64 × Int32 × Mm) ⊕ (Int32 × Int32 × Mm)) :=
  fun q => match q with
  | (y3, y4, y5, y7, mm) =>
    if (mm.1 1089 3) ≤ y7 then
      some (.inr (y3, y4, mm))
    else
      bi1 (lp (f_X12_tiesBy_s28 y1 y2 y7) (y3, y4, y5, (y7 + (1 : Int32)), mm)) fun q => match q with
      | (w3_13, w4_14, w5_15, mm_16) =>
        some (.inl (w3_13, w4_14, w5_15, (y7 + 1), mm_16))
noncomputable def f_X12_tiesBy (mm : Mm) (x1 : Int32) (x2 : Int32) : Option (Mm) :=
  bi1 (lp (f_X12_tiesBy_s11 x1 x2) ((-1 : Int32), (-1 : Int32), (0 : Int64), (0 : Int32), mm)) fun q => match q with
  | (w3_20, w4_21, mm_22) =>
    if w3_20 = (-1 : Int32) then
      some mm_22
    else
      bi2 (f_X12_binds mm_22 w3_20 w4_21 x2) fun r_26 mm_24 => some mm_24
set_option maxHeartbeats 4000000 in
set_option maxRecDepth 100000 in
theorem c_X12_tiesBy (l : Launch) (D : va_G) (dA : Nat → ClassId) (zz : (Nat → Nat) × (Nat → Nat)) (bs : Nat) (mm : Mm) (x1 : Int32) (x2 : Int32) (m1 : Mm) (hf : f_X12_tiesBy mm x1 x2 = some m1) : Mw l D dA zz bs LY yX12_tiesBy cX12_tiesBy 11 none 4 94 [.ref (bs + 1088), .int x1, .int x2] mm none m1 := by
  refine Mw.of (own := RX12) (by decide) rfl (Nat.le_of_ble_eq_true rfl) ?_
  intro p e s m args below meth c X hr0 hP hS ls hl
  have hx := X.1
  have hb := X.2.1
  obtain ⟨H, hH⟩ : ∃ z : Heap, z = s.heap := ⟨_, rfl⟩
  obtain ⟨locs, hL⟩ : ∃ z : List Loc, z = [] := ⟨_, rfl⟩
  rw [← hH, ← hL]
  have hS : va_S (Aq bs) s.heap H locs := by rw [hH, hL]; exact hS
  have hP : Wd D dA bs LY mm H := by rw [hH]; exact hP
  have hl : lv_has ls 11 [(0, .ref (bs + 1088)), (1, .int x1), (2, .int x2)] := hl
  unfold f_X12_tiesBy at hf
  refine lv_iconst (v := -1) hx hb dX12_tiesBy_0 (by decide) ?_
  refine lv_istore_n (lv' := [(3, .int (-1 : Int32)), (0, .ref (bs + 1088)), (1, .int x1), (2, .int x2)]) hx hb dX12_tiesBy_1 rfl hl (by decide) rfl (fun ls hl => ?_)
  refine lv_iconst (v := -1) hx hb dX12_tiesBy_2 (by decide) ?_
  refine lv_istore (lv' := [(4, .int (-1 : Int32)), (3, .int (-1 : Int32)), (0, .ref (bs + 1088)), (1, .int x1), (2, .int x2)]) hx hb dX12_tiesBy_3 hl (by decide) rfl (fun ls hl => ?_)
  refine lv_lconst (v := 0) hx hb dX12_tiesBy_5 (by decide) ?_
  refine lv_lstore (lv' := [(5, .long (0 : Int64)), (4, .int (-1 : Int32)), (3, .int (-1 : Int32)), (0, .ref (bs + 1088)), (1, .int x1), (2, .int x2)]) hx hb dX12_tiesBy_6 hl (by decide) rfl (fun ls hl => ?_)
  refine lv_iconst (v := 0) hx hb dX12_tiesBy_8 (by decide) ?_
  refine lv_istore (lv' := [(7, .int (0 : Int32)), (5, .long (0 : Int64)), (4, .int (-1 : Int32)), (3, .int (-1 : Int32)), (0, .ref (bs + 1088)), (1, .int x1), (2, .int x2)]) hx hb dX12_tiesBy_9 hl (by decide) rfl (fun ls hl => ?_)
  obtain ⟨q_27, hlp_28, hf⟩ := bi1S hf
  refine lp_walk (Wh := (fun z => match z with | (y3L_19, y4L_19, y5L_19, y7L_19, mmL_19) => ∀ (H : Heap) (locs : List Loc) (ls : Array Slot), Wd D dA bs LY mmL_19 H → va_S (Aq bs) s.heap H locs → lv_has ls 11 [(0, .ref (bs + 1088)), (1, .int x1), (2, .int x2), (3, .int y3L_19), (4, .int y4L_19), (5, .long y5L_19), (7, .int y7L_19)] → Wz p l e s m args below meth c D dA bs none m1 4 94 H locs 11 ls [])) (Ph := (fun z => match z with | (w3_20, w4_21, mm_22) => ∀ (H : Heap) (locs : List Loc) (ls : Array Slot), Wd D dA bs LY mm_22 H → va_S (Aq bs) s.heap H locs → lv_has ls 11 [(0, .ref (bs + 1088)), (2, .int x2), (3, .int w3_20), (4, .int w4_21)] → Wz p l e s m args below meth c D dA bs none m1 4 94 H locs 97 ls [])) ?_ hlp_28 ?_ H locs ls hP hS (lv_sub hl [4, 5, 6, 3, 2, 1, 0] rfl)
  · intro z o hf hB hE
    obtain ⟨y3L_19, y4L_19, y5L_19, y7L_19, mmL_19⟩ := z
    intro H locs ls hP hS hl
    have hf : f_X12_tiesBy_s11 x1 x2 (y3L_19, y4L_19, y5L_19, y7L_19, mmL_19) = some o := hf
    unfold f_X12_tiesBy_s11 at hf
    dsimp only at hf
    refine lv_iload hx hb dX12_tiesBy_11 (lv_at hl 6 rfl) ?_
    refine lv_aload_n hx hb dX12_tiesBy_13 rfl (lv_at hl 0 rfl) ?_
    refine wd_getR (q := 1089) X hP L1088 fl_X12_9 rfl dX12_tiesBy_14 ?_
    refine lv_iconst (v := 3) hx hb dX12_tiesBy_17 (by decide) ?_
    refine wd_ialdK (k := 3) X hP L1089 (by decide) (by decide) dX12_tiesBy_18 ?_
    refine lv_icmp_ge (tgt := 97) hx hb dX12_tiesBy_19 (by decide) (fun c_1 => ?_) (fun c_1 => ?_)
    · have hf := itT hf c_1
      obtain rfl := Option.some.inj hf
      exact hE _ rfl H locs ls hP hS (lv_sub hl [0, 2, 3, 4] rfl)
    · have hf := itF hf c_1
      refine lv_iload hx hb dX12_tiesBy_22 (lv_at hl 6 rfl) ?_
      refine lv_iconst (v := 1) hx hb dX12_tiesBy_24 (by decide) ?_
      refine lv_iadd hx hb dX12_tiesBy_25 ?_
      refine lv_istore (lv' := [(8, .int (y7L_19 + (1 : Int32))), (0, .ref (bs + 1088)), (1, .int x1), (2, .int x2), (3, .int y3L_19), (4, .int y4L_19), (5, .long y5L_19), (7, .int y7L_19)]) hx hb dX12_tiesBy_26 hl (by decide) rfl (fun ls hl => ?_)
      obtain ⟨q_17, hlp_18, hf⟩ := bi1S hf
      refine lp_walk (Wh := (fun z => match z with | (y3L_12, y4L_12, y5L_12, y8L_12, mmL_12) => ∀ (H : Heap) (locs : List Loc) (ls : Array Slot), Wd D dA bs LY mmL_12 H → va_S (Aq bs) s.heap H locs → lv_has ls 11 [(0, .ref (bs + 1088)), (1, .int x1), (2, .int x2), (3, .int y3L_12), (4, .int y4L_12), (5, .long y5L_12), (7, .int y7L_19), (8, .int y8L_12)] → Wz p l e s m args below meth c D dA bs none m1 4 94 H locs 28 ls [])) (Ph := (fun z => match z with | (w3_13, w4_14, w5_15, mm_16) => ∀ (H : Heap) (locs : List Loc) (ls : Array Slot), Wd D dA bs LY mm_16 H → va_S (Aq bs) s.heap H locs → lv_has ls 11 [(0, .ref (bs + 1088)), (1, .int x1), (2, .int x2), (3, .int w3_13), (4, .int w4_14), (5, .long w5_15), (7, .int y7L_19)] → Wz p l e s m args below meth c D dA bs none m1 4 94 H locs 91 ls [])) ?_ hlp_18 ?_ H locs ls hP hS (lv_sub hl [1, 2, 3, 4, 5, 6, 7, 0] rfl)
      · intro z o hf hB hE
        obtain ⟨y3L_12, y4L_12, y5L_12, y8L_12, mmL_12⟩ := z
        intro H locs ls hP hS hl
        have hf : f_X12_tiesBy_s28 x1 x2 y7L_19 (y3L_12, y4L_12, y5L_12, y8L_12, mmL_12) = some o := hf
        unfold f_X12_tiesBy_s28 at hf
        dsimp only at hf
        refine lv_iload hx hb dX12_tiesBy_28 (lv_at hl 7 rfl) ?_
        refine lv_aload_n hx hb dX12_tiesBy_30 rfl (lv_at hl 0 rfl) ?_
        refine wd_getR (q := 1089) X hP L1088 fl_X12_9 rfl dX12_tiesBy_31 ?_
        refine lv_iconst (v := 3) hx hb dX12_tiesBy_34 (by decide) ?_
        refine wd_ialdK (k := 3) X hP L1089 (by decide) (by decide) dX12_tiesBy_35 ?_
        refine lv_icmp_ge (tgt := 91) hx hb dX12_tiesBy_36 (by decide) (fun c_2 => ?_) (fun c_2 => ?_)
        · have hf := itT hf c_2
          obtain rfl := Option.some.inj hf
          exact hE _ rfl H locs ls hP hS (lv_sub hl [0, 1, 2, 3, 4, 5, 6] rfl)
        · have hf := itF hf c_2
          refine lv_aload_n hx hb dX12_tiesBy_39 rfl (lv_at hl 0 rfl) ?_
          refine lv_iload hx hb dX12_tiesBy_40 (lv_at hl 6 rfl) ?_
          refine lv_iload hx hb dX12_tiesBy_42 (lv_at hl 7 rfl) ?_
          refine lv_iload_n hx hb dX12_tiesBy_44 rfl (lv_at hl 2 rfl) ?_
          obtain ⟨r_4, hc_3, hf⟩ := bi1S hf
          refine wd_cv X hP hS L1088 ml_X12_496 ⟨_, _, rfl⟩ (c_X12_canBind l D dA zz bs mmL_12 y7L_19 y8L_12 x2 r_4 hc_3) rfl ⟨Nat.le_of_ble_eq_true rfl, Nat.le_of_ble_eq_true rfl⟩ hl.1 rfl (rest := []) (Nat.le_of_ble_eq_true rfl) ⟨Nat.zero_le _, Nat.zero_le _⟩ dX12_tiesBy_45 (fun H locs hP hS => ?_)
          refine W.eq (g2 := F0 m 48 ls [.int r_4]) rfl ?_
          refine lv_if_eq (tgt := 85) hx hb dX12_tiesBy_48 (by decide) (fun c_5 => ?_) (fun c_5 => ?_)
          · have hf := itT hf c_5
            refine lv_iinc (v := (y8L_12 + 1)) (lv' := [(8, .int (y8L_12 + 1)), (0, .ref (bs + 1088)), (1, .int x1), (2, .int x2), (3, .int y3L_12), (4, .int y4L_12), (5, .long y5L_12), (7, .int y7L_19)]) hx hb dX12_tiesBy_85 hl (k := 7) rfl rfl (by decide) rfl (fun ls hl => ?_)
            refine lv_goto (tgt := 28) hx hb dX12_tiesBy_88 (by decide) ?_
            obtain rfl := Option.some.inj hf
            exact hB _ rfl H locs ls hP hS (lv_sub hl [1, 2, 3, 4, 5, 6, 7, 0] rfl)
          · have hf := itF hf c_5
            refine lv_aload_n hx hb dX12_tiesBy_51 rfl (lv_at hl 0 rfl) ?_
            refine lv_iload hx hb dX12_tiesBy_52 (lv_at hl 6 rfl) ?_
            refine lv_iload hx hb dX12_tiesBy_54 (lv_at hl 7 rfl) ?_
            obtain ⟨mm_6, hc_7, hf⟩ := bi1S hf
            refine wd_cv X hP hS L1088 ml_X12_503 ⟨_, _, rfl⟩ (c_X12_asks l D dA zz bs mmL_12 y7L_19 y8L_12 mm_6 hc_7) rfl ⟨Nat.le_of_ble_eq_true rfl, Nat.le_of_ble_eq_true rfl⟩ hl.1 rfl (rest := []) (Nat.le_of_ble_eq_true rfl) ⟨Nat.zero_le _, Nat.zero_le _⟩ dX12_tiesBy_56 (fun H locs hP hS => ?_)
            refine W.eq (g2 := F0 m 59 ls []) rfl ?_
            refine lv_aload_n hx hb dX12_tiesBy_59 rfl (lv_at hl 0 rfl) ?_
            refine lv_iload_n hx hb dX12_tiesBy_60 rfl (lv_at hl 1 rfl) ?_
            obtain ⟨r_10, mm_8, hc_9, hf⟩ := bi2S hf
            refine wd_cv X hP hS L1088 ml_X12_506 ⟨_, _, rfl⟩ (c_X12_wanted l D dA zz bs mm_6 x1 r_10 mm_8 hc_9) rfl ⟨Nat.le_of_ble_eq_true rfl, Nat.le_of_ble_eq_true rfl⟩ hl.1 rfl (rest := []) (Nat.le_of_ble_eq_true rfl) ⟨Nat.zero_le _, Nat.zero_le _⟩ dX12_tiesBy_61 (fun H locs hP hS => ?_)
            refine W.eq (g2 := F0 m 64 ls [.long r_10]) rfl ?_
            refine lv_lstore (lv' := [(9, .long r_10), (0, .ref (bs + 1088)), (1, .int x1), (2, .int x2), (3, .int y3L_12), (4, .int y4L_12), (5, .long y5L_12), (7, .int y7L_19), (8, .int y8L_12)]) hx hb dX12_tiesBy_64 hl (by decide) rfl (fun ls hl => ?_)
            refine lv_lload hx hb dX12_tiesBy_66 (lv_at hl 0 rfl) ?_
            refine lv_lload hx hb dX12_tiesBy_68 (lv_at hl 6 rfl) ?_
            refine W.lcmp hx hb dX12_tiesBy_70 ?_
            refine lv_if_le (tgt := 85) hx hb dX12_tiesBy_71 (by decide) (fun c_11 => ?_) (fun c_11 => ?_)
            · have hf := itT hf c_11
              refine lv_iinc (v := (y8L_12 + 1)) (lv' := [(8, .int (y8L_12 + 1)), (9, .long r_10), (0, .ref (bs + 1088)), (1, .int x1), (2, .int x2), (3, .int y3L_12), (4, .int y4L_12), (5, .long y5L_12), (7, .int y7L_19)]) hx hb dX12_tiesBy_85 hl (k := 8) rfl rfl (by decide) rfl (fun ls hl => ?_)
              refine lv_goto (tgt := 28) hx hb dX12_tiesBy_88 (by decide) ?_
              obtain rfl := Option.some.inj hf
              exact hB _ rfl H locs ls hP hS (lv_sub hl [2, 3, 4, 5, 6, 7, 8, 0] rfl)
            · have hf := itF hf c_11
              refine lv_lload hx hb dX12_tiesBy_74 (lv_at hl 0 rfl) ?_
              refine lv_lstore (lv' := [(5, .long r_10), (9, .long r_10), (0, .ref (bs + 1088)), (1, .int x1), (2, .int x2), (3, .int y3L_12), (4, .int y4L_12), (7, .int y7L_19), (8, .int y8L_12)]) hx hb dX12_tiesBy_76 hl (by decide) rfl (fun ls hl => ?_)
              refine lv_iload hx hb dX12_tiesBy_78 (lv_at hl 7 rfl) ?_
              refine lv_istore_n (lv' := [(3, .int y7L_19), (5, .long r_10), (9, .long r_10), (0, .ref (bs + 1088)), (1, .int x1), (2, .int x2), (4, .int y4L_12), (7, .int y7L_19), (8, .int y8L_12)]) hx hb dX12_tiesBy_80 rfl hl (by decide) rfl (fun ls hl => ?_)
              refine lv_iload hx hb dX12_tiesBy_81 (lv_at hl 8 rfl) ?_
              refine lv_istore (lv' := [(4, .int y8L_12), (3, .int y7L_19), (5, .long r_10), (9, .long r_10), (0, .ref (bs + 1088)), (1, .int x1), (2, .int x2), (7, .int y7L_19), (8, .int y8L_12)]) hx hb dX12_tiesBy_83 hl (by decide) rfl (fun ls hl => ?_)
              refine lv_iinc (v := (y8L_12 + 1)) (lv' := [(8, .int (y8L_12 + 1)), (4, .int y8L_12), (3, .int y7L_19), (5, .long r_10), (9, .long r_10), (0, .ref (bs + 1088)), (1, .int x1), (2, .int x2), (7, .int y7L_19)]) hx hb dX12_tiesBy_85 hl (k := 8) rfl rfl (by decide) rfl (fun ls hl => ?_)
              refine lv_goto (tgt := 28) hx hb dX12_tiesBy_88 (by decide) ?_
              obtain rfl := Option.some.inj hf
              exact hB _ rfl H locs ls hP hS (lv_sub hl [5, 6, 7, 2, 1, 3, 8, 0] rfl)
      · obtain ⟨w3_13, w4_14, w5_15, mm_16⟩ := q_17
        dsimp only at hf
        intro H locs ls hP hS hl
        refine lv_iinc (v := (y7L_19 + 1)) (lv' := [(7, .int (y7L_19 + 1)), (0, .ref (bs + 1088)), (1, .int x1), (2, .int x2), (3, .int w3_13), (4, .int w4_14), (5, .long w5_15)]) hx hb dX12_tiesBy_91 hl (k := 6) rfl rfl (by decide) rfl (fun ls hl => ?_)
        refine lv_goto (tgt := 11) hx hb dX12_tiesBy_94 (by decide) ?_
        obtain rfl := Option.some.inj hf
        exact hB _ rfl H locs ls hP hS (lv_sub hl [1, 2, 3, 4, 5, 6, 0] rfl)
  · obtain ⟨w3_20, w4_21, mm_22⟩ := q_27
    dsimp only at hf
    intro H locs ls hP hS hl
    refine lv_iload_n hx hb dX12_tiesBy_97 rfl (lv_at hl 2 rfl) ?_
    refine lv_iconst (v := -1) hx hb dX12_tiesBy_98 (by decide) ?_
    refine lv_icmp_eq (tgt := 111) hx hb dX12_tiesBy_99 (by decide) (fun c_23 => ?_) (fun c_23 => ?_)
    · have hf := itT hf c_23
      obtain rfl := Option.some.inj hf
      exact wd_vret X hP hS hr0 dX12_tiesBy_111 ⟨rfl, rfl⟩
    · have hf := itF hf c_23
      refine lv_aload_n hx hb dX12_tiesBy_102 rfl (lv_at hl 0 rfl) ?_
      refine lv_iload_n hx hb dX12_tiesBy_103 rfl (lv_at hl 2 rfl) ?_
      refine lv_iload hx hb dX12_tiesBy_104 (lv_at hl 3 rfl) ?_
      refine lv_iload_n hx hb dX12_tiesBy_106 rfl (lv_at hl 1 rfl) ?_
      obtain ⟨r_26, mm_24, hc_25, hf⟩ := bi2S hf
      refine wd_cv X hP hS L1088 ml_X12_500 ⟨_, _, rfl⟩ (c_X12_binds l D dA zz bs mm_22 w3_20 w4_21 x2 r_26 mm_24 hc_25) rfl ⟨Nat.le_of_ble_eq_true rfl, Nat.le_of_ble_eq_true rfl⟩ hl.1 rfl (rest := []) (Nat.le_of_ble_eq_true rfl) ⟨Nat.zero_le _, Nat.zero_le _⟩ dX12_tiesBy_107 (fun H locs hP hS => ?_)
      refine W.eq (g2 := F0 m 110 ls [.int r_26]) rfl ?_
      refine lv_pop hx hb dX12_tiesBy_110 rfl ?_
      obtain rfl := Option.some.inj hf
      exact wd_vret X hP hS hr0 dX12_tiesBy_111 ⟨rfl, rfl⟩

noncomputable def f_X12_run_s54 (y1 : Int32) (y2 : Int32) (y3 : Int32) : (Int32 × Int32 × Mm) → Option ((Int32 × Int32 × Mm) ⊕ (Int32 × Mm)) :=
  fun q => match q with
  | (y4, y5, mm) =>
    if y2 ≤ y5 then
      some (.inr (y4, mm))
    else
      bi1 (f_X12_tiesBy mm y1 y3) fun mm_9 =>
        bi2 (f_X12_goesMile mm_9) fun r_13 mm_11 => some (.inl ((y4 + r_13), (y5 + 1), mm_11))
noncomputable def f_X12_run (mm : Mm) (x1 : Int32) (x2 : Int32) (x3 : Int32) : Option (Int32 × Mm) :=
  if (f_X12_isRiver mm) = 0 then
    some ((-1 : Int32), mm)
  else
    bi1 (f_X12_isRule mm x1) fun r_3 =>
      if r_3 = 0 then
        some ((-1 : Int32), mm)
      else
        if (f_X12_in (x2.toInt64) (1 : Int64) ((f_X12_milesLeft mm).toInt64)) = 0 then
          some ((-1 : Int32), mm)
        else
          if (f_X12_in (x3.toInt64) (1 : Int64) (9 : Int64)) = 0 then
            some ((-1 : Int32), mm)
          else
            vlet (wI mm 1088 55 (0 : Int32)) fun mm_7 =>
              bi1 (lp (f_X12_run_s54 x1 x2 x3) ((0 : Int32), (0 : Int32), mm_7)) fun q => match q with
              | (w4_15, mm_16) =>
                some (w4_15, mm_16)
set_option maxHeartbeats 4000000 in
set_option maxRecDepth 100000 in
theorem c_X12_run (l : Launch) (D : va_G) (dA : Nat → ClassId) (zz : (Nat → Nat) × (Nat → Nat)) (bs : Nat) (mm : Mm) (x1 : Int32) (x2 : Int32) (x3 : Int32) (out : Int32) (m1 : Mm) (hf : f_X12_run mm x1 x2 x3 = some (out, m1)) : Mw l D dA zz bs LY yX12_run cX12_run 6 (some .int) 8 195 [.ref (bs + 1088), .int x1, .int x2, .int x3] mm (some (.int out)) m1 := by
  refine Mw.of (own := RX12) (by decide) rfl (Nat.le_of_ble_eq_true rfl) ?_
  intro p e s m args below meth c X hr0 hP hS ls hl
  have hx := X.1
  have hb := X.2.1
  obtain ⟨H, hH⟩ : ∃ z : Heap, z = s.heap := ⟨_, rfl⟩
  obtain ⟨locs, hL⟩ : ∃ z : List Loc, z = [] := ⟨_, rfl⟩
  rw [← hH, ← hL]
  have hS : va_S (Aq bs) s.heap H locs := by rw [hH, hL]; exact hS
  have hP : Wd D dA bs LY mm H := by rw [hH]; exact hP
  have hl : lv_has ls 6 [(0, .ref (bs + 1088)), (1, .int x1), (2, .int x2), (3, .int x3)] := hl
  unfold f_X12_run at hf
  refine lv_aload_n hx hb dX12_run_0 rfl (lv_at hl 0 rfl) ?_
  refine wd_cv X hP hS L1088 ml_X12_430 ⟨_, _, rfl⟩ (c_X12_isRiver l D dA zz bs mm (f_X12_isRiver mm) rfl) rfl ⟨Nat.le_of_ble_eq_true rfl, Nat.le_of_ble_eq_true rfl⟩ hl.1 rfl (rest := []) (Nat.le_of_ble_eq_true rfl) ⟨Nat.zero_le _, Nat.zero_le _⟩ dX12_run_1 (fun H locs hP hS => ?_)
  refine W.eq (g2 := F0 m 4 ls [.int (f_X12_isRiver mm)]) rfl ?_
  refine lv_if_eq (tgt := 41) hx hb dX12_run_4 (by decide) (fun c_1 => ?_) (fun c_1 => ?_)
  · have hf := itT hf c_1
    refine lv_iconst (v := -1) hx hb dX12_run_41 (by decide) ?_
    obtain ⟨rfl, rfl⟩ := Prod.mk.inj (Option.some.inj hf)
    exact wd_iret X hP hS hr0 dX12_run_42 ⟨rfl, rfl⟩
  · have hf := itF hf c_1
    refine lv_aload_n hx hb dX12_run_7 rfl (lv_at hl 0 rfl) ?_
    refine lv_iload_n hx hb dX12_run_8 rfl (lv_at hl 1 rfl) ?_
    obtain ⟨r_3, hc_2, hf⟩ := bi1S hf
    refine wd_cv X hP hS L1088 ml_X12_510 ⟨_, _, rfl⟩ (c_X12_isRule l D dA zz bs mm x1 r_3 hc_2) rfl ⟨Nat.le_of_ble_eq_true rfl, Nat.le_of_ble_eq_true rfl⟩ hl.1 rfl (rest := []) (Nat.le_of_ble_eq_true rfl) ⟨Nat.zero_le _, Nat.zero_le _⟩ dX12_run_9 (fun H locs hP hS => ?_)
    refine W.eq (g2 := F0 m 12 ls [.int r_3]) rfl ?_
    refine lv_if_eq (tgt := 41) hx hb dX12_run_12 (by decide) (fun c_4 => ?_) (fun c_4 => ?_)
    · have hf := itT hf c_4
      refine lv_iconst (v := -1) hx hb dX12_run_41 (by decide) ?_
      obtain ⟨rfl, rfl⟩ := Prod.mk.inj (Option.some.inj hf)
      exact wd_iret X hP hS hr0 dX12_run_42 ⟨rfl, rfl⟩
    · have hf := itF hf c_4
      refine lv_iload_n hx hb dX12_run_15 rfl (lv_at hl 2 rfl) ?_
      refine lv_i2l hx hb dX12_run_16 rfl ?_
      refine lv_lconst (v := 1) hx hb dX12_run_17 (by decide) ?_
      refine lv_aload_n hx hb dX12_run_18 rfl (lv_at hl 0 rfl) ?_
      refine wd_cv X hP hS L1088 ml_X12_487 ⟨_, _, rfl⟩ (c_X12_milesLeft l D dA zz bs mm (f_X12_milesLeft mm) rfl) rfl ⟨Nat.le_of_ble_eq_true rfl, Nat.le_of_ble_eq_true rfl⟩ hl.1 rfl (rest := [.long (1 : Int64), .long (x2.toInt64)]) (Nat.le_of_ble_eq_true rfl) ⟨Nat.zero_le _, Nat.zero_le _⟩ dX12_run_19 (fun H locs hP hS => ?_)
      refine W.eq (g2 := F0 m 22 ls [.int (f_X12_milesLeft mm), .long (1 : Int64), .long (x2.toInt64)]) rfl ?_
      refine lv_i2l hx hb dX12_run_22 rfl ?_
      refine wd_cs X hP hS ml_X12_176 (c_X12_in l D dA zz bs mm (x2.toInt64) (1 : Int64) ((f_X12_milesLeft mm).toInt64) (f_X12_in (x2.toInt64) (1 : Int64) ((f_X12_milesLeft mm).toInt64)) rfl) rfl ⟨Nat.le_of_ble_eq_true rfl, Nat.le_of_ble_eq_true rfl⟩ hl.1 rfl (rest := []) (Nat.le_of_ble_eq_true rfl) ⟨Nat.zero_le _, Nat.zero_le _⟩ dX12_run_23 (fun H locs hP hS => ?_)
      refine W.eq (g2 := F0 m 26 ls [.int (f_X12_in (x2.toInt64) (1 : Int64) ((f_X12_milesLeft mm).toInt64))]) rfl ?_
      refine lv_if_eq (tgt := 41) hx hb dX12_run_26 (by decide) (fun c_5 => ?_) (fun c_5 => ?_)
      · have hf := itT hf c_5
        refine lv_iconst (v := -1) hx hb dX12_run_41 (by decide) ?_
        obtain ⟨rfl, rfl⟩ := Prod.mk.inj (Option.some.inj hf)
        exact wd_iret X hP hS hr0 dX12_run_42 ⟨rfl, rfl⟩
      · have hf := itF hf c_5
        refine lv_iload_n hx hb dX12_run_29 rfl (lv_at hl 3 rfl) ?_
        refine lv_i2l hx hb dX12_run_30 rfl ?_
        refine lv_lconst (v := 1) hx hb dX12_run_31 (by decide) ?_
        refine lv_ldc2 (own := RX12) (v := 9) hx hb X.2.2.2.1 (X.2.2.2.2.1 _ (tb_at 1686 (by decide +kernel) (by decide +kernel))) dX12_run_32 ?_
        refine wd_cs X hP hS ml_X12_176 (c_X12_in l D dA zz bs mm (x3.toInt64) (1 : Int64) (9 : Int64) (f_X12_in (x3.toInt64) (1 : Int64) (9 : Int64)) rfl) rfl ⟨Nat.le_of_ble_eq_true rfl, Nat.le_of_ble_eq_true rfl⟩ hl.1 rfl (rest := []) (Nat.le_of_ble_eq_true rfl) ⟨Nat.zero_le _, Nat.zero_le _⟩ dX12_run_35 (fun H locs hP hS => ?_)
        refine W.eq (g2 := F0 m 38 ls [.int (f_X12_in (x3.toInt64) (1 : Int64) (9 : Int64))]) rfl ?_
        refine lv_if_ne (tgt := 43) hx hb dX12_run_38 (by decide) (fun c_6 => ?_) (fun c_6 => ?_)
        · have hf := itF hf c_6
          refine lv_aload_n hx hb dX12_run_43 rfl (lv_at hl 0 rfl) ?_
          refine lv_iconst (v := 0) hx hb dX12_run_44 (by decide) ?_
          refine wd_putI X hP hS L1088 fp_X12_359 rfl dX12_run_45 (fun H locs mm_7 emm_7 hP hS => ?_)
          have hf := vl hf emm_7
          refine lv_iconst (v := 0) hx hb dX12_run_48 (by decide) ?_
          refine lv_istore (lv' := [(4, .int (0 : Int32)), (0, .ref (bs + 1088)), (1, .int x1), (2, .int x2), (3, .int x3)]) hx hb dX12_run_49 hl (by decide) rfl (fun ls hl => ?_)
          refine lv_iconst (v := 0) hx hb dX12_run_51 (by decide) ?_
          refine lv_istore (lv' := [(5, .int (0 : Int32)), (4, .int (0 : Int32)), (0, .ref (bs + 1088)), (1, .int x1), (2, .int x2), (3, .int x3)]) hx hb dX12_run_52 hl (by decide) rfl (fun ls hl => ?_)
          obtain ⟨q_17, hlp_18, hf⟩ := bi1S hf
          refine lp_walk (Wh := (fun z => match z with | (y4L_14, y5L_14, mmL_14) => ∀ (H : Heap) (locs : List Loc) (ls : Array Slot), Wd D dA bs LY mmL_14 H → va_S (Aq bs) s.heap H locs → lv_has ls 6 [(0, .ref (bs + 1088)), (1, .int x1), (2, .int x2), (3, .int x3), (4, .int y4L_14), (5, .int y5L_14)] → Wz p l e s m args below meth c D dA bs (some (.int out)) m1 8 195 H locs 54 ls [])) (Ph := (fun z => match z with | (w4_15, mm_16) => ∀ (H : Heap) (locs : List Loc) (ls : Array Slot), Wd D dA bs LY mm_16 H → va_S (Aq bs) s.heap H locs → lv_has ls 6 [(4, .int w4_15)] → Wz p l e s m args below meth c D dA bs (some (.int out)) m1 8 195 H locs 81 ls [])) ?_ hlp_18 ?_ H locs ls hP hS (lv_sub hl [2, 3, 4, 5, 1, 0] rfl)
          · intro z o hf hB hE
            obtain ⟨y4L_14, y5L_14, mmL_14⟩ := z
            intro H locs ls hP hS hl
            have hf : f_X12_run_s54 x1 x2 x3 (y4L_14, y5L_14, mmL_14) = some o := hf
            unfold f_X12_run_s54 at hf
            dsimp only at hf
            refine lv_iload hx hb dX12_run_54 (lv_at hl 5 rfl) ?_
            refine lv_iload_n hx hb dX12_run_56 rfl (lv_at hl 2 rfl) ?_
            refine lv_icmp_ge (tgt := 81) hx hb dX12_run_57 (by decide) (fun c_8 => ?_) (fun c_8 => ?_)
            · have hf := itT hf c_8
              obtain rfl := Option.some.inj hf
              exact hE _ rfl H locs ls hP hS (lv_sub hl [4] rfl)
            · have hf := itF hf c_8
              refine lv_aload_n hx hb dX12_run_60 rfl (lv_at hl 0 rfl) ?_
              refine lv_iload_n hx hb dX12_run_61 rfl (lv_at hl 1 rfl) ?_
              refine lv_iload_n hx hb dX12_run_62 rfl (lv_at hl 3 rfl) ?_
              obtain ⟨mm_9, hc_10, hf⟩ := bi1S hf
              refine wd_cv X hP hS L1088 ml_X12_513 ⟨_, _, rfl⟩ (c_X12_tiesBy l D dA zz bs mmL_14 x1 x3 mm_9 hc_10) rfl ⟨Nat.le_of_ble_eq_true rfl, Nat.le_of_ble_eq_true rfl⟩ hl.1 rfl (rest := []) (Nat.le_of_ble_eq_true rfl) ⟨Nat.zero_le _, Nat.zero_le _⟩ dX12_run_63 (fun H locs hP hS => ?_)
              refine W.eq (g2 := F0 m 66 ls []) rfl ?_
              refine lv_iload hx hb dX12_run_66 (lv_at hl 4 rfl) ?_
              refine lv_aload_n hx hb dX12_run_68 rfl (lv_at hl 0 rfl) ?_
              obtain ⟨r_13, mm_11, hc_12, hf⟩ := bi2S hf
              refine wd_cv X hP hS L1088 ml_X12_493 ⟨_, _, rfl⟩ (c_X12_goesMile l D dA zz bs mm_9 r_13 mm_11 hc_12) rfl ⟨Nat.le_of_ble_eq_true rfl, Nat.le_of_ble_eq_true rfl⟩ hl.1 rfl (rest := [.int y4L_14]) (Nat.le_of_ble_eq_true rfl) ⟨Nat.zero_le _, Nat.zero_le _⟩ dX12_run_69 (fun H locs hP hS => ?_)
              refine W.eq (g2 := F0 m 72 ls [.int r_13, .int y4L_14]) rfl ?_
              refine lv_iadd hx hb dX12_run_72 ?_
              refine lv_istore (lv' := [(4, .int (y4L_14 + r_13)), (0, .ref (bs + 1088)), (1, .int x1), (2, .int x2), (3, .int x3), (5, .int y5L_14)]) hx hb dX12_run_73 hl (by decide) rfl (fun ls hl => ?_)
              refine lv_iinc (v := (y5L_14 + 1)) (lv' := [(5, .int (y5L_14 + 1)), (4, .int (y4L_14 + r_13)), (0, .ref (bs + 1088)), (1, .int x1), (2, .int x2), (3, .int x3)]) hx hb dX12_run_75 hl (k := 5) rfl rfl (by decide) rfl (fun ls hl => ?_)
              refine lv_goto (tgt := 54) hx hb dX12_run_78 (by decide) ?_
              obtain rfl := Option.some.inj hf
              exact hB _ rfl H locs ls hP hS (lv_sub hl [2, 3, 4, 5, 1, 0] rfl)
          · obtain ⟨w4_15, mm_16⟩ := q_17
            dsimp only at hf
            intro H locs ls hP hS hl
            refine lv_iload hx hb dX12_run_81 (lv_at hl 0 rfl) ?_
            obtain ⟨rfl, rfl⟩ := Prod.mk.inj (Option.some.inj hf)
            exact wd_iret X hP hS hr0 dX12_run_83 ⟨rfl, rfl⟩
        · have hf := itT hf c_6
          refine lv_iconst (v := -1) hx hb dX12_run_41 (by decide) ?_
          obtain ⟨rfl, rfl⟩ := Prod.mk.inj (Option.some.inj hf)
          exact wd_iret X hP hS hr0 dX12_run_42 ⟨rfl, rfl⟩

noncomputable def f_X12_carryRow_j42 (a : Nat) (n : Nat) (mm : Mm) (y2 : Int32) : Option ((Int32 × Mm) ⊕ (Mm)) :=
  vlet (wI mm 1088 71 ((mm.1 1088 71) + (1 : Int32))) fun mm_1 => some (.inl ((y2 + 1), mm_1))
noncomputable def f_X12_carryRow_s2 (a : Nat) (n : Nat) : (Int32 × Mm) → Option ((Int32 × Mm) ⊕ (Mm)) :=
  fun q => match q with
  | (y2, mm) =>
    if (Int32.ofNat n) ≤ y2 then
      some (.inr mm)
    else
      if (mm.1 1088 72) = 0 then
        if y2 < 0 ∨ n ≤ y2.toNatClampNeg then none else
          if (mm.1 1088 71) < 0 ∨ 9500 ≤ (mm.1 1088 71).toNatClampNeg then none else
            vlet (wI mm 1139 (mm.1 1088 71).toNatClampNeg (mm.1 a y2.toNatClampNeg)) fun mm_6 => f_X12_carryRow_j42 a n mm_6 y2
      else
        if (mm.1 1088 71) < 0 ∨ 9500 ≤ (mm.1 1088 71).toNatClampNeg then none else
          if y2 < 0 ∨ n ≤ y2.toNatClampNeg then none else
            vlet (wI mm a y2.toNatClampNeg (mm.1 1139 (mm.1 1088 71).toNatClampNeg)) fun mm_9 => f_X12_carryRow_j42 a n mm_9 y2
noncomputable def f_X12_carryRow (mm : Mm) (a : Nat) (n : Nat) : Option (Mm) :=
  bi1 (lp (f_X12_carryRow_s2 a n) ((0 : Int32), mm)) fun mm_12 =>
    some mm_12
set_option maxHeartbeats 4000000 in
set_option maxRecDepth 100000 in
theorem c_X12_carryRow (l : Launch) (D : va_G) (dA : Nat → ClassId) (zz : (Nat → Nat) × (Nat → Nat)) (bs : Nat) (mm : Mm) (a : Nat) (n : Nat) (ha : LY[a]? = some (.inr (0, n, ng))) (m1 : Mm) (hf : f_X12_carryRow mm a n = some m1) : Mw l D dA zz bs LY yX12_carryRow cX12_carryRow 3 none 0 0 [.ref (bs + 1088), .ref (bs + a)] mm none m1 := by
  refine Mw.of (own := RX12) (by decide) rfl (Nat.le_of_ble_eq_true rfl) ?_
  intro p e s m args below meth c X hr0 hP hS ls hl
  have hx := X.1
  have hb := X.2.1
  obtain ⟨H, hH⟩ : ∃ z : Heap, z = s.heap := ⟨_, rfl⟩
  obtain ⟨locs, hL⟩ : ∃ z : List Loc, z = [] := ⟨_, rfl⟩
  rw [← hH, ← hL]
  have hS : va_S (Aq bs) s.heap H locs := by rw [hH, hL]; exact hS
  have hP : Wd D dA bs LY mm H := by rw [hH]; exact hP
  have hl : lv_has ls 3 [(0, .ref (bs + 1088)), (1, .ref (bs + a))] := hl
  unfold f_X12_carryRow at hf
  refine lv_iconst (v := 0) hx hb dX12_carryRow_0 (by decide) ?_
  refine lv_istore_n (lv' := [(2, .int (0 : Int32)), (0, .ref (bs + 1088)), (1, .ref (bs + a))]) hx hb dX12_carryRow_1 rfl hl (by decide) rfl (fun ls hl => ?_)
  obtain ⟨q_13, hlp_14, hf⟩ := bi1S hf
  refine lp_walk (Wh := (fun z => match z with | (y2L_11, mmL_11) => ∀ (H : Heap) (locs : List Loc) (ls : Array Slot), Wd D dA bs LY mmL_11 H → va_S (Aq bs) s.heap H locs → lv_has ls 3 [(0, .ref (bs + 1088)), (1, .ref (bs + a)), (2, .int y2L_11)] → Wz p l e s m args below meth c D dA bs none m1 0 0 H locs 2 ls [])) (Ph := (fun mm_12 => ∀ (H : Heap) (locs : List Loc) (ls : Array Slot), Wd D dA bs LY mm_12 H → va_S (Aq bs) s.heap H locs → lv_has ls 3 [] → Wz p l e s m args below meth c D dA bs none m1 0 0 H locs 58 ls [])) ?_ hlp_14 ?_ H locs ls hP hS (lv_sub hl [1, 2, 0] rfl)
  · intro z o hf hB hE
    obtain ⟨y2L_11, mmL_11⟩ := z
    intro H locs ls hP hS hl
    have hf : f_X12_carryRow_s2 a n (y2L_11, mmL_11) = some o := hf
    unfold f_X12_carryRow_s2 at hf
    dsimp only at hf
    have hJ42 : ∀ (mmJ_2 : Mm) (y2J_2 : Int32) (H : Heap) (locs : List Loc) (ls : Array Slot), f_X12_carryRow_j42 a n mmJ_2 y2J_2 = some o → Wd D dA bs LY mmJ_2 H → va_S (Aq bs) s.heap H locs → lv_has ls 3 [(0, .ref (bs + 1088)), (1, .ref (bs + a)), (2, .int y2J_2)] → Wz p l e s m args below meth c D dA bs none m1 0 0 H locs 42 ls [] := by
      intro mmJ_2 y2J_2 H locs ls hf hP hS hl
      unfold f_X12_carryRow_j42 at hf
      refine lv_aload_n hx hb dX12_carryRow_42 rfl (lv_at hl 0 rfl) ?_
      refine lv_dup hx hb dX12_carryRow_43 rfl ?_
      refine wd_getI X hP L1088 fl_X12_612 rfl dX12_carryRow_44 ?_
      refine lv_iconst (v := 1) hx hb dX12_carryRow_47 (by decide) ?_
      refine lv_iadd hx hb dX12_carryRow_48 ?_
      refine wd_putI X hP hS L1088 fp_X12_612 rfl dX12_carryRow_49 (fun H locs mm_1 emm_1 hP hS => ?_)
      have hf := vl hf emm_1
      refine lv_iinc (v := (y2J_2 + 1)) (lv' := [(2, .int (y2J_2 + 1)), (0, .ref (bs + 1088)), (1, .ref (bs + a))]) hx hb dX12_carryRow_52 hl (k := 2) rfl rfl (by decide) rfl (fun ls hl => ?_)
      refine lv_goto (tgt := 2) hx hb dX12_carryRow_55 (by decide) ?_
      obtain rfl := Option.some.inj hf
      exact hB _ rfl H locs ls hP hS (lv_sub hl [1, 2, 0] rfl)
    refine lv_iload_n hx hb dX12_carryRow_2 rfl (lv_at hl 2 rfl) ?_
    refine lv_aload_n hx hb dX12_carryRow_3 rfl (lv_at hl 1 rfl) ?_
    refine wd_alen X hP ha rfl rfl dX12_carryRow_4 ?_
    refine lv_icmp_ge (tgt := 58) hx hb dX12_carryRow_5 (by decide) (fun c_3 => ?_) (fun c_3 => ?_)
    · have hf := itT hf c_3
      obtain rfl := Option.some.inj hf
      exact hE _ rfl H locs ls hP hS (lv_sub hl [] rfl)
    · have hf := itF hf c_3
      refine lv_aload_n hx hb dX12_carryRow_8 rfl (lv_at hl 0 rfl) ?_
      refine wd_getI X hP L1088 fl_X12_609 rfl dX12_carryRow_9 ?_
      refine lv_if_eq (tgt := 30) hx hb dX12_carryRow_12 (by decide) (fun c_4 => ?_) (fun c_4 => ?_)
      · have hf := itT hf c_4
        refine lv_aload_n hx hb dX12_carryRow_30 rfl (lv_at hl 0 rfl) ?_
        refine wd_getR (q := 1139) X hP L1088 fl_X12_167 rfl dX12_carryRow_31 ?_
        refine lv_aload_n hx hb dX12_carryRow_34 rfl (lv_at hl 0 rfl) ?_
        refine wd_getI X hP L1088 fl_X12_612 rfl dX12_carryRow_35 ?_
        refine lv_aload_n hx hb dX12_carryRow_38 rfl (lv_at hl 1 rfl) ?_
        refine lv_iload_n hx hb dX12_carryRow_39 rfl (lv_at hl 2 rfl) ?_
        have g_5 := gdN hf
        have hf := gdK hf
        refine wd_iald X hP ha g_5 dX12_carryRow_40 ?_
        have g_7 := gdN hf
        have hf := gdK hf
        refine wd_iast X hP hS L1139 g_7 dX12_carryRow_41 (fun H locs mm_6 emm_6 hP hS => ?_)
        have hf := vl hf emm_6
        exact hJ42 mm_6 y2L_11 H locs ls hf hP hS (lv_sub hl [0, 1, 2] rfl)
      · have hf := itF hf c_4
        refine lv_aload_n hx hb dX12_carryRow_15 rfl (lv_at hl 1 rfl) ?_
        refine lv_iload_n hx hb dX12_carryRow_16 rfl (lv_at hl 2 rfl) ?_
        refine lv_aload_n hx hb dX12_carryRow_17 rfl (lv_at hl 0 rfl) ?_
        refine wd_getR (q := 1139) X hP L1088 fl_X12_167 rfl dX12_carryRow_18 ?_
        refine lv_aload_n hx hb dX12_carryRow_21 rfl (lv_at hl 0 rfl) ?_
        refine wd_getI X hP L1088 fl_X12_612 rfl dX12_carryRow_22 ?_
        have g_8 := gdN hf
        have hf := gdK hf
        refine wd_iald X hP L1139 g_8 dX12_carryRow_25 ?_
        have g_10 := gdN hf
        have hf := gdK hf
        refine wd_iast X hP hS ha g_10 dX12_carryRow_26 (fun H locs mm_9 emm_9 hP hS => ?_)
        have hf := vl hf emm_9
        refine lv_goto (tgt := 42) hx hb dX12_carryRow_27 (by decide) ?_
        exact hJ42 mm_9 y2L_11 H locs ls hf hP hS (lv_sub hl [0, 1, 2] rfl)
  · obtain ⟨mm_12, e_mm_12⟩ : ∃ z, z = q_13 := ⟨_, rfl⟩
    subst e_mm_12
    intro H locs ls hP hS hl
    obtain rfl := Option.some.inj hf
    exact wd_vret X hP hS hr0 dX12_carryRow_58 ⟨rfl, rfl⟩

noncomputable def f_X12_carriesAll (mm : Mm) (x1 : Int32) (x2 : Int32) : Option (Mm) :=
  vlet (wI mm 1088 71 ((1900 : Int32) * x1)) fun mm_1 =>
    if ¬ x2 = 0 ∧ ¬ x2 = 1 then none else
      vlet (wI mm_1 1088 72 x2) fun mm_2 =>
        vlet (wI mm_2 1130 0 (mm_2.1 1088 55)) fun mm_4 =>
          bi1 (f_X12_carryRow mm_4 1130 1) fun mm_5 =>
            vlet (wI mm_5 1088 55 (mm_5.1 1130 0)) fun mm_7 =>
              bi1 (f_X12_carryRow mm_7 1089 9) fun mm_8 =>
                bi1 (f_X12_carryRow mm_8 1090 6) fun mm_10 =>
                  bi1 (f_X12_carryRow mm_10 1091 6) fun mm_12 =>
                    bi1 (f_X12_carryRow mm_12 1092 6) fun mm_14 =>
                      bi1 (f_X12_carryRow mm_14 1093 8) fun mm_16 =>
                        bi1 (f_X12_carryRow mm_16 1094 8) fun mm_18 =>
                          bi1 (f_X12_carryRow mm_18 1095 8) fun mm_20 =>
                            bi1 (f_X12_carryRow mm_20 1096 8) fun mm_22 =>
                              bi1 (f_X12_carryRow mm_22 1097 8) fun mm_24 =>
                                bi1 (f_X12_carryRow mm_24 1098 8) fun mm_26 =>
                                  bi1 (f_X12_carryRow mm_26 1099 12) fun mm_28 =>
                                    bi1 (f_X12_carryRow mm_28 1100 12) fun mm_30 =>
                                      bi1 (f_X12_carryRow mm_30 1101 12) fun mm_32 =>
                                        bi1 (f_X12_carryRow mm_32 1102 6) fun mm_34 =>
                                          bi1 (f_X12_carryRow mm_34 1103 6) fun mm_36 =>
                                            bi1 (f_X12_carryRow mm_36 1104 6) fun mm_38 =>
                                              bi1 (f_X12_carryRow mm_38 1105 6) fun mm_40 =>
                                                bi1 (f_X12_carryRow mm_40 1106 6) fun mm_42 =>
                                                  bi1 (f_X12_carryRow mm_42 1129 1540) fun mm_44 => some mm_44
set_option maxHeartbeats 4000000 in
set_option maxRecDepth 100000 in
theorem c_X12_carriesAll (l : Launch) (D : va_G) (dA : Nat → ClassId) (zz : (Nat → Nat) × (Nat → Nat)) (bs : Nat) (mm : Mm) (x1 : Int32) (x2 : Int32) (m1 : Mm) (hf : f_X12_carriesAll mm x1 x2 = some m1) : Mw l D dA zz bs LY yX12_carriesAll cX12_carriesAll 3 none 1 22 [.ref (bs + 1088), .int x1, .int x2] mm none m1 := by
  refine Mw.of (own := RX12) (by decide) rfl (Nat.le_of_ble_eq_true rfl) ?_
  intro p e s m args below meth c X hr0 hP hS ls hl
  have hx := X.1
  have hb := X.2.1
  obtain ⟨H, hH⟩ : ∃ z : Heap, z = s.heap := ⟨_, rfl⟩
  obtain ⟨locs, hL⟩ : ∃ z : List Loc, z = [] := ⟨_, rfl⟩
  rw [← hH, ← hL]
  have hS : va_S (Aq bs) s.heap H locs := by rw [hH, hL]; exact hS
  have hP : Wd D dA bs LY mm H := by rw [hH]; exact hP
  have hl : lv_has ls 3 [(0, .ref (bs + 1088)), (1, .int x1), (2, .int x2)] := hl
  unfold f_X12_carriesAll at hf
  refine lv_aload_n hx hb dX12_carriesAll_0 rfl (lv_at hl 0 rfl) ?_
  refine lv_sipush (v := 1900) hx hb dX12_carriesAll_1 (by decide) ?_
  refine lv_iload_n hx hb dX12_carriesAll_4 rfl (lv_at hl 1 rfl) ?_
  refine lv_imul hx hb dX12_carriesAll_5 ?_
  refine wd_putI X hP hS L1088 fp_X12_612 rfl dX12_carriesAll_6 (fun H locs mm_1 emm_1 hP hS => ?_)
  have hf := vl hf emm_1
  refine lv_aload_n hx hb dX12_carriesAll_9 rfl (lv_at hl 0 rfl) ?_
  refine lv_iload_n hx hb dX12_carriesAll_10 rfl (lv_at hl 2 rfl) ?_
  have g_3 := gdN hf
  have hf := gdK hf
  refine wd_putZ X hP hS L1088 fp_X12_609 rfl g_3 dX12_carriesAll_11 (fun H locs mm_2 emm_2 hP hS => ?_)
  have hf := vl hf emm_2
  refine lv_aload_n hx hb dX12_carriesAll_14 rfl (lv_at hl 0 rfl) ?_
  refine wd_getR (q := 1130) X hP L1088 fl_X12_139 rfl dX12_carriesAll_15 ?_
  refine lv_iconst (v := 0) hx hb dX12_carriesAll_18 (by decide) ?_
  refine lv_aload_n hx hb dX12_carriesAll_19 rfl (lv_at hl 0 rfl) ?_
  refine wd_getI X hP L1088 fl_X12_359 rfl dX12_carriesAll_20 ?_
  refine wd_iastK (k := 0) X hP hS L1130 (by decide) (by decide) dX12_carriesAll_23 (fun H locs mm_4 emm_4 hP hS => ?_)
  have hf := vl hf emm_4
  refine lv_aload_n hx hb dX12_carriesAll_24 rfl (lv_at hl 0 rfl) ?_
  refine lv_aload_n hx hb dX12_carriesAll_25 rfl (lv_at hl 0 rfl) ?_
  refine wd_getR (q := 1130) X hP L1088 fl_X12_139 rfl dX12_carriesAll_26 ?_
  obtain ⟨mm_5, hc_6, hf⟩ := bi1S hf
  refine wd_cv X hP hS L1088 ml_X12_615 ⟨_, _, rfl⟩ (c_X12_carryRow l D dA zz bs mm_4 1130 1 L1130 mm_5 hc_6) rfl ⟨Nat.le_of_ble_eq_true rfl, Nat.le_of_ble_eq_true rfl⟩ hl.1 rfl (rest := []) (Nat.le_of_ble_eq_true rfl) ⟨Nat.zero_le _, Nat.zero_le _⟩ dX12_carriesAll_29 (fun H locs hP hS => ?_)
  refine W.eq (g2 := F0 m 32 ls []) rfl ?_
  refine lv_aload_n hx hb dX12_carriesAll_32 rfl (lv_at hl 0 rfl) ?_
  refine lv_aload_n hx hb dX12_carriesAll_33 rfl (lv_at hl 0 rfl) ?_
  refine wd_getR (q := 1130) X hP L1088 fl_X12_139 rfl dX12_carriesAll_34 ?_
  refine lv_iconst (v := 0) hx hb dX12_carriesAll_37 (by decide) ?_
  refine wd_ialdK (k := 0) X hP L1130 (by decide) (by decide) dX12_carriesAll_38 ?_
  refine wd_putI X hP hS L1088 fp_X12_359 rfl dX12_carriesAll_39 (fun H locs mm_7 emm_7 hP hS => ?_)
  have hf := vl hf emm_7
  refine lv_aload_n hx hb dX12_carriesAll_42 rfl (lv_at hl 0 rfl) ?_
  refine lv_aload_n hx hb dX12_carriesAll_43 rfl (lv_at hl 0 rfl) ?_
  refine wd_getR (q := 1089) X hP L1088 fl_X12_9 rfl dX12_carriesAll_44 ?_
  obtain ⟨mm_8, hc_9, hf⟩ := bi1S hf
  refine wd_cv X hP hS L1088 ml_X12_615 ⟨_, _, rfl⟩ (c_X12_carryRow l D dA zz bs mm_7 1089 9 L1089 mm_8 hc_9) rfl ⟨Nat.le_of_ble_eq_true rfl, Nat.le_of_ble_eq_true rfl⟩ hl.1 rfl (rest := []) (Nat.le_of_ble_eq_true rfl) ⟨Nat.zero_le _, Nat.zero_le _⟩ dX12_carriesAll_47 (fun H locs hP hS => ?_)
  refine W.eq (g2 := F0 m 50 ls []) rfl ?_
  refine lv_aload_n hx hb dX12_carriesAll_50 rfl (lv_at hl 0 rfl) ?_
  refine lv_aload_n hx hb dX12_carriesAll_51 rfl (lv_at hl 0 rfl) ?_
  refine wd_getR (q := 1090) X hP L1088 fl_X12_13 rfl dX12_carriesAll_52 ?_
  obtain ⟨mm_10, hc_11, hf⟩ := bi1S hf
  refine wd_cv X hP hS L1088 ml_X12_615 ⟨_, _, rfl⟩ (c_X12_carryRow l D dA zz bs mm_8 1090 6 L1090 mm_10 hc_11) rfl ⟨Nat.le_of_ble_eq_true rfl, Nat.le_of_ble_eq_true rfl⟩ hl.1 rfl (rest := []) (Nat.le_of_ble_eq_true rfl) ⟨Nat.zero_le _, Nat.zero_le _⟩ dX12_carriesAll_55 (fun H locs hP hS => ?_)
  refine W.eq (g2 := F0 m 58 ls []) rfl ?_
  refine lv_aload_n hx hb dX12_carriesAll_58 rfl (lv_at hl 0 rfl) ?_
  refine lv_aload_n hx hb dX12_carriesAll_59 rfl (lv_at hl 0 rfl) ?_
  refine wd_getR (q := 1091) X hP L1088 fl_X12_16 rfl dX12_carriesAll_60 ?_
  obtain ⟨mm_12, hc_13, hf⟩ := bi1S hf
  refine wd_cv X hP hS L1088 ml_X12_615 ⟨_, _, rfl⟩ (c_X12_carryRow l D dA zz bs mm_10 1091 6 L1091 mm_12 hc_13) rfl ⟨Nat.le_of_ble_eq_true rfl, Nat.le_of_ble_eq_true rfl⟩ hl.1 rfl (rest := []) (Nat.le_of_ble_eq_true rfl) ⟨Nat.zero_le _, Nat.zero_le _⟩ dX12_carriesAll_63 (fun H locs hP hS => ?_)
  refine W.eq (g2 := F0 m 66 ls []) rfl ?_
  refine lv_aload_n hx hb dX12_carriesAll_66 rfl (lv_at hl 0 rfl) ?_
  refine lv_aload_n hx hb dX12_carriesAll_67 rfl (lv_at hl 0 rfl) ?_
  refine wd_getR (q := 1092) X hP L1088 fl_X12_19 rfl dX12_carriesAll_68 ?_
  obtain ⟨mm_14, hc_15, hf⟩ := bi1S hf
  refine wd_cv X hP hS L1088 ml_X12_615 ⟨_, _, rfl⟩ (c_X12_carryRow l D dA zz bs mm_12 1092 6 L1092 mm_14 hc_15) rfl ⟨Nat.le_of_ble_eq_true rfl, Nat.le_of_ble_eq_true rfl⟩ hl.1 rfl (rest := []) (Nat.le_of_ble_eq_true rfl) ⟨Nat.zero_le _, Nat.zero_le _⟩ dX12_carriesAll_71 (fun H locs hP hS => ?_)
  refine W.eq (g2 := F0 m 74 ls []) rfl ?_
  refine lv_aload_n hx hb dX12_carriesAll_74 rfl (lv_at hl 0 rfl) ?_
  refine lv_aload_n hx hb dX12_carriesAll_75 rfl (lv_at hl 0 rfl) ?_
  refine wd_getR (q := 1093) X hP L1088 fl_X12_22 rfl dX12_carriesAll_76 ?_
  obtain ⟨mm_16, hc_17, hf⟩ := bi1S hf
  refine wd_cv X hP hS L1088 ml_X12_615 ⟨_, _, rfl⟩ (c_X12_carryRow l D dA zz bs mm_14 1093 8 L1093 mm_16 hc_17) rfl ⟨Nat.le_of_ble_eq_true rfl, Nat.le_of_ble_eq_true rfl⟩ hl.1 rfl (rest := []) (Nat.le_of_ble_eq_true rfl) ⟨Nat.zero_le _, Nat.zero_le _⟩ dX12_carriesAll_79 (fun H locs hP hS => ?_)
  refine W.eq (g2 := F0 m 82 ls []) rfl ?_
  refine lv_aload_n hx hb dX12_carriesAll_82 rfl (lv_at hl 0 rfl) ?_
  refine lv_aload_n hx hb dX12_carriesAll_83 rfl (lv_at hl 0 rfl) ?_
  refine wd_getR (q := 1094) X hP L1088 fl_X12_25 rfl dX12_carriesAll_84 ?_
  obtain ⟨mm_18, hc_19, hf⟩ := bi1S hf
  refine wd_cv X hP hS L1088 ml_X12_615 ⟨_, _, rfl⟩ (c_X12_carryRow l D dA zz bs mm_16 1094 8 L1094 mm_18 hc_19) rfl ⟨Nat.le_of_ble_eq_true rfl, Nat.le_of_ble_eq_true rfl⟩ hl.1 rfl (rest := []) (Nat.le_of_ble_eq_true rfl) ⟨Nat.zero_le _, Nat.zero_le _⟩ dX12_carriesAll_87 (fun H locs hP hS => ?_)
  refine W.eq (g2 := F0 m 90 ls []) rfl ?_
  refine lv_aload_n hx hb dX12_carriesAll_90 rfl (lv_at hl 0 rfl) ?_
  refine lv_aload_n hx hb dX12_carriesAll_91 rfl (lv_at hl 0 rfl) ?_
  refine wd_getR (q := 1095) X hP L1088 fl_X12_28 rfl dX12_carriesAll_92 ?_
  obtain ⟨mm_20, hc_21, hf⟩ := bi1S hf
  refine wd_cv X hP hS L1088 ml_X12_615 ⟨_, _, rfl⟩ (c_X12_carryRow l D dA zz bs mm_18 1095 8 L1095 mm_20 hc_21) rfl ⟨Nat.le_of_ble_eq_true rfl, Nat.le_of_ble_eq_true rfl⟩ hl.1 rfl (rest := []) (Nat.le_of_ble_eq_true rfl) ⟨Nat.zero_le _, Nat.zero_le _⟩ dX12_carriesAll_95 (fun H locs hP hS => ?_)
  refine W.eq (g2 := F0 m 98 ls []) rfl ?_
  refine lv_aload_n hx hb dX12_carriesAll_98 rfl (lv_at hl 0 rfl) ?_
  refine lv_aload_n hx hb dX12_carriesAll_99 rfl (lv_at hl 0 rfl) ?_
  refine wd_getR (q := 1096) X hP L1088 fl_X12_31 rfl dX12_carriesAll_100 ?_
  obtain ⟨mm_22, hc_23, hf⟩ := bi1S hf
  refine wd_cv X hP hS L1088 ml_X12_615 ⟨_, _, rfl⟩ (c_X12_carryRow l D dA zz bs mm_20 1096 8 L1096 mm_22 hc_23) rfl ⟨Nat.le_of_ble_eq_true rfl, Nat.le_of_ble_eq_true rfl⟩ hl.1 rfl (rest := []) (Nat.le_of_ble_eq_true rfl) ⟨Nat.zero_le _, Nat.zero_le _⟩ dX12_carriesAll_103 (fun H locs hP hS => ?_)
  refine W.eq (g2 := F0 m 106 ls []) rfl ?_
  refine lv_aload_n hx hb dX12_carriesAll_106 rfl (lv_at hl 0 rfl) ?_
  refine lv_aload_n hx hb dX12_carriesAll_107 rfl (lv_at hl 0 rfl) ?_
  refine wd_getR (q := 1097) X hP L1088 fl_X12_34 rfl dX12_carriesAll_108 ?_
  obtain ⟨mm_24, hc_25, hf⟩ := bi1S hf
  refine wd_cv X hP hS L1088 ml_X12_615 ⟨_, _, rfl⟩ (c_X12_carryRow l D dA zz bs mm_22 1097 8 L1097 mm_24 hc_25) rfl ⟨Nat.le_of_ble_eq_true rfl, Nat.le_of_ble_eq_true rfl⟩ hl.1 rfl (rest := []) (Nat.le_of_ble_eq_true rfl) ⟨Nat.zero_le _, Nat.zero_le _⟩ dX12_carriesAll_111 (fun H locs hP hS => ?_)
  refine W.eq (g2 := F0 m 114 ls []) rfl ?_
  refine lv_aload_n hx hb dX12_carriesAll_114 rfl (lv_at hl 0 rfl) ?_
  refine lv_aload_n hx hb dX12_carriesAll_115 rfl (lv_at hl 0 rfl) ?_
  refine wd_getR (q := 1098) X hP L1088 fl_X12_37 rfl dX12_carriesAll_116 ?_
  obtain ⟨mm_26, hc_27, hf⟩ := bi1S hf
  refine wd_cv X hP hS L1088 ml_X12_615 ⟨_, _, rfl⟩ (c_X12_carryRow l D dA zz bs mm_24 1098 8 L1098 mm_26 hc_27) rfl ⟨Nat.le_of_ble_eq_true rfl, Nat.le_of_ble_eq_true rfl⟩ hl.1 rfl (rest := []) (Nat.le_of_ble_eq_true rfl) ⟨Nat.zero_le _, Nat.zero_le _⟩ dX12_carriesAll_119 (fun H locs hP hS => ?_)
  refine W.eq (g2 := F0 m 122 ls []) rfl ?_
  refine lv_aload_n hx hb dX12_carriesAll_122 rfl (lv_at hl 0 rfl) ?_
  refine lv_aload_n hx hb dX12_carriesAll_123 rfl (lv_at hl 0 rfl) ?_
  refine wd_getR (q := 1099) X hP L1088 fl_X12_40 rfl dX12_carriesAll_124 ?_
  obtain ⟨mm_28, hc_29, hf⟩ := bi1S hf
  refine wd_cv X hP hS L1088 ml_X12_615 ⟨_, _, rfl⟩ (c_X12_carryRow l D dA zz bs mm_26 1099 12 L1099 mm_28 hc_29) rfl ⟨Nat.le_of_ble_eq_true rfl, Nat.le_of_ble_eq_true rfl⟩ hl.1 rfl (rest := []) (Nat.le_of_ble_eq_true rfl) ⟨Nat.zero_le _, Nat.zero_le _⟩ dX12_carriesAll_127 (fun H locs hP hS => ?_)
  refine W.eq (g2 := F0 m 130 ls []) rfl ?_
  refine lv_aload_n hx hb dX12_carriesAll_130 rfl (lv_at hl 0 rfl) ?_
  refine lv_aload_n hx hb dX12_carriesAll_131 rfl (lv_at hl 0 rfl) ?_
  refine wd_getR (q := 1100) X hP L1088 fl_X12_43 rfl dX12_carriesAll_132 ?_
  obtain ⟨mm_30, hc_31, hf⟩ := bi1S hf
  refine wd_cv X hP hS L1088 ml_X12_615 ⟨_, _, rfl⟩ (c_X12_carryRow l D dA zz bs mm_28 1100 12 L1100 mm_30 hc_31) rfl ⟨Nat.le_of_ble_eq_true rfl, Nat.le_of_ble_eq_true rfl⟩ hl.1 rfl (rest := []) (Nat.le_of_ble_eq_true rfl) ⟨Nat.zero_le _, Nat.zero_le _⟩ dX12_carriesAll_135 (fun H locs hP hS => ?_)
  refine W.eq (g2 := F0 m 138 ls []) rfl ?_
  refine lv_aload_n hx hb dX12_carriesAll_138 rfl (lv_at hl 0 rfl) ?_
  refine lv_aload_n hx hb dX12_carriesAll_139 rfl (lv_at hl 0 rfl) ?_
  refine wd_getR (q := 1101) X hP L1088 fl_X12_46 rfl dX12_carriesAll_140 ?_
  obtain ⟨mm_32, hc_33, hf⟩ := bi1S hf
  refine wd_cv X hP hS L1088 ml_X12_615 ⟨_, _, rfl⟩ (c_X12_carryRow l D dA zz bs mm_30 1101 12 L1101 mm_32 hc_33) rfl ⟨Nat.le_of_ble_eq_true rfl, Nat.le_of_ble_eq_true rfl⟩ hl.1 rfl (rest := []) (Nat.le_of_ble_eq_true rfl) ⟨Nat.zero_le _, Nat.zero_le _⟩ dX12_carriesAll_143 (fun H locs hP hS => ?_)
  refine W.eq (g2 := F0 m 146 ls []) rfl ?_
  refine lv_aload_n hx hb dX12_carriesAll_146 rfl (lv_at hl 0 rfl) ?_
  refine lv_aload_n hx hb dX12_carriesAll_147 rfl (lv_at hl 0 rfl) ?_
  refine wd_getR (q := 1102) X hP L1088 fl_X12_49 rfl dX12_carriesAll_148 ?_
  obtain ⟨mm_34, hc_35, hf⟩ := bi1S hf
  refine wd_cv X hP hS L1088 ml_X12_615 ⟨_, _, rfl⟩ (c_X12_carryRow l D dA zz bs mm_32 1102 6 L1102 mm_34 hc_35) rfl ⟨Nat.le_of_ble_eq_true rfl, Nat.le_of_ble_eq_true rfl⟩ hl.1 rfl (rest := []) (Nat.le_of_ble_eq_true rfl) ⟨Nat.zero_le _, Nat.zero_le _⟩ dX12_carriesAll_151 (fun H locs hP hS => ?_)
  refine W.eq (g2 := F0 m 154 ls []) rfl ?_
  refine lv_aload_n hx hb dX12_carriesAll_154 rfl (lv_at hl 0 rfl) ?_
  refine lv_aload_n hx hb dX12_carriesAll_155 rfl (lv_at hl 0 rfl) ?_
  refine wd_getR (q := 1103) X hP L1088 fl_X12_52 rfl dX12_carriesAll_156 ?_
  obtain ⟨mm_36, hc_37, hf⟩ := bi1S hf
  refine wd_cv X hP hS L1088 ml_X12_615 ⟨_, _, rfl⟩ (c_X12_carryRow l D dA zz bs mm_34 1103 6 L1103 mm_36 hc_37) rfl ⟨Nat.le_of_ble_eq_true rfl, Nat.le_of_ble_eq_true rfl⟩ hl.1 rfl (rest := []) (Nat.le_of_ble_eq_true rfl) ⟨Nat.zero_le _, Nat.zero_le _⟩ dX12_carriesAll_159 (fun H locs hP hS => ?_)
  refine W.eq (g2 := F0 m 162 ls []) rfl ?_
  refine lv_aload_n hx hb dX12_carriesAll_162 rfl (lv_at hl 0 rfl) ?_
  refine lv_aload_n hx hb dX12_carriesAll_163 rfl (lv_at hl 0 rfl) ?_
  refine wd_getR (q := 1104) X hP L1088 fl_X12_55 rfl dX12_carriesAll_164 ?_
  obtain ⟨mm_38, hc_39, hf⟩ := bi1S hf
  refine wd_cv X hP hS L1088 ml_X12_615 ⟨_, _, rfl⟩ (c_X12_carryRow l D dA zz bs mm_36 1104 6 L1104 mm_38 hc_39) rfl ⟨Nat.le_of_ble_eq_true rfl, Nat.le_of_ble_eq_true rfl⟩ hl.1 rfl (rest := []) (Nat.le_of_ble_eq_true rfl) ⟨Nat.zero_le _, Nat.zero_le _⟩ dX12_carriesAll_167 (fun H locs hP hS => ?_)
  refine W.eq (g2 := F0 m 170 ls []) rfl ?_
  refine lv_aload_n hx hb dX12_carriesAll_170 rfl (lv_at hl 0 rfl) ?_
  refine lv_aload_n hx hb dX12_carriesAll_171 rfl (lv_at hl 0 rfl) ?_
  refine wd_getR (q := 1105) X hP L1088 fl_X12_58 rfl dX12_carriesAll_172 ?_
  obtain ⟨mm_40, hc_41, hf⟩ := bi1S hf
  refine wd_cv X hP hS L1088 ml_X12_615 ⟨_, _, rfl⟩ (c_X12_carryRow l D dA zz bs mm_38 1105 6 L1105 mm_40 hc_41) rfl ⟨Nat.le_of_ble_eq_true rfl, Nat.le_of_ble_eq_true rfl⟩ hl.1 rfl (rest := []) (Nat.le_of_ble_eq_true rfl) ⟨Nat.zero_le _, Nat.zero_le _⟩ dX12_carriesAll_175 (fun H locs hP hS => ?_)
  refine W.eq (g2 := F0 m 178 ls []) rfl ?_
  refine lv_aload_n hx hb dX12_carriesAll_178 rfl (lv_at hl 0 rfl) ?_
  refine lv_aload_n hx hb dX12_carriesAll_179 rfl (lv_at hl 0 rfl) ?_
  refine wd_getR (q := 1106) X hP L1088 fl_X12_61 rfl dX12_carriesAll_180 ?_
  obtain ⟨mm_42, hc_43, hf⟩ := bi1S hf
  refine wd_cv X hP hS L1088 ml_X12_615 ⟨_, _, rfl⟩ (c_X12_carryRow l D dA zz bs mm_40 1106 6 L1106 mm_42 hc_43) rfl ⟨Nat.le_of_ble_eq_true rfl, Nat.le_of_ble_eq_true rfl⟩ hl.1 rfl (rest := []) (Nat.le_of_ble_eq_true rfl) ⟨Nat.zero_le _, Nat.zero_le _⟩ dX12_carriesAll_183 (fun H locs hP hS => ?_)
  refine W.eq (g2 := F0 m 186 ls []) rfl ?_
  refine lv_aload_n hx hb dX12_carriesAll_186 rfl (lv_at hl 0 rfl) ?_
  refine lv_aload_n hx hb dX12_carriesAll_187 rfl (lv_at hl 0 rfl) ?_
  refine wd_getR (q := 1129) X hP L1088 fl_X12_136 rfl dX12_carriesAll_188 ?_
  obtain ⟨mm_44, hc_45, hf⟩ := bi1S hf
  refine wd_cv X hP hS L1088 ml_X12_615 ⟨_, _, rfl⟩ (c_X12_carryRow l D dA zz bs mm_42 1129 1540 L1129 mm_44 hc_45) rfl ⟨Nat.le_of_ble_eq_true rfl, Nat.le_of_ble_eq_true rfl⟩ hl.1 rfl (rest := []) (Nat.le_of_ble_eq_true rfl) ⟨Nat.zero_le _, Nat.zero_le _⟩ dX12_carriesAll_191 (fun H locs hP hS => ?_)
  refine W.eq (g2 := F0 m 194 ls []) rfl ?_
  obtain rfl := Option.some.inj hf
  exact wd_vret X hP hS hr0 dX12_carriesAll_194 ⟨rfl, rfl⟩

noncomputable def f_X12_keepsAll (mm : Mm) : Option (Mm) :=
  bi1 (f_X12_carriesAll mm (4 : Int32) (0 : Int32)) fun mm_1 => some mm_1
set_option maxHeartbeats 4000000 in
set_option maxRecDepth 100000 in
theorem c_X12_keepsAll (l : Launch) (D : va_G) (dA : Nat → ClassId) (zz : (Nat → Nat) × (Nat → Nat)) (bs : Nat) (mm : Mm) (m1 : Mm) (hf : f_X12_keepsAll mm = some m1) : Mw l D dA zz bs LY yX12_keepsAll cX12_keepsAll 1 none 2 44 [.ref (bs + 1088)] mm none m1 := by
  refine Mw.of (own := RX12) (by decide) rfl (Nat.le_of_ble_eq_true rfl) ?_
  intro p e s m args below meth c X hr0 hP hS ls hl
  have hx := X.1
  have hb := X.2.1
  obtain ⟨H, hH⟩ : ∃ z : Heap, z = s.heap := ⟨_, rfl⟩
  obtain ⟨locs, hL⟩ : ∃ z : List Loc, z = [] := ⟨_, rfl⟩
  rw [← hH, ← hL]
  have hS : va_S (Aq bs) s.heap H locs := by rw [hH, hL]; exact hS
  have hP : Wd D dA bs LY mm H := by rw [hH]; exact hP
  have hl : lv_has ls 1 [(0, .ref (bs + 1088))] := hl
  unfold f_X12_keepsAll at hf
  refine lv_aload_n hx hb dX12_keepsAll_0 rfl (lv_at hl 0 rfl) ?_
  refine lv_iconst (v := 4) hx hb dX12_keepsAll_1 (by decide) ?_
  refine lv_iconst (v := 0) hx hb dX12_keepsAll_2 (by decide) ?_
  obtain ⟨mm_1, hc_2, hf⟩ := bi1S hf
  refine wd_cv X hP hS L1088 ml_X12_516 ⟨_, _, rfl⟩ (c_X12_carriesAll l D dA zz bs mm (4 : Int32) (0 : Int32) mm_1 hc_2) rfl ⟨Nat.le_of_ble_eq_true rfl, Nat.le_of_ble_eq_true rfl⟩ hl.1 rfl (rest := []) (Nat.le_of_ble_eq_true rfl) ⟨Nat.zero_le _, Nat.zero_le _⟩ dX12_keepsAll_3 (fun H locs hP hS => ?_)
  refine W.eq (g2 := F0 m 6 ls []) rfl ?_
  obtain rfl := Option.some.inj hf
  exact wd_vret X hP hS hr0 dX12_keepsAll_6 ⟨rfl, rfl⟩

noncomputable def f_X12_laysBack (mm : Mm) : Option (Mm) :=
  bi1 (f_X12_carriesAll mm (4 : Int32) (1 : Int32)) fun mm_1 => some mm_1
set_option maxHeartbeats 4000000 in
set_option maxRecDepth 100000 in
theorem c_X12_laysBack (l : Launch) (D : va_G) (dA : Nat → ClassId) (zz : (Nat → Nat) × (Nat → Nat)) (bs : Nat) (mm : Mm) (m1 : Mm) (hf : f_X12_laysBack mm = some m1) : Mw l D dA zz bs LY yX12_laysBack cX12_laysBack 1 none 2 44 [.ref (bs + 1088)] mm none m1 := by
  refine Mw.of (own := RX12) (by decide) rfl (Nat.le_of_ble_eq_true rfl) ?_
  intro p e s m args below meth c X hr0 hP hS ls hl
  have hx := X.1
  have hb := X.2.1
  obtain ⟨H, hH⟩ : ∃ z : Heap, z = s.heap := ⟨_, rfl⟩
  obtain ⟨locs, hL⟩ : ∃ z : List Loc, z = [] := ⟨_, rfl⟩
  rw [← hH, ← hL]
  have hS : va_S (Aq bs) s.heap H locs := by rw [hH, hL]; exact hS
  have hP : Wd D dA bs LY mm H := by rw [hH]; exact hP
  have hl : lv_has ls 1 [(0, .ref (bs + 1088))] := hl
  unfold f_X12_laysBack at hf
  refine lv_aload_n hx hb dX12_laysBack_0 rfl (lv_at hl 0 rfl) ?_
  refine lv_iconst (v := 4) hx hb dX12_laysBack_1 (by decide) ?_
  refine lv_iconst (v := 1) hx hb dX12_laysBack_2 (by decide) ?_
  obtain ⟨mm_1, hc_2, hf⟩ := bi1S hf
  refine wd_cv X hP hS L1088 ml_X12_516 ⟨_, _, rfl⟩ (c_X12_carriesAll l D dA zz bs mm (4 : Int32) (1 : Int32) mm_1 hc_2) rfl ⟨Nat.le_of_ble_eq_true rfl, Nat.le_of_ble_eq_true rfl⟩ hl.1 rfl (rest := []) (Nat.le_of_ble_eq_true rfl) ⟨Nat.zero_le _, Nat.zero_le _⟩ dX12_laysBack_3 (fun H locs hP hS => ?_)
  refine W.eq (g2 := F0 m 6 ls []) rfl ?_
  obtain rfl := Option.some.inj hf
  exact wd_vret X hP hS hr0 dX12_laysBack_6 ⟨rfl, rfl⟩

noncomputable def f_X12_thingsAt_j32 (mm : Mm) (y1 : Int32) (y3 : Int32) (z0 : Int32) (z1 : Int32) : Option ((Int32 × Int32) ⊕ (Int32)) :=
  some (.inl ((z1 ||| z0), (y3 + 1)))
noncomputable def f_X12_thingsAt_s4 (mm : Mm) (y1 : Int32) : (Int32 × Int32) → Option ((Int32 × Int32) ⊕ (Int32)) :=
  fun q => match q with
  | (y2, y3) =>
    if (mm.1 1089 3) ≤ y3 then
      some (.inr y2)
    else
      if y3 < 0 ∨ 8 ≤ y3.toNatClampNeg then none else
        if (mm.1 1097 y3.toNatClampNeg) = y1 then
          f_X12_thingsAt_j32 mm y1 y3 ((1 : Int32) <<< (y3 &&& 31)) y2
        else
          f_X12_thingsAt_j32 mm y1 y3 (0 : Int32) y2
noncomputable def f_X12_thingsAt (mm : Mm) (x1 : Int32) : Option (Int32) :=
  bi1 (lp (f_X12_thingsAt_s4 mm x1) ((0 : Int32), (0 : Int32))) fun w2_6 =>
    some w2_6
set_option maxHeartbeats 4000000 in
set_option maxRecDepth 100000 in
theorem c_X12_thingsAt (l : Launch) (D : va_G) (dA : Nat → ClassId) (zz : (Nat → Nat) × (Nat → Nat)) (bs : Nat) (mm : Mm) (x1 : Int32) (out : Int32) (hf : f_X12_thingsAt mm x1 = some out) : Mw l D dA zz bs LY yX12_thingsAt cX12_thingsAt 4 (some .int) 0 0 [.ref (bs + 1088), .int x1] mm (some (.int out)) mm := by
  refine Mw.of (own := RX12) (by decide) rfl (Nat.le_of_ble_eq_true rfl) ?_
  intro p e s m args below meth c X hr0 hP hS ls hl
  have hx := X.1
  have hb := X.2.1
  obtain ⟨H, hH⟩ : ∃ z : Heap, z = s.heap := ⟨_, rfl⟩
  obtain ⟨locs, hL⟩ : ∃ z : List Loc, z = [] := ⟨_, rfl⟩
  rw [← hH, ← hL]
  have hS : va_S (Aq bs) s.heap H locs := by rw [hH, hL]; exact hS
  have hP : Wd D dA bs LY mm H := by rw [hH]; exact hP
  have hl : lv_has ls 4 [(0, .ref (bs + 1088)), (1, .int x1)] := hl
  unfold f_X12_thingsAt at hf
  refine lv_iconst (v := 0) hx hb dX12_thingsAt_0 (by decide) ?_
  refine lv_istore_n (lv' := [(2, .int (0 : Int32)), (0, .ref (bs + 1088)), (1, .int x1)]) hx hb dX12_thingsAt_1 rfl hl (by decide) rfl (fun ls hl => ?_)
  refine lv_iconst (v := 0) hx hb dX12_thingsAt_2 (by decide) ?_
  refine lv_istore_n (lv' := [(3, .int (0 : Int32)), (2, .int (0 : Int32)), (0, .ref (bs + 1088)), (1, .int x1)]) hx hb dX12_thingsAt_3 rfl hl (by decide) rfl (fun ls hl => ?_)
  obtain ⟨q_7, hlp_8, hf⟩ := bi1S hf
  refine lp_walk (Wh := (fun z => match z with | (y2L_5, y3L_5) => ∀ (H : Heap) (locs : List Loc) (ls : Array Slot), Wd D dA bs LY mm H → va_S (Aq bs) s.heap H locs → lv_has ls 4 [(0, .ref (bs + 1088)), (1, .int x1), (2, .int y2L_5), (3, .int y3L_5)] → Wz p l e s m args below meth c D dA bs (some (.int out)) mm 0 0 H locs 4 ls [])) (Ph := (fun w2_6 => ∀ (H : Heap) (locs : List Loc) (ls : Array Slot), Wd D dA bs LY mm H → va_S (Aq bs) s.heap H locs → lv_has ls 4 [(2, .int w2_6)] → Wz p l e s m args below meth c D dA bs (some (.int out)) mm 0 0 H locs 40 ls [])) ?_ hlp_8 ?_ H locs ls hP hS (lv_sub hl [2, 3, 1, 0] rfl)
  · intro z o hf hB hE
    obtain ⟨y2L_5, y3L_5⟩ := z
    intro H locs ls hP hS hl
    have hf : f_X12_thingsAt_s4 mm x1 (y2L_5, y3L_5) = some o := hf
    unfold f_X12_thingsAt_s4 at hf
    dsimp only at hf
    have hJ32 : ∀ (y3J_1 : Int32) (z0J_1 : Int32) (z1J_1 : Int32) (H : Heap) (locs : List Loc) (ls : Array Slot), f_X12_thingsAt_j32 mm x1 y3J_1 z0J_1 z1J_1 = some o → Wd D dA bs LY mm H → va_S (Aq bs) s.heap H locs → lv_has ls 4 [(0, .ref (bs + 1088)), (1, .int x1), (3, .int y3J_1)] → Wz p l e s m args below meth c D dA bs (some (.int out)) mm 0 0 H locs 32 ls [.int z0J_1, .int z1J_1] := by
      intro y3J_1 z0J_1 z1J_1 H locs ls hf hP hS hl
      unfold f_X12_thingsAt_j32 at hf
      refine lv_ior hx hb dX12_thingsAt_32 ?_
      refine lv_istore_n (lv' := [(2, .int (z1J_1 ||| z0J_1)), (0, .ref (bs + 1088)), (1, .int x1), (3, .int y3J_1)]) hx hb dX12_thingsAt_33 rfl hl (by decide) rfl (fun ls hl => ?_)
      refine lv_iinc (v := (y3J_1 + 1)) (lv' := [(3, .int (y3J_1 + 1)), (2, .int (z1J_1 ||| z0J_1)), (0, .ref (bs + 1088)), (1, .int x1)]) hx hb dX12_thingsAt_34 hl (k := 3) rfl rfl (by decide) rfl (fun ls hl => ?_)
      refine lv_goto (tgt := 4) hx hb dX12_thingsAt_37 (by decide) ?_
      obtain rfl := Option.some.inj hf
      exact hB _ rfl H locs ls hP hS (lv_sub hl [2, 3, 1, 0] rfl)
    refine lv_iload_n hx hb dX12_thingsAt_4 rfl (lv_at hl 3 rfl) ?_
    refine lv_aload_n hx hb dX12_thingsAt_5 rfl (lv_at hl 0 rfl) ?_
    refine wd_getR (q := 1089) X hP L1088 fl_X12_9 rfl dX12_thingsAt_6 ?_
    refine lv_iconst (v := 3) hx hb dX12_thingsAt_9 (by decide) ?_
    refine wd_ialdK (k := 3) X hP L1089 (by decide) (by decide) dX12_thingsAt_10 ?_
    refine lv_icmp_ge (tgt := 40) hx hb dX12_thingsAt_11 (by decide) (fun c_2 => ?_) (fun c_2 => ?_)
    · have hf := itT hf c_2
      obtain rfl := Option.some.inj hf
      exact hE _ rfl H locs ls hP hS (lv_sub hl [2] rfl)
    · have hf := itF hf c_2
      refine lv_iload_n hx hb dX12_thingsAt_14 rfl (lv_at hl 2 rfl) ?_
      refine lv_aload_n hx hb dX12_thingsAt_15 rfl (lv_at hl 0 rfl) ?_
      refine wd_getR (q := 1097) X hP L1088 fl_X12_34 rfl dX12_thingsAt_16 ?_
      refine lv_iload_n hx hb dX12_thingsAt_19 rfl (lv_at hl 3 rfl) ?_
      have g_3 := gdN hf
      have hf := gdK hf
      refine wd_iald X hP L1097 g_3 dX12_thingsAt_20 ?_
      refine lv_iload_n hx hb dX12_thingsAt_21 rfl (lv_at hl 1 rfl) ?_
      refine lv_icmp_ne (tgt := 31) hx hb dX12_thingsAt_22 (by decide) (fun c_4 => ?_) (fun c_4 => ?_)
      · have hf := itF hf c_4
        refine lv_iconst (v := 0) hx hb dX12_thingsAt_31 (by decide) ?_
        exact hJ32 y3L_5 (0 : Int32) y2L_5 H locs ls hf hP hS (lv_sub hl [0, 1, 3] rfl)
      · have hf := itT hf c_4
        refine lv_iconst (v := 1) hx hb dX12_thingsAt_25 (by decide) ?_
        refine lv_iload_n hx hb dX12_thingsAt_26 rfl (lv_at hl 3 rfl) ?_
        refine lv_ishl hx hb dX12_thingsAt_27 ?_
        refine lv_goto (tgt := 32) hx hb dX12_thingsAt_28 (by decide) ?_
        exact hJ32 y3L_5 ((1 : Int32) <<< (y3L_5 &&& 31)) y2L_5 H locs ls hf hP hS (lv_sub hl [0, 1, 3] rfl)
  · obtain ⟨w2_6, e_w2_6⟩ : ∃ z, z = q_7 := ⟨_, rfl⟩
    subst e_w2_6
    intro H locs ls hP hS hl
    refine lv_iload_n hx hb dX12_thingsAt_40 rfl (lv_at hl 0 rfl) ?_
    obtain rfl := Option.some.inj hf
    exact wd_iret X hP hS hr0 dX12_thingsAt_41 ⟨rfl, rfl⟩

noncomputable def f_X12_ahead_j111 (mm : Mm) (y2 : Int32) (y4 : Int32) (z0 : Int32) (z1 : Int32) : Option ((Int32 × Int32) ⊕ (Int32)) :=
  some (.inl ((z1 ||| z0), (y4 + 1)))
noncomputable def f_X12_ahead_s75 (mm : Mm) (y2 : Int32) : (Int32 × Int32) → Option ((Int32 × Int32) ⊕ (Int32)) :=
  fun q => match q with
  | (y3, y4) =>
    if (mm.1 1089 2) ≤ y4 then
      some (.inr y3)
    else
      if y2 = (3 : Int32) then
        if y4 < 0 ∨ 6 ≤ y4.toNatClampNeg then none else
          if (mm.1 1092 y4.toNatClampNeg) = (2 : Int32) then
            f_X12_ahead_j111 mm y2 y4 ((1 : Int32) <<< (y4 &&& 31)) y3
          else
            f_X12_ahead_j111 mm y2 y4 (0 : Int32) y3
      else
        some (.inr y3)
noncomputable def f_X12_ahead_j71 (mm : Mm) (y2 : Int32) (z0 : Int32) : Option (Int32 × Mm) :=
  bi1 (lp (f_X12_ahead_s75 mm y2) (z0, (0 : Int32))) fun w3_7 =>
    bi1 (f_X12_laysBack mm) fun mm_8 => some (w3_7, mm_8)
noncomputable def f_X12_ahead_s41 (y1 : Int32) (y2 : Int32) : (Int32 × Mm) → Option ((Int32 × Mm) ⊕ (Mm)) :=
  fun q => match q with
  | (y3, mm) =>
    if y1 ≤ y3 then
      some (.inr mm)
    else
      bi2 (f_X12_goesMile mm) fun r_21 mm_19 => some (.inl ((y3 + 1), mm_19))
noncomputable def f_X12_ahead (mm : Mm) (x1 : Int32) (x2 : Int32) : Option (Int32 × Mm) :=
  if (f_X12_isRiver mm) = 0 then
    some ((-1 : Int32), mm)
  else
    if (f_X12_in (x1.toInt64) (0 : Int64) ((f_X12_milesLeft mm).toInt64)) = 0 then
      some ((-1 : Int32), mm)
    else
      if (f_X12_in (x2.toInt64) (0 : Int64) (3 : Int64)) = 0 then
        some ((-1 : Int32), mm)
      else
        bi1 (f_X12_keepsAll mm) fun mm_16 =>
          bi1 (lp (f_X12_ahead_s41 x1 x2) ((0 : Int32), mm_16)) fun mm_23 =>
            if (3 : Int32) ≤ x2 then
              f_X12_ahead_j71 mm_23 x2 (0 : Int32)
            else
              bi1 (f_X12_thingsAt mm_23 x2) fun r_26 => f_X12_ahead_j71 mm_23 x2 r_26
set_option maxHeartbeats 4000000 in
set_option maxRecDepth 100000 in
theorem c_X12_ahead (l : Launch) (D : va_G) (dA : Nat → ClassId) (zz : (Nat → Nat) × (Nat → Nat)) (bs : Nat) (mm : Mm) (x1 : Int32) (x2 : Int32) (out : Int32) (m1 : Mm) (hf : f_X12_ahead mm x1 x2 = some (out, m1)) : Mw l D dA zz bs LY yX12_ahead cX12_ahead 5 (some .int) 8 195 [.ref (bs + 1088), .int x1, .int x2] mm (some (.int out)) m1 := by
  refine Mw.of (own := RX12) (by decide) rfl (Nat.le_of_ble_eq_true rfl) ?_
  intro p e s m args below meth c X hr0 hP hS ls hl
  have hx := X.1
  have hb := X.2.1
  obtain ⟨H, hH⟩ : ∃ z : Heap, z = s.heap := ⟨_, rfl⟩
  obtain ⟨locs, hL⟩ : ∃ z : List Loc, z = [] := ⟨_, rfl⟩
  rw [← hH, ← hL]
  have hS : va_S (Aq bs) s.heap H locs := by rw [hH, hL]; exact hS
  have hP : Wd D dA bs LY mm H := by rw [hH]; exact hP
  have hl : lv_has ls 5 [(0, .ref (bs + 1088)), (1, .int x1), (2, .int x2)] := hl
  have hJ71 : ∀ (mmJ_12 : Mm) (y2J_12 : Int32) (z0J_12 : Int32) (H : Heap) (locs : List Loc) (ls : Array Slot), f_X12_ahead_j71 mmJ_12 y2J_12 z0J_12 = some (out, m1) → Wd D dA bs LY mmJ_12 H → va_S (Aq bs) s.heap H locs → lv_has ls 5 [(0, .ref (bs + 1088)), (2, .int y2J_12)] → Wz p l e s m args below meth c D dA bs (some (.int out)) m1 8 195 H locs 71 ls [.int z0J_12] := by
    intro mmJ_12 y2J_12 z0J_12 H locs ls hf hP hS hl
    unfold f_X12_ahead_j71 at hf
    refine lv_istore_n (lv' := [(3, .int z0J_12), (0, .ref (bs + 1088)), (2, .int y2J_12)]) hx hb dX12_ahead_71 rfl hl (by decide) rfl (fun ls hl => ?_)
    refine lv_iconst (v := 0) hx hb dX12_ahead_72 (by decide) ?_
    refine lv_istore (lv' := [(4, .int (0 : Int32)), (3, .int z0J_12), (0, .ref (bs + 1088)), (2, .int y2J_12)]) hx hb dX12_ahead_73 hl (by decide) rfl (fun ls hl => ?_)
    obtain ⟨q_10, hlp_11, hf⟩ := bi1S hf
    refine lp_walk (Wh := (fun z => match z with | (y3L_6, y4L_6) => ∀ (H : Heap) (locs : List Loc) (ls : Array Slot), Wd D dA bs LY mmJ_12 H → va_S (Aq bs) s.heap H locs → lv_has ls 5 [(0, .ref (bs + 1088)), (2, .int y2J_12), (3, .int y3L_6), (4, .int y4L_6)] → Wz p l e s m args below meth c D dA bs (some (.int out)) m1 8 195 H locs 75 ls [])) (Ph := (fun w3_7 => ∀ (H : Heap) (locs : List Loc) (ls : Array Slot), Wd D dA bs LY mmJ_12 H → va_S (Aq bs) s.heap H locs → lv_has ls 5 [(0, .ref (bs + 1088)), (3, .int w3_7)] → Wz p l e s m args below meth c D dA bs (some (.int out)) m1 8 195 H locs 119 ls [])) ?_ hlp_11 ?_ H locs ls hP hS (lv_sub hl [2, 3, 1, 0] rfl)
    · intro z o hf hB hE
      obtain ⟨y3L_6, y4L_6⟩ := z
      intro H locs ls hP hS hl
      have hf : f_X12_ahead_s75 mmJ_12 y2J_12 (y3L_6, y4L_6) = some o := hf
      unfold f_X12_ahead_s75 at hf
      dsimp only at hf
      have hJ111 : ∀ (y4J_1 : Int32) (z0J_1 : Int32) (z1J_1 : Int32) (H : Heap) (locs : List Loc) (ls : Array Slot), f_X12_ahead_j111 mmJ_12 y2J_12 y4J_1 z0J_1 z1J_1 = some o → Wd D dA bs LY mmJ_12 H → va_S (Aq bs) s.heap H locs → lv_has ls 5 [(0, .ref (bs + 1088)), (2, .int y2J_12), (4, .int y4J_1)] → Wz p l e s m args below meth c D dA bs (some (.int out)) m1 8 195 H locs 111 ls [.int z0J_1, .int z1J_1] := by
        intro y4J_1 z0J_1 z1J_1 H locs ls hf hP hS hl
        unfold f_X12_ahead_j111 at hf
        refine lv_ior hx hb dX12_ahead_111 ?_
        refine lv_istore_n (lv' := [(3, .int (z1J_1 ||| z0J_1)), (0, .ref (bs + 1088)), (2, .int y2J_12), (4, .int y4J_1)]) hx hb dX12_ahead_112 rfl hl (by decide) rfl (fun ls hl => ?_)
        refine lv_iinc (v := (y4J_1 + 1)) (lv' := [(4, .int (y4J_1 + 1)), (3, .int (z1J_1 ||| z0J_1)), (0, .ref (bs + 1088)), (2, .int y2J_12)]) hx hb dX12_ahead_113 hl (k := 3) rfl rfl (by decide) rfl (fun ls hl => ?_)
        refine lv_goto (tgt := 75) hx hb dX12_ahead_116 (by decide) ?_
        obtain rfl := Option.some.inj hf
        exact hB _ rfl H locs ls hP hS (lv_sub hl [2, 3, 1, 0] rfl)
      refine lv_iload hx hb dX12_ahead_75 (lv_at hl 3 rfl) ?_
      refine lv_aload_n hx hb dX12_ahead_77 rfl (lv_at hl 0 rfl) ?_
      refine wd_getR (q := 1089) X hP L1088 fl_X12_9 rfl dX12_ahead_78 ?_
      refine lv_iconst (v := 2) hx hb dX12_ahead_81 (by decide) ?_
      refine wd_ialdK (k := 2) X hP L1089 (by decide) (by decide) dX12_ahead_82 ?_
      refine lv_icmp_ge (tgt := 119) hx hb dX12_ahead_83 (by decide) (fun c_2 => ?_) (fun c_2 => ?_)
      · have hf := itT hf c_2
        obtain rfl := Option.some.inj hf
        exact hE _ rfl H locs ls hP hS (lv_sub hl [0, 2] rfl)
      · have hf := itF hf c_2
        refine lv_iload_n hx hb dX12_ahead_86 rfl (lv_at hl 1 rfl) ?_
        refine lv_iconst (v := 3) hx hb dX12_ahead_87 (by decide) ?_
        refine lv_icmp_ne (tgt := 119) hx hb dX12_ahead_88 (by decide) (fun c_3 => ?_) (fun c_3 => ?_)
        · have hf := itF hf c_3
          obtain rfl := Option.some.inj hf
          exact hE _ rfl H locs ls hP hS (lv_sub hl [0, 2] rfl)
        · have hf := itT hf c_3
          refine lv_iload_n hx hb dX12_ahead_91 rfl (lv_at hl 2 rfl) ?_
          refine lv_aload_n hx hb dX12_ahead_92 rfl (lv_at hl 0 rfl) ?_
          refine wd_getR (q := 1092) X hP L1088 fl_X12_19 rfl dX12_ahead_93 ?_
          refine lv_iload hx hb dX12_ahead_96 (lv_at hl 3 rfl) ?_
          have g_4 := gdN hf
          have hf := gdK hf
          refine wd_iald X hP L1092 g_4 dX12_ahead_98 ?_
          refine lv_iconst (v := 2) hx hb dX12_ahead_99 (by decide) ?_
          refine lv_icmp_ne (tgt := 110) hx hb dX12_ahead_100 (by decide) (fun c_5 => ?_) (fun c_5 => ?_)
          · have hf := itF hf c_5
            refine lv_iconst (v := 0) hx hb dX12_ahead_110 (by decide) ?_
            exact hJ111 y4L_6 (0 : Int32) y3L_6 H locs ls hf hP hS (lv_sub hl [0, 1, 3] rfl)
          · have hf := itT hf c_5
            refine lv_iconst (v := 1) hx hb dX12_ahead_103 (by decide) ?_
            refine lv_iload hx hb dX12_ahead_104 (lv_at hl 3 rfl) ?_
            refine lv_ishl hx hb dX12_ahead_106 ?_
            refine lv_goto (tgt := 111) hx hb dX12_ahead_107 (by decide) ?_
            exact hJ111 y4L_6 ((1 : Int32) <<< (y4L_6 &&& 31)) y3L_6 H locs ls hf hP hS (lv_sub hl [0, 1, 3] rfl)
    · obtain ⟨w3_7, e_w3_7⟩ : ∃ z, z = q_10 := ⟨_, rfl⟩
      subst e_w3_7
      intro H locs ls hP hS hl
      refine lv_aload_n hx hb dX12_ahead_119 rfl (lv_at hl 0 rfl) ?_
      obtain ⟨mm_8, hc_9, hf⟩ := bi1S hf
      refine wd_cv X hP hS L1088 ml_X12_527 ⟨_, _, rfl⟩ (c_X12_laysBack l D dA zz bs mmJ_12 mm_8 hc_9) rfl ⟨Nat.le_of_ble_eq_true rfl, Nat.le_of_ble_eq_true rfl⟩ hl.1 rfl (rest := []) (Nat.le_of_ble_eq_true rfl) ⟨Nat.zero_le _, Nat.zero_le _⟩ dX12_ahead_120 (fun H locs hP hS => ?_)
      refine W.eq (g2 := F0 m 123 ls []) rfl ?_
      refine lv_iload_n hx hb dX12_ahead_123 rfl (lv_at hl 1 rfl) ?_
      obtain ⟨rfl, rfl⟩ := Prod.mk.inj (Option.some.inj hf)
      exact wd_iret X hP hS hr0 dX12_ahead_124 ⟨rfl, rfl⟩
  unfold f_X12_ahead at hf
  refine lv_aload_n hx hb dX12_ahead_0 rfl (lv_at hl 0 rfl) ?_
  refine wd_cv X hP hS L1088 ml_X12_430 ⟨_, _, rfl⟩ (c_X12_isRiver l D dA zz bs mm (f_X12_isRiver mm) rfl) rfl ⟨Nat.le_of_ble_eq_true rfl, Nat.le_of_ble_eq_true rfl⟩ hl.1 rfl (rest := []) (Nat.le_of_ble_eq_true rfl) ⟨Nat.zero_le _, Nat.zero_le _⟩ dX12_ahead_1 (fun H locs hP hS => ?_)
  refine W.eq (g2 := F0 m 4 ls [.int (f_X12_isRiver mm)]) rfl ?_
  refine lv_if_eq (tgt := 33) hx hb dX12_ahead_4 (by decide) (fun c_13 => ?_) (fun c_13 => ?_)
  · have hf := itT hf c_13
    refine lv_iconst (v := -1) hx hb dX12_ahead_33 (by decide) ?_
    obtain ⟨rfl, rfl⟩ := Prod.mk.inj (Option.some.inj hf)
    exact wd_iret X hP hS hr0 dX12_ahead_34 ⟨rfl, rfl⟩
  · have hf := itF hf c_13
    refine lv_iload_n hx hb dX12_ahead_7 rfl (lv_at hl 1 rfl) ?_
    refine lv_i2l hx hb dX12_ahead_8 rfl ?_
    refine lv_lconst (v := 0) hx hb dX12_ahead_9 (by decide) ?_
    refine lv_aload_n hx hb dX12_ahead_10 rfl (lv_at hl 0 rfl) ?_
    refine wd_cv X hP hS L1088 ml_X12_487 ⟨_, _, rfl⟩ (c_X12_milesLeft l D dA zz bs mm (f_X12_milesLeft mm) rfl) rfl ⟨Nat.le_of_ble_eq_true rfl, Nat.le_of_ble_eq_true rfl⟩ hl.1 rfl (rest := [.long (0 : Int64), .long (x1.toInt64)]) (Nat.le_of_ble_eq_true rfl) ⟨Nat.zero_le _, Nat.zero_le _⟩ dX12_ahead_11 (fun H locs hP hS => ?_)
    refine W.eq (g2 := F0 m 14 ls [.int (f_X12_milesLeft mm), .long (0 : Int64), .long (x1.toInt64)]) rfl ?_
    refine lv_i2l hx hb dX12_ahead_14 rfl ?_
    refine wd_cs X hP hS ml_X12_176 (c_X12_in l D dA zz bs mm (x1.toInt64) (0 : Int64) ((f_X12_milesLeft mm).toInt64) (f_X12_in (x1.toInt64) (0 : Int64) ((f_X12_milesLeft mm).toInt64)) rfl) rfl ⟨Nat.le_of_ble_eq_true rfl, Nat.le_of_ble_eq_true rfl⟩ hl.1 rfl (rest := []) (Nat.le_of_ble_eq_true rfl) ⟨Nat.zero_le _, Nat.zero_le _⟩ dX12_ahead_15 (fun H locs hP hS => ?_)
    refine W.eq (g2 := F0 m 18 ls [.int (f_X12_in (x1.toInt64) (0 : Int64) ((f_X12_milesLeft mm).toInt64))]) rfl ?_
    refine lv_if_eq (tgt := 33) hx hb dX12_ahead_18 (by decide) (fun c_14 => ?_) (fun c_14 => ?_)
    · have hf := itT hf c_14
      refine lv_iconst (v := -1) hx hb dX12_ahead_33 (by decide) ?_
      obtain ⟨rfl, rfl⟩ := Prod.mk.inj (Option.some.inj hf)
      exact wd_iret X hP hS hr0 dX12_ahead_34 ⟨rfl, rfl⟩
    · have hf := itF hf c_14
      refine lv_iload_n hx hb dX12_ahead_21 rfl (lv_at hl 2 rfl) ?_
      refine lv_i2l hx hb dX12_ahead_22 rfl ?_
      refine lv_lconst (v := 0) hx hb dX12_ahead_23 (by decide) ?_
      refine lv_ldc2 (own := RX12) (v := 3) hx hb X.2.2.2.1 (X.2.2.2.2.1 _ (tb_at 1741 (by decide +kernel) (by decide +kernel))) dX12_ahead_24 ?_
      refine wd_cs X hP hS ml_X12_176 (c_X12_in l D dA zz bs mm (x2.toInt64) (0 : Int64) (3 : Int64) (f_X12_in (x2.toInt64) (0 : Int64) (3 : Int64)) rfl) rfl ⟨Nat.le_of_ble_eq_true rfl, Nat.le_of_ble_eq_true rfl⟩ hl.1 rfl (rest := []) (Nat.le_of_ble_eq_true rfl) ⟨Nat.zero_le _, Nat.zero_le _⟩ dX12_ahead_27 (fun H locs hP hS => ?_)
      refine W.eq (g2 := F0 m 30 ls [.int (f_X12_in (x2.toInt64) (0 : Int64) (3 : Int64))]) rfl ?_
      refine lv_if_ne (tgt := 35) hx hb dX12_ahead_30 (by decide) (fun c_15 => ?_) (fun c_15 => ?_)
      · have hf := itF hf c_15
        refine lv_aload_n hx hb dX12_ahead_35 rfl (lv_at hl 0 rfl) ?_
        obtain ⟨mm_16, hc_17, hf⟩ := bi1S hf
        refine wd_cv X hP hS L1088 ml_X12_521 ⟨_, _, rfl⟩ (c_X12_keepsAll l D dA zz bs mm mm_16 hc_17) rfl ⟨Nat.le_of_ble_eq_true rfl, Nat.le_of_ble_eq_true rfl⟩ hl.1 rfl (rest := []) (Nat.le_of_ble_eq_true rfl) ⟨Nat.zero_le _, Nat.zero_le _⟩ dX12_ahead_36 (fun H locs hP hS => ?_)
        refine W.eq (g2 := F0 m 39 ls []) rfl ?_
        refine lv_iconst (v := 0) hx hb dX12_ahead_39 (by decide) ?_
        refine lv_istore_n (lv' := [(3, .int (0 : Int32)), (0, .ref (bs + 1088)), (1, .int x1), (2, .int x2)]) hx hb dX12_ahead_40 rfl hl (by decide) rfl (fun ls hl => ?_)
        obtain ⟨q_27, hlp_28, hf⟩ := bi1S hf
        refine lp_walk (Wh := (fun z => match z with | (y3L_22, mmL_22) => ∀ (H : Heap) (locs : List Loc) (ls : Array Slot), Wd D dA bs LY mmL_22 H → va_S (Aq bs) s.heap H locs → lv_has ls 5 [(0, .ref (bs + 1088)), (1, .int x1), (2, .int x2), (3, .int y3L_22)] → Wz p l e s m args below meth c D dA bs (some (.int out)) m1 8 195 H locs 41 ls [])) (Ph := (fun mm_23 => ∀ (H : Heap) (locs : List Loc) (ls : Array Slot), Wd D dA bs LY mm_23 H → va_S (Aq bs) s.heap H locs → lv_has ls 5 [(0, .ref (bs + 1088)), (2, .int x2)] → Wz p l e s m args below meth c D dA bs (some (.int out)) m1 8 195 H locs 57 ls [])) ?_ hlp_28 ?_ H locs ls hP hS (lv_sub hl [1, 2, 3, 0] rfl)
        · intro z o hf hB hE
          obtain ⟨y3L_22, mmL_22⟩ := z
          intro H locs ls hP hS hl
          have hf : f_X12_ahead_s41 x1 x2 (y3L_22, mmL_22) = some o := hf
          unfold f_X12_ahead_s41 at hf
          dsimp only at hf
          refine lv_iload_n hx hb dX12_ahead_41 rfl (lv_at hl 3 rfl) ?_
          refine lv_iload_n hx hb dX12_ahead_42 rfl (lv_at hl 1 rfl) ?_
          refine lv_icmp_ge (tgt := 57) hx hb dX12_ahead_43 (by decide) (fun c_18 => ?_) (fun c_18 => ?_)
          · have hf := itT hf c_18
            obtain rfl := Option.some.inj hf
            exact hE _ rfl H locs ls hP hS (lv_sub hl [0, 2] rfl)
          · have hf := itF hf c_18
            refine lv_aload_n hx hb dX12_ahead_46 rfl (lv_at hl 0 rfl) ?_
            obtain ⟨r_21, mm_19, hc_20, hf⟩ := bi2S hf
            refine wd_cv X hP hS L1088 ml_X12_493 ⟨_, _, rfl⟩ (c_X12_goesMile l D dA zz bs mmL_22 r_21 mm_19 hc_20) rfl ⟨Nat.le_of_ble_eq_true rfl, Nat.le_of_ble_eq_true rfl⟩ hl.1 rfl (rest := []) (Nat.le_of_ble_eq_true rfl) ⟨Nat.zero_le _, Nat.zero_le _⟩ dX12_ahead_47 (fun H locs hP hS => ?_)
            refine W.eq (g2 := F0 m 50 ls [.int r_21]) rfl ?_
            refine lv_pop hx hb dX12_ahead_50 rfl ?_
            refine lv_iinc (v := (y3L_22 + 1)) (lv' := [(3, .int (y3L_22 + 1)), (0, .ref (bs + 1088)), (1, .int x1), (2, .int x2)]) hx hb dX12_ahead_51 hl (k := 3) rfl rfl (by decide) rfl (fun ls hl => ?_)
            refine lv_goto (tgt := 41) hx hb dX12_ahead_54 (by decide) ?_
            obtain rfl := Option.some.inj hf
            exact hB _ rfl H locs ls hP hS (lv_sub hl [1, 2, 3, 0] rfl)
        · obtain ⟨mm_23, e_mm_23⟩ : ∃ z, z = q_27 := ⟨_, rfl⟩
          subst e_mm_23
          intro H locs ls hP hS hl
          refine lv_iload_n hx hb dX12_ahead_57 rfl (lv_at hl 1 rfl) ?_
          refine lv_iconst (v := 3) hx hb dX12_ahead_58 (by decide) ?_
          refine lv_icmp_ge (tgt := 70) hx hb dX12_ahead_59 (by decide) (fun c_24 => ?_) (fun c_24 => ?_)
          · have hf := itT hf c_24
            refine lv_iconst (v := 0) hx hb dX12_ahead_70 (by decide) ?_
            exact hJ71 mm_23 x2 (0 : Int32) H locs ls hf hP hS (lv_sub hl [0, 1] rfl)
          · have hf := itF hf c_24
            refine lv_aload_n hx hb dX12_ahead_62 rfl (lv_at hl 0 rfl) ?_
            refine lv_iload_n hx hb dX12_ahead_63 rfl (lv_at hl 1 rfl) ?_
            obtain ⟨r_26, hc_25, hf⟩ := bi1S hf
            refine wd_cv X hP hS L1088 ml_X12_524 ⟨_, _, rfl⟩ (c_X12_thingsAt l D dA zz bs mm_23 x2 r_26 hc_25) rfl ⟨Nat.le_of_ble_eq_true rfl, Nat.le_of_ble_eq_true rfl⟩ hl.1 rfl (rest := []) (Nat.le_of_ble_eq_true rfl) ⟨Nat.zero_le _, Nat.zero_le _⟩ dX12_ahead_64 (fun H locs hP hS => ?_)
            refine W.eq (g2 := F0 m 67 ls [.int r_26]) rfl ?_
            refine lv_goto (tgt := 71) hx hb dX12_ahead_67 (by decide) ?_
            exact hJ71 mm_23 x2 r_26 H locs ls hf hP hS (lv_sub hl [0, 1] rfl)
      · have hf := itT hf c_15
        refine lv_iconst (v := -1) hx hb dX12_ahead_33 (by decide) ?_
        obtain ⟨rfl, rfl⟩ := Prod.mk.inj (Option.some.inj hf)
        exact wd_iret X hP hS hr0 dX12_ahead_34 ⟨rfl, rfl⟩

noncomputable def f_X12_sinks_s14 (y1 : Int32) : (Mm) → Option ((Mm) ⊕ (Mm)) :=
  fun (mm : Mm) =>
    if (f_X12_milesLeft mm) ≤ 0 then
      some (.inr mm)
    else
      if y1 < 0 ∨ 8 ≤ y1.toNatClampNeg then none else
        if (mm.1 1097 y1.toNatClampNeg) = 0 then
          bi2 (f_X12_goesMile mm) fun r_11 mm_9 => some (.inl mm_9)
        else
          some (.inr mm)
noncomputable def f_X12_sinks (mm : Mm) (x1 : Int32) : Option (Int32 × Mm) :=
  bi1 (f_X12_isThing mm x1) fun r_2 =>
    if r_2 = 0 then
      some ((-1 : Int32), mm)
    else
      bi1 (f_X12_keepsAll mm) fun mm_4 =>
        bi1 (lp (f_X12_sinks_s14 x1) mm_4) fun mm_13 =>
          if x1 < 0 ∨ 8 ≤ x1.toNatClampNeg then none else
            vlet (mm_13.1 1098 x1.toNatClampNeg) fun (x2_15 : Int32) => bi1 (f_X12_laysBack mm_13) fun mm_16 => some (x2_15, mm_16)
set_option maxHeartbeats 4000000 in
set_option maxRecDepth 100000 in
theorem c_X12_sinks (l : Launch) (D : va_G) (dA : Nat → ClassId) (zz : (Nat → Nat) × (Nat → Nat)) (bs : Nat) (mm : Mm) (x1 : Int32) (out : Int32) (m1 : Mm) (hf : f_X12_sinks mm x1 = some (out, m1)) : Mw l D dA zz bs LY yX12_sinks cX12_sinks 3 (some .int) 8 195 [.ref (bs + 1088), .int x1] mm (some (.int out)) m1 := by
  refine Mw.of (own := RX12) (by decide) rfl (Nat.le_of_ble_eq_true rfl) ?_
  intro p e s m args below meth c X hr0 hP hS ls hl
  have hx := X.1
  have hb := X.2.1
  obtain ⟨H, hH⟩ : ∃ z : Heap, z = s.heap := ⟨_, rfl⟩
  obtain ⟨locs, hL⟩ : ∃ z : List Loc, z = [] := ⟨_, rfl⟩
  rw [← hH, ← hL]
  have hS : va_S (Aq bs) s.heap H locs := by rw [hH, hL]; exact hS
  have hP : Wd D dA bs LY mm H := by rw [hH]; exact hP
  have hl : lv_has ls 3 [(0, .ref (bs + 1088)), (1, .int x1)] := hl
  unfold f_X12_sinks at hf
  refine lv_aload_n hx hb dX12_sinks_0 rfl (lv_at hl 0 rfl) ?_
  refine lv_iload_n hx hb dX12_sinks_1 rfl (lv_at hl 1 rfl) ?_
  obtain ⟨r_2, hc_1, hf⟩ := bi1S hf
  refine wd_cv X hP hS L1088 ml_X12_180 ⟨_, _, rfl⟩ (c_X12_isThing l D dA zz bs mm x1 r_2 hc_1) rfl ⟨Nat.le_of_ble_eq_true rfl, Nat.le_of_ble_eq_true rfl⟩ hl.1 rfl (rest := []) (Nat.le_of_ble_eq_true rfl) ⟨Nat.zero_le _, Nat.zero_le _⟩ dX12_sinks_2 (fun H locs hP hS => ?_)
  refine W.eq (g2 := F0 m 5 ls [.int r_2]) rfl ?_
  refine lv_if_ne (tgt := 10) hx hb dX12_sinks_5 (by decide) (fun c_3 => ?_) (fun c_3 => ?_)
  · have hf := itF hf c_3
    refine lv_aload_n hx hb dX12_sinks_10 rfl (lv_at hl 0 rfl) ?_
    obtain ⟨mm_4, hc_5, hf⟩ := bi1S hf
    refine wd_cv X hP hS L1088 ml_X12_521 ⟨_, _, rfl⟩ (c_X12_keepsAll l D dA zz bs mm mm_4 hc_5) rfl ⟨Nat.le_of_ble_eq_true rfl, Nat.le_of_ble_eq_true rfl⟩ hl.1 rfl (rest := []) (Nat.le_of_ble_eq_true rfl) ⟨Nat.zero_le _, Nat.zero_le _⟩ dX12_sinks_11 (fun H locs hP hS => ?_)
    refine W.eq (g2 := F0 m 14 ls []) rfl ?_
    obtain ⟨q_18, hlp_19, hf⟩ := bi1S hf
    refine lp_walk (Wh := (fun mmL_12 => ∀ (H : Heap) (locs : List Loc) (ls : Array Slot), Wd D dA bs LY mmL_12 H → va_S (Aq bs) s.heap H locs → lv_has ls 3 [(0, .ref (bs + 1088)), (1, .int x1)] → Wz p l e s m args below meth c D dA bs (some (.int out)) m1 8 195 H locs 14 ls [])) (Ph := (fun mm_13 => ∀ (H : Heap) (locs : List Loc) (ls : Array Slot), Wd D dA bs LY mm_13 H → va_S (Aq bs) s.heap H locs → lv_has ls 3 [(0, .ref (bs + 1088)), (1, .int x1)] → Wz p l e s m args below meth c D dA bs (some (.int out)) m1 8 195 H locs 38 ls [])) ?_ hlp_19 ?_ H locs ls hP hS (lv_sub hl [0, 1] rfl)
    · intro mmL_12 o hf hB hE
      intro H locs ls hP hS hl
      have hf : f_X12_sinks_s14 x1 mmL_12 = some o := hf
      unfold f_X12_sinks_s14 at hf
      refine lv_aload_n hx hb dX12_sinks_14 rfl (lv_at hl 0 rfl) ?_
      refine wd_cv X hP hS L1088 ml_X12_487 ⟨_, _, rfl⟩ (c_X12_milesLeft l D dA zz bs mmL_12 (f_X12_milesLeft mmL_12) rfl) rfl ⟨Nat.le_of_ble_eq_true rfl, Nat.le_of_ble_eq_true rfl⟩ hl.1 rfl (rest := []) (Nat.le_of_ble_eq_true rfl) ⟨Nat.zero_le _, Nat.zero_le _⟩ dX12_sinks_15 (fun H locs hP hS => ?_)
      refine W.eq (g2 := F0 m 18 ls [.int (f_X12_milesLeft mmL_12)]) rfl ?_
      refine lv_if_le (tgt := 38) hx hb dX12_sinks_18 (by decide) (fun c_6 => ?_) (fun c_6 => ?_)
      · have hf := itT hf c_6
        obtain rfl := Option.some.inj hf
        exact hE _ rfl H locs ls hP hS (lv_sub hl [0, 1] rfl)
      · have hf := itF hf c_6
        refine lv_aload_n hx hb dX12_sinks_21 rfl (lv_at hl 0 rfl) ?_
        refine wd_getR (q := 1097) X hP L1088 fl_X12_34 rfl dX12_sinks_22 ?_
        refine lv_iload_n hx hb dX12_sinks_25 rfl (lv_at hl 1 rfl) ?_
        have g_7 := gdN hf
        have hf := gdK hf
        refine wd_iald X hP L1097 g_7 dX12_sinks_26 ?_
        refine lv_if_ne (tgt := 38) hx hb dX12_sinks_27 (by decide) (fun c_8 => ?_) (fun c_8 => ?_)
        · have hf := itF hf c_8
          obtain rfl := Option.some.inj hf
          exact hE _ rfl H locs ls hP hS (lv_sub hl [0, 1] rfl)
        · have hf := itT hf c_8
          refine lv_aload_n hx hb dX12_sinks_30 rfl (lv_at hl 0 rfl) ?_
          obtain ⟨r_11, mm_9, hc_10, hf⟩ := bi2S hf
          refine wd_cv X hP hS L1088 ml_X12_493 ⟨_, _, rfl⟩ (c_X12_goesMile l D dA zz bs mmL_12 r_11 mm_9 hc_10) rfl ⟨Nat.le_of_ble_eq_true rfl, Nat.le_of_ble_eq_true rfl⟩ hl.1 rfl (rest := []) (Nat.le_of_ble_eq_true rfl) ⟨Nat.zero_le _, Nat.zero_le _⟩ dX12_sinks_31 (fun H locs hP hS => ?_)
          refine W.eq (g2 := F0 m 34 ls [.int r_11]) rfl ?_
          refine lv_pop hx hb dX12_sinks_34 rfl ?_
          refine lv_goto (tgt := 14) hx hb dX12_sinks_35 (by decide) ?_
          obtain rfl := Option.some.inj hf
          exact hB _ rfl H locs ls hP hS (lv_sub hl [0, 1] rfl)
    · obtain ⟨mm_13, e_mm_13⟩ : ∃ z, z = q_18 := ⟨_, rfl⟩
      subst e_mm_13
      intro H locs ls hP hS hl
      refine lv_aload_n hx hb dX12_sinks_38 rfl (lv_at hl 0 rfl) ?_
      refine wd_getR (q := 1098) X hP L1088 fl_X12_37 rfl dX12_sinks_39 ?_
      refine lv_iload_n hx hb dX12_sinks_42 rfl (lv_at hl 1 rfl) ?_
      have g_14 := gdN hf
      have hf := gdK hf
      refine wd_iald X hP L1098 g_14 dX12_sinks_43 ?_
      refine lv_topi (fun x2_15 ex2_15 => ?_)
      have hf := vl hf ex2_15
      refine lv_istore_n (lv' := [(2, .int x2_15), (0, .ref (bs + 1088)), (1, .int x1)]) hx hb dX12_sinks_44 rfl hl (by decide) rfl (fun ls hl => ?_)
      refine lv_aload_n hx hb dX12_sinks_45 rfl (lv_at hl 1 rfl) ?_
      obtain ⟨mm_16, hc_17, hf⟩ := bi1S hf
      refine wd_cv X hP hS L1088 ml_X12_527 ⟨_, _, rfl⟩ (c_X12_laysBack l D dA zz bs mm_13 mm_16 hc_17) rfl ⟨Nat.le_of_ble_eq_true rfl, Nat.le_of_ble_eq_true rfl⟩ hl.1 rfl (rest := []) (Nat.le_of_ble_eq_true rfl) ⟨Nat.zero_le _, Nat.zero_le _⟩ dX12_sinks_46 (fun H locs hP hS => ?_)
      refine W.eq (g2 := F0 m 49 ls []) rfl ?_
      refine lv_iload_n hx hb dX12_sinks_49 rfl (lv_at hl 0 rfl) ?_
      obtain ⟨rfl, rfl⟩ := Prod.mk.inj (Option.some.inj hf)
      exact wd_iret X hP hS hr0 dX12_sinks_50 ⟨rfl, rfl⟩
  · have hf := itT hf c_3
    refine lv_iconst (v := -1) hx hb dX12_sinks_8 (by decide) ?_
    obtain ⟨rfl, rfl⟩ := Prod.mk.inj (Option.some.inj hf)
    exact wd_iret X hP hS hr0 dX12_sinks_9 ⟨rfl, rfl⟩

noncomputable def f_X12_isBorne (mm : Mm) (x1 : Int32) : Option (Int32) :=
  bi1 (f_X12_floatOf mm x1) fun r_2 =>
    bi1 (f_X12_weightOf mm x1) fun r_4 =>
      if r_2 < r_4 then
        some (0 : Int32)
      else
        some (1 : Int32)
set_option maxHeartbeats 4000000 in
set_option maxRecDepth 100000 in
theorem c_X12_isBorne (l : Launch) (D : va_G) (dA : Nat → ClassId) (zz : (Nat → Nat) × (Nat → Nat)) (bs : Nat) (mm : Mm) (x1 : Int32) (out : Int32) (hf : f_X12_isBorne mm x1 = some out) : Mw l D dA zz bs LY yX12_isBorne cX12_isBorne 2 (some .boolean) 2 44 [.ref (bs + 1088), .int x1] mm (some (.int out)) mm := by
  refine Mw.of (own := RX12) (by decide) rfl (Nat.le_of_ble_eq_true rfl) ?_
  intro p e s m args below meth c X hr0 hP hS ls hl
  have hx := X.1
  have hb := X.2.1
  obtain ⟨H, hH⟩ : ∃ z : Heap, z = s.heap := ⟨_, rfl⟩
  obtain ⟨locs, hL⟩ : ∃ z : List Loc, z = [] := ⟨_, rfl⟩
  rw [← hH, ← hL]
  have hS : va_S (Aq bs) s.heap H locs := by rw [hH, hL]; exact hS
  have hP : Wd D dA bs LY mm H := by rw [hH]; exact hP
  have hl : lv_has ls 2 [(0, .ref (bs + 1088)), (1, .int x1)] := hl
  unfold f_X12_isBorne at hf
  refine lv_aload_n hx hb dX12_isBorne_0 rfl (lv_at hl 0 rfl) ?_
  refine lv_iload_n hx hb dX12_isBorne_1 rfl (lv_at hl 1 rfl) ?_
  obtain ⟨r_2, hc_1, hf⟩ := bi1S hf
  refine wd_cv X hP hS L1088 ml_X12_406 ⟨_, _, rfl⟩ (c_X12_floatOf l D dA zz bs mm x1 r_2 hc_1) rfl ⟨Nat.le_of_ble_eq_true rfl, Nat.le_of_ble_eq_true rfl⟩ hl.1 rfl (rest := []) (Nat.le_of_ble_eq_true rfl) ⟨Nat.zero_le _, Nat.zero_le _⟩ dX12_isBorne_2 (fun H locs hP hS => ?_)
  refine W.eq (g2 := F0 m 5 ls [.int r_2]) rfl ?_
  refine lv_aload_n hx hb dX12_isBorne_5 rfl (lv_at hl 0 rfl) ?_
  refine lv_iload_n hx hb dX12_isBorne_6 rfl (lv_at hl 1 rfl) ?_
  obtain ⟨r_4, hc_3, hf⟩ := bi1S hf
  refine wd_cv X hP hS L1088 ml_X12_409 ⟨_, _, rfl⟩ (c_X12_weightOf l D dA zz bs mm x1 r_4 hc_3) rfl ⟨Nat.le_of_ble_eq_true rfl, Nat.le_of_ble_eq_true rfl⟩ hl.1 rfl (rest := [.int r_2]) (Nat.le_of_ble_eq_true rfl) ⟨Nat.zero_le _, Nat.zero_le _⟩ dX12_isBorne_7 (fun H locs hP hS => ?_)
  refine W.eq (g2 := F0 m 10 ls [.int r_4, .int r_2]) rfl ?_
  refine lv_icmp_lt (tgt := 17) hx hb dX12_isBorne_10 (by decide) (fun c_5 => ?_) (fun c_5 => ?_)
  · have hf := itT hf c_5
    refine lv_iconst (v := 0) hx hb dX12_isBorne_17 (by decide) ?_
    obtain rfl := Option.some.inj hf
    exact wd_zret X hP hS hr0 (by decide) dX12_isBorne_18 ⟨rfl, rfl⟩
  · have hf := itF hf c_5
    refine lv_iconst (v := 1) hx hb dX12_isBorne_13 (by decide) ?_
    refine lv_goto (tgt := 18) hx hb dX12_isBorne_14 (by decide) ?_
    obtain rfl := Option.some.inj hf
    exact wd_zret X hP hS hr0 (by decide) dX12_isBorne_18 ⟨rfl, rfl⟩

noncomputable def f_X12_bearers_j85 (mm : Mm) (y1 : Int32) (y2 : Int32) (y3 : Int32) (y4 : Int32) (y5 : Int32) : Option ((Int32 × Int32) ⊕ (Int32)) :=
  bi1 (f_X12_isBorne mm (y1 ||| y5)) fun r_11 =>
    if r_11 = 0 then
      some (.inl (y4, (y5 + 1)))
    else
      some (.inl (y5, (y5 + 1)))
noncomputable def f_X12_bearers_s50 (mm : Mm) (y1 : Int32) (y2 : Int32) (y3 : Int32) : (Int32 × Int32) → Option ((Int32 × Int32) ⊕ (Int32)) :=
  fun q => match q with
  | (y4, y5) =>
    if y3 < y5 then
      some (.inr y4)
    else
      if (y5 &&& (y3 ^^^ (-1 : Int32))) = 0 then
        if y4 = (-2 : Int32) then
          f_X12_bearers_j85 mm y1 y2 y3 y4 y5
        else
          bi1 (f_X12_bits mm y5) fun r_18 =>
            bi1 (f_X12_bits mm y4) fun r_20 =>
              if r_20 ≤ r_18 then
                some (.inl (y4, (y5 + 1)))
              else
                f_X12_bearers_j85 mm y1 y2 y3 y4 y5
      else
        some (.inl (y4, (y5 + 1)))
noncomputable def f_X12_bearers (mm : Mm) (x1 : Int32) (x2 : Int32) : Option (Int32) :=
  if (f_X12_isRiver mm) = 0 then
    some (-1 : Int32)
  else
    if x1 < 0 then
      some (-1 : Int32)
    else
      bi1 (f_X12_afloat mm) fun r_4 =>
        if (x1 &&& (r_4 ^^^ (-1 : Int32))) = 0 then
          if (f_X12_in (x2.toInt64) (0 : Int64) (1 : Int64)) = 0 then
            some (-1 : Int32)
          else
            bi1 (f_X12_afloat mm) fun r_8 =>
              vlet (r_8 &&& (x1 ^^^ (-1 : Int32))) fun (x3_9 : Int32) =>
                bi1 (lp (f_X12_bearers_s50 mm x1 x2 x3_9) ((-2 : Int32), (0 : Int32))) fun w4_23 =>
                  if w4_23 = (-2 : Int32) then
                    some w4_23
                  else
                    if x2 = (1 : Int32) then
                      some w4_23
                    else
                      bi1 (f_X12_bits mm w4_23) fun r_27 => some r_27
        else
          some (-1 : Int32)
set_option maxHeartbeats 4000000 in
set_option maxRecDepth 100000 in
theorem c_X12_bearers (l : Launch) (D : va_G) (dA : Nat → ClassId) (zz : (Nat → Nat) × (Nat → Nat)) (bs : Nat) (mm : Mm) (x1 : Int32) (x2 : Int32) (out : Int32) (hf : f_X12_bearers mm x1 x2 = some out) : Mw l D dA zz bs LY yX12_bearers cX12_bearers 6 (some .int) 3 65 [.ref (bs + 1088), .int x1, .int x2] mm (some (.int out)) mm := by
  refine Mw.of (own := RX12) (by decide) rfl (Nat.le_of_ble_eq_true rfl) ?_
  intro p e s m args below meth c X hr0 hP hS ls hl
  have hx := X.1
  have hb := X.2.1
  obtain ⟨H, hH⟩ : ∃ z : Heap, z = s.heap := ⟨_, rfl⟩
  obtain ⟨locs, hL⟩ : ∃ z : List Loc, z = [] := ⟨_, rfl⟩
  rw [← hH, ← hL]
  have hS : va_S (Aq bs) s.heap H locs := by rw [hH, hL]; exact hS
  have hP : Wd D dA bs LY mm H := by rw [hH]; exact hP
  have hl : lv_has ls 6 [(0, .ref (bs + 1088)), (1, .int x1), (2, .int x2)] := hl
  unfold f_X12_bearers at hf
  refine lv_aload_n hx hb dX12_bearers_0 rfl (lv_at hl 0 rfl) ?_
  refine wd_cv X hP hS L1088 ml_X12_430 ⟨_, _, rfl⟩ (c_X12_isRiver l D dA zz bs mm (f_X12_isRiver mm) rfl) rfl ⟨Nat.le_of_ble_eq_true rfl, Nat.le_of_ble_eq_true rfl⟩ hl.1 rfl (rest := []) (Nat.le_of_ble_eq_true rfl) ⟨Nat.zero_le _, Nat.zero_le _⟩ dX12_bearers_1 (fun H locs hP hS => ?_)
  refine W.eq (g2 := F0 m 4 ls [.int (f_X12_isRiver mm)]) rfl ?_
  refine lv_if_eq (tgt := 32) hx hb dX12_bearers_4 (by decide) (fun c_1 => ?_) (fun c_1 => ?_)
  · have hf := itT hf c_1
    refine lv_iconst (v := -1) hx hb dX12_bearers_32 (by decide) ?_
    obtain rfl := Option.some.inj hf
    exact wd_iret X hP hS hr0 dX12_bearers_33 ⟨rfl, rfl⟩
  · have hf := itF hf c_1
    refine lv_iload_n hx hb dX12_bearers_7 rfl (lv_at hl 1 rfl) ?_
    refine lv_if_lt (tgt := 32) hx hb dX12_bearers_8 (by decide) (fun c_2 => ?_) (fun c_2 => ?_)
    · have hf := itT hf c_2
      refine lv_iconst (v := -1) hx hb dX12_bearers_32 (by decide) ?_
      obtain rfl := Option.some.inj hf
      exact wd_iret X hP hS hr0 dX12_bearers_33 ⟨rfl, rfl⟩
    · have hf := itF hf c_2
      refine lv_iload_n hx hb dX12_bearers_11 rfl (lv_at hl 1 rfl) ?_
      refine lv_aload_n hx hb dX12_bearers_12 rfl (lv_at hl 0 rfl) ?_
      obtain ⟨r_4, hc_3, hf⟩ := bi1S hf
      refine wd_cv X hP hS L1088 ml_X12_393 ⟨_, _, rfl⟩ (c_X12_afloat l D dA zz bs mm r_4 hc_3) rfl ⟨Nat.le_of_ble_eq_true rfl, Nat.le_of_ble_eq_true rfl⟩ hl.1 rfl (rest := [.int x1]) (Nat.le_of_ble_eq_true rfl) ⟨Nat.zero_le _, Nat.zero_le _⟩ dX12_bearers_13 (fun H locs hP hS => ?_)
      refine W.eq (g2 := F0 m 16 ls [.int r_4, .int x1]) rfl ?_
      refine lv_iconst (v := -1) hx hb dX12_bearers_16 (by decide) ?_
      refine lv_ixor hx hb dX12_bearers_17 ?_
      refine lv_iand hx hb dX12_bearers_18 ?_
      refine lv_if_ne (tgt := 32) hx hb dX12_bearers_19 (by decide) (fun c_5 => ?_) (fun c_5 => ?_)
      · have hf := itF hf c_5
        refine lv_iconst (v := -1) hx hb dX12_bearers_32 (by decide) ?_
        obtain rfl := Option.some.inj hf
        exact wd_iret X hP hS hr0 dX12_bearers_33 ⟨rfl, rfl⟩
      · have hf := itT hf c_5
        refine lv_iload_n hx hb dX12_bearers_22 rfl (lv_at hl 2 rfl) ?_
        refine lv_i2l hx hb dX12_bearers_23 rfl ?_
        refine lv_lconst (v := 0) hx hb dX12_bearers_24 (by decide) ?_
        refine lv_lconst (v := 1) hx hb dX12_bearers_25 (by decide) ?_
        refine wd_cs X hP hS ml_X12_176 (c_X12_in l D dA zz bs mm (x2.toInt64) (0 : Int64) (1 : Int64) (f_X12_in (x2.toInt64) (0 : Int64) (1 : Int64)) rfl) rfl ⟨Nat.le_of_ble_eq_true rfl, Nat.le_of_ble_eq_true rfl⟩ hl.1 rfl (rest := []) (Nat.le_of_ble_eq_true rfl) ⟨Nat.zero_le _, Nat.zero_le _⟩ dX12_bearers_26 (fun H locs hP hS => ?_)
        refine W.eq (g2 := F0 m 29 ls [.int (f_X12_in (x2.toInt64) (0 : Int64) (1 : Int64))]) rfl ?_
        refine lv_if_ne (tgt := 34) hx hb dX12_bearers_29 (by decide) (fun c_6 => ?_) (fun c_6 => ?_)
        · have hf := itF hf c_6
          refine lv_aload_n hx hb dX12_bearers_34 rfl (lv_at hl 0 rfl) ?_
          obtain ⟨r_8, hc_7, hf⟩ := bi1S hf
          refine wd_cv X hP hS L1088 ml_X12_393 ⟨_, _, rfl⟩ (c_X12_afloat l D dA zz bs mm r_8 hc_7) rfl ⟨Nat.le_of_ble_eq_true rfl, Nat.le_of_ble_eq_true rfl⟩ hl.1 rfl (rest := []) (Nat.le_of_ble_eq_true rfl) ⟨Nat.zero_le _, Nat.zero_le _⟩ dX12_bearers_35 (fun H locs hP hS => ?_)
          refine W.eq (g2 := F0 m 38 ls [.int r_8]) rfl ?_
          refine lv_iload_n hx hb dX12_bearers_38 rfl (lv_at hl 1 rfl) ?_
          refine lv_iconst (v := -1) hx hb dX12_bearers_39 (by decide) ?_
          refine lv_ixor hx hb dX12_bearers_40 ?_
          refine lv_iand hx hb dX12_bearers_41 ?_
          refine lv_topi (fun x3_9 ex3_9 => ?_)
          have hf := vl hf ex3_9
          refine lv_istore_n (lv' := [(3, .int x3_9), (0, .ref (bs + 1088)), (1, .int x1), (2, .int x2)]) hx hb dX12_bearers_42 rfl hl (by decide) rfl (fun ls hl => ?_)
          refine lv_bipush (v := -2) hx hb dX12_bearers_43 (by decide) ?_
          refine lv_istore (lv' := [(4, .int (-2 : Int32)), (3, .int x3_9), (0, .ref (bs + 1088)), (1, .int x1), (2, .int x2)]) hx hb dX12_bearers_45 hl (by decide) rfl (fun ls hl => ?_)
          refine lv_iconst (v := 0) hx hb dX12_bearers_47 (by decide) ?_
          refine lv_istore (lv' := [(5, .int (0 : Int32)), (4, .int (-2 : Int32)), (3, .int x3_9), (0, .ref (bs + 1088)), (1, .int x1), (2, .int x2)]) hx hb dX12_bearers_48 hl (by decide) rfl (fun ls hl => ?_)
          obtain ⟨q_28, hlp_29, hf⟩ := bi1S hf
          refine lp_walk (Wh := (fun z => match z with | (y4L_22, y5L_22) => ∀ (H : Heap) (locs : List Loc) (ls : Array Slot), Wd D dA bs LY mm H → va_S (Aq bs) s.heap H locs → lv_has ls 6 [(0, .ref (bs + 1088)), (1, .int x1), (2, .int x2), (3, .int x3_9), (4, .int y4L_22), (5, .int y5L_22)] → Wz p l e s m args below meth c D dA bs (some (.int out)) mm 3 65 H locs 50 ls [])) (Ph := (fun w4_23 => ∀ (H : Heap) (locs : List Loc) (ls : Array Slot), Wd D dA bs LY mm H → va_S (Aq bs) s.heap H locs → lv_has ls 6 [(2, .int x2), (4, .int w4_23)] → Wz p l e s m args below meth c D dA bs (some (.int out)) mm 3 65 H locs 106 ls [])) ?_ hlp_29 ?_ H locs ls hP hS (lv_sub hl [3, 4, 5, 2, 1, 0] rfl)
          · intro z o hf hB hE
            obtain ⟨y4L_22, y5L_22⟩ := z
            intro H locs ls hP hS hl
            have hf : f_X12_bearers_s50 mm x1 x2 x3_9 (y4L_22, y5L_22) = some o := hf
            unfold f_X12_bearers_s50 at hf
            dsimp only at hf
            have hJ85 : ∀ (y4J_13 : Int32) (y5J_13 : Int32) (H : Heap) (locs : List Loc) (ls : Array Slot), f_X12_bearers_j85 mm x1 x2 x3_9 y4J_13 y5J_13 = some o → Wd D dA bs LY mm H → va_S (Aq bs) s.heap H locs → lv_has ls 6 [(0, .ref (bs + 1088)), (1, .int x1), (2, .int x2), (3, .int x3_9), (4, .int y4J_13), (5, .int y5J_13)] → Wz p l e s m args below meth c D dA bs (some (.int out)) mm 3 65 H locs 85 ls [] := by
              intro y4J_13 y5J_13 H locs ls hf hP hS hl
              unfold f_X12_bearers_j85 at hf
              refine lv_aload_n hx hb dX12_bearers_85 rfl (lv_at hl 0 rfl) ?_
              refine lv_iload_n hx hb dX12_bearers_86 rfl (lv_at hl 1 rfl) ?_
              refine lv_iload hx hb dX12_bearers_87 (lv_at hl 5 rfl) ?_
              refine lv_ior hx hb dX12_bearers_89 ?_
              obtain ⟨r_11, hc_10, hf⟩ := bi1S hf
              refine wd_cv X hP hS L1088 ml_X12_530 ⟨_, _, rfl⟩ (c_X12_isBorne l D dA zz bs mm (x1 ||| y5J_13) r_11 hc_10) rfl ⟨Nat.le_of_ble_eq_true rfl, Nat.le_of_ble_eq_true rfl⟩ hl.1 rfl (rest := []) (Nat.le_of_ble_eq_true rfl) ⟨Nat.zero_le _, Nat.zero_le _⟩ dX12_bearers_90 (fun H locs hP hS => ?_)
              refine W.eq (g2 := F0 m 93 ls [.int r_11]) rfl ?_
              refine lv_if_eq (tgt := 100) hx hb dX12_bearers_93 (by decide) (fun c_12 => ?_) (fun c_12 => ?_)
              · have hf := itT hf c_12
                refine lv_iinc (v := (y5J_13 + 1)) (lv' := [(5, .int (y5J_13 + 1)), (0, .ref (bs + 1088)), (1, .int x1), (2, .int x2), (3, .int x3_9), (4, .int y4J_13)]) hx hb dX12_bearers_100 hl (k := 5) rfl rfl (by decide) rfl (fun ls hl => ?_)
                refine lv_goto (tgt := 50) hx hb dX12_bearers_103 (by decide) ?_
                obtain rfl := Option.some.inj hf
                exact hB _ rfl H locs ls hP hS (lv_sub hl [1, 2, 3, 4, 5, 0] rfl)
              · have hf := itF hf c_12
                refine lv_iload hx hb dX12_bearers_96 (lv_at hl 5 rfl) ?_
                refine lv_istore (lv' := [(4, .int y5J_13), (0, .ref (bs + 1088)), (1, .int x1), (2, .int x2), (3, .int x3_9), (5, .int y5J_13)]) hx hb dX12_bearers_98 hl (by decide) rfl (fun ls hl => ?_)
                refine lv_iinc (v := (y5J_13 + 1)) (lv' := [(5, .int (y5J_13 + 1)), (4, .int y5J_13), (0, .ref (bs + 1088)), (1, .int x1), (2, .int x2), (3, .int x3_9)]) hx hb dX12_bearers_100 hl (k := 5) rfl rfl (by decide) rfl (fun ls hl => ?_)
                refine lv_goto (tgt := 50) hx hb dX12_bearers_103 (by decide) ?_
                obtain rfl := Option.some.inj hf
                exact hB _ rfl H locs ls hP hS (lv_sub hl [2, 3, 4, 5, 1, 0] rfl)
            refine lv_iload hx hb dX12_bearers_50 (lv_at hl 5 rfl) ?_
            refine lv_iload_n hx hb dX12_bearers_52 rfl (lv_at hl 3 rfl) ?_
            refine lv_icmp_gt (tgt := 106) hx hb dX12_bearers_53 (by decide) (fun c_14 => ?_) (fun c_14 => ?_)
            · have hf := itT hf c_14
              obtain rfl := Option.some.inj hf
              exact hE _ rfl H locs ls hP hS (lv_sub hl [2, 4] rfl)
            · have hf := itF hf c_14
              refine lv_iload hx hb dX12_bearers_56 (lv_at hl 5 rfl) ?_
              refine lv_iload_n hx hb dX12_bearers_58 rfl (lv_at hl 3 rfl) ?_
              refine lv_iconst (v := -1) hx hb dX12_bearers_59 (by decide) ?_
              refine lv_ixor hx hb dX12_bearers_60 ?_
              refine lv_iand hx hb dX12_bearers_61 ?_
              refine lv_if_ne (tgt := 100) hx hb dX12_bearers_62 (by decide) (fun c_15 => ?_) (fun c_15 => ?_)
              · have hf := itF hf c_15
                refine lv_iinc (v := (y5L_22 + 1)) (lv' := [(5, .int (y5L_22 + 1)), (0, .ref (bs + 1088)), (1, .int x1), (2, .int x2), (3, .int x3_9), (4, .int y4L_22)]) hx hb dX12_bearers_100 hl (k := 5) rfl rfl (by decide) rfl (fun ls hl => ?_)
                refine lv_goto (tgt := 50) hx hb dX12_bearers_103 (by decide) ?_
                obtain rfl := Option.some.inj hf
                exact hB _ rfl H locs ls hP hS (lv_sub hl [1, 2, 3, 4, 5, 0] rfl)
              · have hf := itT hf c_15
                refine lv_iload hx hb dX12_bearers_65 (lv_at hl 4 rfl) ?_
                refine lv_bipush (v := -2) hx hb dX12_bearers_67 (by decide) ?_
                refine lv_icmp_eq (tgt := 85) hx hb dX12_bearers_69 (by decide) (fun c_16 => ?_) (fun c_16 => ?_)
                · have hf := itT hf c_16
                  exact hJ85 y4L_22 y5L_22 H locs ls hf hP hS (lv_sub hl [0, 1, 2, 3, 4, 5] rfl)
                · have hf := itF hf c_16
                  refine lv_iload hx hb dX12_bearers_72 (lv_at hl 5 rfl) ?_
                  obtain ⟨r_18, hc_17, hf⟩ := bi1S hf
                  refine wd_cs X hP hS ml_X12_460 (c_X12_bits l D dA zz bs mm y5L_22 r_18 hc_17) rfl ⟨Nat.le_of_ble_eq_true rfl, Nat.le_of_ble_eq_true rfl⟩ hl.1 rfl (rest := []) (Nat.le_of_ble_eq_true rfl) ⟨Nat.zero_le _, Nat.zero_le _⟩ dX12_bearers_74 (fun H locs hP hS => ?_)
                  refine W.eq (g2 := F0 m 77 ls [.int r_18]) rfl ?_
                  refine lv_iload hx hb dX12_bearers_77 (lv_at hl 4 rfl) ?_
                  obtain ⟨r_20, hc_19, hf⟩ := bi1S hf
                  refine wd_cs X hP hS ml_X12_460 (c_X12_bits l D dA zz bs mm y4L_22 r_20 hc_19) rfl ⟨Nat.le_of_ble_eq_true rfl, Nat.le_of_ble_eq_true rfl⟩ hl.1 rfl (rest := [.int r_18]) (Nat.le_of_ble_eq_true rfl) ⟨Nat.zero_le _, Nat.zero_le _⟩ dX12_bearers_79 (fun H locs hP hS => ?_)
                  refine W.eq (g2 := F0 m 82 ls [.int r_20, .int r_18]) rfl ?_
                  refine lv_icmp_ge (tgt := 100) hx hb dX12_bearers_82 (by decide) (fun c_21 => ?_) (fun c_21 => ?_)
                  · have hf := itT hf c_21
                    refine lv_iinc (v := (y5L_22 + 1)) (lv' := [(5, .int (y5L_22 + 1)), (0, .ref (bs + 1088)), (1, .int x1), (2, .int x2), (3, .int x3_9), (4, .int y4L_22)]) hx hb dX12_bearers_100 hl (k := 5) rfl rfl (by decide) rfl (fun ls hl => ?_)
                    refine lv_goto (tgt := 50) hx hb dX12_bearers_103 (by decide) ?_
                    obtain rfl := Option.some.inj hf
                    exact hB _ rfl H locs ls hP hS (lv_sub hl [1, 2, 3, 4, 5, 0] rfl)
                  · have hf := itF hf c_21
                    exact hJ85 y4L_22 y5L_22 H locs ls hf hP hS (lv_sub hl [0, 1, 2, 3, 4, 5] rfl)
          · obtain ⟨w4_23, e_w4_23⟩ : ∃ z, z = q_28 := ⟨_, rfl⟩
            subst e_w4_23
            intro H locs ls hP hS hl
            refine lv_iload hx hb dX12_bearers_106 (lv_at hl 1 rfl) ?_
            refine lv_bipush (v := -2) hx hb dX12_bearers_108 (by decide) ?_
            refine lv_icmp_eq (tgt := 118) hx hb dX12_bearers_110 (by decide) (fun c_24 => ?_) (fun c_24 => ?_)
            · have hf := itT hf c_24
              refine lv_iload hx hb dX12_bearers_118 (lv_at hl 1 rfl) ?_
              refine lv_goto (tgt := 128) hx hb dX12_bearers_120 (by decide) ?_
              obtain rfl := Option.some.inj hf
              exact wd_iret X hP hS hr0 dX12_bearers_128 ⟨rfl, rfl⟩
            · have hf := itF hf c_24
              refine lv_iload_n hx hb dX12_bearers_113 rfl (lv_at hl 0 rfl) ?_
              refine lv_iconst (v := 1) hx hb dX12_bearers_114 (by decide) ?_
              refine lv_icmp_ne (tgt := 123) hx hb dX12_bearers_115 (by decide) (fun c_25 => ?_) (fun c_25 => ?_)
              · have hf := itF hf c_25
                refine lv_iload hx hb dX12_bearers_123 (lv_at hl 1 rfl) ?_
                obtain ⟨r_27, hc_26, hf⟩ := bi1S hf
                refine wd_cs X hP hS ml_X12_460 (c_X12_bits l D dA zz bs mm w4_23 r_27 hc_26) rfl ⟨Nat.le_of_ble_eq_true rfl, Nat.le_of_ble_eq_true rfl⟩ hl.1 rfl (rest := []) (Nat.le_of_ble_eq_true rfl) ⟨Nat.zero_le _, Nat.zero_le _⟩ dX12_bearers_125 (fun H locs hP hS => ?_)
                refine W.eq (g2 := F0 m 128 ls [.int r_27]) rfl ?_
                obtain rfl := Option.some.inj hf
                exact wd_iret X hP hS hr0 dX12_bearers_128 ⟨rfl, rfl⟩
              · have hf := itT hf c_25
                refine lv_iload hx hb dX12_bearers_118 (lv_at hl 1 rfl) ?_
                refine lv_goto (tgt := 128) hx hb dX12_bearers_120 (by decide) ?_
                obtain rfl := Option.some.inj hf
                exact wd_iret X hP hS hr0 dX12_bearers_128 ⟨rfl, rfl⟩
        · have hf := itT hf c_6
          refine lv_iconst (v := -1) hx hb dX12_bearers_32 (by decide) ?_
          obtain rfl := Option.some.inj hf
          exact wd_iret X hP hS hr0 dX12_bearers_33 ⟨rfl, rfl⟩

noncomputable def f_X12_laysLater_j237 (mm : Mm) (y1 : Int32) (y3 : Int32) (y4 : Int32) (z0 : Int32) : Option ((Int32 × Int32 × Mm) ⊕ (Int32 × Mm)) :=
  if (mm.1 1088 61) < 0 ∨ 7 ≤ (mm.1 1088 61).toNatClampNeg then none else
    vlet (wI mm 1133 (mm.1 1088 61).toNatClampNeg y4) fun mm_2 =>
      vlet (wI mm_2 1088 61 ((mm_2.1 1088 61) + (1 : Int32))) fun mm_4 => some (.inl (z0, (y3 + 1), mm_4))
noncomputable def f_X12_laysLater_j236 (mm : Mm) (y1 : Int32) (y3 : Int32) (y4 : Int32) : Option ((Int32 × Int32 × Mm) ⊕ (Int32 × Mm)) :=
  f_X12_laysLater_j237 mm y1 y3 y4 (0 : Int32)
noncomputable def f_X12_laysLater_j128 (mm : Mm) (y1 : Int32) (y2 : Int32) (y3 : Int32) (y4 : Int32) (y6 : Int32) (z0 : Int32) : Option ((Int32 × Int32 × Int32) ⊕ (Int32 × Int32)) :=
  some (.inl (y4, z0, (y6 + 1)))
noncomputable def f_X12_laysLater_j123 (mm : Mm) (y1 : Int32) (y2 : Int32) (y3 : Int32) (y4 : Int32) (y6 : Int32) : Option ((Int32 × Int32 × Int32) ⊕ (Int32 × Int32)) :=
  f_X12_laysLater_j128 mm y1 y2 y3 y4 y6 (1 : Int32)
noncomputable def f_X12_laysLater_j99 (mm : Mm) (y1 : Int32) (y2 : Int32) (y3 : Int32) (y5 : Int32) (y6 : Int32) (z0 : Int32) (z1 : Int32) : Option ((Int32 × Int32 × Int32) ⊕ (Int32 × Int32)) :=
  if y5 = 0 then
    if y6 < 0 ∨ 8 ≤ y6.toNatClampNeg then none else
      if (mm.1 1093 y6.toNatClampNeg) < 0 ∨ 6 ≤ (mm.1 1093 y6.toNatClampNeg).toNatClampNeg then none else
        if (mm.1 1090 (mm.1 1093 y6.toNatClampNeg).toNatClampNeg) = y3 then
          f_X12_laysLater_j123 mm y1 y2 y3 (z1 ||| z0) y6
        else
          f_X12_laysLater_j128 mm y1 y2 y3 (z1 ||| z0) y6 (0 : Int32)
  else
    f_X12_laysLater_j123 mm y1 y2 y3 (z1 ||| z0) y6
noncomputable def f_X12_laysLater_s53 (mm : Mm) (y1 : Int32) (y2 : Int32) (y3 : Int32) : (Int32 × Int32 × Int32) → Option ((Int32 × Int32 × Int32) ⊕ (Int32 × Int32)) :=
  fun q => match q with
  | (y4, y5, y6) =>
    if (mm.1 1089 3) ≤ y6 then
      some (.inr (y4, y5))
    else
      if (f_X12_has y1 y6) = 0 then
        some (.inl (y4, y5, (y6 + 1)))
      else
        if y6 < 0 ∨ 8 ≤ y6.toNatClampNeg then none else
          if (mm.1 1093 y6.toNatClampNeg) < 0 ∨ 6 ≤ (mm.1 1093 y6.toNatClampNeg).toNatClampNeg then none else
            if (mm.1 1090 (mm.1 1093 y6.toNatClampNeg).toNatClampNeg) ≤ y3 then
              f_X12_laysLater_j99 mm y1 y2 y3 y5 y6 (0 : Int32) y4
            else
              f_X12_laysLater_j99 mm y1 y2 y3 y5 y6 ((1 : Int32) <<< (y6 &&& 31)) y4
noncomputable def f_X12_laysLater_j214 (mm : Mm) (y1 : Int32) (y2 : Int32) (y3 : Int32) (y4 : Int32) (y7 : Int32) (z0 : Int32) (z1 : Int32) : Option ((Int32 × Int32) ⊕ (Int32)) :=
  some (.inl ((z1 + z0), (y7 + 1)))
noncomputable def f_X12_laysLater_j213 (mm : Mm) (y1 : Int32) (y2 : Int32) (y3 : Int32) (y4 : Int32) (y7 : Int32) (z0 : Int32) : Option ((Int32 × Int32) ⊕ (Int32)) :=
  f_X12_laysLater_j214 mm y1 y2 y3 y4 y7 (0 : Int32) z0
noncomputable def f_X12_laysLater_s153 (mm : Mm) (y1 : Int32) (y2 : Int32) (y3 : Int32) (y4 : Int32) : (Int32 × Int32) → Option ((Int32 × Int32) ⊕ (Int32)) :=
  fun q => match q with
  | (y6, y7) =>
    if (mm.1 1089 3) ≤ y7 then
      some (.inr y6)
    else
      if y7 < 0 ∨ 8 ≤ y7.toNatClampNeg then none else
        if y7 < 0 ∨ 8 ≤ y7.toNatClampNeg then none else
          vlet ((mm.1 1095 y7.toNatClampNeg) - ((mm.1 1096 y7.toNatClampNeg) * (y3 - (mm.1 1089 6)))) fun (x8_31 : Int32) =>
            if (f_X12_has y4 y7) = 0 then
              f_X12_laysLater_j213 mm y1 y2 y3 y4 y7 y6
            else
              if x8_31 ≤ 0 then
                f_X12_laysLater_j213 mm y1 y2 y3 y4 y7 y6
              else
                f_X12_laysLater_j214 mm y1 y2 y3 y4 y7 x8_31 y6
noncomputable def f_X12_laysLater_s34 (y1 : Int32) : (Int32 × Int32 × Mm) → Option ((Int32 × Int32 × Mm) ⊕ (Int32 × Mm)) :=
  fun q => match q with
  | (y2, y3, mm) =>
    if (mm.1 1089 0) < y3 then
      some (.inr (y2, mm))
    else
      bi1 (lp (f_X12_laysLater_s53 mm y1 y2 y3) ((0 : Int32), (0 : Int32), (0 : Int32))) fun q => match q with
      | (w4_21, w5_22) =>
        if w5_22 = 0 then
          some (.inl (y2, (y3 + 1), mm))
        else
          bi1 (f_X12_weightOf mm w4_21) fun r_25 =>
            bi1 (lp (f_X12_laysLater_s153 mm y1 y2 y3 w4_21) ((-r_25), (0 : Int32))) fun w6_35 =>
              if y2 = 0 then
                f_X12_laysLater_j236 mm y1 y3 w4_21
              else
                if w6_35 < 0 then
                  f_X12_laysLater_j236 mm y1 y3 w4_21
                else
                  f_X12_laysLater_j237 mm y1 y3 w4_21 (1 : Int32)
noncomputable def f_X12_laysLater_j23 (mm : Mm) (y1 : Int32) (z0 : Int32) : Option (Int32 × Mm) :=
  vlet ((mm.1 1089 6) + (1 : Int32)) fun (x3_1 : Int32) =>
    bi1 (lp (f_X12_laysLater_s34 y1) (z0, x3_1, mm)) fun q => match q with
    | (w2_43, mm_44) =>
      if ¬ w2_43 = 0 ∧ ¬ w2_43 = 1 then none else some (w2_43, mm_44)
noncomputable def f_X12_laysLater (mm : Mm) (x1 : Int32) : Option (Int32 × Mm) :=
  vlet (wI mm 1088 61 (0 : Int32)) fun mm_49 =>
    bi1 (f_X12_floatOf mm_49 x1) fun r_51 =>
      bi1 (f_X12_weightOf mm_49 x1) fun r_53 =>
        if r_51 < r_53 then
          f_X12_laysLater_j23 mm_49 x1 (0 : Int32)
        else
          f_X12_laysLater_j23 mm_49 x1 (1 : Int32)
set_option maxHeartbeats 4000000 in
set_option maxRecDepth 100000 in
theorem c_X12_laysLater (l : Launch) (D : va_G) (dA : Nat → ClassId) (zz : (Nat → Nat) × (Nat → Nat)) (bs : Nat) (mm : Mm) (x1 : Int32) (out : Int32) (m1 : Mm) (hf : f_X12_laysLater mm x1 = some (out, m1)) : Mw l D dA zz bs LY yX12_laysLater cX12_laysLater 9 (some .boolean) 2 44 [.ref (bs + 1088), .int x1] mm (some (.int out)) m1 := by
  refine Mw.of (own := RX12) (by decide) rfl (Nat.le_of_ble_eq_true rfl) ?_
  intro p e s m args below meth c X hr0 hP hS ls hl
  have hx := X.1
  have hb := X.2.1
  obtain ⟨H, hH⟩ : ∃ z : Heap, z = s.heap := ⟨_, rfl⟩
  obtain ⟨locs, hL⟩ : ∃ z : List Loc, z = [] := ⟨_, rfl⟩
  rw [← hH, ← hL]
  have hS : va_S (Aq bs) s.heap H locs := by rw [hH, hL]; exact hS
  have hP : Wd D dA bs LY mm H := by rw [hH]; exact hP
  have hl : lv_has ls 9 [(0, .ref (bs + 1088)), (1, .int x1)] := hl
  have hJ23 : ∀ (mmJ_48 : Mm) (y1J_48 : Int32) (z0J_48 : Int32) (H : Heap) (locs : List Loc) (ls : Array Slot), f_X12_laysLater_j23 mmJ_48 y1J_48 z0J_48 = some (out, m1) → Wd D dA bs LY mmJ_48 H → va_S (Aq bs) s.heap H locs → lv_has ls 9 [(0, .ref (bs + 1088)), (1, .int y1J_48)] → Wz p l e s m args below meth c D dA bs (some (.int out)) m1 2 44 H locs 23 ls [.int z0J_48] := by
    intro mmJ_48 y1J_48 z0J_48 H locs ls hf hP hS hl
    unfold f_X12_laysLater_j23 at hf
    refine lv_istore_n (lv' := [(2, .int z0J_48), (0, .ref (bs + 1088)), (1, .int y1J_48)]) hx hb dX12_laysLater_23 rfl hl (by decide) rfl (fun ls hl => ?_)
    refine lv_aload_n hx hb dX12_laysLater_24 rfl (lv_at hl 1 rfl) ?_
    refine wd_getR (q := 1089) X hP L1088 fl_X12_9 rfl dX12_laysLater_25 ?_
    refine lv_bipush (v := 6) hx hb dX12_laysLater_28 (by decide) ?_
    refine wd_ialdK (k := 6) X hP L1089 (by decide) (by decide) dX12_laysLater_30 ?_
    refine lv_iconst (v := 1) hx hb dX12_laysLater_31 (by decide) ?_
    refine lv_iadd hx hb dX12_laysLater_32 ?_
    refine lv_topi (fun x3_1 ex3_1 => ?_)
    have hf := vl hf ex3_1
    refine lv_istore_n (lv' := [(3, .int x3_1), (2, .int z0J_48), (0, .ref (bs + 1088)), (1, .int y1J_48)]) hx hb dX12_laysLater_33 rfl hl (by decide) rfl (fun ls hl => ?_)
    obtain ⟨q_46, hlp_47, hf⟩ := bi1S hf
    refine lp_walk (Wh := (fun z => match z with | (y2L_42, y3L_42, mmL_42) => ∀ (H : Heap) (locs : List Loc) (ls : Array Slot), Wd D dA bs LY mmL_42 H → va_S (Aq bs) s.heap H locs → lv_has ls 9 [(0, .ref (bs + 1088)), (1, .int y1J_48), (2, .int y2L_42), (3, .int y3L_42)] → Wz p l e s m args below meth c D dA bs (some (.int out)) m1 2 44 H locs 34 ls [])) (Ph := (fun z => match z with | (w2_43, mm_44) => ∀ (H : Heap) (locs : List Loc) (ls : Array Slot), Wd D dA bs LY mm_44 H → va_S (Aq bs) s.heap H locs → lv_has ls 9 [(2, .int w2_43)] → Wz p l e s m args below meth c D dA bs (some (.int out)) m1 2 44 H locs 265 ls [])) ?_ hlp_47 ?_ H locs ls hP hS (lv_sub hl [2, 3, 1, 0] rfl)
    · intro z o hf hB hE
      obtain ⟨y2L_42, y3L_42, mmL_42⟩ := z
      intro H locs ls hP hS hl
      have hf : f_X12_laysLater_s34 y1J_48 (y2L_42, y3L_42, mmL_42) = some o := hf
      unfold f_X12_laysLater_s34 at hf
      dsimp only at hf
      have hJ237 : ∀ (mmJ_5 : Mm) (y3J_5 : Int32) (y4J_5 : Int32) (z0J_5 : Int32) (H : Heap) (locs : List Loc) (ls : Array Slot), f_X12_laysLater_j237 mmJ_5 y1J_48 y3J_5 y4J_5 z0J_5 = some o → Wd D dA bs LY mmJ_5 H → va_S (Aq bs) s.heap H locs → lv_has ls 9 [(0, .ref (bs + 1088)), (1, .int y1J_48), (3, .int y3J_5), (4, .int y4J_5)] → Wz p l e s m args below meth c D dA bs (some (.int out)) m1 2 44 H locs 237 ls [.int z0J_5] := by
        intro mmJ_5 y3J_5 y4J_5 z0J_5 H locs ls hf hP hS hl
        unfold f_X12_laysLater_j237 at hf
        refine lv_istore_n (lv' := [(2, .int z0J_5), (0, .ref (bs + 1088)), (1, .int y1J_48), (3, .int y3J_5), (4, .int y4J_5)]) hx hb dX12_laysLater_237 rfl hl (by decide) rfl (fun ls hl => ?_)
        refine lv_aload_n hx hb dX12_laysLater_238 rfl (lv_at hl 1 rfl) ?_
        refine wd_getR (q := 1133) X hP L1088 fl_X12_148 rfl dX12_laysLater_239 ?_
        refine lv_aload_n hx hb dX12_laysLater_242 rfl (lv_at hl 1 rfl) ?_
        refine wd_getI X hP L1088 fl_X12_533 rfl dX12_laysLater_243 ?_
        refine lv_iload hx hb dX12_laysLater_246 (lv_at hl 4 rfl) ?_
        have g_3 := gdN hf
        have hf := gdK hf
        refine wd_iast X hP hS L1133 g_3 dX12_laysLater_248 (fun H locs mm_2 emm_2 hP hS => ?_)
        have hf := vl hf emm_2
        refine lv_aload_n hx hb dX12_laysLater_249 rfl (lv_at hl 1 rfl) ?_
        refine lv_dup hx hb dX12_laysLater_250 rfl ?_
        refine wd_getI X hP L1088 fl_X12_533 rfl dX12_laysLater_251 ?_
        refine lv_iconst (v := 1) hx hb dX12_laysLater_254 (by decide) ?_
        refine lv_iadd hx hb dX12_laysLater_255 ?_
        refine wd_putI X hP hS L1088 fp_X12_533 rfl dX12_laysLater_256 (fun H locs mm_4 emm_4 hP hS => ?_)
        have hf := vl hf emm_4
        refine lv_iinc (v := (y3J_5 + 1)) (lv' := [(3, .int (y3J_5 + 1)), (2, .int z0J_5), (0, .ref (bs + 1088)), (1, .int y1J_48), (4, .int y4J_5)]) hx hb dX12_laysLater_259 hl (k := 3) rfl rfl (by decide) rfl (fun ls hl => ?_)
        refine lv_goto (tgt := 34) hx hb dX12_laysLater_262 (by decide) ?_
        obtain rfl := Option.some.inj hf
        exact hB _ rfl H locs ls hP hS (lv_sub hl [2, 3, 1, 0] rfl)
      have hJ236 : ∀ (mmJ_6 : Mm) (y3J_6 : Int32) (y4J_6 : Int32) (H : Heap) (locs : List Loc) (ls : Array Slot), f_X12_laysLater_j236 mmJ_6 y1J_48 y3J_6 y4J_6 = some o → Wd D dA bs LY mmJ_6 H → va_S (Aq bs) s.heap H locs → lv_has ls 9 [(0, .ref (bs + 1088)), (1, .int y1J_48), (3, .int y3J_6), (4, .int y4J_6)] → Wz p l e s m args below meth c D dA bs (some (.int out)) m1 2 44 H locs 236 ls [] := by
        intro mmJ_6 y3J_6 y4J_6 H locs ls hf hP hS hl
        unfold f_X12_laysLater_j236 at hf
        refine lv_iconst (v := 0) hx hb dX12_laysLater_236 (by decide) ?_
        exact hJ237 mmJ_6 y3J_6 y4J_6 (0 : Int32) H locs ls hf hP hS (lv_sub hl [0, 1, 2, 3] rfl)
      refine lv_iload_n hx hb dX12_laysLater_34 rfl (lv_at hl 3 rfl) ?_
      refine lv_aload_n hx hb dX12_laysLater_35 rfl (lv_at hl 0 rfl) ?_
      refine wd_getR (q := 1089) X hP L1088 fl_X12_9 rfl dX12_laysLater_36 ?_
      refine lv_iconst (v := 0) hx hb dX12_laysLater_39 (by decide) ?_
      refine wd_ialdK (k := 0) X hP L1089 (by decide) (by decide) dX12_laysLater_40 ?_
      refine lv_icmp_gt (tgt := 265) hx hb dX12_laysLater_41 (by decide) (fun c_7 => ?_) (fun c_7 => ?_)
      · have hf := itT hf c_7
        obtain rfl := Option.some.inj hf
        exact hE _ rfl H locs ls hP hS (lv_sub hl [2] rfl)
      · have hf := itF hf c_7
        refine lv_iconst (v := 0) hx hb dX12_laysLater_44 (by decide) ?_
        refine lv_istore (lv' := [(4, .int (0 : Int32)), (0, .ref (bs + 1088)), (1, .int y1J_48), (2, .int y2L_42), (3, .int y3L_42)]) hx hb dX12_laysLater_45 hl (by decide) rfl (fun ls hl => ?_)
        refine lv_iconst (v := 0) hx hb dX12_laysLater_47 (by decide) ?_
        refine lv_istore (lv' := [(5, .int (0 : Int32)), (4, .int (0 : Int32)), (0, .ref (bs + 1088)), (1, .int y1J_48), (2, .int y2L_42), (3, .int y3L_42)]) hx hb dX12_laysLater_48 hl (by decide) rfl (fun ls hl => ?_)
        refine lv_iconst (v := 0) hx hb dX12_laysLater_50 (by decide) ?_
        refine lv_istore (lv' := [(6, .int (0 : Int32)), (5, .int (0 : Int32)), (4, .int (0 : Int32)), (0, .ref (bs + 1088)), (1, .int y1J_48), (2, .int y2L_42), (3, .int y3L_42)]) hx hb dX12_laysLater_51 hl (by decide) rfl (fun ls hl => ?_)
        obtain ⟨q_40, hlp_41, hf⟩ := bi1S hf
        refine lp_walk (Wh := (fun z => match z with | (y4L_20, y5L_20, y6L_20) => ∀ (H : Heap) (locs : List Loc) (ls : Array Slot), Wd D dA bs LY mmL_42 H → va_S (Aq bs) s.heap H locs → lv_has ls 9 [(0, .ref (bs + 1088)), (1, .int y1J_48), (2, .int y2L_42), (3, .int y3L_42), (4, .int y4L_20), (5, .int y5L_20), (6, .int y6L_20)] → Wz p l e s m args below meth c D dA bs (some (.int out)) m1 2 44 H locs 53 ls [])) (Ph := (fun z => match z with | (w4_21, w5_22) => ∀ (H : Heap) (locs : List Loc) (ls : Array Slot), Wd D dA bs LY mmL_42 H → va_S (Aq bs) s.heap H locs → lv_has ls 9 [(0, .ref (bs + 1088)), (1, .int y1J_48), (2, .int y2L_42), (3, .int y3L_42), (4, .int w4_21), (5, .int w5_22)] → Wz p l e s m args below meth c D dA bs (some (.int out)) m1 2 44 H locs 136 ls [])) ?_ hlp_41 ?_ H locs ls hP hS (lv_sub hl [3, 4, 5, 6, 2, 1, 0] rfl)
        · intro z o hf hB hE
          obtain ⟨y4L_20, y5L_20, y6L_20⟩ := z
          intro H locs ls hP hS hl
          have hf : f_X12_laysLater_s53 mmL_42 y1J_48 y2L_42 y3L_42 (y4L_20, y5L_20, y6L_20) = some o := hf
          unfold f_X12_laysLater_s53 at hf
          dsimp only at hf
          have hJ128 : ∀ (y4J_8 : Int32) (y6J_8 : Int32) (z0J_8 : Int32) (H : Heap) (locs : List Loc) (ls : Array Slot), f_X12_laysLater_j128 mmL_42 y1J_48 y2L_42 y3L_42 y4J_8 y6J_8 z0J_8 = some o → Wd D dA bs LY mmL_42 H → va_S (Aq bs) s.heap H locs → lv_has ls 9 [(0, .ref (bs + 1088)), (1, .int y1J_48), (2, .int y2L_42), (3, .int y3L_42), (4, .int y4J_8), (6, .int y6J_8)] → Wz p l e s m args below meth c D dA bs (some (.int out)) m1 2 44 H locs 128 ls [.int z0J_8] := by
            intro y4J_8 y6J_8 z0J_8 H locs ls hf hP hS hl
            unfold f_X12_laysLater_j128 at hf
            refine lv_istore (lv' := [(5, .int z0J_8), (0, .ref (bs + 1088)), (1, .int y1J_48), (2, .int y2L_42), (3, .int y3L_42), (4, .int y4J_8), (6, .int y6J_8)]) hx hb dX12_laysLater_128 hl (by decide) rfl (fun ls hl => ?_)
            refine lv_iinc (v := (y6J_8 + 1)) (lv' := [(6, .int (y6J_8 + 1)), (5, .int z0J_8), (0, .ref (bs + 1088)), (1, .int y1J_48), (2, .int y2L_42), (3, .int y3L_42), (4, .int y4J_8)]) hx hb dX12_laysLater_130 hl (k := 6) rfl rfl (by decide) rfl (fun ls hl => ?_)
            refine lv_goto (tgt := 53) hx hb dX12_laysLater_133 (by decide) ?_
            obtain rfl := Option.some.inj hf
            exact hB _ rfl H locs ls hP hS (lv_sub hl [2, 3, 4, 5, 6, 1, 0] rfl)
          have hJ123 : ∀ (y4J_9 : Int32) (y6J_9 : Int32) (H : Heap) (locs : List Loc) (ls : Array Slot), f_X12_laysLater_j123 mmL_42 y1J_48 y2L_42 y3L_42 y4J_9 y6J_9 = some o → Wd D dA bs LY mmL_42 H → va_S (Aq bs) s.heap H locs → lv_has ls 9 [(0, .ref (bs + 1088)), (1, .int y1J_48), (2, .int y2L_42), (3, .int y3L_42), (4, .int y4J_9), (6, .int y6J_9)] → Wz p l e s m args below meth c D dA bs (some (.int out)) m1 2 44 H locs 123 ls [] := by
            intro y4J_9 y6J_9 H locs ls hf hP hS hl
            unfold f_X12_laysLater_j123 at hf
            refine lv_iconst (v := 1) hx hb dX12_laysLater_123 (by decide) ?_
            refine lv_goto (tgt := 128) hx hb dX12_laysLater_124 (by decide) ?_
            exact hJ128 y4J_9 y6J_9 (1 : Int32) H locs ls hf hP hS (lv_sub hl [0, 1, 2, 3, 4, 5] rfl)
          have hJ99 : ∀ (y5J_14 : Int32) (y6J_14 : Int32) (z0J_14 : Int32) (z1J_14 : Int32) (H : Heap) (locs : List Loc) (ls : Array Slot), f_X12_laysLater_j99 mmL_42 y1J_48 y2L_42 y3L_42 y5J_14 y6J_14 z0J_14 z1J_14 = some o → Wd D dA bs LY mmL_42 H → va_S (Aq bs) s.heap H locs → lv_has ls 9 [(0, .ref (bs + 1088)), (1, .int y1J_48), (2, .int y2L_42), (3, .int y3L_42), (5, .int y5J_14), (6, .int y6J_14)] → Wz p l e s m args below meth c D dA bs (some (.int out)) m1 2 44 H locs 99 ls [.int z0J_14, .int z1J_14] := by
            intro y5J_14 y6J_14 z0J_14 z1J_14 H locs ls hf hP hS hl
            unfold f_X12_laysLater_j99 at hf
            refine lv_ior hx hb dX12_laysLater_99 ?_
            refine lv_istore (lv' := [(4, .int (z1J_14 ||| z0J_14)), (0, .ref (bs + 1088)), (1, .int y1J_48), (2, .int y2L_42), (3, .int y3L_42), (5, .int y5J_14), (6, .int y6J_14)]) hx hb dX12_laysLater_100 hl (by decide) rfl (fun ls hl => ?_)
            refine lv_iload hx hb dX12_laysLater_102 (lv_at hl 5 rfl) ?_
            refine lv_if_ne (tgt := 123) hx hb dX12_laysLater_104 (by decide) (fun c_10 => ?_) (fun c_10 => ?_)
            · have hf := itF hf c_10
              exact hJ123 (z1J_14 ||| z0J_14) y6J_14 H locs ls hf hP hS (lv_sub hl [1, 2, 3, 4, 0, 6] rfl)
            · have hf := itT hf c_10
              refine lv_aload_n hx hb dX12_laysLater_107 rfl (lv_at hl 1 rfl) ?_
              refine wd_getR (q := 1090) X hP L1088 fl_X12_13 rfl dX12_laysLater_108 ?_
              refine lv_aload_n hx hb dX12_laysLater_111 rfl (lv_at hl 1 rfl) ?_
              refine wd_getR (q := 1093) X hP L1088 fl_X12_22 rfl dX12_laysLater_112 ?_
              refine lv_iload hx hb dX12_laysLater_115 (lv_at hl 6 rfl) ?_
              have g_11 := gdN hf
              have hf := gdK hf
              refine wd_iald X hP L1093 g_11 dX12_laysLater_117 ?_
              have g_12 := gdN hf
              have hf := gdK hf
              refine wd_iald X hP L1090 g_12 dX12_laysLater_118 ?_
              refine lv_iload_n hx hb dX12_laysLater_119 rfl (lv_at hl 4 rfl) ?_
              refine lv_icmp_ne (tgt := 127) hx hb dX12_laysLater_120 (by decide) (fun c_13 => ?_) (fun c_13 => ?_)
              · have hf := itF hf c_13
                refine lv_iconst (v := 0) hx hb dX12_laysLater_127 (by decide) ?_
                exact hJ128 (z1J_14 ||| z0J_14) y6J_14 (0 : Int32) H locs ls hf hP hS (lv_sub hl [1, 2, 3, 4, 0, 6] rfl)
              · have hf := itT hf c_13
                exact hJ123 (z1J_14 ||| z0J_14) y6J_14 H locs ls hf hP hS (lv_sub hl [1, 2, 3, 4, 0, 6] rfl)
          refine lv_iload hx hb dX12_laysLater_53 (lv_at hl 6 rfl) ?_
          refine lv_aload_n hx hb dX12_laysLater_55 rfl (lv_at hl 0 rfl) ?_
          refine wd_getR (q := 1089) X hP L1088 fl_X12_9 rfl dX12_laysLater_56 ?_
          refine lv_iconst (v := 3) hx hb dX12_laysLater_59 (by decide) ?_
          refine wd_ialdK (k := 3) X hP L1089 (by decide) (by decide) dX12_laysLater_60 ?_
          refine lv_icmp_ge (tgt := 136) hx hb dX12_laysLater_61 (by decide) (fun c_15 => ?_) (fun c_15 => ?_)
          · have hf := itT hf c_15
            obtain rfl := Option.some.inj hf
            exact hE _ rfl H locs ls hP hS (lv_sub hl [0, 1, 2, 3, 4, 5] rfl)
          · have hf := itF hf c_15
            refine lv_iload_n hx hb dX12_laysLater_64 rfl (lv_at hl 1 rfl) ?_
            refine lv_iload hx hb dX12_laysLater_65 (lv_at hl 6 rfl) ?_
            refine wd_cs X hP hS ml_X12_390 (c_X12_has l D dA zz bs mmL_42 y1J_48 y6L_20 (f_X12_has y1J_48 y6L_20) rfl) rfl ⟨Nat.le_of_ble_eq_true rfl, Nat.le_of_ble_eq_true rfl⟩ hl.1 rfl (rest := []) (Nat.le_of_ble_eq_true rfl) ⟨Nat.zero_le _, Nat.zero_le _⟩ dX12_laysLater_67 (fun H locs hP hS => ?_)
            refine W.eq (g2 := F0 m 70 ls [.int (f_X12_has y1J_48 y6L_20)]) rfl ?_
            refine lv_if_eq (tgt := 130) hx hb dX12_laysLater_70 (by decide) (fun c_16 => ?_) (fun c_16 => ?_)
            · have hf := itT hf c_16
              refine lv_iinc (v := (y6L_20 + 1)) (lv' := [(6, .int (y6L_20 + 1)), (0, .ref (bs + 1088)), (1, .int y1J_48), (2, .int y2L_42), (3, .int y3L_42), (4, .int y4L_20), (5, .int y5L_20)]) hx hb dX12_laysLater_130 hl (k := 6) rfl rfl (by decide) rfl (fun ls hl => ?_)
              refine lv_goto (tgt := 53) hx hb dX12_laysLater_133 (by decide) ?_
              obtain rfl := Option.some.inj hf
              exact hB _ rfl H locs ls hP hS (lv_sub hl [1, 2, 3, 4, 5, 6, 0] rfl)
            · have hf := itF hf c_16
              refine lv_iload hx hb dX12_laysLater_73 (lv_at hl 4 rfl) ?_
              refine lv_aload_n hx hb dX12_laysLater_75 rfl (lv_at hl 0 rfl) ?_
              refine wd_getR (q := 1090) X hP L1088 fl_X12_13 rfl dX12_laysLater_76 ?_
              refine lv_aload_n hx hb dX12_laysLater_79 rfl (lv_at hl 0 rfl) ?_
              refine wd_getR (q := 1093) X hP L1088 fl_X12_22 rfl dX12_laysLater_80 ?_
              refine lv_iload hx hb dX12_laysLater_83 (lv_at hl 6 rfl) ?_
              have g_17 := gdN hf
              have hf := gdK hf
              refine wd_iald X hP L1093 g_17 dX12_laysLater_85 ?_
              have g_18 := gdN hf
              have hf := gdK hf
              refine wd_iald X hP L1090 g_18 dX12_laysLater_86 ?_
              refine lv_iload_n hx hb dX12_laysLater_87 rfl (lv_at hl 3 rfl) ?_
              refine lv_icmp_le (tgt := 98) hx hb dX12_laysLater_88 (by decide) (fun c_19 => ?_) (fun c_19 => ?_)
              · have hf := itT hf c_19
                refine lv_iconst (v := 0) hx hb dX12_laysLater_98 (by decide) ?_
                exact hJ99 y5L_20 y6L_20 (0 : Int32) y4L_20 H locs ls hf hP hS (lv_sub hl [0, 1, 2, 3, 5, 6] rfl)
              · have hf := itF hf c_19
                refine lv_iconst (v := 1) hx hb dX12_laysLater_91 (by decide) ?_
                refine lv_iload hx hb dX12_laysLater_92 (lv_at hl 6 rfl) ?_
                refine lv_ishl hx hb dX12_laysLater_94 ?_
                refine lv_goto (tgt := 99) hx hb dX12_laysLater_95 (by decide) ?_
                exact hJ99 y5L_20 y6L_20 ((1 : Int32) <<< (y6L_20 &&& 31)) y4L_20 H locs ls hf hP hS (lv_sub hl [0, 1, 2, 3, 5, 6] rfl)
        · obtain ⟨w4_21, w5_22⟩ := q_40
          dsimp only at hf
          intro H locs ls hP hS hl
          refine lv_iload hx hb dX12_laysLater_136 (lv_at hl 5 rfl) ?_
          refine lv_if_eq (tgt := 259) hx hb dX12_laysLater_138 (by decide) (fun c_23 => ?_) (fun c_23 => ?_)
          · have hf := itT hf c_23
            refine lv_iinc (v := (y3L_42 + 1)) (lv' := [(3, .int (y3L_42 + 1)), (0, .ref (bs + 1088)), (1, .int y1J_48), (2, .int y2L_42), (4, .int w4_21), (5, .int w5_22)]) hx hb dX12_laysLater_259 hl (k := 3) rfl rfl (by decide) rfl (fun ls hl => ?_)
            refine lv_goto (tgt := 34) hx hb dX12_laysLater_262 (by decide) ?_
            obtain rfl := Option.some.inj hf
            exact hB _ rfl H locs ls hP hS (lv_sub hl [1, 2, 3, 0] rfl)
          · have hf := itF hf c_23
            refine lv_aload_n hx hb dX12_laysLater_141 rfl (lv_at hl 0 rfl) ?_
            refine lv_iload hx hb dX12_laysLater_142 (lv_at hl 4 rfl) ?_
            obtain ⟨r_25, hc_24, hf⟩ := bi1S hf
            refine wd_cv X hP hS L1088 ml_X12_409 ⟨_, _, rfl⟩ (c_X12_weightOf l D dA zz bs mmL_42 w4_21 r_25 hc_24) rfl ⟨Nat.le_of_ble_eq_true rfl, Nat.le_of_ble_eq_true rfl⟩ hl.1 rfl (rest := []) (Nat.le_of_ble_eq_true rfl) ⟨Nat.zero_le _, Nat.zero_le _⟩ dX12_laysLater_144 (fun H locs hP hS => ?_)
            refine W.eq (g2 := F0 m 147 ls [.int r_25]) rfl ?_
            refine lv_ineg hx hb dX12_laysLater_147 ?_
            refine lv_istore (lv' := [(6, .int (-r_25)), (0, .ref (bs + 1088)), (1, .int y1J_48), (2, .int y2L_42), (3, .int y3L_42), (4, .int w4_21), (5, .int w5_22)]) hx hb dX12_laysLater_148 hl (by decide) rfl (fun ls hl => ?_)
            refine lv_iconst (v := 0) hx hb dX12_laysLater_150 (by decide) ?_
            refine lv_istore (lv' := [(7, .int (0 : Int32)), (6, .int (-r_25)), (0, .ref (bs + 1088)), (1, .int y1J_48), (2, .int y2L_42), (3, .int y3L_42), (4, .int w4_21), (5, .int w5_22)]) hx hb dX12_laysLater_151 hl (by decide) rfl (fun ls hl => ?_)
            obtain ⟨q_38, hlp_39, hf⟩ := bi1S hf
            refine lp_walk (Wh := (fun z => match z with | (y6L_34, y7L_34) => ∀ (H : Heap) (locs : List Loc) (ls : Array Slot), Wd D dA bs LY mmL_42 H → va_S (Aq bs) s.heap H locs → lv_has ls 9 [(0, .ref (bs + 1088)), (1, .int y1J_48), (2, .int y2L_42), (3, .int y3L_42), (4, .int w4_21), (6, .int y6L_34), (7, .int y7L_34)] → Wz p l e s m args below meth c D dA bs (some (.int out)) m1 2 44 H locs 153 ls [])) (Ph := (fun w6_35 => ∀ (H : Heap) (locs : List Loc) (ls : Array Slot), Wd D dA bs LY mmL_42 H → va_S (Aq bs) s.heap H locs → lv_has ls 9 [(0, .ref (bs + 1088)), (1, .int y1J_48), (2, .int y2L_42), (3, .int y3L_42), (4, .int w4_21), (6, .int w6_35)] → Wz p l e s m args below meth c D dA bs (some (.int out)) m1 2 44 H locs 223 ls [])) ?_ hlp_39 ?_ H locs ls hP hS (lv_sub hl [2, 3, 4, 5, 6, 1, 0] rfl)
            · intro z o hf hB hE
              obtain ⟨y6L_34, y7L_34⟩ := z
              intro H locs ls hP hS hl
              have hf : f_X12_laysLater_s153 mmL_42 y1J_48 y2L_42 y3L_42 w4_21 (y6L_34, y7L_34) = some o := hf
              unfold f_X12_laysLater_s153 at hf
              dsimp only at hf
              have hJ214 : ∀ (y7J_26 : Int32) (z0J_26 : Int32) (z1J_26 : Int32) (H : Heap) (locs : List Loc) (ls : Array Slot), f_X12_laysLater_j214 mmL_42 y1J_48 y2L_42 y3L_42 w4_21 y7J_26 z0J_26 z1J_26 = some o → Wd D dA bs LY mmL_42 H → va_S (Aq bs) s.heap H locs → lv_has ls 9 [(0, .ref (bs + 1088)), (1, .int y1J_48), (2, .int y2L_42), (3, .int y3L_42), (4, .int w4_21), (7, .int y7J_26)] → Wz p l e s m args below meth c D dA bs (some (.int out)) m1 2 44 H locs 214 ls [.int z0J_26, .int z1J_26] := by
                intro y7J_26 z0J_26 z1J_26 H locs ls hf hP hS hl
                unfold f_X12_laysLater_j214 at hf
                refine lv_iadd hx hb dX12_laysLater_214 ?_
                refine lv_istore (lv' := [(6, .int (z1J_26 + z0J_26)), (0, .ref (bs + 1088)), (1, .int y1J_48), (2, .int y2L_42), (3, .int y3L_42), (4, .int w4_21), (7, .int y7J_26)]) hx hb dX12_laysLater_215 hl (by decide) rfl (fun ls hl => ?_)
                refine lv_iinc (v := (y7J_26 + 1)) (lv' := [(7, .int (y7J_26 + 1)), (6, .int (z1J_26 + z0J_26)), (0, .ref (bs + 1088)), (1, .int y1J_48), (2, .int y2L_42), (3, .int y3L_42), (4, .int w4_21)]) hx hb dX12_laysLater_217 hl (k := 6) rfl rfl (by decide) rfl (fun ls hl => ?_)
                refine lv_goto (tgt := 153) hx hb dX12_laysLater_220 (by decide) ?_
                obtain rfl := Option.some.inj hf
                exact hB _ rfl H locs ls hP hS (lv_sub hl [2, 3, 4, 5, 6, 1, 0] rfl)
              have hJ213 : ∀ (y7J_27 : Int32) (z0J_27 : Int32) (H : Heap) (locs : List Loc) (ls : Array Slot), f_X12_laysLater_j213 mmL_42 y1J_48 y2L_42 y3L_42 w4_21 y7J_27 z0J_27 = some o → Wd D dA bs LY mmL_42 H → va_S (Aq bs) s.heap H locs → lv_has ls 9 [(0, .ref (bs + 1088)), (1, .int y1J_48), (2, .int y2L_42), (3, .int y3L_42), (4, .int w4_21), (7, .int y7J_27)] → Wz p l e s m args below meth c D dA bs (some (.int out)) m1 2 44 H locs 213 ls [.int z0J_27] := by
                intro y7J_27 z0J_27 H locs ls hf hP hS hl
                unfold f_X12_laysLater_j213 at hf
                refine lv_iconst (v := 0) hx hb dX12_laysLater_213 (by decide) ?_
                exact hJ214 y7J_27 (0 : Int32) z0J_27 H locs ls hf hP hS (lv_sub hl [0, 1, 2, 3, 4, 5] rfl)
              refine lv_iload hx hb dX12_laysLater_153 (lv_at hl 6 rfl) ?_
              refine lv_aload_n hx hb dX12_laysLater_155 rfl (lv_at hl 0 rfl) ?_
              refine wd_getR (q := 1089) X hP L1088 fl_X12_9 rfl dX12_laysLater_156 ?_
              refine lv_iconst (v := 3) hx hb dX12_laysLater_159 (by decide) ?_
              refine wd_ialdK (k := 3) X hP L1089 (by decide) (by decide) dX12_laysLater_160 ?_
              refine lv_icmp_ge (tgt := 223) hx hb dX12_laysLater_161 (by decide) (fun c_28 => ?_) (fun c_28 => ?_)
              · have hf := itT hf c_28
                obtain rfl := Option.some.inj hf
                exact hE _ rfl H locs ls hP hS (lv_sub hl [0, 1, 2, 3, 4, 5] rfl)
              · have hf := itF hf c_28
                refine lv_aload_n hx hb dX12_laysLater_164 rfl (lv_at hl 0 rfl) ?_
                refine wd_getR (q := 1095) X hP L1088 fl_X12_28 rfl dX12_laysLater_165 ?_
                refine lv_iload hx hb dX12_laysLater_168 (lv_at hl 6 rfl) ?_
                have g_29 := gdN hf
                have hf := gdK hf
                refine wd_iald X hP L1095 g_29 dX12_laysLater_170 ?_
                refine lv_aload_n hx hb dX12_laysLater_171 rfl (lv_at hl 0 rfl) ?_
                refine wd_getR (q := 1096) X hP L1088 fl_X12_31 rfl dX12_laysLater_172 ?_
                refine lv_iload hx hb dX12_laysLater_175 (lv_at hl 6 rfl) ?_
                have g_30 := gdN hf
                have hf := gdK hf
                refine wd_iald X hP L1096 g_30 dX12_laysLater_177 ?_
                refine lv_iload_n hx hb dX12_laysLater_178 rfl (lv_at hl 3 rfl) ?_
                refine lv_aload_n hx hb dX12_laysLater_179 rfl (lv_at hl 0 rfl) ?_
                refine wd_getR (q := 1089) X hP L1088 fl_X12_9 rfl dX12_laysLater_180 ?_
                refine lv_bipush (v := 6) hx hb dX12_laysLater_183 (by decide) ?_
                refine wd_ialdK (k := 6) X hP L1089 (by decide) (by decide) dX12_laysLater_185 ?_
                refine lv_isub hx hb dX12_laysLater_186 ?_
                refine lv_imul hx hb dX12_laysLater_187 ?_
                refine lv_isub hx hb dX12_laysLater_188 ?_
                refine lv_topi (fun x8_31 ex8_31 => ?_)
                have hf := vl hf ex8_31
                refine lv_istore (lv' := [(8, .int x8_31), (0, .ref (bs + 1088)), (1, .int y1J_48), (2, .int y2L_42), (3, .int y3L_42), (4, .int w4_21), (6, .int y6L_34), (7, .int y7L_34)]) hx hb dX12_laysLater_189 hl (by decide) rfl (fun ls hl => ?_)
                refine lv_iload hx hb dX12_laysLater_191 (lv_at hl 6 rfl) ?_
                refine lv_iload hx hb dX12_laysLater_193 (lv_at hl 5 rfl) ?_
                refine lv_iload hx hb dX12_laysLater_195 (lv_at hl 7 rfl) ?_
                refine wd_cs X hP hS ml_X12_390 (c_X12_has l D dA zz bs mmL_42 w4_21 y7L_34 (f_X12_has w4_21 y7L_34) rfl) rfl ⟨Nat.le_of_ble_eq_true rfl, Nat.le_of_ble_eq_true rfl⟩ hl.1 rfl (rest := [.int y6L_34]) (Nat.le_of_ble_eq_true rfl) ⟨Nat.zero_le _, Nat.zero_le _⟩ dX12_laysLater_197 (fun H locs hP hS => ?_)
                refine W.eq (g2 := F0 m 200 ls [.int (f_X12_has w4_21 y7L_34), .int y6L_34]) rfl ?_
                refine lv_if_eq (tgt := 213) hx hb dX12_laysLater_200 (by decide) (fun c_32 => ?_) (fun c_32 => ?_)
                · have hf := itT hf c_32
                  exact hJ213 y7L_34 y6L_34 H locs ls hf hP hS (lv_sub hl [1, 2, 3, 4, 5, 7] rfl)
                · have hf := itF hf c_32
                  refine lv_iload hx hb dX12_laysLater_203 (lv_at hl 0 rfl) ?_
                  refine lv_if_le (tgt := 213) hx hb dX12_laysLater_205 (by decide) (fun c_33 => ?_) (fun c_33 => ?_)
                  · have hf := itT hf c_33
                    exact hJ213 y7L_34 y6L_34 H locs ls hf hP hS (lv_sub hl [1, 2, 3, 4, 5, 7] rfl)
                  · have hf := itF hf c_33
                    refine lv_iload hx hb dX12_laysLater_208 (lv_at hl 0 rfl) ?_
                    refine lv_goto (tgt := 214) hx hb dX12_laysLater_210 (by decide) ?_
                    exact hJ214 y7L_34 x8_31 y6L_34 H locs ls hf hP hS (lv_sub hl [1, 2, 3, 4, 5, 7] rfl)
            · obtain ⟨w6_35, e_w6_35⟩ : ∃ z, z = q_38 := ⟨_, rfl⟩
              subst e_w6_35
              intro H locs ls hP hS hl
              refine lv_iload_n hx hb dX12_laysLater_223 rfl (lv_at hl 2 rfl) ?_
              refine lv_if_eq (tgt := 236) hx hb dX12_laysLater_224 (by decide) (fun c_36 => ?_) (fun c_36 => ?_)
              · have hf := itT hf c_36
                exact hJ236 mmL_42 y3L_42 w4_21 H locs ls hf hP hS (lv_sub hl [0, 1, 3, 4] rfl)
              · have hf := itF hf c_36
                refine lv_iload hx hb dX12_laysLater_227 (lv_at hl 5 rfl) ?_
                refine lv_if_lt (tgt := 236) hx hb dX12_laysLater_229 (by decide) (fun c_37 => ?_) (fun c_37 => ?_)
                · have hf := itT hf c_37
                  exact hJ236 mmL_42 y3L_42 w4_21 H locs ls hf hP hS (lv_sub hl [0, 1, 3, 4] rfl)
                · have hf := itF hf c_37
                  refine lv_iconst (v := 1) hx hb dX12_laysLater_232 (by decide) ?_
                  refine lv_goto (tgt := 237) hx hb dX12_laysLater_233 (by decide) ?_
                  exact hJ237 mmL_42 y3L_42 w4_21 (1 : Int32) H locs ls hf hP hS (lv_sub hl [0, 1, 3, 4] rfl)
    · obtain ⟨w2_43, mm_44⟩ := q_46
      dsimp only at hf
      intro H locs ls hP hS hl
      refine lv_iload_n hx hb dX12_laysLater_265 rfl (lv_at hl 0 rfl) ?_
      have g_45 := gdN hf
      have hf := gdK hf
      obtain ⟨rfl, rfl⟩ := Prod.mk.inj (Option.some.inj hf)
      exact wd_zret X hP hS hr0 g_45 dX12_laysLater_266 ⟨rfl, rfl⟩
  unfold f_X12_laysLater at hf
  refine lv_aload_n hx hb dX12_laysLater_0 rfl (lv_at hl 0 rfl) ?_
  refine lv_iconst (v := 0) hx hb dX12_laysLater_1 (by decide) ?_
  refine wd_putI X hP hS L1088 fp_X12_533 rfl dX12_laysLater_2 (fun H locs mm_49 emm_49 hP hS => ?_)
  have hf := vl hf emm_49
  refine lv_aload_n hx hb dX12_laysLater_5 rfl (lv_at hl 0 rfl) ?_
  refine lv_iload_n hx hb dX12_laysLater_6 rfl (lv_at hl 1 rfl) ?_
  obtain ⟨r_51, hc_50, hf⟩ := bi1S hf
  refine wd_cv X hP hS L1088 ml_X12_406 ⟨_, _, rfl⟩ (c_X12_floatOf l D dA zz bs mm_49 x1 r_51 hc_50) rfl ⟨Nat.le_of_ble_eq_true rfl, Nat.le_of_ble_eq_true rfl⟩ hl.1 rfl (rest := []) (Nat.le_of_ble_eq_true rfl) ⟨Nat.zero_le _, Nat.zero_le _⟩ dX12_laysLater_7 (fun H locs hP hS => ?_)
  refine W.eq (g2 := F0 m 10 ls [.int r_51]) rfl ?_
  refine lv_aload_n hx hb dX12_laysLater_10 rfl (lv_at hl 0 rfl) ?_
  refine lv_iload_n hx hb dX12_laysLater_11 rfl (lv_at hl 1 rfl) ?_
  obtain ⟨r_53, hc_52, hf⟩ := bi1S hf
  refine wd_cv X hP hS L1088 ml_X12_409 ⟨_, _, rfl⟩ (c_X12_weightOf l D dA zz bs mm_49 x1 r_53 hc_52) rfl ⟨Nat.le_of_ble_eq_true rfl, Nat.le_of_ble_eq_true rfl⟩ hl.1 rfl (rest := [.int r_51]) (Nat.le_of_ble_eq_true rfl) ⟨Nat.zero_le _, Nat.zero_le _⟩ dX12_laysLater_12 (fun H locs hP hS => ?_)
  refine W.eq (g2 := F0 m 15 ls [.int r_53, .int r_51]) rfl ?_
  refine lv_icmp_lt (tgt := 22) hx hb dX12_laysLater_15 (by decide) (fun c_54 => ?_) (fun c_54 => ?_)
  · have hf := itT hf c_54
    refine lv_iconst (v := 0) hx hb dX12_laysLater_22 (by decide) ?_
    exact hJ23 mm_49 x1 (0 : Int32) H locs ls hf hP hS (lv_sub hl [0, 1] rfl)
  · have hf := itF hf c_54
    refine lv_iconst (v := 1) hx hb dX12_laysLater_18 (by decide) ?_
    refine lv_goto (tgt := 23) hx hb dX12_laysLater_19 (by decide) ?_
    exact hJ23 mm_49 x1 (1 : Int32) H locs ls hf hP hS (lv_sub hl [0, 1] rfl)

noncomputable def f_X12_areTogether_j84 (mm : Mm) (y1 : Int32) (y2 : Int32) (y4 : Int32) (z0 : Int32) (z1 : Int32) : Option ((Int32 × Int32) ⊕ (Int32)) :=
  some (.inl ((z1 + z0), (y4 + 1)))
noncomputable def f_X12_areTogether_j83 (mm : Mm) (y1 : Int32) (y2 : Int32) (y4 : Int32) (z0 : Int32) : Option ((Int32 × Int32) ⊕ (Int32)) :=
  f_X12_areTogether_j84 mm y1 y2 y4 (0 : Int32) z0
noncomputable def f_X12_areTogether_j52 (mm : Mm) (y1 : Int32) (y2 : Int32) (y3 : Int32) (y4 : Int32) (z0 : Int32) : Option ((Int32 × Int32) ⊕ (Int32)) :=
  if y2 < 0 ∨ 7 ≤ y2.toNatClampNeg then none else
    if y4 < 0 ∨ 9 ≤ y4.toNatClampNeg then none else
      if (f_X12_has (mm.1 1133 y2.toNatClampNeg) (mm.1 1131 y4.toNatClampNeg)) = 0 then
        f_X12_areTogether_j83 mm y1 y2 y4 y3
      else
        if z0 = 0 then
          f_X12_areTogether_j84 mm y1 y2 y4 (1 : Int32) y3
        else
          f_X12_areTogether_j83 mm y1 y2 y4 y3
noncomputable def f_X12_areTogether_j51 (mm : Mm) (y1 : Int32) (y2 : Int32) (y3 : Int32) (y4 : Int32) : Option ((Int32 × Int32) ⊕ (Int32)) :=
  f_X12_areTogether_j52 mm y1 y2 y3 y4 (0 : Int32)
noncomputable def f_X12_areTogether_s15 (mm : Mm) (y1 : Int32) (y2 : Int32) : (Int32 × Int32) → Option ((Int32 × Int32) ⊕ (Int32)) :=
  fun q => match q with
  | (y3, y4) =>
    if y1 ≤ y4 then
      some (.inr y3)
    else
      if y4 ≤ 0 then
        f_X12_areTogether_j51 mm y1 y2 y3 y4
      else
        if y2 < 0 ∨ 7 ≤ y2.toNatClampNeg then none else
          if (y4 - (1 : Int32)) < 0 ∨ 9 ≤ (y4 - (1 : Int32)).toNatClampNeg then none else
            if (f_X12_has (mm.1 1133 y2.toNatClampNeg) (mm.1 1131 (y4 - (1 : Int32)).toNatClampNeg)) = 0 then
              f_X12_areTogether_j51 mm y1 y2 y3 y4
            else
              f_X12_areTogether_j52 mm y1 y2 y3 y4 (1 : Int32)
noncomputable def f_X12_areTogether_s2 (mm : Mm) (y1 : Int32) : (Int32) → Option ((Int32) ⊕ ((Unit) ⊕ (Unit))) :=
  fun (y2 : Int32) =>
    if (mm.1 1088 61) ≤ y2 then
      some (.inr (.inr (())))
    else
      bi1 (lp (f_X12_areTogether_s15 mm y1 y2) ((0 : Int32), (0 : Int32))) fun w3_16 =>
        if w3_16 ≤ (1 : Int32) then
          some (.inl (y2 + 1))
        else
          some (.inr (.inl ()))
noncomputable def f_X12_areTogether (mm : Mm) (x1 : Int32) : Option (Int32) :=
  bi1 (lp (f_X12_areTogether_s2 mm x1) (0 : Int32)) fun q => match q with
  | .inl () =>
    some (0 : Int32)
  | .inr (()) =>
    some (1 : Int32)
set_option maxHeartbeats 4000000 in
set_option maxRecDepth 100000 in
theorem c_X12_areTogether (l : Launch) (D : va_G) (dA : Nat → ClassId) (zz : (Nat → Nat) × (Nat → Nat)) (bs : Nat) (mm : Mm) (x1 : Int32) (out : Int32) (hf : f_X12_areTogether mm x1 = some out) : Mw l D dA zz bs LY yX12_areTogether cX12_areTogether 6 (some .boolean) 1 21 [.ref (bs + 1088), .int x1] mm (some (.int out)) mm := by
  refine Mw.of (own := RX12) (by decide) rfl (Nat.le_of_ble_eq_true rfl) ?_
  intro p e s m args below meth c X hr0 hP hS ls hl
  have hx := X.1
  have hb := X.2.1
  obtain ⟨H, hH⟩ : ∃ z : Heap, z = s.heap := ⟨_, rfl⟩
  obtain ⟨locs, hL⟩ : ∃ z : List Loc, z = [] := ⟨_, rfl⟩
  rw [← hH, ← hL]
  have hS : va_S (Aq bs) s.heap H locs := by rw [hH, hL]; exact hS
  have hP : Wd D dA bs LY mm H := by rw [hH]; exact hP
  have hl : lv_has ls 6 [(0, .ref (bs + 1088)), (1, .int x1)] := hl
  unfold f_X12_areTogether at hf
  refine lv_iconst (v := 0) hx hb dX12_areTogether_0 (by decide) ?_
  refine lv_istore_n (lv' := [(2, .int (0 : Int32)), (0, .ref (bs + 1088)), (1, .int x1)]) hx hb dX12_areTogether_1 rfl hl (by decide) rfl (fun ls hl => ?_)
  obtain ⟨q_21, hlp_22, hf⟩ := bi1S hf
  refine lp_walk (Wh := (fun y2L_20 => ∀ (H : Heap) (locs : List Loc) (ls : Array Slot), Wd D dA bs LY mm H → va_S (Aq bs) s.heap H locs → lv_has ls 6 [(0, .ref (bs + 1088)), (1, .int x1), (2, .int y2L_20)] → Wz p l e s m args below meth c D dA bs (some (.int out)) mm 1 21 H locs 2 ls [])) (Ph := (fun z => match z with | .inl () => ∀ (H : Heap) (locs : List Loc) (ls : Array Slot), Wd D dA bs LY mm H → va_S (Aq bs) s.heap H locs → lv_has ls 6 [] → Wz p l e s m args below meth c D dA bs (some (.int out)) mm 1 21 H locs 97 ls [] | .inr (()) => ∀ (H : Heap) (locs : List Loc) (ls : Array Slot), Wd D dA bs LY mm H → va_S (Aq bs) s.heap H locs → lv_has ls 6 [] → Wz p l e s m args below meth c D dA bs (some (.int out)) mm 1 21 H locs 105 ls [])) ?_ hlp_22 ?_ H locs ls hP hS (lv_sub hl [1, 2, 0] rfl)
  · intro y2L_20 o hf hB hE
    intro H locs ls hP hS hl
    have hf : f_X12_areTogether_s2 mm x1 y2L_20 = some o := hf
    unfold f_X12_areTogether_s2 at hf
    refine lv_iload_n hx hb dX12_areTogether_2 rfl (lv_at hl 2 rfl) ?_
    refine lv_aload_n hx hb dX12_areTogether_3 rfl (lv_at hl 0 rfl) ?_
    refine wd_getI X hP L1088 fl_X12_533 rfl dX12_areTogether_4 ?_
    refine lv_icmp_ge (tgt := 105) hx hb dX12_areTogether_7 (by decide) (fun c_1 => ?_) (fun c_1 => ?_)
    · have hf := itT hf c_1
      obtain rfl := Option.some.inj hf
      exact hE _ rfl H locs ls hP hS (lv_sub hl [] rfl)
    · have hf := itF hf c_1
      refine lv_iconst (v := 0) hx hb dX12_areTogether_10 (by decide) ?_
      refine lv_istore_n (lv' := [(3, .int (0 : Int32)), (0, .ref (bs + 1088)), (1, .int x1), (2, .int y2L_20)]) hx hb dX12_areTogether_11 rfl hl (by decide) rfl (fun ls hl => ?_)
      refine lv_iconst (v := 0) hx hb dX12_areTogether_12 (by decide) ?_
      refine lv_istore (lv' := [(4, .int (0 : Int32)), (3, .int (0 : Int32)), (0, .ref (bs + 1088)), (1, .int x1), (2, .int y2L_20)]) hx hb dX12_areTogether_13 hl (by decide) rfl (fun ls hl => ?_)
      obtain ⟨q_18, hlp_19, hf⟩ := bi1S hf
      refine lp_walk (Wh := (fun z => match z with | (y3L_15, y4L_15) => ∀ (H : Heap) (locs : List Loc) (ls : Array Slot), Wd D dA bs LY mm H → va_S (Aq bs) s.heap H locs → lv_has ls 6 [(0, .ref (bs + 1088)), (1, .int x1), (2, .int y2L_20), (3, .int y3L_15), (4, .int y4L_15)] → Wz p l e s m args below meth c D dA bs (some (.int out)) mm 1 21 H locs 15 ls [])) (Ph := (fun w3_16 => ∀ (H : Heap) (locs : List Loc) (ls : Array Slot), Wd D dA bs LY mm H → va_S (Aq bs) s.heap H locs → lv_has ls 6 [(0, .ref (bs + 1088)), (1, .int x1), (2, .int y2L_20), (3, .int w3_16)] → Wz p l e s m args below meth c D dA bs (some (.int out)) mm 1 21 H locs 92 ls [])) ?_ hlp_19 ?_ H locs ls hP hS (lv_sub hl [2, 3, 4, 1, 0] rfl)
      · intro z o hf hB hE
        obtain ⟨y3L_15, y4L_15⟩ := z
        intro H locs ls hP hS hl
        have hf : f_X12_areTogether_s15 mm x1 y2L_20 (y3L_15, y4L_15) = some o := hf
        unfold f_X12_areTogether_s15 at hf
        dsimp only at hf
        have hJ84 : ∀ (y4J_2 : Int32) (z0J_2 : Int32) (z1J_2 : Int32) (H : Heap) (locs : List Loc) (ls : Array Slot), f_X12_areTogether_j84 mm x1 y2L_20 y4J_2 z0J_2 z1J_2 = some o → Wd D dA bs LY mm H → va_S (Aq bs) s.heap H locs → lv_has ls 6 [(0, .ref (bs + 1088)), (1, .int x1), (2, .int y2L_20), (4, .int y4J_2)] → Wz p l e s m args below meth c D dA bs (some (.int out)) mm 1 21 H locs 84 ls [.int z0J_2, .int z1J_2] := by
          intro y4J_2 z0J_2 z1J_2 H locs ls hf hP hS hl
          unfold f_X12_areTogether_j84 at hf
          refine lv_iadd hx hb dX12_areTogether_84 ?_
          refine lv_istore_n (lv' := [(3, .int (z1J_2 + z0J_2)), (0, .ref (bs + 1088)), (1, .int x1), (2, .int y2L_20), (4, .int y4J_2)]) hx hb dX12_areTogether_85 rfl hl (by decide) rfl (fun ls hl => ?_)
          refine lv_iinc (v := (y4J_2 + 1)) (lv' := [(4, .int (y4J_2 + 1)), (3, .int (z1J_2 + z0J_2)), (0, .ref (bs + 1088)), (1, .int x1), (2, .int y2L_20)]) hx hb dX12_areTogether_86 hl (k := 4) rfl rfl (by decide) rfl (fun ls hl => ?_)
          refine lv_goto (tgt := 15) hx hb dX12_areTogether_89 (by decide) ?_
          obtain rfl := Option.some.inj hf
          exact hB _ rfl H locs ls hP hS (lv_sub hl [2, 3, 4, 1, 0] rfl)
        have hJ83 : ∀ (y4J_3 : Int32) (z0J_3 : Int32) (H : Heap) (locs : List Loc) (ls : Array Slot), f_X12_areTogether_j83 mm x1 y2L_20 y4J_3 z0J_3 = some o → Wd D dA bs LY mm H → va_S (Aq bs) s.heap H locs → lv_has ls 6 [(0, .ref (bs + 1088)), (1, .int x1), (2, .int y2L_20), (4, .int y4J_3)] → Wz p l e s m args below meth c D dA bs (some (.int out)) mm 1 21 H locs 83 ls [.int z0J_3] := by
          intro y4J_3 z0J_3 H locs ls hf hP hS hl
          unfold f_X12_areTogether_j83 at hf
          refine lv_iconst (v := 0) hx hb dX12_areTogether_83 (by decide) ?_
          exact hJ84 y4J_3 (0 : Int32) z0J_3 H locs ls hf hP hS (lv_sub hl [0, 1, 2, 3] rfl)
        have hJ52 : ∀ (y3J_8 : Int32) (y4J_8 : Int32) (z0J_8 : Int32) (H : Heap) (locs : List Loc) (ls : Array Slot), f_X12_areTogether_j52 mm x1 y2L_20 y3J_8 y4J_8 z0J_8 = some o → Wd D dA bs LY mm H → va_S (Aq bs) s.heap H locs → lv_has ls 6 [(0, .ref (bs + 1088)), (1, .int x1), (2, .int y2L_20), (3, .int y3J_8), (4, .int y4J_8)] → Wz p l e s m args below meth c D dA bs (some (.int out)) mm 1 21 H locs 52 ls [.int z0J_8] := by
          intro y3J_8 y4J_8 z0J_8 H locs ls hf hP hS hl
          unfold f_X12_areTogether_j52 at hf
          refine lv_istore (lv' := [(5, .int z0J_8), (0, .ref (bs + 1088)), (1, .int x1), (2, .int y2L_20), (3, .int y3J_8), (4, .int y4J_8)]) hx hb dX12_areTogether_52 hl (by decide) rfl (fun ls hl => ?_)
          refine lv_iload_n hx hb dX12_areTogether_54 rfl (lv_at hl 4 rfl) ?_
          refine lv_aload_n hx hb dX12_areTogether_55 rfl (lv_at hl 1 rfl) ?_
          refine wd_getR (q := 1133) X hP L1088 fl_X12_148 rfl dX12_areTogether_56 ?_
          refine lv_iload_n hx hb dX12_areTogether_59 rfl (lv_at hl 3 rfl) ?_
          have g_4 := gdN hf
          have hf := gdK hf
          refine wd_iald X hP L1133 g_4 dX12_areTogether_60 ?_
          refine lv_aload_n hx hb dX12_areTogether_61 rfl (lv_at hl 1 rfl) ?_
          refine wd_getR (q := 1131) X hP L1088 fl_X12_142 rfl dX12_areTogether_62 ?_
          refine lv_iload hx hb dX12_areTogether_65 (lv_at hl 5 rfl) ?_
          have g_5 := gdN hf
          have hf := gdK hf
          refine wd_iald X hP L1131 g_5 dX12_areTogether_67 ?_
          refine wd_cs X hP hS ml_X12_390 (c_X12_has l D dA zz bs mm (mm.1 1133 y2L_20.toNatClampNeg) (mm.1 1131 y4J_8.toNatClampNeg) (f_X12_has (mm.1 1133 y2L_20.toNatClampNeg) (mm.1 1131 y4J_8.toNatClampNeg)) rfl) rfl ⟨Nat.le_of_ble_eq_true rfl, Nat.le_of_ble_eq_true rfl⟩ hl.1 rfl (rest := [.int y3J_8]) (Nat.le_of_ble_eq_true rfl) ⟨Nat.zero_le _, Nat.zero_le _⟩ dX12_areTogether_68 (fun H locs hP hS => ?_)
          refine W.eq (g2 := F0 m 71 ls [.int (f_X12_has (mm.1 1133 y2L_20.toNatClampNeg) (mm.1 1131 y4J_8.toNatClampNeg)), .int y3J_8]) rfl ?_
          refine lv_if_eq (tgt := 83) hx hb dX12_areTogether_71 (by decide) (fun c_6 => ?_) (fun c_6 => ?_)
          · have hf := itT hf c_6
            exact hJ83 y4J_8 y3J_8 H locs ls hf hP hS (lv_sub hl [1, 2, 3, 5] rfl)
          · have hf := itF hf c_6
            refine lv_iload hx hb dX12_areTogether_74 (lv_at hl 0 rfl) ?_
            refine lv_if_ne (tgt := 83) hx hb dX12_areTogether_76 (by decide) (fun c_7 => ?_) (fun c_7 => ?_)
            · have hf := itF hf c_7
              exact hJ83 y4J_8 y3J_8 H locs ls hf hP hS (lv_sub hl [1, 2, 3, 5] rfl)
            · have hf := itT hf c_7
              refine lv_iconst (v := 1) hx hb dX12_areTogether_79 (by decide) ?_
              refine lv_goto (tgt := 84) hx hb dX12_areTogether_80 (by decide) ?_
              exact hJ84 y4J_8 (1 : Int32) y3J_8 H locs ls hf hP hS (lv_sub hl [1, 2, 3, 5] rfl)
        have hJ51 : ∀ (y3J_9 : Int32) (y4J_9 : Int32) (H : Heap) (locs : List Loc) (ls : Array Slot), f_X12_areTogether_j51 mm x1 y2L_20 y3J_9 y4J_9 = some o → Wd D dA bs LY mm H → va_S (Aq bs) s.heap H locs → lv_has ls 6 [(0, .ref (bs + 1088)), (1, .int x1), (2, .int y2L_20), (3, .int y3J_9), (4, .int y4J_9)] → Wz p l e s m args below meth c D dA bs (some (.int out)) mm 1 21 H locs 51 ls [] := by
          intro y3J_9 y4J_9 H locs ls hf hP hS hl
          unfold f_X12_areTogether_j51 at hf
          refine lv_iconst (v := 0) hx hb dX12_areTogether_51 (by decide) ?_
          exact hJ52 y3J_9 y4J_9 (0 : Int32) H locs ls hf hP hS (lv_sub hl [0, 1, 2, 3, 4] rfl)
        refine lv_iload hx hb dX12_areTogether_15 (lv_at hl 4 rfl) ?_
        refine lv_iload_n hx hb dX12_areTogether_17 rfl (lv_at hl 1 rfl) ?_
        refine lv_icmp_ge (tgt := 92) hx hb dX12_areTogether_18 (by decide) (fun c_10 => ?_) (fun c_10 => ?_)
        · have hf := itT hf c_10
          obtain rfl := Option.some.inj hf
          exact hE _ rfl H locs ls hP hS (lv_sub hl [0, 1, 2, 3] rfl)
        · have hf := itF hf c_10
          refine lv_iload hx hb dX12_areTogether_21 (lv_at hl 4 rfl) ?_
          refine lv_if_le (tgt := 51) hx hb dX12_areTogether_23 (by decide) (fun c_11 => ?_) (fun c_11 => ?_)
          · have hf := itT hf c_11
            exact hJ51 y3L_15 y4L_15 H locs ls hf hP hS (lv_sub hl [0, 1, 2, 3, 4] rfl)
          · have hf := itF hf c_11
            refine lv_aload_n hx hb dX12_areTogether_26 rfl (lv_at hl 0 rfl) ?_
            refine wd_getR (q := 1133) X hP L1088 fl_X12_148 rfl dX12_areTogether_27 ?_
            refine lv_iload_n hx hb dX12_areTogether_30 rfl (lv_at hl 2 rfl) ?_
            have g_12 := gdN hf
            have hf := gdK hf
            refine wd_iald X hP L1133 g_12 dX12_areTogether_31 ?_
            refine lv_aload_n hx hb dX12_areTogether_32 rfl (lv_at hl 0 rfl) ?_
            refine wd_getR (q := 1131) X hP L1088 fl_X12_142 rfl dX12_areTogether_33 ?_
            refine lv_iload hx hb dX12_areTogether_36 (lv_at hl 4 rfl) ?_
            refine lv_iconst (v := 1) hx hb dX12_areTogether_38 (by decide) ?_
            refine lv_isub hx hb dX12_areTogether_39 ?_
            have g_13 := gdN hf
            have hf := gdK hf
            refine wd_iald X hP L1131 g_13 dX12_areTogether_40 ?_
            refine wd_cs X hP hS ml_X12_390 (c_X12_has l D dA zz bs mm (mm.1 1133 y2L_20.toNatClampNeg) (mm.1 1131 (y4L_15 - (1 : Int32)).toNatClampNeg) (f_X12_has (mm.1 1133 y2L_20.toNatClampNeg) (mm.1 1131 (y4L_15 - (1 : Int32)).toNatClampNeg)) rfl) rfl ⟨Nat.le_of_ble_eq_true rfl, Nat.le_of_ble_eq_true rfl⟩ hl.1 rfl (rest := []) (Nat.le_of_ble_eq_true rfl) ⟨Nat.zero_le _, Nat.zero_le _⟩ dX12_areTogether_41 (fun H locs hP hS => ?_)
            refine W.eq (g2 := F0 m 44 ls [.int (f_X12_has (mm.1 1133 y2L_20.toNatClampNeg) (mm.1 1131 (y4L_15 - (1 : Int32)).toNatClampNeg))]) rfl ?_
            refine lv_if_eq (tgt := 51) hx hb dX12_areTogether_44 (by decide) (fun c_14 => ?_) (fun c_14 => ?_)
            · have hf := itT hf c_14
              exact hJ51 y3L_15 y4L_15 H locs ls hf hP hS (lv_sub hl [0, 1, 2, 3, 4] rfl)
            · have hf := itF hf c_14
              refine lv_iconst (v := 1) hx hb dX12_areTogether_47 (by decide) ?_
              refine lv_goto (tgt := 52) hx hb dX12_areTogether_48 (by decide) ?_
              exact hJ52 y3L_15 y4L_15 (1 : Int32) H locs ls hf hP hS (lv_sub hl [0, 1, 2, 3, 4] rfl)
      · obtain ⟨w3_16, e_w3_16⟩ : ∃ z, z = q_18 := ⟨_, rfl⟩
        subst e_w3_16
        intro H locs ls hP hS hl
        refine lv_iload_n hx hb dX12_areTogether_92 rfl (lv_at hl 3 rfl) ?_
        refine lv_iconst (v := 1) hx hb dX12_areTogether_93 (by decide) ?_
        refine lv_icmp_le (tgt := 99) hx hb dX12_areTogether_94 (by decide) (fun c_17 => ?_) (fun c_17 => ?_)
        · have hf := itT hf c_17
          refine lv_iinc (v := (y2L_20 + 1)) (lv' := [(2, .int (y2L_20 + 1)), (0, .ref (bs + 1088)), (1, .int x1), (3, .int w3_16)]) hx hb dX12_areTogether_99 hl (k := 2) rfl rfl (by decide) rfl (fun ls hl => ?_)
          refine lv_goto (tgt := 2) hx hb dX12_areTogether_102 (by decide) ?_
          obtain rfl := Option.some.inj hf
          exact hB _ rfl H locs ls hP hS (lv_sub hl [1, 2, 0] rfl)
        · have hf := itF hf c_17
          obtain rfl := Option.some.inj hf
          exact hE _ rfl H locs ls hP hS (lv_sub hl [] rfl)
  · rcases q_21 with ⟨⟩ | ⟨⟩
    · dsimp only at hf
      intro H locs ls hP hS hl
      refine lv_iconst (v := 0) hx hb dX12_areTogether_97 (by decide) ?_
      obtain rfl := Option.some.inj hf
      exact wd_zret X hP hS hr0 (by decide) dX12_areTogether_98 ⟨rfl, rfl⟩
    · dsimp only at hf
      intro H locs ls hP hS hl
      refine lv_iconst (v := 1) hx hb dX12_areTogether_105 (by decide) ?_
      obtain rfl := Option.some.inj hf
      exact wd_zret X hP hS hr0 (by decide) dX12_areTogether_106 ⟨rfl, rfl⟩

noncomputable def f_X12_takesRow_s10 (y1 : Int32) : (Int32 × Mm) → Option ((Int32 × Mm) ⊕ (Mm)) :=
  fun q => match q with
  | (y2, mm) =>
    if y1 ≤ y2 then
      some (.inr mm)
    else
      if (mm.1 1088 62) = 0 then
        if y2 < 0 ∨ 9 ≤ y2.toNatClampNeg then none else
          if y2 < 0 ∨ 8 ≤ y2.toNatClampNeg then none else
            vlet (wI mm 1132 y2.toNatClampNeg (mm.1 1131 y2.toNatClampNeg)) fun mm_7 => some (.inl ((y2 + 1), mm_7))
      else
        some (.inr mm)
noncomputable def f_X12_takesRow (mm : Mm) (x1 : Int32) : Option (Mm) :=
  bi1 (f_X12_areTogether mm x1) fun r_2 =>
    if r_2 = 0 then
      some mm
    else
      bi1 (lp (f_X12_takesRow_s10 x1) ((0 : Int32), mm)) fun mm_10 =>
        vlet (wI mm_10 1088 62 ((mm_10.1 1088 62) + (1 : Int32))) fun mm_11 => some mm_11
set_option maxHeartbeats 4000000 in
set_option maxRecDepth 100000 in
theorem c_X12_takesRow (l : Launch) (D : va_G) (dA : Nat → ClassId) (zz : (Nat → Nat) × (Nat → Nat)) (bs : Nat) (mm : Mm) (x1 : Int32) (m1 : Mm) (hf : f_X12_takesRow mm x1 = some m1) : Mw l D dA zz bs LY yX12_takesRow cX12_takesRow 3 none 2 46 [.ref (bs + 1088), .int x1] mm none m1 := by
  refine Mw.of (own := RX12) (by decide) rfl (Nat.le_of_ble_eq_true rfl) ?_
  intro p e s m args below meth c X hr0 hP hS ls hl
  have hx := X.1
  have hb := X.2.1
  obtain ⟨H, hH⟩ : ∃ z : Heap, z = s.heap := ⟨_, rfl⟩
  obtain ⟨locs, hL⟩ : ∃ z : List Loc, z = [] := ⟨_, rfl⟩
  rw [← hH, ← hL]
  have hS : va_S (Aq bs) s.heap H locs := by rw [hH, hL]; exact hS
  have hP : Wd D dA bs LY mm H := by rw [hH]; exact hP
  have hl : lv_has ls 3 [(0, .ref (bs + 1088)), (1, .int x1)] := hl
  unfold f_X12_takesRow at hf
  refine lv_aload_n hx hb dX12_takesRow_0 rfl (lv_at hl 0 rfl) ?_
  refine lv_iload_n hx hb dX12_takesRow_1 rfl (lv_at hl 1 rfl) ?_
  obtain ⟨r_2, hc_1, hf⟩ := bi1S hf
  refine wd_cv X hP hS L1088 ml_X12_545 ⟨_, _, rfl⟩ (c_X12_areTogether l D dA zz bs mm x1 r_2 hc_1) rfl ⟨Nat.le_of_ble_eq_true rfl, Nat.le_of_ble_eq_true rfl⟩ hl.1 rfl (rest := []) (Nat.le_of_ble_eq_true rfl) ⟨Nat.zero_le _, Nat.zero_le _⟩ dX12_takesRow_2 (fun H locs hP hS => ?_)
  refine W.eq (g2 := F0 m 5 ls [.int r_2]) rfl ?_
  refine lv_if_eq (tgt := 50) hx hb dX12_takesRow_5 (by decide) (fun c_3 => ?_) (fun c_3 => ?_)
  · have hf := itT hf c_3
    obtain rfl := Option.some.inj hf
    exact wd_vret X hP hS hr0 dX12_takesRow_50 ⟨rfl, rfl⟩
  · have hf := itF hf c_3
    refine lv_iconst (v := 0) hx hb dX12_takesRow_8 (by decide) ?_
    refine lv_istore_n (lv' := [(2, .int (0 : Int32)), (0, .ref (bs + 1088)), (1, .int x1)]) hx hb dX12_takesRow_9 rfl hl (by decide) rfl (fun ls hl => ?_)
    obtain ⟨q_12, hlp_13, hf⟩ := bi1S hf
    refine lp_walk (Wh := (fun z => match z with | (y2L_9, mmL_9) => ∀ (H : Heap) (locs : List Loc) (ls : Array Slot), Wd D dA bs LY mmL_9 H → va_S (Aq bs) s.heap H locs → lv_has ls 3 [(0, .ref (bs + 1088)), (1, .int x1), (2, .int y2L_9)] → Wz p l e s m args below meth c D dA bs none m1 2 46 H locs 10 ls [])) (Ph := (fun mm_10 => ∀ (H : Heap) (locs : List Loc) (ls : Array Slot), Wd D dA bs LY mm_10 H → va_S (Aq bs) s.heap H locs → lv_has ls 3 [(0, .ref (bs + 1088))] → Wz p l e s m args below meth c D dA bs none m1 2 46 H locs 40 ls [])) ?_ hlp_13 ?_ H locs ls hP hS (lv_sub hl [1, 2, 0] rfl)
    · intro z o hf hB hE
      obtain ⟨y2L_9, mmL_9⟩ := z
      intro H locs ls hP hS hl
      have hf : f_X12_takesRow_s10 x1 (y2L_9, mmL_9) = some o := hf
      unfold f_X12_takesRow_s10 at hf
      dsimp only at hf
      refine lv_iload_n hx hb dX12_takesRow_10 rfl (lv_at hl 2 rfl) ?_
      refine lv_iload_n hx hb dX12_takesRow_11 rfl (lv_at hl 1 rfl) ?_
      refine lv_icmp_ge (tgt := 40) hx hb dX12_takesRow_12 (by decide) (fun c_4 => ?_) (fun c_4 => ?_)
      · have hf := itT hf c_4
        obtain rfl := Option.some.inj hf
        exact hE _ rfl H locs ls hP hS (lv_sub hl [0] rfl)
      · have hf := itF hf c_4
        refine lv_aload_n hx hb dX12_takesRow_15 rfl (lv_at hl 0 rfl) ?_
        refine wd_getI X hP L1088 fl_X12_536 rfl dX12_takesRow_16 ?_
        refine lv_if_ne (tgt := 40) hx hb dX12_takesRow_19 (by decide) (fun c_5 => ?_) (fun c_5 => ?_)
        · have hf := itF hf c_5
          obtain rfl := Option.some.inj hf
          exact hE _ rfl H locs ls hP hS (lv_sub hl [0] rfl)
        · have hf := itT hf c_5
          refine lv_aload_n hx hb dX12_takesRow_22 rfl (lv_at hl 0 rfl) ?_
          refine wd_getR (q := 1132) X hP L1088 fl_X12_145 rfl dX12_takesRow_23 ?_
          refine lv_iload_n hx hb dX12_takesRow_26 rfl (lv_at hl 2 rfl) ?_
          refine lv_aload_n hx hb dX12_takesRow_27 rfl (lv_at hl 0 rfl) ?_
          refine wd_getR (q := 1131) X hP L1088 fl_X12_142 rfl dX12_takesRow_28 ?_
          refine lv_iload_n hx hb dX12_takesRow_31 rfl (lv_at hl 2 rfl) ?_
          have g_6 := gdN hf
          have hf := gdK hf
          refine wd_iald X hP L1131 g_6 dX12_takesRow_32 ?_
          have g_8 := gdN hf
          have hf := gdK hf
          refine wd_iast X hP hS L1132 g_8 dX12_takesRow_33 (fun H locs mm_7 emm_7 hP hS => ?_)
          have hf := vl hf emm_7
          refine lv_iinc (v := (y2L_9 + 1)) (lv' := [(2, .int (y2L_9 + 1)), (0, .ref (bs + 1088)), (1, .int x1)]) hx hb dX12_takesRow_34 hl (k := 2) rfl rfl (by decide) rfl (fun ls hl => ?_)
          refine lv_goto (tgt := 10) hx hb dX12_takesRow_37 (by decide) ?_
          obtain rfl := Option.some.inj hf
          exact hB _ rfl H locs ls hP hS (lv_sub hl [1, 2, 0] rfl)
    · obtain ⟨mm_10, e_mm_10⟩ : ∃ z, z = q_12 := ⟨_, rfl⟩
      subst e_mm_10
      intro H locs ls hP hS hl
      refine lv_aload_n hx hb dX12_takesRow_40 rfl (lv_at hl 0 rfl) ?_
      refine lv_dup hx hb dX12_takesRow_41 rfl ?_
      refine wd_getI X hP L1088 fl_X12_536 rfl dX12_takesRow_42 ?_
      refine lv_iconst (v := 1) hx hb dX12_takesRow_45 (by decide) ?_
      refine lv_iadd hx hb dX12_takesRow_46 ?_
      refine wd_putI X hP hS L1088 fp_X12_536 rfl dX12_takesRow_47 (fun H locs mm_11 emm_11 hP hS => ?_)
      have hf := vl hf emm_11
      obtain rfl := Option.some.inj hf
      exact wd_vret X hP hS hr0 dX12_takesRow_50 ⟨rfl, rfl⟩

noncomputable def f_X12_findsRows_j123 (mm : Mm) (y1 : Int32) (y2 : Int32) (y3 : Int32) (y4 : Int32) : Option ((Mm) ⊕ (Mm)) :=
  if y3 < 0 ∨ 9 ≤ y3.toNatClampNeg then none else
    if y3 < 0 ∨ 9 ≤ y3.toNatClampNeg then none else
      vlet (wI mm 1131 y3.toNatClampNeg ((mm.1 1131 y3.toNatClampNeg) + (1 : Int32))) fun mm_14 => some (.inl mm_14)
noncomputable def f_X12_findsRows_s85 (y1 : Int32) (y2 : Int32) (y3 : Int32) (y4 : Int32) : (Mm) → Option ((Mm) ⊕ (Mm)) :=
  fun (mm : Mm) =>
    if y3 < 0 ∨ 9 ≤ y3.toNatClampNeg then none else
      if (8 : Int32) ≤ (mm.1 1131 y3.toNatClampNeg) then
        some (.inr mm)
      else
        if y3 < 0 ∨ 9 ≤ y3.toNatClampNeg then none else
          if (f_X12_has y1 (mm.1 1131 y3.toNatClampNeg)) = 0 then
            f_X12_findsRows_j123 mm y1 y2 y3 y4
          else
            if y3 < 0 ∨ 9 ≤ y3.toNatClampNeg then none else
              if (f_X12_has y4 (mm.1 1131 y3.toNatClampNeg)) = 0 then
                some (.inr mm)
              else
                f_X12_findsRows_j123 mm y1 y2 y3 y4
noncomputable def f_X12_findsRows_j73 (mm : Mm) (y1 : Int32) (y2 : Int32) (y3 : Int32) (z0 : Int32) : Option ((Int32 × Int32 × Mm) ⊕ (Mm)) :=
  if y3 < 0 ∨ 9 ≤ y3.toNatClampNeg then none else
    if y3 < 0 ∨ 9 ≤ y3.toNatClampNeg then none else
      vlet (wI mm 1131 y3.toNatClampNeg ((mm.1 1131 y3.toNatClampNeg) + (1 : Int32))) fun mm_11 =>
        bi1 (lp (f_X12_findsRows_s85 y1 y2 y3 z0) mm_11) fun mm_24 =>
          if y3 < 0 ∨ 9 ≤ y3.toNatClampNeg then none else
            if (mm_24.1 1131 y3.toNatClampNeg) = (8 : Int32) then
              some (.inl ((y3 + (-1)), z0, mm_24))
            else
              if y3 = (y2 - (1 : Int32)) then
                bi1 (f_X12_takesRow mm_24 y2) fun mm_32 => some (.inl (y3, z0, mm_32))
              else
                if y3 < 0 ∨ 9 ≤ y3.toNatClampNeg then none else
                  vlet (z0 ||| ((1 : Int32) <<< ((mm_24.1 1131 y3.toNatClampNeg) &&& 31))) fun (x4_29 : Int32) =>
                    if (y3 + 1) < 0 ∨ 9 ≤ (y3 + 1).toNatClampNeg then none else
                      vlet (wI mm_24 1131 (y3 + 1).toNatClampNeg (-1 : Int32)) fun mm_30 => some (.inl ((y3 + 1), x4_29, mm_30))
noncomputable def f_X12_findsRows_s41 (y1 : Int32) (y2 : Int32) : (Int32 × Int32 × Mm) → Option ((Int32 × Int32 × Mm) ⊕ (Mm)) :=
  fun q => match q with
  | (y3, y4, mm) =>
    if y3 < 0 then
      some (.inr mm)
    else
      if y3 < 0 ∨ 9 ≤ y3.toNatClampNeg then none else
        if (mm.1 1131 y3.toNatClampNeg) = (-1 : Int32) then
          f_X12_findsRows_j73 mm y1 y2 y3 y4
        else
          if y3 < 0 ∨ 9 ≤ y3.toNatClampNeg then none else
            f_X12_findsRows_j73 mm y1 y2 y3 (y4 &&& (((1 : Int32) <<< ((mm.1 1131 y3.toNatClampNeg) &&& 31)) ^^^ (-1 : Int32)))
noncomputable def f_X12_findsRows (mm : Mm) (x1 : Int32) : Option (Mm) :=
  vlet (wI mm 1088 62 (0 : Int32)) fun mm_1 =>
    bi1 (f_X12_bits mm_1 x1) fun r_3 =>
      bi2 (f_X12_laysLater mm_1 x1) fun r_6 mm_4 =>
        if r_6 = 0 then
          some mm_4
        else
          if r_3 = 0 then
            vlet (wI mm_4 1088 62 (1 : Int32)) fun mm_45 => some mm_45
          else
            vlet (wI mm_4 1131 0 (-1 : Int32)) fun mm_9 =>
              bi1 (lp (f_X12_findsRows_s41 x1 r_3) ((0 : Int32), (0 : Int32), mm_9)) fun mm_42 =>
                some mm_42
set_option maxHeartbeats 4000000 in
set_option maxRecDepth 100000 in
theorem c_X12_findsRows (l : Launch) (D : va_G) (dA : Nat → ClassId) (zz : (Nat → Nat) × (Nat → Nat)) (bs : Nat) (mm : Mm) (x1 : Int32) (m1 : Mm) (hf : f_X12_findsRows mm x1 = some m1) : Mw l D dA zz bs LY yX12_findsRows cX12_findsRows 5 none 3 72 [.ref (bs + 1088), .int x1] mm none m1 := by
  refine Mw.of (own := RX12) (by decide) rfl (Nat.le_of_ble_eq_true rfl) ?_
  intro p e s m args below meth c X hr0 hP hS ls hl
  have hx := X.1
  have hb := X.2.1
  obtain ⟨H, hH⟩ : ∃ z : Heap, z = s.heap := ⟨_, rfl⟩
  obtain ⟨locs, hL⟩ : ∃ z : List Loc, z = [] := ⟨_, rfl⟩
  rw [← hH, ← hL]
  have hS : va_S (Aq bs) s.heap H locs := by rw [hH, hL]; exact hS
  have hP : Wd D dA bs LY mm H := by rw [hH]; exact hP
  have hl : lv_has ls 5 [(0, .ref (bs + 1088)), (1, .int x1)] := hl
  unfold f_X12_findsRows at hf
  refine lv_aload_n hx hb dX12_findsRows_0 rfl (lv_at hl 0 rfl) ?_
  refine lv_iconst (v := 0) hx hb dX12_findsRows_1 (by decide) ?_
  refine wd_putI X hP hS L1088 fp_X12_536 rfl dX12_findsRows_2 (fun H locs mm_1 emm_1 hP hS => ?_)
  have hf := vl hf emm_1
  refine lv_iload_n hx hb dX12_findsRows_5 rfl (lv_at hl 1 rfl) ?_
  obtain ⟨r_3, hc_2, hf⟩ := bi1S hf
  refine wd_cs X hP hS ml_X12_460 (c_X12_bits l D dA zz bs mm_1 x1 r_3 hc_2) rfl ⟨Nat.le_of_ble_eq_true rfl, Nat.le_of_ble_eq_true rfl⟩ hl.1 rfl (rest := []) (Nat.le_of_ble_eq_true rfl) ⟨Nat.zero_le _, Nat.zero_le _⟩ dX12_findsRows_6 (fun H locs hP hS => ?_)
  refine W.eq (g2 := F0 m 9 ls [.int r_3]) rfl ?_
  refine lv_istore_n (lv' := [(2, .int r_3), (0, .ref (bs + 1088)), (1, .int x1)]) hx hb dX12_findsRows_9 rfl hl (by decide) rfl (fun ls hl => ?_)
  refine lv_aload_n hx hb dX12_findsRows_10 rfl (lv_at hl 1 rfl) ?_
  refine lv_iload_n hx hb dX12_findsRows_11 rfl (lv_at hl 2 rfl) ?_
  obtain ⟨r_6, mm_4, hc_5, hf⟩ := bi2S hf
  refine wd_cv X hP hS L1088 ml_X12_539 ⟨_, _, rfl⟩ (c_X12_laysLater l D dA zz bs mm_1 x1 r_6 mm_4 hc_5) rfl ⟨Nat.le_of_ble_eq_true rfl, Nat.le_of_ble_eq_true rfl⟩ hl.1 rfl (rest := []) (Nat.le_of_ble_eq_true rfl) ⟨Nat.zero_le _, Nat.zero_le _⟩ dX12_findsRows_12 (fun H locs hP hS => ?_)
  refine W.eq (g2 := F0 m 15 ls [.int r_6]) rfl ?_
  refine lv_if_ne (tgt := 19) hx hb dX12_findsRows_15 (by decide) (fun c_7 => ?_) (fun c_7 => ?_)
  · have hf := itF hf c_7
    refine lv_iload_n hx hb dX12_findsRows_19 rfl (lv_at hl 0 rfl) ?_
    refine lv_if_ne (tgt := 29) hx hb dX12_findsRows_20 (by decide) (fun c_8 => ?_) (fun c_8 => ?_)
    · have hf := itF hf c_8
      refine lv_iconst (v := 0) hx hb dX12_findsRows_29 (by decide) ?_
      refine lv_istore_n (lv' := [(3, .int (0 : Int32)), (2, .int r_3), (0, .ref (bs + 1088)), (1, .int x1)]) hx hb dX12_findsRows_30 rfl hl (by decide) rfl (fun ls hl => ?_)
      refine lv_iconst (v := 0) hx hb dX12_findsRows_31 (by decide) ?_
      refine lv_istore (lv' := [(4, .int (0 : Int32)), (3, .int (0 : Int32)), (2, .int r_3), (0, .ref (bs + 1088)), (1, .int x1)]) hx hb dX12_findsRows_32 hl (by decide) rfl (fun ls hl => ?_)
      refine lv_aload_n hx hb dX12_findsRows_34 rfl (lv_at hl 3 rfl) ?_
      refine wd_getR (q := 1131) X hP L1088 fl_X12_142 rfl dX12_findsRows_35 ?_
      refine lv_iconst (v := 0) hx hb dX12_findsRows_38 (by decide) ?_
      refine lv_iconst (v := -1) hx hb dX12_findsRows_39 (by decide) ?_
      refine wd_iastK (k := 0) X hP hS L1131 (by decide) (by decide) dX12_findsRows_40 (fun H locs mm_9 emm_9 hP hS => ?_)
      have hf := vl hf emm_9
      obtain ⟨q_43, hlp_44, hf⟩ := bi1S hf
      refine lp_walk (Wh := (fun z => match z with | (y3L_41, y4L_41, mmL_41) => ∀ (H : Heap) (locs : List Loc) (ls : Array Slot), Wd D dA bs LY mmL_41 H → va_S (Aq bs) s.heap H locs → lv_has ls 5 [(0, .ref (bs + 1088)), (1, .int x1), (2, .int r_3), (3, .int y3L_41), (4, .int y4L_41)] → Wz p l e s m args below meth c D dA bs none m1 3 72 H locs 41 ls [])) (Ph := (fun mm_42 => ∀ (H : Heap) (locs : List Loc) (ls : Array Slot), Wd D dA bs LY mm_42 H → va_S (Aq bs) s.heap H locs → lv_has ls 5 [] → Wz p l e s m args below meth c D dA bs none m1 3 72 H locs 194 ls [])) ?_ hlp_44 ?_ H locs ls hP hS (lv_sub hl [3, 4, 2, 1, 0] rfl)
      · intro z o hf hB hE
        obtain ⟨y3L_41, y4L_41, mmL_41⟩ := z
        intro H locs ls hP hS hl
        have hf : f_X12_findsRows_s41 x1 r_3 (y3L_41, y4L_41, mmL_41) = some o := hf
        unfold f_X12_findsRows_s41 at hf
        dsimp only at hf
        have hJ73 : ∀ (mmJ_36 : Mm) (y3J_36 : Int32) (z0J_36 : Int32) (H : Heap) (locs : List Loc) (ls : Array Slot), f_X12_findsRows_j73 mmJ_36 x1 r_3 y3J_36 z0J_36 = some o → Wd D dA bs LY mmJ_36 H → va_S (Aq bs) s.heap H locs → lv_has ls 5 [(0, .ref (bs + 1088)), (1, .int x1), (2, .int r_3), (3, .int y3J_36)] → Wz p l e s m args below meth c D dA bs none m1 3 72 H locs 73 ls [.int z0J_36] := by
          intro mmJ_36 y3J_36 z0J_36 H locs ls hf hP hS hl
          unfold f_X12_findsRows_j73 at hf
          refine lv_istore (lv' := [(4, .int z0J_36), (0, .ref (bs + 1088)), (1, .int x1), (2, .int r_3), (3, .int y3J_36)]) hx hb dX12_findsRows_73 hl (by decide) rfl (fun ls hl => ?_)
          refine lv_aload_n hx hb dX12_findsRows_75 rfl (lv_at hl 1 rfl) ?_
          refine wd_getR (q := 1131) X hP L1088 fl_X12_142 rfl dX12_findsRows_76 ?_
          refine lv_iload_n hx hb dX12_findsRows_79 rfl (lv_at hl 4 rfl) ?_
          refine lv_dup2_11 hx hb dX12_findsRows_80 rfl rfl ?_
          have g_10 := gdN hf
          have hf := gdK hf
          refine wd_iald X hP L1131 g_10 dX12_findsRows_81 ?_
          refine lv_iconst (v := 1) hx hb dX12_findsRows_82 (by decide) ?_
          refine lv_iadd hx hb dX12_findsRows_83 ?_
          have g_12 := gdN hf
          have hf := gdK hf
          refine wd_iast X hP hS L1131 g_12 dX12_findsRows_84 (fun H locs mm_11 emm_11 hP hS => ?_)
          have hf := vl hf emm_11
          obtain ⟨q_34, hlp_35, hf⟩ := bi1S hf
          refine lp_walk (Wh := (fun mmL_23 => ∀ (H : Heap) (locs : List Loc) (ls : Array Slot), Wd D dA bs LY mmL_23 H → va_S (Aq bs) s.heap H locs → lv_has ls 5 [(0, .ref (bs + 1088)), (1, .int x1), (2, .int r_3), (3, .int y3J_36), (4, .int z0J_36)] → Wz p l e s m args below meth c D dA bs none m1 3 72 H locs 85 ls [])) (Ph := (fun mm_24 => ∀ (H : Heap) (locs : List Loc) (ls : Array Slot), Wd D dA bs LY mm_24 H → va_S (Aq bs) s.heap H locs → lv_has ls 5 [(0, .ref (bs + 1088)), (1, .int x1), (2, .int r_3), (3, .int y3J_36), (4, .int z0J_36)] → Wz p l e s m args below meth c D dA bs none m1 3 72 H locs 136 ls [])) ?_ hlp_35 ?_ H locs ls hP hS (lv_sub hl [1, 2, 3, 4, 0] rfl)
          · intro mmL_23 o hf hB hE
            intro H locs ls hP hS hl
            have hf : f_X12_findsRows_s85 x1 r_3 y3J_36 z0J_36 mmL_23 = some o := hf
            unfold f_X12_findsRows_s85 at hf
            have hJ123 : ∀ (mmJ_16 : Mm) (H : Heap) (locs : List Loc) (ls : Array Slot), f_X12_findsRows_j123 mmJ_16 x1 r_3 y3J_36 z0J_36 = some o → Wd D dA bs LY mmJ_16 H → va_S (Aq bs) s.heap H locs → lv_has ls 5 [(0, .ref (bs + 1088)), (1, .int x1), (2, .int r_3), (3, .int y3J_36), (4, .int z0J_36)] → Wz p l e s m args below meth c D dA bs none m1 3 72 H locs 123 ls [] := by
              intro mmJ_16 H locs ls hf hP hS hl
              unfold f_X12_findsRows_j123 at hf
              refine lv_aload_n hx hb dX12_findsRows_123 rfl (lv_at hl 0 rfl) ?_
              refine wd_getR (q := 1131) X hP L1088 fl_X12_142 rfl dX12_findsRows_124 ?_
              refine lv_iload_n hx hb dX12_findsRows_127 rfl (lv_at hl 3 rfl) ?_
              refine lv_dup2_11 hx hb dX12_findsRows_128 rfl rfl ?_
              have g_13 := gdN hf
              have hf := gdK hf
              refine wd_iald X hP L1131 g_13 dX12_findsRows_129 ?_
              refine lv_iconst (v := 1) hx hb dX12_findsRows_130 (by decide) ?_
              refine lv_iadd hx hb dX12_findsRows_131 ?_
              have g_15 := gdN hf
              have hf := gdK hf
              refine wd_iast X hP hS L1131 g_15 dX12_findsRows_132 (fun H locs mm_14 emm_14 hP hS => ?_)
              have hf := vl hf emm_14
              refine lv_goto (tgt := 85) hx hb dX12_findsRows_133 (by decide) ?_
              obtain rfl := Option.some.inj hf
              exact hB _ rfl H locs ls hP hS (lv_sub hl [0, 1, 2, 3, 4] rfl)
            refine lv_aload_n hx hb dX12_findsRows_85 rfl (lv_at hl 0 rfl) ?_
            refine wd_getR (q := 1131) X hP L1088 fl_X12_142 rfl dX12_findsRows_86 ?_
            refine lv_iload_n hx hb dX12_findsRows_89 rfl (lv_at hl 3 rfl) ?_
            have g_17 := gdN hf
            have hf := gdK hf
            refine wd_iald X hP L1131 g_17 dX12_findsRows_90 ?_
            refine lv_bipush (v := 8) hx hb dX12_findsRows_91 (by decide) ?_
            refine lv_icmp_ge (tgt := 136) hx hb dX12_findsRows_93 (by decide) (fun c_18 => ?_) (fun c_18 => ?_)
            · have hf := itT hf c_18
              obtain rfl := Option.some.inj hf
              exact hE _ rfl H locs ls hP hS (lv_sub hl [0, 1, 2, 3, 4] rfl)
            · have hf := itF hf c_18
              refine lv_iload_n hx hb dX12_findsRows_96 rfl (lv_at hl 1 rfl) ?_
              refine lv_aload_n hx hb dX12_findsRows_97 rfl (lv_at hl 0 rfl) ?_
              refine wd_getR (q := 1131) X hP L1088 fl_X12_142 rfl dX12_findsRows_98 ?_
              refine lv_iload_n hx hb dX12_findsRows_101 rfl (lv_at hl 3 rfl) ?_
              have g_19 := gdN hf
              have hf := gdK hf
              refine wd_iald X hP L1131 g_19 dX12_findsRows_102 ?_
              refine wd_cs X hP hS ml_X12_390 (c_X12_has l D dA zz bs mmL_23 x1 (mmL_23.1 1131 y3J_36.toNatClampNeg) (f_X12_has x1 (mmL_23.1 1131 y3J_36.toNatClampNeg)) rfl) rfl ⟨Nat.le_of_ble_eq_true rfl, Nat.le_of_ble_eq_true rfl⟩ hl.1 rfl (rest := []) (Nat.le_of_ble_eq_true rfl) ⟨Nat.zero_le _, Nat.zero_le _⟩ dX12_findsRows_103 (fun H locs hP hS => ?_)
              refine W.eq (g2 := F0 m 106 ls [.int (f_X12_has x1 (mmL_23.1 1131 y3J_36.toNatClampNeg))]) rfl ?_
              refine lv_if_eq (tgt := 123) hx hb dX12_findsRows_106 (by decide) (fun c_20 => ?_) (fun c_20 => ?_)
              · have hf := itT hf c_20
                exact hJ123 mmL_23 H locs ls hf hP hS (lv_sub hl [0, 1, 2, 3, 4] rfl)
              · have hf := itF hf c_20
                refine lv_iload hx hb dX12_findsRows_109 (lv_at hl 4 rfl) ?_
                refine lv_aload_n hx hb dX12_findsRows_111 rfl (lv_at hl 0 rfl) ?_
                refine wd_getR (q := 1131) X hP L1088 fl_X12_142 rfl dX12_findsRows_112 ?_
                refine lv_iload_n hx hb dX12_findsRows_115 rfl (lv_at hl 3 rfl) ?_
                have g_21 := gdN hf
                have hf := gdK hf
                refine wd_iald X hP L1131 g_21 dX12_findsRows_116 ?_
                refine wd_cs X hP hS ml_X12_390 (c_X12_has l D dA zz bs mmL_23 z0J_36 (mmL_23.1 1131 y3J_36.toNatClampNeg) (f_X12_has z0J_36 (mmL_23.1 1131 y3J_36.toNatClampNeg)) rfl) rfl ⟨Nat.le_of_ble_eq_true rfl, Nat.le_of_ble_eq_true rfl⟩ hl.1 rfl (rest := []) (Nat.le_of_ble_eq_true rfl) ⟨Nat.zero_le _, Nat.zero_le _⟩ dX12_findsRows_117 (fun H locs hP hS => ?_)
                refine W.eq (g2 := F0 m 120 ls [.int (f_X12_has z0J_36 (mmL_23.1 1131 y3J_36.toNatClampNeg))]) rfl ?_
                refine lv_if_eq (tgt := 136) hx hb dX12_findsRows_120 (by decide) (fun c_22 => ?_) (fun c_22 => ?_)
                · have hf := itT hf c_22
                  obtain rfl := Option.some.inj hf
                  exact hE _ rfl H locs ls hP hS (lv_sub hl [0, 1, 2, 3, 4] rfl)
                · have hf := itF hf c_22
                  exact hJ123 mmL_23 H locs ls hf hP hS (lv_sub hl [0, 1, 2, 3, 4] rfl)
          · obtain ⟨mm_24, e_mm_24⟩ : ∃ z, z = q_34 := ⟨_, rfl⟩
            subst e_mm_24
            intro H locs ls hP hS hl
            refine lv_aload_n hx hb dX12_findsRows_136 rfl (lv_at hl 0 rfl) ?_
            refine wd_getR (q := 1131) X hP L1088 fl_X12_142 rfl dX12_findsRows_137 ?_
            refine lv_iload_n hx hb dX12_findsRows_140 rfl (lv_at hl 3 rfl) ?_
            have g_25 := gdN hf
            have hf := gdK hf
            refine wd_iald X hP L1131 g_25 dX12_findsRows_141 ?_
            refine lv_bipush (v := 8) hx hb dX12_findsRows_142 (by decide) ?_
            refine lv_icmp_ne (tgt := 153) hx hb dX12_findsRows_144 (by decide) (fun c_26 => ?_) (fun c_26 => ?_)
            · have hf := itF hf c_26
              refine lv_iload_n hx hb dX12_findsRows_153 rfl (lv_at hl 3 rfl) ?_
              refine lv_iload_n hx hb dX12_findsRows_154 rfl (lv_at hl 2 rfl) ?_
              refine lv_iconst (v := 1) hx hb dX12_findsRows_155 (by decide) ?_
              refine lv_isub hx hb dX12_findsRows_156 ?_
              refine lv_icmp_ne (tgt := 168) hx hb dX12_findsRows_157 (by decide) (fun c_27 => ?_) (fun c_27 => ?_)
              · have hf := itF hf c_27
                refine lv_iload hx hb dX12_findsRows_168 (lv_at hl 4 rfl) ?_
                refine lv_iconst (v := 1) hx hb dX12_findsRows_170 (by decide) ?_
                refine lv_aload_n hx hb dX12_findsRows_171 rfl (lv_at hl 0 rfl) ?_
                refine wd_getR (q := 1131) X hP L1088 fl_X12_142 rfl dX12_findsRows_172 ?_
                refine lv_iload_n hx hb dX12_findsRows_175 rfl (lv_at hl 3 rfl) ?_
                have g_28 := gdN hf
                have hf := gdK hf
                refine wd_iald X hP L1131 g_28 dX12_findsRows_176 ?_
                refine lv_ishl hx hb dX12_findsRows_177 ?_
                refine lv_ior hx hb dX12_findsRows_178 ?_
                refine lv_topi (fun x4_29 ex4_29 => ?_)
                have hf := vl hf ex4_29
                refine lv_istore (lv' := [(4, .int x4_29), (0, .ref (bs + 1088)), (1, .int x1), (2, .int r_3), (3, .int y3J_36)]) hx hb dX12_findsRows_179 hl (by decide) rfl (fun ls hl => ?_)
                refine lv_iinc (v := (y3J_36 + 1)) (lv' := [(3, .int (y3J_36 + 1)), (4, .int x4_29), (0, .ref (bs + 1088)), (1, .int x1), (2, .int r_3)]) hx hb dX12_findsRows_181 hl (k := 4) rfl rfl (by decide) rfl (fun ls hl => ?_)
                refine lv_aload_n hx hb dX12_findsRows_184 rfl (lv_at hl 2 rfl) ?_
                refine wd_getR (q := 1131) X hP L1088 fl_X12_142 rfl dX12_findsRows_185 ?_
                refine lv_iload_n hx hb dX12_findsRows_188 rfl (lv_at hl 0 rfl) ?_
                refine lv_iconst (v := -1) hx hb dX12_findsRows_189 (by decide) ?_
                have g_31 := gdN hf
                have hf := gdK hf
                refine wd_iast X hP hS L1131 g_31 dX12_findsRows_190 (fun H locs mm_30 emm_30 hP hS => ?_)
                have hf := vl hf emm_30
                refine lv_goto (tgt := 41) hx hb dX12_findsRows_191 (by decide) ?_
                obtain rfl := Option.some.inj hf
                exact hB _ rfl H locs ls hP hS (lv_sub hl [2, 3, 4, 0, 1] rfl)
              · have hf := itT hf c_27
                refine lv_aload_n hx hb dX12_findsRows_160 rfl (lv_at hl 0 rfl) ?_
                refine lv_iload_n hx hb dX12_findsRows_161 rfl (lv_at hl 2 rfl) ?_
                obtain ⟨mm_32, hc_33, hf⟩ := bi1S hf
                refine wd_cv X hP hS L1088 ml_X12_542 ⟨_, _, rfl⟩ (c_X12_takesRow l D dA zz bs mm_24 r_3 mm_32 hc_33) rfl ⟨Nat.le_of_ble_eq_true rfl, Nat.le_of_ble_eq_true rfl⟩ hl.1 rfl (rest := []) (Nat.le_of_ble_eq_true rfl) ⟨Nat.zero_le _, Nat.zero_le _⟩ dX12_findsRows_162 (fun H locs hP hS => ?_)
                refine W.eq (g2 := F0 m 165 ls []) rfl ?_
                refine lv_goto (tgt := 41) hx hb dX12_findsRows_165 (by decide) ?_
                obtain rfl := Option.some.inj hf
                exact hB _ rfl H locs ls hP hS (lv_sub hl [0, 1, 2, 3, 4] rfl)
            · have hf := itT hf c_26
              refine lv_iinc (v := (y3J_36 + (-1))) (lv' := [(3, .int (y3J_36 + (-1))), (0, .ref (bs + 1088)), (1, .int x1), (2, .int r_3), (4, .int z0J_36)]) hx hb dX12_findsRows_147 hl (k := 3) rfl rfl (by decide) rfl (fun ls hl => ?_)
              refine lv_goto (tgt := 41) hx hb dX12_findsRows_150 (by decide) ?_
              obtain rfl := Option.some.inj hf
              exact hB _ rfl H locs ls hP hS (lv_sub hl [1, 2, 3, 0, 4] rfl)
        refine lv_iload_n hx hb dX12_findsRows_41 rfl (lv_at hl 3 rfl) ?_
        refine lv_if_lt (tgt := 194) hx hb dX12_findsRows_42 (by decide) (fun c_37 => ?_) (fun c_37 => ?_)
        · have hf := itT hf c_37
          obtain rfl := Option.some.inj hf
          exact hE _ rfl H locs ls hP hS (lv_sub hl [] rfl)
        · have hf := itF hf c_37
          refine lv_aload_n hx hb dX12_findsRows_45 rfl (lv_at hl 0 rfl) ?_
          refine wd_getR (q := 1131) X hP L1088 fl_X12_142 rfl dX12_findsRows_46 ?_
          refine lv_iload_n hx hb dX12_findsRows_49 rfl (lv_at hl 3 rfl) ?_
          have g_38 := gdN hf
          have hf := gdK hf
          refine wd_iald X hP L1131 g_38 dX12_findsRows_50 ?_
          refine lv_iconst (v := -1) hx hb dX12_findsRows_51 (by decide) ?_
          refine lv_icmp_ne (tgt := 60) hx hb dX12_findsRows_52 (by decide) (fun c_39 => ?_) (fun c_39 => ?_)
          · have hf := itF hf c_39
            refine lv_iload hx hb dX12_findsRows_60 (lv_at hl 4 rfl) ?_
            refine lv_iconst (v := 1) hx hb dX12_findsRows_62 (by decide) ?_
            refine lv_aload_n hx hb dX12_findsRows_63 rfl (lv_at hl 0 rfl) ?_
            refine wd_getR (q := 1131) X hP L1088 fl_X12_142 rfl dX12_findsRows_64 ?_
            refine lv_iload_n hx hb dX12_findsRows_67 rfl (lv_at hl 3 rfl) ?_
            have g_40 := gdN hf
            have hf := gdK hf
            refine wd_iald X hP L1131 g_40 dX12_findsRows_68 ?_
            refine lv_ishl hx hb dX12_findsRows_69 ?_
            refine lv_iconst (v := -1) hx hb dX12_findsRows_70 (by decide) ?_
            refine lv_ixor hx hb dX12_findsRows_71 ?_
            refine lv_iand hx hb dX12_findsRows_72 ?_
            exact hJ73 mmL_41 y3L_41 (y4L_41 &&& (((1 : Int32) <<< ((mmL_41.1 1131 y3L_41.toNatClampNeg) &&& 31)) ^^^ (-1 : Int32))) H locs ls hf hP hS (lv_sub hl [0, 1, 2, 3] rfl)
          · have hf := itT hf c_39
            refine lv_iload hx hb dX12_findsRows_55 (lv_at hl 4 rfl) ?_
            refine lv_goto (tgt := 73) hx hb dX12_findsRows_57 (by decide) ?_
            exact hJ73 mmL_41 y3L_41 y4L_41 H locs ls hf hP hS (lv_sub hl [0, 1, 2, 3] rfl)
      · obtain ⟨mm_42, e_mm_42⟩ : ∃ z, z = q_43 := ⟨_, rfl⟩
        subst e_mm_42
        intro H locs ls hP hS hl
        obtain rfl := Option.some.inj hf
        exact wd_vret X hP hS hr0 dX12_findsRows_194 ⟨rfl, rfl⟩
    · have hf := itT hf c_8
      refine lv_aload_n hx hb dX12_findsRows_23 rfl (lv_at hl 1 rfl) ?_
      refine lv_iconst (v := 1) hx hb dX12_findsRows_24 (by decide) ?_
      refine wd_putI X hP hS L1088 fp_X12_536 rfl dX12_findsRows_25 (fun H locs mm_45 emm_45 hP hS => ?_)
      have hf := vl hf emm_45
      obtain rfl := Option.some.inj hf
      exact wd_vret X hP hS hr0 dX12_findsRows_28 ⟨rfl, rfl⟩
  · have hf := itT hf c_7
    obtain rfl := Option.some.inj hf
    exact wd_vret X hP hS hr0 dX12_findsRows_18 ⟨rfl, rfl⟩

noncomputable def f_X12_plan (mm : Mm) (x1 : Int32) : Option (Int32 × Mm) :=
  if (f_X12_isRiver mm) = 0 then
    some ((-4 : Int32), mm)
  else
    if (f_X12_in (x1.toInt64) (-1 : Int64) (6 : Int64)) = 0 then
      some ((-4 : Int32), mm)
    else
      bi1 (f_X12_afloat mm) fun r_4 =>
        bi1 (f_X12_bits mm r_4) fun r_6 =>
          if r_6 ≤ (7 : Int32) then
            bi1 (f_X12_findsRows mm r_4) fun mm_8 =>
              if x1 = (-1 : Int32) then
                some ((mm_8.1 1088 62), mm_8)
              else
                if (mm_8.1 1088 62) = 0 then
                  some ((-2 : Int32), mm_8)
                else
                  bi1 (f_X12_bits mm_8 r_4) fun r_13 =>
                    if x1 < r_13 then
                      if x1 < 0 ∨ 8 ≤ x1.toNatClampNeg then none else some ((mm_8.1 1132 x1.toNatClampNeg), mm_8)
                    else
                      some ((-2 : Int32), mm_8)
          else
            some ((-3 : Int32), mm)
set_option maxHeartbeats 4000000 in
set_option maxRecDepth 100000 in
theorem c_X12_plan (l : Launch) (D : va_G) (dA : Nat → ClassId) (zz : (Nat → Nat) × (Nat → Nat)) (bs : Nat) (mm : Mm) (x1 : Int32) (out : Int32) (m1 : Mm) (hf : f_X12_plan mm x1 = some (out, m1)) : Mw l D dA zz bs LY yX12_plan cX12_plan 3 (some .int) 4 96 [.ref (bs + 1088), .int x1] mm (some (.int out)) m1 := by
  refine Mw.of (own := RX12) (by decide) rfl (Nat.le_of_ble_eq_true rfl) ?_
  intro p e s m args below meth c X hr0 hP hS ls hl
  have hx := X.1
  have hb := X.2.1
  obtain ⟨H, hH⟩ : ∃ z : Heap, z = s.heap := ⟨_, rfl⟩
  obtain ⟨locs, hL⟩ : ∃ z : List Loc, z = [] := ⟨_, rfl⟩
  rw [← hH, ← hL]
  have hS : va_S (Aq bs) s.heap H locs := by rw [hH, hL]; exact hS
  have hP : Wd D dA bs LY mm H := by rw [hH]; exact hP
  have hl : lv_has ls 3 [(0, .ref (bs + 1088)), (1, .int x1)] := hl
  unfold f_X12_plan at hf
  refine lv_aload_n hx hb dX12_plan_0 rfl (lv_at hl 0 rfl) ?_
  refine wd_cv X hP hS L1088 ml_X12_430 ⟨_, _, rfl⟩ (c_X12_isRiver l D dA zz bs mm (f_X12_isRiver mm) rfl) rfl ⟨Nat.le_of_ble_eq_true rfl, Nat.le_of_ble_eq_true rfl⟩ hl.1 rfl (rest := []) (Nat.le_of_ble_eq_true rfl) ⟨Nat.zero_le _, Nat.zero_le _⟩ dX12_plan_1 (fun H locs hP hS => ?_)
  refine W.eq (g2 := F0 m 4 ls [.int (f_X12_isRiver mm)]) rfl ?_
  refine lv_if_eq (tgt := 21) hx hb dX12_plan_4 (by decide) (fun c_1 => ?_) (fun c_1 => ?_)
  · have hf := itT hf c_1
    refine lv_bipush (v := -4) hx hb dX12_plan_21 (by decide) ?_
    obtain ⟨rfl, rfl⟩ := Prod.mk.inj (Option.some.inj hf)
    exact wd_iret X hP hS hr0 dX12_plan_23 ⟨rfl, rfl⟩
  · have hf := itF hf c_1
    refine lv_iload_n hx hb dX12_plan_7 rfl (lv_at hl 1 rfl) ?_
    refine lv_i2l hx hb dX12_plan_8 rfl ?_
    refine lv_ldc2 (own := RX12) (v := -1) hx hb X.2.2.2.1 (X.2.2.2.2.1 _ (tb_at 1778 (by decide +kernel) (by decide +kernel))) dX12_plan_9 ?_
    refine lv_ldc2 (own := RX12) (v := 6) hx hb X.2.2.2.1 (X.2.2.2.2.1 _ (tb_at 1779 (by decide +kernel) (by decide +kernel))) dX12_plan_12 ?_
    refine wd_cs X hP hS ml_X12_176 (c_X12_in l D dA zz bs mm (x1.toInt64) (-1 : Int64) (6 : Int64) (f_X12_in (x1.toInt64) (-1 : Int64) (6 : Int64)) rfl) rfl ⟨Nat.le_of_ble_eq_true rfl, Nat.le_of_ble_eq_true rfl⟩ hl.1 rfl (rest := []) (Nat.le_of_ble_eq_true rfl) ⟨Nat.zero_le _, Nat.zero_le _⟩ dX12_plan_15 (fun H locs hP hS => ?_)
    refine W.eq (g2 := F0 m 18 ls [.int (f_X12_in (x1.toInt64) (-1 : Int64) (6 : Int64))]) rfl ?_
    refine lv_if_ne (tgt := 24) hx hb dX12_plan_18 (by decide) (fun c_2 => ?_) (fun c_2 => ?_)
    · have hf := itF hf c_2
      refine lv_aload_n hx hb dX12_plan_24 rfl (lv_at hl 0 rfl) ?_
      obtain ⟨r_4, hc_3, hf⟩ := bi1S hf
      refine wd_cv X hP hS L1088 ml_X12_393 ⟨_, _, rfl⟩ (c_X12_afloat l D dA zz bs mm r_4 hc_3) rfl ⟨Nat.le_of_ble_eq_true rfl, Nat.le_of_ble_eq_true rfl⟩ hl.1 rfl (rest := []) (Nat.le_of_ble_eq_true rfl) ⟨Nat.zero_le _, Nat.zero_le _⟩ dX12_plan_25 (fun H locs hP hS => ?_)
      refine W.eq (g2 := F0 m 28 ls [.int r_4]) rfl ?_
      refine lv_istore_n (lv' := [(2, .int r_4), (0, .ref (bs + 1088)), (1, .int x1)]) hx hb dX12_plan_28 rfl hl (by decide) rfl (fun ls hl => ?_)
      refine lv_iload_n hx hb dX12_plan_29 rfl (lv_at hl 0 rfl) ?_
      obtain ⟨r_6, hc_5, hf⟩ := bi1S hf
      refine wd_cs X hP hS ml_X12_460 (c_X12_bits l D dA zz bs mm r_4 r_6 hc_5) rfl ⟨Nat.le_of_ble_eq_true rfl, Nat.le_of_ble_eq_true rfl⟩ hl.1 rfl (rest := []) (Nat.le_of_ble_eq_true rfl) ⟨Nat.zero_le _, Nat.zero_le _⟩ dX12_plan_30 (fun H locs hP hS => ?_)
      refine W.eq (g2 := F0 m 33 ls [.int r_6]) rfl ?_
      refine lv_bipush (v := 7) hx hb dX12_plan_33 (by decide) ?_
      refine lv_icmp_le (tgt := 41) hx hb dX12_plan_35 (by decide) (fun c_7 => ?_) (fun c_7 => ?_)
      · have hf := itT hf c_7
        refine lv_aload_n hx hb dX12_plan_41 rfl (lv_at hl 1 rfl) ?_
        refine lv_iload_n hx hb dX12_plan_42 rfl (lv_at hl 0 rfl) ?_
        obtain ⟨mm_8, hc_9, hf⟩ := bi1S hf
        refine wd_cv X hP hS L1088 ml_X12_552 ⟨_, _, rfl⟩ (c_X12_findsRows l D dA zz bs mm r_4 mm_8 hc_9) rfl ⟨Nat.le_of_ble_eq_true rfl, Nat.le_of_ble_eq_true rfl⟩ hl.1 rfl (rest := []) (Nat.le_of_ble_eq_true rfl) ⟨Nat.zero_le _, Nat.zero_le _⟩ dX12_plan_43 (fun H locs hP hS => ?_)
        refine W.eq (g2 := F0 m 46 ls []) rfl ?_
        refine lv_iload_n hx hb dX12_plan_46 rfl (lv_at hl 2 rfl) ?_
        refine lv_iconst (v := -1) hx hb dX12_plan_47 (by decide) ?_
        refine lv_icmp_ne (tgt := 56) hx hb dX12_plan_48 (by decide) (fun c_10 => ?_) (fun c_10 => ?_)
        · have hf := itF hf c_10
          refine lv_aload_n hx hb dX12_plan_56 rfl (lv_at hl 1 rfl) ?_
          refine wd_getI X hP L1088 fl_X12_536 rfl dX12_plan_57 ?_
          refine lv_if_eq (tgt := 71) hx hb dX12_plan_60 (by decide) (fun c_11 => ?_) (fun c_11 => ?_)
          · have hf := itT hf c_11
            refine lv_bipush (v := -2) hx hb dX12_plan_71 (by decide) ?_
            refine lv_goto (tgt := 82) hx hb dX12_plan_73 (by decide) ?_
            obtain ⟨rfl, rfl⟩ := Prod.mk.inj (Option.some.inj hf)
            exact wd_iret X hP hS hr0 dX12_plan_82 ⟨rfl, rfl⟩
          · have hf := itF hf c_11
            refine lv_iload_n hx hb dX12_plan_63 rfl (lv_at hl 2 rfl) ?_
            refine lv_iload_n hx hb dX12_plan_64 rfl (lv_at hl 0 rfl) ?_
            obtain ⟨r_13, hc_12, hf⟩ := bi1S hf
            refine wd_cs X hP hS ml_X12_460 (c_X12_bits l D dA zz bs mm_8 r_4 r_13 hc_12) rfl ⟨Nat.le_of_ble_eq_true rfl, Nat.le_of_ble_eq_true rfl⟩ hl.1 rfl (rest := [.int x1]) (Nat.le_of_ble_eq_true rfl) ⟨Nat.zero_le _, Nat.zero_le _⟩ dX12_plan_65 (fun H locs hP hS => ?_)
            refine W.eq (g2 := F0 m 68 ls [.int r_13, .int x1]) rfl ?_
            refine lv_icmp_lt (tgt := 76) hx hb dX12_plan_68 (by decide) (fun c_14 => ?_) (fun c_14 => ?_)
            · have hf := itT hf c_14
              refine lv_aload_n hx hb dX12_plan_76 rfl (lv_at hl 1 rfl) ?_
              refine wd_getR (q := 1132) X hP L1088 fl_X12_145 rfl dX12_plan_77 ?_
              refine lv_iload_n hx hb dX12_plan_80 rfl (lv_at hl 2 rfl) ?_
              have g_15 := gdN hf
              have hf := gdK hf
              refine wd_iald X hP L1132 g_15 dX12_plan_81 ?_
              obtain ⟨rfl, rfl⟩ := Prod.mk.inj (Option.some.inj hf)
              exact wd_iret X hP hS hr0 dX12_plan_82 ⟨rfl, rfl⟩
            · have hf := itF hf c_14
              refine lv_bipush (v := -2) hx hb dX12_plan_71 (by decide) ?_
              refine lv_goto (tgt := 82) hx hb dX12_plan_73 (by decide) ?_
              obtain ⟨rfl, rfl⟩ := Prod.mk.inj (Option.some.inj hf)
              exact wd_iret X hP hS hr0 dX12_plan_82 ⟨rfl, rfl⟩
        · have hf := itT hf c_10
          refine lv_aload_n hx hb dX12_plan_51 rfl (lv_at hl 1 rfl) ?_
          refine wd_getI X hP L1088 fl_X12_536 rfl dX12_plan_52 ?_
          obtain ⟨rfl, rfl⟩ := Prod.mk.inj (Option.some.inj hf)
          exact wd_iret X hP hS hr0 dX12_plan_55 ⟨rfl, rfl⟩
      · have hf := itF hf c_7
        refine lv_bipush (v := -3) hx hb dX12_plan_38 (by decide) ?_
        obtain ⟨rfl, rfl⟩ := Prod.mk.inj (Option.some.inj hf)
        exact wd_iret X hP hS hr0 dX12_plan_40 ⟨rfl, rfl⟩
    · have hf := itT hf c_2
      refine lv_bipush (v := -4) hx hb dX12_plan_21 (by decide) ?_
      obtain ⟨rfl, rfl⟩ := Prod.mk.inj (Option.some.inj hf)
      exact wd_iret X hP hS hr0 dX12_plan_23 ⟨rfl, rfl⟩

noncomputable def f_X12_sawn_j101 (mm : Mm) (y1 : Int32) (y2 : Int32) (y3 : Int32) (y5 : Int32) (z0 : Int32) : Option ((Int32 × Int32 × Int32) ⊕ (Int32 × Int32)) :=
  some (.inl (y3, z0, (y5 + 1)))
noncomputable def f_X12_sawn_j94 (mm : Mm) (y1 : Int32) (y2 : Int32) (y3 : Int32) (y5 : Int32) : Option ((Int32 × Int32 × Int32) ⊕ (Int32 × Int32)) :=
  f_X12_sawn_j101 mm y1 y2 y3 y5 y5
noncomputable def f_X12_sawn_s45 (mm : Mm) (y1 : Int32) (y2 : Int32) : (Int32 × Int32 × Int32) → Option ((Int32 × Int32 × Int32) ⊕ (Int32 × Int32)) :=
  fun q => match q with
  | (y3, y4, y5) =>
    if (f_X12_allRopes mm) < y5 then
      some (.inr (y3, y4))
    else
      bi1 (f_X12_sinking mm ((f_X12_allRopes mm) &&& (y5 ^^^ (-1 : Int32)))) fun r_11 =>
        if r_11 = y1 then
          if y4 = (-2 : Int32) then
            f_X12_sawn_j94 mm y1 y2 (y3 + 1) y5
          else
            bi1 (f_X12_bits mm y5) fun r_15 =>
              bi1 (f_X12_bits mm y4) fun r_17 =>
                if r_17 ≤ r_15 then
                  f_X12_sawn_j101 mm y1 y2 (y3 + 1) y5 y4
                else
                  f_X12_sawn_j94 mm y1 y2 (y3 + 1) y5
        else
          some (.inl (y3, y4, (y5 + 1)))
noncomputable def f_X12_sawn (mm : Mm) (x1 : Int32) (x2 : Int32) : Option (Int32) :=
  if (f_X12_isRiver mm) = 0 then
    some (-1 : Int32)
  else
    if x1 < 0 then
      some (-1 : Int32)
    else
      bi1 (f_X12_afloat mm) fun r_4 =>
        if (x1 &&& (r_4 ^^^ (-1 : Int32))) = 0 then
          if (f_X12_in (x2.toInt64) (0 : Int64) (2 : Int64)) = 0 then
            some (-1 : Int32)
          else
            bi1 (lp (f_X12_sawn_s45 mm x1 x2) ((0 : Int32), (-2 : Int32), (0 : Int32))) fun q => match q with
            | (w3_20, w4_21) =>
              if x2 = (2 : Int32) then
                some w3_20
              else
                if w4_21 = (-2 : Int32) then
                  some w4_21
                else
                  if x2 = (1 : Int32) then
                    some w4_21
                  else
                    bi1 (f_X12_bits mm w4_21) fun r_26 => some r_26
        else
          some (-1 : Int32)
set_option maxHeartbeats 4000000 in
set_option maxRecDepth 100000 in
theorem c_X12_sawn (l : Launch) (D : va_G) (dA : Nat → ClassId) (zz : (Nat → Nat) × (Nat → Nat)) (bs : Nat) (mm : Mm) (x1 : Int32) (x2 : Int32) (out : Int32) (hf : f_X12_sawn mm x1 x2 = some out) : Mw l D dA zz bs LY yX12_sawn cX12_sawn 6 (some .int) 6 151 [.ref (bs + 1088), .int x1, .int x2] mm (some (.int out)) mm := by
  refine Mw.of (own := RX12) (by decide) rfl (Nat.le_of_ble_eq_true rfl) ?_
  intro p e s m args below meth c X hr0 hP hS ls hl
  have hx := X.1
  have hb := X.2.1
  obtain ⟨H, hH⟩ : ∃ z : Heap, z = s.heap := ⟨_, rfl⟩
  obtain ⟨locs, hL⟩ : ∃ z : List Loc, z = [] := ⟨_, rfl⟩
  rw [← hH, ← hL]
  have hS : va_S (Aq bs) s.heap H locs := by rw [hH, hL]; exact hS
  have hP : Wd D dA bs LY mm H := by rw [hH]; exact hP
  have hl : lv_has ls 6 [(0, .ref (bs + 1088)), (1, .int x1), (2, .int x2)] := hl
  unfold f_X12_sawn at hf
  refine lv_aload_n hx hb dX12_sawn_0 rfl (lv_at hl 0 rfl) ?_
  refine wd_cv X hP hS L1088 ml_X12_430 ⟨_, _, rfl⟩ (c_X12_isRiver l D dA zz bs mm (f_X12_isRiver mm) rfl) rfl ⟨Nat.le_of_ble_eq_true rfl, Nat.le_of_ble_eq_true rfl⟩ hl.1 rfl (rest := []) (Nat.le_of_ble_eq_true rfl) ⟨Nat.zero_le _, Nat.zero_le _⟩ dX12_sawn_1 (fun H locs hP hS => ?_)
  refine W.eq (g2 := F0 m 4 ls [.int (f_X12_isRiver mm)]) rfl ?_
  refine lv_if_eq (tgt := 34) hx hb dX12_sawn_4 (by decide) (fun c_1 => ?_) (fun c_1 => ?_)
  · have hf := itT hf c_1
    refine lv_iconst (v := -1) hx hb dX12_sawn_34 (by decide) ?_
    obtain rfl := Option.some.inj hf
    exact wd_iret X hP hS hr0 dX12_sawn_35 ⟨rfl, rfl⟩
  · have hf := itF hf c_1
    refine lv_iload_n hx hb dX12_sawn_7 rfl (lv_at hl 1 rfl) ?_
    refine lv_if_lt (tgt := 34) hx hb dX12_sawn_8 (by decide) (fun c_2 => ?_) (fun c_2 => ?_)
    · have hf := itT hf c_2
      refine lv_iconst (v := -1) hx hb dX12_sawn_34 (by decide) ?_
      obtain rfl := Option.some.inj hf
      exact wd_iret X hP hS hr0 dX12_sawn_35 ⟨rfl, rfl⟩
    · have hf := itF hf c_2
      refine lv_iload_n hx hb dX12_sawn_11 rfl (lv_at hl 1 rfl) ?_
      refine lv_aload_n hx hb dX12_sawn_12 rfl (lv_at hl 0 rfl) ?_
      obtain ⟨r_4, hc_3, hf⟩ := bi1S hf
      refine wd_cv X hP hS L1088 ml_X12_393 ⟨_, _, rfl⟩ (c_X12_afloat l D dA zz bs mm r_4 hc_3) rfl ⟨Nat.le_of_ble_eq_true rfl, Nat.le_of_ble_eq_true rfl⟩ hl.1 rfl (rest := [.int x1]) (Nat.le_of_ble_eq_true rfl) ⟨Nat.zero_le _, Nat.zero_le _⟩ dX12_sawn_13 (fun H locs hP hS => ?_)
      refine W.eq (g2 := F0 m 16 ls [.int r_4, .int x1]) rfl ?_
      refine lv_iconst (v := -1) hx hb dX12_sawn_16 (by decide) ?_
      refine lv_ixor hx hb dX12_sawn_17 ?_
      refine lv_iand hx hb dX12_sawn_18 ?_
      refine lv_if_ne (tgt := 34) hx hb dX12_sawn_19 (by decide) (fun c_5 => ?_) (fun c_5 => ?_)
      · have hf := itF hf c_5
        refine lv_iconst (v := -1) hx hb dX12_sawn_34 (by decide) ?_
        obtain rfl := Option.some.inj hf
        exact wd_iret X hP hS hr0 dX12_sawn_35 ⟨rfl, rfl⟩
      · have hf := itT hf c_5
        refine lv_iload_n hx hb dX12_sawn_22 rfl (lv_at hl 2 rfl) ?_
        refine lv_i2l hx hb dX12_sawn_23 rfl ?_
        refine lv_lconst (v := 0) hx hb dX12_sawn_24 (by decide) ?_
        refine lv_ldc2 (own := RX12) (v := 2) hx hb X.2.2.2.1 (X.2.2.2.2.1 _ (tb_at 1800 (by decide +kernel) (by decide +kernel))) dX12_sawn_25 ?_
        refine wd_cs X hP hS ml_X12_176 (c_X12_in l D dA zz bs mm (x2.toInt64) (0 : Int64) (2 : Int64) (f_X12_in (x2.toInt64) (0 : Int64) (2 : Int64)) rfl) rfl ⟨Nat.le_of_ble_eq_true rfl, Nat.le_of_ble_eq_true rfl⟩ hl.1 rfl (rest := []) (Nat.le_of_ble_eq_true rfl) ⟨Nat.zero_le _, Nat.zero_le _⟩ dX12_sawn_28 (fun H locs hP hS => ?_)
        refine W.eq (g2 := F0 m 31 ls [.int (f_X12_in (x2.toInt64) (0 : Int64) (2 : Int64))]) rfl ?_
        refine lv_if_ne (tgt := 36) hx hb dX12_sawn_31 (by decide) (fun c_6 => ?_) (fun c_6 => ?_)
        · have hf := itF hf c_6
          refine lv_iconst (v := 0) hx hb dX12_sawn_36 (by decide) ?_
          refine lv_istore_n (lv' := [(3, .int (0 : Int32)), (0, .ref (bs + 1088)), (1, .int x1), (2, .int x2)]) hx hb dX12_sawn_37 rfl hl (by decide) rfl (fun ls hl => ?_)
          refine lv_bipush (v := -2) hx hb dX12_sawn_38 (by decide) ?_
          refine lv_istore (lv' := [(4, .int (-2 : Int32)), (3, .int (0 : Int32)), (0, .ref (bs + 1088)), (1, .int x1), (2, .int x2)]) hx hb dX12_sawn_40 hl (by decide) rfl (fun ls hl => ?_)
          refine lv_iconst (v := 0) hx hb dX12_sawn_42 (by decide) ?_
          refine lv_istore (lv' := [(5, .int (0 : Int32)), (4, .int (-2 : Int32)), (3, .int (0 : Int32)), (0, .ref (bs + 1088)), (1, .int x1), (2, .int x2)]) hx hb dX12_sawn_43 hl (by decide) rfl (fun ls hl => ?_)
          obtain ⟨q_27, hlp_28, hf⟩ := bi1S hf
          refine lp_walk (Wh := (fun z => match z with | (y3L_19, y4L_19, y5L_19) => ∀ (H : Heap) (locs : List Loc) (ls : Array Slot), Wd D dA bs LY mm H → va_S (Aq bs) s.heap H locs → lv_has ls 6 [(0, .ref (bs + 1088)), (1, .int x1), (2, .int x2), (3, .int y3L_19), (4, .int y4L_19), (5, .int y5L_19)] → Wz p l e s m args below meth c D dA bs (some (.int out)) mm 6 151 H locs 45 ls [])) (Ph := (fun z => match z with | (w3_20, w4_21) => ∀ (H : Heap) (locs : List Loc) (ls : Array Slot), Wd D dA bs LY mm H → va_S (Aq bs) s.heap H locs → lv_has ls 6 [(2, .int x2), (3, .int w3_20), (4, .int w4_21)] → Wz p l e s m args below meth c D dA bs (some (.int out)) mm 6 151 H locs 109 ls [])) ?_ hlp_28 ?_ H locs ls hP hS (lv_sub hl [3, 4, 5, 2, 1, 0] rfl)
          · intro z o hf hB hE
            obtain ⟨y3L_19, y4L_19, y5L_19⟩ := z
            intro H locs ls hP hS hl
            have hf : f_X12_sawn_s45 mm x1 x2 (y3L_19, y4L_19, y5L_19) = some o := hf
            unfold f_X12_sawn_s45 at hf
            dsimp only at hf
            have hJ101 : ∀ (y3J_7 : Int32) (y5J_7 : Int32) (z0J_7 : Int32) (H : Heap) (locs : List Loc) (ls : Array Slot), f_X12_sawn_j101 mm x1 x2 y3J_7 y5J_7 z0J_7 = some o → Wd D dA bs LY mm H → va_S (Aq bs) s.heap H locs → lv_has ls 6 [(0, .ref (bs + 1088)), (1, .int x1), (2, .int x2), (3, .int y3J_7), (5, .int y5J_7)] → Wz p l e s m args below meth c D dA bs (some (.int out)) mm 6 151 H locs 101 ls [.int z0J_7] := by
              intro y3J_7 y5J_7 z0J_7 H locs ls hf hP hS hl
              unfold f_X12_sawn_j101 at hf
              refine lv_istore (lv' := [(4, .int z0J_7), (0, .ref (bs + 1088)), (1, .int x1), (2, .int x2), (3, .int y3J_7), (5, .int y5J_7)]) hx hb dX12_sawn_101 hl (by decide) rfl (fun ls hl => ?_)
              refine lv_iinc (v := (y5J_7 + 1)) (lv' := [(5, .int (y5J_7 + 1)), (4, .int z0J_7), (0, .ref (bs + 1088)), (1, .int x1), (2, .int x2), (3, .int y3J_7)]) hx hb dX12_sawn_103 hl (k := 5) rfl rfl (by decide) rfl (fun ls hl => ?_)
              refine lv_goto (tgt := 45) hx hb dX12_sawn_106 (by decide) ?_
              obtain rfl := Option.some.inj hf
              exact hB _ rfl H locs ls hP hS (lv_sub hl [2, 3, 4, 5, 1, 0] rfl)
            have hJ94 : ∀ (y3J_8 : Int32) (y5J_8 : Int32) (H : Heap) (locs : List Loc) (ls : Array Slot), f_X12_sawn_j94 mm x1 x2 y3J_8 y5J_8 = some o → Wd D dA bs LY mm H → va_S (Aq bs) s.heap H locs → lv_has ls 6 [(0, .ref (bs + 1088)), (1, .int x1), (2, .int x2), (3, .int y3J_8), (5, .int y5J_8)] → Wz p l e s m args below meth c D dA bs (some (.int out)) mm 6 151 H locs 94 ls [] := by
              intro y3J_8 y5J_8 H locs ls hf hP hS hl
              unfold f_X12_sawn_j94 at hf
              refine lv_iload hx hb dX12_sawn_94 (lv_at hl 4 rfl) ?_
              refine lv_goto (tgt := 101) hx hb dX12_sawn_96 (by decide) ?_
              exact hJ101 y3J_8 y5J_8 y5J_8 H locs ls hf hP hS (lv_sub hl [0, 1, 2, 3, 4] rfl)
            refine lv_iload hx hb dX12_sawn_45 (lv_at hl 5 rfl) ?_
            refine lv_aload_n hx hb dX12_sawn_47 rfl (lv_at hl 0 rfl) ?_
            refine wd_cv X hP hS L1088 ml_X12_396 ⟨_, _, rfl⟩ (c_X12_allRopes l D dA zz bs mm (f_X12_allRopes mm) rfl) rfl ⟨Nat.le_of_ble_eq_true rfl, Nat.le_of_ble_eq_true rfl⟩ hl.1 rfl (rest := [.int y5L_19]) (Nat.le_of_ble_eq_true rfl) ⟨Nat.zero_le _, Nat.zero_le _⟩ dX12_sawn_48 (fun H locs hP hS => ?_)
            refine W.eq (g2 := F0 m 51 ls [.int (f_X12_allRopes mm), .int y5L_19]) rfl ?_
            refine lv_icmp_gt (tgt := 109) hx hb dX12_sawn_51 (by decide) (fun c_9 => ?_) (fun c_9 => ?_)
            · have hf := itT hf c_9
              obtain rfl := Option.some.inj hf
              exact hE _ rfl H locs ls hP hS (lv_sub hl [2, 3, 4] rfl)
            · have hf := itF hf c_9
              refine lv_aload_n hx hb dX12_sawn_54 rfl (lv_at hl 0 rfl) ?_
              refine lv_aload_n hx hb dX12_sawn_55 rfl (lv_at hl 0 rfl) ?_
              refine wd_cv X hP hS L1088 ml_X12_396 ⟨_, _, rfl⟩ (c_X12_allRopes l D dA zz bs mm (f_X12_allRopes mm) rfl) rfl ⟨Nat.le_of_ble_eq_true rfl, Nat.le_of_ble_eq_true rfl⟩ hl.1 rfl (rest := [.ref (bs + 1088)]) (Nat.le_of_ble_eq_true rfl) ⟨Nat.zero_le _, Nat.zero_le _⟩ dX12_sawn_56 (fun H locs hP hS => ?_)
              refine W.eq (g2 := F0 m 59 ls [.int (f_X12_allRopes mm), .ref (bs + 1088)]) rfl ?_
              refine lv_iload hx hb dX12_sawn_59 (lv_at hl 5 rfl) ?_
              refine lv_iconst (v := -1) hx hb dX12_sawn_61 (by decide) ?_
              refine lv_ixor hx hb dX12_sawn_62 ?_
              refine lv_iand hx hb dX12_sawn_63 ?_
              obtain ⟨r_11, hc_10, hf⟩ := bi1S hf
              refine wd_cv X hP hS L1088 ml_X12_453 ⟨_, _, rfl⟩ (c_X12_sinking l D dA zz bs mm ((f_X12_allRopes mm) &&& (y5L_19 ^^^ (-1 : Int32))) r_11 hc_10) rfl ⟨Nat.le_of_ble_eq_true rfl, Nat.le_of_ble_eq_true rfl⟩ hl.1 rfl (rest := []) (Nat.le_of_ble_eq_true rfl) ⟨Nat.zero_le _, Nat.zero_le _⟩ dX12_sawn_64 (fun H locs hP hS => ?_)
              refine W.eq (g2 := F0 m 67 ls [.int r_11]) rfl ?_
              refine lv_iload_n hx hb dX12_sawn_67 rfl (lv_at hl 1 rfl) ?_
              refine lv_icmp_ne (tgt := 103) hx hb dX12_sawn_68 (by decide) (fun c_12 => ?_) (fun c_12 => ?_)
              · have hf := itF hf c_12
                refine lv_iinc (v := (y5L_19 + 1)) (lv' := [(5, .int (y5L_19 + 1)), (0, .ref (bs + 1088)), (1, .int x1), (2, .int x2), (3, .int y3L_19), (4, .int y4L_19)]) hx hb dX12_sawn_103 hl (k := 5) rfl rfl (by decide) rfl (fun ls hl => ?_)
                refine lv_goto (tgt := 45) hx hb dX12_sawn_106 (by decide) ?_
                obtain rfl := Option.some.inj hf
                exact hB _ rfl H locs ls hP hS (lv_sub hl [1, 2, 3, 4, 5, 0] rfl)
              · have hf := itT hf c_12
                refine lv_iinc (v := (y3L_19 + 1)) (lv' := [(3, .int (y3L_19 + 1)), (0, .ref (bs + 1088)), (1, .int x1), (2, .int x2), (4, .int y4L_19), (5, .int y5L_19)]) hx hb dX12_sawn_71 hl (k := 3) rfl rfl (by decide) rfl (fun ls hl => ?_)
                refine lv_iload hx hb dX12_sawn_74 (lv_at hl 4 rfl) ?_
                refine lv_bipush (v := -2) hx hb dX12_sawn_76 (by decide) ?_
                refine lv_icmp_eq (tgt := 94) hx hb dX12_sawn_78 (by decide) (fun c_13 => ?_) (fun c_13 => ?_)
                · have hf := itT hf c_13
                  exact hJ94 (y3L_19 + 1) y5L_19 H locs ls hf hP hS (lv_sub hl [1, 2, 3, 0, 5] rfl)
                · have hf := itF hf c_13
                  refine lv_iload hx hb dX12_sawn_81 (lv_at hl 5 rfl) ?_
                  obtain ⟨r_15, hc_14, hf⟩ := bi1S hf
                  refine wd_cs X hP hS ml_X12_460 (c_X12_bits l D dA zz bs mm y5L_19 r_15 hc_14) rfl ⟨Nat.le_of_ble_eq_true rfl, Nat.le_of_ble_eq_true rfl⟩ hl.1 rfl (rest := []) (Nat.le_of_ble_eq_true rfl) ⟨Nat.zero_le _, Nat.zero_le _⟩ dX12_sawn_83 (fun H locs hP hS => ?_)
                  refine W.eq (g2 := F0 m 86 ls [.int r_15]) rfl ?_
                  refine lv_iload hx hb dX12_sawn_86 (lv_at hl 4 rfl) ?_
                  obtain ⟨r_17, hc_16, hf⟩ := bi1S hf
                  refine wd_cs X hP hS ml_X12_460 (c_X12_bits l D dA zz bs mm y4L_19 r_17 hc_16) rfl ⟨Nat.le_of_ble_eq_true rfl, Nat.le_of_ble_eq_true rfl⟩ hl.1 rfl (rest := [.int r_15]) (Nat.le_of_ble_eq_true rfl) ⟨Nat.zero_le _, Nat.zero_le _⟩ dX12_sawn_88 (fun H locs hP hS => ?_)
                  refine W.eq (g2 := F0 m 91 ls [.int r_17, .int r_15]) rfl ?_
                  refine lv_icmp_ge (tgt := 99) hx hb dX12_sawn_91 (by decide) (fun c_18 => ?_) (fun c_18 => ?_)
                  · have hf := itT hf c_18
                    refine lv_iload hx hb dX12_sawn_99 (lv_at hl 4 rfl) ?_
                    exact hJ101 (y3L_19 + 1) y5L_19 y4L_19 H locs ls hf hP hS (lv_sub hl [1, 2, 3, 0, 5] rfl)
                  · have hf := itF hf c_18
                    exact hJ94 (y3L_19 + 1) y5L_19 H locs ls hf hP hS (lv_sub hl [1, 2, 3, 0, 5] rfl)
          · obtain ⟨w3_20, w4_21⟩ := q_27
            dsimp only at hf
            intro H locs ls hP hS hl
            refine lv_iload_n hx hb dX12_sawn_109 rfl (lv_at hl 0 rfl) ?_
            refine lv_iconst (v := 2) hx hb dX12_sawn_110 (by decide) ?_
            refine lv_icmp_ne (tgt := 116) hx hb dX12_sawn_111 (by decide) (fun c_22 => ?_) (fun c_22 => ?_)
            · have hf := itF hf c_22
              refine lv_iload hx hb dX12_sawn_116 (lv_at hl 2 rfl) ?_
              refine lv_bipush (v := -2) hx hb dX12_sawn_118 (by decide) ?_
              refine lv_icmp_eq (tgt := 128) hx hb dX12_sawn_120 (by decide) (fun c_23 => ?_) (fun c_23 => ?_)
              · have hf := itT hf c_23
                refine lv_iload hx hb dX12_sawn_128 (lv_at hl 2 rfl) ?_
                refine lv_goto (tgt := 138) hx hb dX12_sawn_130 (by decide) ?_
                obtain rfl := Option.some.inj hf
                exact wd_iret X hP hS hr0 dX12_sawn_138 ⟨rfl, rfl⟩
              · have hf := itF hf c_23
                refine lv_iload_n hx hb dX12_sawn_123 rfl (lv_at hl 0 rfl) ?_
                refine lv_iconst (v := 1) hx hb dX12_sawn_124 (by decide) ?_
                refine lv_icmp_ne (tgt := 133) hx hb dX12_sawn_125 (by decide) (fun c_24 => ?_) (fun c_24 => ?_)
                · have hf := itF hf c_24
                  refine lv_iload hx hb dX12_sawn_133 (lv_at hl 2 rfl) ?_
                  obtain ⟨r_26, hc_25, hf⟩ := bi1S hf
                  refine wd_cs X hP hS ml_X12_460 (c_X12_bits l D dA zz bs mm w4_21 r_26 hc_25) rfl ⟨Nat.le_of_ble_eq_true rfl, Nat.le_of_ble_eq_true rfl⟩ hl.1 rfl (rest := []) (Nat.le_of_ble_eq_true rfl) ⟨Nat.zero_le _, Nat.zero_le _⟩ dX12_sawn_135 (fun H locs hP hS => ?_)
                  refine W.eq (g2 := F0 m 138 ls [.int r_26]) rfl ?_
                  obtain rfl := Option.some.inj hf
                  exact wd_iret X hP hS hr0 dX12_sawn_138 ⟨rfl, rfl⟩
                · have hf := itT hf c_24
                  refine lv_iload hx hb dX12_sawn_128 (lv_at hl 2 rfl) ?_
                  refine lv_goto (tgt := 138) hx hb dX12_sawn_130 (by decide) ?_
                  obtain rfl := Option.some.inj hf
                  exact wd_iret X hP hS hr0 dX12_sawn_138 ⟨rfl, rfl⟩
            · have hf := itT hf c_22
              refine lv_iload_n hx hb dX12_sawn_114 rfl (lv_at hl 1 rfl) ?_
              obtain rfl := Option.some.inj hf
              exact wd_iret X hP hS hr0 dX12_sawn_115 ⟨rfl, rfl⟩
        · have hf := itT hf c_6
          refine lv_iconst (v := -1) hx hb dX12_sawn_34 (by decide) ?_
          obtain rfl := Option.some.inj hf
          exact wd_iret X hP hS hr0 dX12_sawn_35 ⟨rfl, rfl⟩

noncomputable def f_X12_locksUsed_j31 (mm : Mm) (y1 : Int32) (y3 : Int32) (z0 : Int32) : Option ((Int32 × Int32) ⊕ (Int32)) :=
  some (.inl (z0, (y3 + 1)))
noncomputable def f_X12_locksUsed_s4 (mm : Mm) (y1 : Int32) : (Int32 × Int32) → Option ((Int32 × Int32) ⊕ (Int32)) :=
  fun q => match q with
  | (y2, y3) =>
    if y1 ≤ y3 then
      some (.inr y2)
    else
      if y3 < 0 ∨ 9 ≤ y3.toNatClampNeg then none else
        if (mm.1 1134 y3.toNatClampNeg) < y2 then
          f_X12_locksUsed_j31 mm y1 y3 y2
        else
          if y3 < 0 ∨ 9 ≤ y3.toNatClampNeg then none else
            f_X12_locksUsed_j31 mm y1 y3 ((mm.1 1134 y3.toNatClampNeg) + (1 : Int32))
noncomputable def f_X12_locksUsed (mm : Mm) (x1 : Int32) : Option (Int32) :=
  bi1 (lp (f_X12_locksUsed_s4 mm x1) ((0 : Int32), (0 : Int32))) fun w2_7 =>
    some w2_7
set_option maxHeartbeats 4000000 in
set_option maxRecDepth 100000 in
theorem c_X12_locksUsed (l : Launch) (D : va_G) (dA : Nat → ClassId) (zz : (Nat → Nat) × (Nat → Nat)) (bs : Nat) (mm : Mm) (x1 : Int32) (out : Int32) (hf : f_X12_locksUsed mm x1 = some out) : Mw l D dA zz bs LY yX12_locksUsed cX12_locksUsed 4 (some .int) 0 0 [.ref (bs + 1088), .int x1] mm (some (.int out)) mm := by
  refine Mw.of (own := RX12) (by decide) rfl (Nat.le_of_ble_eq_true rfl) ?_
  intro p e s m args below meth c X hr0 hP hS ls hl
  have hx := X.1
  have hb := X.2.1
  obtain ⟨H, hH⟩ : ∃ z : Heap, z = s.heap := ⟨_, rfl⟩
  obtain ⟨locs, hL⟩ : ∃ z : List Loc, z = [] := ⟨_, rfl⟩
  rw [← hH, ← hL]
  have hS : va_S (Aq bs) s.heap H locs := by rw [hH, hL]; exact hS
  have hP : Wd D dA bs LY mm H := by rw [hH]; exact hP
  have hl : lv_has ls 4 [(0, .ref (bs + 1088)), (1, .int x1)] := hl
  unfold f_X12_locksUsed at hf
  refine lv_iconst (v := 0) hx hb dX12_locksUsed_0 (by decide) ?_
  refine lv_istore_n (lv' := [(2, .int (0 : Int32)), (0, .ref (bs + 1088)), (1, .int x1)]) hx hb dX12_locksUsed_1 rfl hl (by decide) rfl (fun ls hl => ?_)
  refine lv_iconst (v := 0) hx hb dX12_locksUsed_2 (by decide) ?_
  refine lv_istore_n (lv' := [(3, .int (0 : Int32)), (2, .int (0 : Int32)), (0, .ref (bs + 1088)), (1, .int x1)]) hx hb dX12_locksUsed_3 rfl hl (by decide) rfl (fun ls hl => ?_)
  obtain ⟨q_8, hlp_9, hf⟩ := bi1S hf
  refine lp_walk (Wh := (fun z => match z with | (y2L_6, y3L_6) => ∀ (H : Heap) (locs : List Loc) (ls : Array Slot), Wd D dA bs LY mm H → va_S (Aq bs) s.heap H locs → lv_has ls 4 [(0, .ref (bs + 1088)), (1, .int x1), (2, .int y2L_6), (3, .int y3L_6)] → Wz p l e s m args below meth c D dA bs (some (.int out)) mm 0 0 H locs 4 ls [])) (Ph := (fun w2_7 => ∀ (H : Heap) (locs : List Loc) (ls : Array Slot), Wd D dA bs LY mm H → va_S (Aq bs) s.heap H locs → lv_has ls 4 [(2, .int w2_7)] → Wz p l e s m args below meth c D dA bs (some (.int out)) mm 0 0 H locs 38 ls [])) ?_ hlp_9 ?_ H locs ls hP hS (lv_sub hl [2, 3, 1, 0] rfl)
  · intro z o hf hB hE
    obtain ⟨y2L_6, y3L_6⟩ := z
    intro H locs ls hP hS hl
    have hf : f_X12_locksUsed_s4 mm x1 (y2L_6, y3L_6) = some o := hf
    unfold f_X12_locksUsed_s4 at hf
    dsimp only at hf
    have hJ31 : ∀ (y3J_1 : Int32) (z0J_1 : Int32) (H : Heap) (locs : List Loc) (ls : Array Slot), f_X12_locksUsed_j31 mm x1 y3J_1 z0J_1 = some o → Wd D dA bs LY mm H → va_S (Aq bs) s.heap H locs → lv_has ls 4 [(0, .ref (bs + 1088)), (1, .int x1), (3, .int y3J_1)] → Wz p l e s m args below meth c D dA bs (some (.int out)) mm 0 0 H locs 31 ls [.int z0J_1] := by
      intro y3J_1 z0J_1 H locs ls hf hP hS hl
      unfold f_X12_locksUsed_j31 at hf
      refine lv_istore_n (lv' := [(2, .int z0J_1), (0, .ref (bs + 1088)), (1, .int x1), (3, .int y3J_1)]) hx hb dX12_locksUsed_31 rfl hl (by decide) rfl (fun ls hl => ?_)
      refine lv_iinc (v := (y3J_1 + 1)) (lv' := [(3, .int (y3J_1 + 1)), (2, .int z0J_1), (0, .ref (bs + 1088)), (1, .int x1)]) hx hb dX12_locksUsed_32 hl (k := 3) rfl rfl (by decide) rfl (fun ls hl => ?_)
      refine lv_goto (tgt := 4) hx hb dX12_locksUsed_35 (by decide) ?_
      obtain rfl := Option.some.inj hf
      exact hB _ rfl H locs ls hP hS (lv_sub hl [2, 3, 1, 0] rfl)
    refine lv_iload_n hx hb dX12_locksUsed_4 rfl (lv_at hl 3 rfl) ?_
    refine lv_iload_n hx hb dX12_locksUsed_5 rfl (lv_at hl 1 rfl) ?_
    refine lv_icmp_ge (tgt := 38) hx hb dX12_locksUsed_6 (by decide) (fun c_2 => ?_) (fun c_2 => ?_)
    · have hf := itT hf c_2
      obtain rfl := Option.some.inj hf
      exact hE _ rfl H locs ls hP hS (lv_sub hl [2] rfl)
    · have hf := itF hf c_2
      refine lv_aload_n hx hb dX12_locksUsed_9 rfl (lv_at hl 0 rfl) ?_
      refine wd_getR (q := 1134) X hP L1088 fl_X12_151 rfl dX12_locksUsed_10 ?_
      refine lv_iload_n hx hb dX12_locksUsed_13 rfl (lv_at hl 3 rfl) ?_
      have g_3 := gdN hf
      have hf := gdK hf
      refine wd_iald X hP L1134 g_3 dX12_locksUsed_14 ?_
      refine lv_iload_n hx hb dX12_locksUsed_15 rfl (lv_at hl 2 rfl) ?_
      refine lv_icmp_lt (tgt := 30) hx hb dX12_locksUsed_16 (by decide) (fun c_4 => ?_) (fun c_4 => ?_)
      · have hf := itT hf c_4
        refine lv_iload_n hx hb dX12_locksUsed_30 rfl (lv_at hl 2 rfl) ?_
        exact hJ31 y3L_6 y2L_6 H locs ls hf hP hS (lv_sub hl [0, 1, 3] rfl)
      · have hf := itF hf c_4
        refine lv_aload_n hx hb dX12_locksUsed_19 rfl (lv_at hl 0 rfl) ?_
        refine wd_getR (q := 1134) X hP L1088 fl_X12_151 rfl dX12_locksUsed_20 ?_
        refine lv_iload_n hx hb dX12_locksUsed_23 rfl (lv_at hl 3 rfl) ?_
        have g_5 := gdN hf
        have hf := gdK hf
        refine wd_iald X hP L1134 g_5 dX12_locksUsed_24 ?_
        refine lv_iconst (v := 1) hx hb dX12_locksUsed_25 (by decide) ?_
        refine lv_iadd hx hb dX12_locksUsed_26 ?_
        refine lv_goto (tgt := 31) hx hb dX12_locksUsed_27 (by decide) ?_
        exact hJ31 y3L_6 ((mm.1 1134 y3L_6.toNatClampNeg) + (1 : Int32)) H locs ls hf hP hS (lv_sub hl [0, 1, 3] rfl)
  · obtain ⟨w2_7, e_w2_7⟩ : ∃ z, z = q_8 := ⟨_, rfl⟩
    subst e_w2_7
    intro H locs ls hP hS hl
    refine lv_iload_n hx hb dX12_locksUsed_38 rfl (lv_at hl 0 rfl) ?_
    obtain rfl := Option.some.inj hf
    exact wd_iret X hP hS hr0 dX12_locksUsed_39 ⟨rfl, rfl⟩

noncomputable def f_X12_loadOf_j39 (mm : Mm) (y1 : Int32) (y2 : Int32) (y4 : Int32) (z0 : Int32) (z1 : Int32) : Option ((Int32 × Int32) ⊕ (Int32)) :=
  some (.inl ((z1 + z0), (y4 + 1)))
noncomputable def f_X12_loadOf_s5 (mm : Mm) (y1 : Int32) (y2 : Int32) : (Int32 × Int32) → Option ((Int32 × Int32) ⊕ (Int32)) :=
  fun q => match q with
  | (y3, y4) =>
    if y2 ≤ y4 then
      some (.inr y3)
    else
      if y4 < 0 ∨ 9 ≤ y4.toNatClampNeg then none else
        if (mm.1 1134 y4.toNatClampNeg) = y1 then
          if y4 < 0 ∨ 8 ≤ y4.toNatClampNeg then none else
            if (mm.1 1136 y4.toNatClampNeg) < 0 ∨ 8 ≤ (mm.1 1136 y4.toNatClampNeg).toNatClampNeg then none else
              f_X12_loadOf_j39 mm y1 y2 y4 (mm.1 1094 (mm.1 1136 y4.toNatClampNeg).toNatClampNeg) y3
        else
          f_X12_loadOf_j39 mm y1 y2 y4 (0 : Int32) y3
noncomputable def f_X12_loadOf (mm : Mm) (x1 : Int32) (x2 : Int32) : Option (Int32) :=
  bi1 (lp (f_X12_loadOf_s5 mm x1 x2) ((0 : Int32), (0 : Int32))) fun w3_8 =>
    some w3_8
set_option maxHeartbeats 4000000 in
set_option maxRecDepth 100000 in
theorem c_X12_loadOf (l : Launch) (D : va_G) (dA : Nat → ClassId) (zz : (Nat → Nat) × (Nat → Nat)) (bs : Nat) (mm : Mm) (x1 : Int32) (x2 : Int32) (out : Int32) (hf : f_X12_loadOf mm x1 x2 = some out) : Mw l D dA zz bs LY yX12_loadOf cX12_loadOf 5 (some .int) 0 0 [.ref (bs + 1088), .int x1, .int x2] mm (some (.int out)) mm := by
  refine Mw.of (own := RX12) (by decide) rfl (Nat.le_of_ble_eq_true rfl) ?_
  intro p e s m args below meth c X hr0 hP hS ls hl
  have hx := X.1
  have hb := X.2.1
  obtain ⟨H, hH⟩ : ∃ z : Heap, z = s.heap := ⟨_, rfl⟩
  obtain ⟨locs, hL⟩ : ∃ z : List Loc, z = [] := ⟨_, rfl⟩
  rw [← hH, ← hL]
  have hS : va_S (Aq bs) s.heap H locs := by rw [hH, hL]; exact hS
  have hP : Wd D dA bs LY mm H := by rw [hH]; exact hP
  have hl : lv_has ls 5 [(0, .ref (bs + 1088)), (1, .int x1), (2, .int x2)] := hl
  unfold f_X12_loadOf at hf
  refine lv_iconst (v := 0) hx hb dX12_loadOf_0 (by decide) ?_
  refine lv_istore_n (lv' := [(3, .int (0 : Int32)), (0, .ref (bs + 1088)), (1, .int x1), (2, .int x2)]) hx hb dX12_loadOf_1 rfl hl (by decide) rfl (fun ls hl => ?_)
  refine lv_iconst (v := 0) hx hb dX12_loadOf_2 (by decide) ?_
  refine lv_istore (lv' := [(4, .int (0 : Int32)), (3, .int (0 : Int32)), (0, .ref (bs + 1088)), (1, .int x1), (2, .int x2)]) hx hb dX12_loadOf_3 hl (by decide) rfl (fun ls hl => ?_)
  obtain ⟨q_9, hlp_10, hf⟩ := bi1S hf
  refine lp_walk (Wh := (fun z => match z with | (y3L_7, y4L_7) => ∀ (H : Heap) (locs : List Loc) (ls : Array Slot), Wd D dA bs LY mm H → va_S (Aq bs) s.heap H locs → lv_has ls 5 [(0, .ref (bs + 1088)), (1, .int x1), (2, .int x2), (3, .int y3L_7), (4, .int y4L_7)] → Wz p l e s m args below meth c D dA bs (some (.int out)) mm 0 0 H locs 5 ls [])) (Ph := (fun w3_8 => ∀ (H : Heap) (locs : List Loc) (ls : Array Slot), Wd D dA bs LY mm H → va_S (Aq bs) s.heap H locs → lv_has ls 5 [(3, .int w3_8)] → Wz p l e s m args below meth c D dA bs (some (.int out)) mm 0 0 H locs 47 ls [])) ?_ hlp_10 ?_ H locs ls hP hS (lv_sub hl [2, 3, 4, 1, 0] rfl)
  · intro z o hf hB hE
    obtain ⟨y3L_7, y4L_7⟩ := z
    intro H locs ls hP hS hl
    have hf : f_X12_loadOf_s5 mm x1 x2 (y3L_7, y4L_7) = some o := hf
    unfold f_X12_loadOf_s5 at hf
    dsimp only at hf
    have hJ39 : ∀ (y4J_1 : Int32) (z0J_1 : Int32) (z1J_1 : Int32) (H : Heap) (locs : List Loc) (ls : Array Slot), f_X12_loadOf_j39 mm x1 x2 y4J_1 z0J_1 z1J_1 = some o → Wd D dA bs LY mm H → va_S (Aq bs) s.heap H locs → lv_has ls 5 [(0, .ref (bs + 1088)), (1, .int x1), (2, .int x2), (4, .int y4J_1)] → Wz p l e s m args below meth c D dA bs (some (.int out)) mm 0 0 H locs 39 ls [.int z0J_1, .int z1J_1] := by
      intro y4J_1 z0J_1 z1J_1 H locs ls hf hP hS hl
      unfold f_X12_loadOf_j39 at hf
      refine lv_iadd hx hb dX12_loadOf_39 ?_
      refine lv_istore_n (lv' := [(3, .int (z1J_1 + z0J_1)), (0, .ref (bs + 1088)), (1, .int x1), (2, .int x2), (4, .int y4J_1)]) hx hb dX12_loadOf_40 rfl hl (by decide) rfl (fun ls hl => ?_)
      refine lv_iinc (v := (y4J_1 + 1)) (lv' := [(4, .int (y4J_1 + 1)), (3, .int (z1J_1 + z0J_1)), (0, .ref (bs + 1088)), (1, .int x1), (2, .int x2)]) hx hb dX12_loadOf_41 hl (k := 4) rfl rfl (by decide) rfl (fun ls hl => ?_)
      refine lv_goto (tgt := 5) hx hb dX12_loadOf_44 (by decide) ?_
      obtain rfl := Option.some.inj hf
      exact hB _ rfl H locs ls hP hS (lv_sub hl [2, 3, 4, 1, 0] rfl)
    refine lv_iload hx hb dX12_loadOf_5 (lv_at hl 4 rfl) ?_
    refine lv_iload_n hx hb dX12_loadOf_7 rfl (lv_at hl 2 rfl) ?_
    refine lv_icmp_ge (tgt := 47) hx hb dX12_loadOf_8 (by decide) (fun c_2 => ?_) (fun c_2 => ?_)
    · have hf := itT hf c_2
      obtain rfl := Option.some.inj hf
      exact hE _ rfl H locs ls hP hS (lv_sub hl [3] rfl)
    · have hf := itF hf c_2
      refine lv_iload_n hx hb dX12_loadOf_11 rfl (lv_at hl 3 rfl) ?_
      refine lv_aload_n hx hb dX12_loadOf_12 rfl (lv_at hl 0 rfl) ?_
      refine wd_getR (q := 1134) X hP L1088 fl_X12_151 rfl dX12_loadOf_13 ?_
      refine lv_iload hx hb dX12_loadOf_16 (lv_at hl 4 rfl) ?_
      have g_3 := gdN hf
      have hf := gdK hf
      refine wd_iald X hP L1134 g_3 dX12_loadOf_18 ?_
      refine lv_iload_n hx hb dX12_loadOf_19 rfl (lv_at hl 1 rfl) ?_
      refine lv_icmp_ne (tgt := 38) hx hb dX12_loadOf_20 (by decide) (fun c_4 => ?_) (fun c_4 => ?_)
      · have hf := itF hf c_4
        refine lv_iconst (v := 0) hx hb dX12_loadOf_38 (by decide) ?_
        exact hJ39 y4L_7 (0 : Int32) y3L_7 H locs ls hf hP hS (lv_sub hl [0, 1, 2, 4] rfl)
      · have hf := itT hf c_4
        refine lv_aload_n hx hb dX12_loadOf_23 rfl (lv_at hl 0 rfl) ?_
        refine wd_getR (q := 1094) X hP L1088 fl_X12_25 rfl dX12_loadOf_24 ?_
        refine lv_aload_n hx hb dX12_loadOf_27 rfl (lv_at hl 0 rfl) ?_
        refine wd_getR (q := 1136) X hP L1088 fl_X12_157 rfl dX12_loadOf_28 ?_
        refine lv_iload hx hb dX12_loadOf_31 (lv_at hl 4 rfl) ?_
        have g_5 := gdN hf
        have hf := gdK hf
        refine wd_iald X hP L1136 g_5 dX12_loadOf_33 ?_
        have g_6 := gdN hf
        have hf := gdK hf
        refine wd_iald X hP L1094 g_6 dX12_loadOf_34 ?_
        refine lv_goto (tgt := 39) hx hb dX12_loadOf_35 (by decide) ?_
        exact hJ39 y4L_7 (mm.1 1094 (mm.1 1136 y4L_7.toNatClampNeg).toNatClampNeg) y3L_7 H locs ls hf hP hS (lv_sub hl [0, 1, 2, 4] rfl)
  · obtain ⟨w3_8, e_w3_8⟩ : ∃ z, z = q_9 := ⟨_, rfl⟩
    subst e_w3_8
    intro H locs ls hP hS hl
    refine lv_iload_n hx hb dX12_loadOf_47 rfl (lv_at hl 0 rfl) ?_
    obtain rfl := Option.some.inj hf
    exact wd_iret X hP hS hr0 dX12_loadOf_48 ⟨rfl, rfl⟩

noncomputable def f_X12_findsLocks_s207 (y1 : Int32) (y2 : Int32) (y3 : Int32) : (Int32 × Mm) → Option ((Int32 × Mm) ⊕ (Mm)) :=
  fun q => match q with
  | (y6, mm) =>
    if y2 ≤ y6 then
      some (.inr mm)
    else
      if y6 < 0 ∨ 9 ≤ y6.toNatClampNeg then none else
        if y6 < 0 ∨ 8 ≤ y6.toNatClampNeg then none else
          vlet (wI mm 1135 y6.toNatClampNeg (mm.1 1134 y6.toNatClampNeg)) fun mm_14 => some (.inl ((y6 + 1), mm_14))
noncomputable def f_X12_findsLocks_j164 (mm : Mm) (y1 : Int32) (y2 : Int32) (y3 : Int32) (y4 : Int32) (z0 : Int32) : Option ((Int32 × Mm) ⊕ (Mm)) :=
  if y3 < 0 ∨ 9 ≤ y3.toNatClampNeg then none else
    if y4 < (mm.1 1134 y3.toNatClampNeg) then
      some (.inl ((y3 + (-1)), mm))
    else
      if z0 = 0 then
        if y3 = (y2 - (1 : Int32)) then
          bi1 (f_X12_locksUsed mm y2) fun r_10 =>
            vlet (wI mm 1088 66 r_10) fun mm_11 =>
              bi1 (lp (f_X12_findsLocks_s207 y1 y2 y3) ((0 : Int32), mm_11)) fun mm_17 =>
                some (.inl (y3, mm_17))
        else
          if (y3 + 1) < 0 ∨ 9 ≤ (y3 + 1).toNatClampNeg then none else
            vlet (wI mm 1134 (y3 + 1).toNatClampNeg (-1 : Int32)) fun mm_7 => some (.inl ((y3 + 1), mm_7))
      else
        some (.inl ((y3 + (-1)), mm))
noncomputable def f_X12_findsLocks_j163 (mm : Mm) (y1 : Int32) (y2 : Int32) (y3 : Int32) (y4 : Int32) : Option ((Int32 × Mm) ⊕ (Mm)) :=
  f_X12_findsLocks_j164 mm y1 y2 y3 y4 (0 : Int32)
noncomputable def f_X12_findsLocks_s86 (y1 : Int32) (y2 : Int32) (y3 : Int32) (y4 : Int32) : (Mm) → Option ((Mm) ⊕ (Mm)) :=
  fun (mm : Mm) =>
    if y3 < 0 ∨ 9 ≤ y3.toNatClampNeg then none else
      if y4 < (mm.1 1134 y3.toNatClampNeg) then
        some (.inr mm)
      else
        if y3 < 0 ∨ 9 ≤ y3.toNatClampNeg then none else
          bi1 (f_X12_loadOf mm (mm.1 1134 y3.toNatClampNeg) y3) fun r_33 =>
            if y3 < 0 ∨ 8 ≤ y3.toNatClampNeg then none else
              if (mm.1 1136 y3.toNatClampNeg) < 0 ∨ 8 ≤ (mm.1 1136 y3.toNatClampNeg).toNatClampNeg then none else
                if (r_33 + (mm.1 1094 (mm.1 1136 y3.toNatClampNeg).toNatClampNeg)) ≤ y1 then
                  some (.inr mm)
                else
                  if y3 < 0 ∨ 9 ≤ y3.toNatClampNeg then none else
                    if y3 < 0 ∨ 9 ≤ y3.toNatClampNeg then none else
                      vlet (wI mm 1134 y3.toNatClampNeg ((mm.1 1134 y3.toNatClampNeg) + (1 : Int32))) fun mm_38 => some (.inl mm_38)
noncomputable def f_X12_findsLocks_s61 (y1 : Int32) (y2 : Int32) : (Int32 × Mm) → Option ((Int32 × Mm) ⊕ (Mm)) :=
  fun q => match q with
  | (y3, mm) =>
    if y3 < 0 then
      some (.inr mm)
    else
      if y2 ≤ 0 then
        some (.inr mm)
      else
        if y3 < 0 ∨ 9 ≤ y3.toNatClampNeg then none else
          if y3 < 0 ∨ 9 ≤ y3.toNatClampNeg then none else
            vlet (wI mm 1134 y3.toNatClampNeg ((mm.1 1134 y3.toNatClampNeg) + (1 : Int32))) fun mm_25 =>
              bi1 (f_X12_locksUsed mm_25 y3) fun r_28 =>
                bi1 (lp (f_X12_findsLocks_s86 y1 y2 y3 r_28) mm_25) fun mm_41 =>
                  if (mm_41.1 1088 66) = (-1 : Int32) then
                    f_X12_findsLocks_j163 mm_41 y1 y2 y3 r_28
                  else
                    bi1 (f_X12_locksUsed mm_41 (y3 + (1 : Int32))) fun r_44 =>
                      if r_44 < (mm_41.1 1088 66) then
                        f_X12_findsLocks_j163 mm_41 y1 y2 y3 r_28
                      else
                        f_X12_findsLocks_j164 mm_41 y1 y2 y3 r_28 (1 : Int32)
noncomputable def f_X12_findsLocks_j49 (mm : Mm) (y1 : Int32) (y2 : Int32) (z0 : Int32) : Option (Mm) :=
  vlet (wI mm 1088 66 z0) fun mm_1 =>
    vlet (wI mm_1 1134 0 (-1 : Int32)) fun mm_2 =>
      bi1 (lp (f_X12_findsLocks_s61 y1 y2) ((0 : Int32), mm_2)) fun mm_49 =>
        some mm_49
noncomputable def f_X12_findsLocks_s4 (y1 : Int32) : (Int32 × Int32 × Mm) → Option ((Int32 × Int32 × Mm) ⊕ (Int32 × Mm)) :=
  fun q => match q with
  | (y2, y3, mm) =>
    if (mm.1 1089 3) ≤ y3 then
      some (.inr (y2, mm))
    else
      if y3 < 0 ∨ 8 ≤ y3.toNatClampNeg then none else
        if (mm.1 1097 y3.toNatClampNeg) = 0 then
          if y2 < 0 ∨ 8 ≤ y2.toNatClampNeg then none else
            vlet (wI mm 1136 y2.toNatClampNeg y3) fun mm_56 => some (.inl ((y2 + 1), (y3 + 1), mm_56))
        else
          some (.inl (y2, (y3 + 1), mm))
noncomputable def f_X12_findsLocks (mm : Mm) (x1 : Int32) : Option (Mm) :=
  bi1 (lp (f_X12_findsLocks_s4 x1) ((0 : Int32), (0 : Int32), mm)) fun q => match q with
  | (w2_59, mm_60) =>
    if w2_59 = 0 then
      f_X12_findsLocks_j49 mm_60 x1 w2_59 (0 : Int32)
    else
      f_X12_findsLocks_j49 mm_60 x1 w2_59 (-1 : Int32)
set_option maxHeartbeats 4000000 in
set_option maxRecDepth 100000 in
theorem c_X12_findsLocks (l : Launch) (D : va_G) (dA : Nat → ClassId) (zz : (Nat → Nat) × (Nat → Nat)) (bs : Nat) (mm : Mm) (x1 : Int32) (m1 : Mm) (hf : f_X12_findsLocks mm x1 = some m1) : Mw l D dA zz bs LY yX12_findsLocks cX12_findsLocks 7 none 1 24 [.ref (bs + 1088), .int x1] mm none m1 := by
  refine Mw.of (own := RX12) (by decide) rfl (Nat.le_of_ble_eq_true rfl) ?_
  intro p e s m args below meth c X hr0 hP hS ls hl
  have hx := X.1
  have hb := X.2.1
  obtain ⟨H, hH⟩ : ∃ z : Heap, z = s.heap := ⟨_, rfl⟩
  obtain ⟨locs, hL⟩ : ∃ z : List Loc, z = [] := ⟨_, rfl⟩
  rw [← hH, ← hL]
  have hS : va_S (Aq bs) s.heap H locs := by rw [hH, hL]; exact hS
  have hP : Wd D dA bs LY mm H := by rw [hH]; exact hP
  have hl : lv_has ls 7 [(0, .ref (bs + 1088)), (1, .int x1)] := hl
  have hJ49 : ∀ (mmJ_52 : Mm) (y1J_52 : Int32) (y2J_52 : Int32) (z0J_52 : Int32) (H : Heap) (locs : List Loc) (ls : Array Slot), f_X12_findsLocks_j49 mmJ_52 y1J_52 y2J_52 z0J_52 = some m1 → Wd D dA bs LY mmJ_52 H → va_S (Aq bs) s.heap H locs → lv_has ls 7 [(0, .ref (bs + 1088)), (1, .int y1J_52), (2, .int y2J_52)] → Wz p l e s m args below meth c D dA bs none m1 1 24 H locs 49 ls [.int z0J_52, .ref (bs + 1088)] := by
    intro mmJ_52 y1J_52 y2J_52 z0J_52 H locs ls hf hP hS hl
    unfold f_X12_findsLocks_j49 at hf
    refine wd_putI X hP hS L1088 fp_X12_557 rfl dX12_findsLocks_49 (fun H locs mm_1 emm_1 hP hS => ?_)
    have hf := vl hf emm_1
    refine lv_iconst (v := 0) hx hb dX12_findsLocks_52 (by decide) ?_
    refine lv_istore_n (lv' := [(3, .int (0 : Int32)), (0, .ref (bs + 1088)), (1, .int y1J_52), (2, .int y2J_52)]) hx hb dX12_findsLocks_53 rfl hl (by decide) rfl (fun ls hl => ?_)
    refine lv_aload_n hx hb dX12_findsLocks_54 rfl (lv_at hl 1 rfl) ?_
    refine wd_getR (q := 1134) X hP L1088 fl_X12_151 rfl dX12_findsLocks_55 ?_
    refine lv_iconst (v := 0) hx hb dX12_findsLocks_58 (by decide) ?_
    refine lv_iconst (v := -1) hx hb dX12_findsLocks_59 (by decide) ?_
    refine wd_iastK (k := 0) X hP hS L1134 (by decide) (by decide) dX12_findsLocks_60 (fun H locs mm_2 emm_2 hP hS => ?_)
    have hf := vl hf emm_2
    obtain ⟨q_50, hlp_51, hf⟩ := bi1S hf
    refine lp_walk (Wh := (fun z => match z with | (y3L_48, mmL_48) => ∀ (H : Heap) (locs : List Loc) (ls : Array Slot), Wd D dA bs LY mmL_48 H → va_S (Aq bs) s.heap H locs → lv_has ls 7 [(0, .ref (bs + 1088)), (1, .int y1J_52), (2, .int y2J_52), (3, .int y3L_48)] → Wz p l e s m args below meth c D dA bs none m1 1 24 H locs 61 ls [])) (Ph := (fun mm_49 => ∀ (H : Heap) (locs : List Loc) (ls : Array Slot), Wd D dA bs LY mm_49 H → va_S (Aq bs) s.heap H locs → lv_has ls 7 [] → Wz p l e s m args below meth c D dA bs none m1 1 24 H locs 249 ls [])) ?_ hlp_51 ?_ H locs ls hP hS (lv_sub hl [1, 2, 3, 0] rfl)
    · intro z o hf hB hE
      obtain ⟨y3L_48, mmL_48⟩ := z
      intro H locs ls hP hS hl
      have hf : f_X12_findsLocks_s61 y1J_52 y2J_52 (y3L_48, mmL_48) = some o := hf
      unfold f_X12_findsLocks_s61 at hf
      dsimp only at hf
      have hJ164 : ∀ (mmJ_20 : Mm) (y3J_20 : Int32) (y4J_20 : Int32) (z0J_20 : Int32) (H : Heap) (locs : List Loc) (ls : Array Slot), f_X12_findsLocks_j164 mmJ_20 y1J_52 y2J_52 y3J_20 y4J_20 z0J_20 = some o → Wd D dA bs LY mmJ_20 H → va_S (Aq bs) s.heap H locs → lv_has ls 7 [(0, .ref (bs + 1088)), (1, .int y1J_52), (2, .int y2J_52), (3, .int y3J_20), (4, .int y4J_20)] → Wz p l e s m args below meth c D dA bs none m1 1 24 H locs 164 ls [.int z0J_20] := by
        intro mmJ_20 y3J_20 y4J_20 z0J_20 H locs ls hf hP hS hl
        unfold f_X12_findsLocks_j164 at hf
        refine lv_istore (lv' := [(5, .int z0J_20), (0, .ref (bs + 1088)), (1, .int y1J_52), (2, .int y2J_52), (3, .int y3J_20), (4, .int y4J_20)]) hx hb dX12_findsLocks_164 hl (by decide) rfl (fun ls hl => ?_)
        refine lv_aload_n hx hb dX12_findsLocks_166 rfl (lv_at hl 1 rfl) ?_
        refine wd_getR (q := 1134) X hP L1088 fl_X12_151 rfl dX12_findsLocks_167 ?_
        refine lv_iload_n hx hb dX12_findsLocks_170 rfl (lv_at hl 4 rfl) ?_
        have g_3 := gdN hf
        have hf := gdK hf
        refine wd_iald X hP L1134 g_3 dX12_findsLocks_171 ?_
        refine lv_iload hx hb dX12_findsLocks_172 (lv_at hl 5 rfl) ?_
        refine lv_icmp_gt (tgt := 182) hx hb dX12_findsLocks_174 (by decide) (fun c_4 => ?_) (fun c_4 => ?_)
        · have hf := itT hf c_4
          refine lv_iinc (v := (y3J_20 + (-1))) (lv' := [(3, .int (y3J_20 + (-1))), (5, .int z0J_20), (0, .ref (bs + 1088)), (1, .int y1J_52), (2, .int y2J_52), (4, .int y4J_20)]) hx hb dX12_findsLocks_182 hl (k := 4) rfl rfl (by decide) rfl (fun ls hl => ?_)
          refine lv_goto (tgt := 246) hx hb dX12_findsLocks_185 (by decide) ?_
          refine lv_goto (tgt := 61) hx hb dX12_findsLocks_246 (by decide) ?_
          obtain rfl := Option.some.inj hf
          exact hB _ rfl H locs ls hP hS (lv_sub hl [2, 3, 4, 0] rfl)
        · have hf := itF hf c_4
          refine lv_iload hx hb dX12_findsLocks_177 (lv_at hl 0 rfl) ?_
          refine lv_if_eq (tgt := 188) hx hb dX12_findsLocks_179 (by decide) (fun c_5 => ?_) (fun c_5 => ?_)
          · have hf := itT hf c_5
            refine lv_iload_n hx hb dX12_findsLocks_188 rfl (lv_at hl 4 rfl) ?_
            refine lv_iload_n hx hb dX12_findsLocks_189 rfl (lv_at hl 3 rfl) ?_
            refine lv_iconst (v := 1) hx hb dX12_findsLocks_190 (by decide) ?_
            refine lv_isub hx hb dX12_findsLocks_191 ?_
            refine lv_icmp_ne (tgt := 236) hx hb dX12_findsLocks_192 (by decide) (fun c_6 => ?_) (fun c_6 => ?_)
            · have hf := itF hf c_6
              refine lv_iinc (v := (y3J_20 + 1)) (lv' := [(3, .int (y3J_20 + 1)), (5, .int z0J_20), (0, .ref (bs + 1088)), (1, .int y1J_52), (2, .int y2J_52), (4, .int y4J_20)]) hx hb dX12_findsLocks_236 hl (k := 4) rfl rfl (by decide) rfl (fun ls hl => ?_)
              refine lv_aload_n hx hb dX12_findsLocks_239 rfl (lv_at hl 2 rfl) ?_
              refine wd_getR (q := 1134) X hP L1088 fl_X12_151 rfl dX12_findsLocks_240 ?_
              refine lv_iload_n hx hb dX12_findsLocks_243 rfl (lv_at hl 0 rfl) ?_
              refine lv_iconst (v := -1) hx hb dX12_findsLocks_244 (by decide) ?_
              have g_8 := gdN hf
              have hf := gdK hf
              refine wd_iast X hP hS L1134 g_8 dX12_findsLocks_245 (fun H locs mm_7 emm_7 hP hS => ?_)
              have hf := vl hf emm_7
              refine lv_goto (tgt := 61) hx hb dX12_findsLocks_246 (by decide) ?_
              obtain rfl := Option.some.inj hf
              exact hB _ rfl H locs ls hP hS (lv_sub hl [2, 3, 4, 0] rfl)
            · have hf := itT hf c_6
              refine lv_aload_n hx hb dX12_findsLocks_195 rfl (lv_at hl 1 rfl) ?_
              refine lv_aload_n hx hb dX12_findsLocks_196 rfl (lv_at hl 1 rfl) ?_
              refine lv_iload_n hx hb dX12_findsLocks_197 rfl (lv_at hl 3 rfl) ?_
              obtain ⟨r_10, hc_9, hf⟩ := bi1S hf
              refine wd_cv X hP hS L1088 ml_X12_560 ⟨_, _, rfl⟩ (c_X12_locksUsed l D dA zz bs mmJ_20 y2J_52 r_10 hc_9) rfl ⟨Nat.le_of_ble_eq_true rfl, Nat.le_of_ble_eq_true rfl⟩ hl.1 rfl (rest := [.ref (bs + 1088)]) (Nat.le_of_ble_eq_true rfl) ⟨Nat.zero_le _, Nat.zero_le _⟩ dX12_findsLocks_198 (fun H locs hP hS => ?_)
              refine W.eq (g2 := F0 m 201 ls [.int r_10, .ref (bs + 1088)]) rfl ?_
              refine wd_putI X hP hS L1088 fp_X12_557 rfl dX12_findsLocks_201 (fun H locs mm_11 emm_11 hP hS => ?_)
              have hf := vl hf emm_11
              refine lv_iconst (v := 0) hx hb dX12_findsLocks_204 (by decide) ?_
              refine lv_istore (lv' := [(6, .int (0 : Int32)), (5, .int z0J_20), (0, .ref (bs + 1088)), (1, .int y1J_52), (2, .int y2J_52), (3, .int y3J_20), (4, .int y4J_20)]) hx hb dX12_findsLocks_205 hl (by decide) rfl (fun ls hl => ?_)
              obtain ⟨q_18, hlp_19, hf⟩ := bi1S hf
              refine lp_walk (Wh := (fun z => match z with | (y6L_16, mmL_16) => ∀ (H : Heap) (locs : List Loc) (ls : Array Slot), Wd D dA bs LY mmL_16 H → va_S (Aq bs) s.heap H locs → lv_has ls 7 [(0, .ref (bs + 1088)), (1, .int y1J_52), (2, .int y2J_52), (3, .int y3J_20), (6, .int y6L_16)] → Wz p l e s m args below meth c D dA bs none m1 1 24 H locs 207 ls [])) (Ph := (fun mm_17 => ∀ (H : Heap) (locs : List Loc) (ls : Array Slot), Wd D dA bs LY mm_17 H → va_S (Aq bs) s.heap H locs → lv_has ls 7 [(0, .ref (bs + 1088)), (1, .int y1J_52), (2, .int y2J_52), (3, .int y3J_20)] → Wz p l e s m args below meth c D dA bs none m1 1 24 H locs 233 ls [])) ?_ hlp_19 ?_ H locs ls hP hS (lv_sub hl [2, 3, 4, 5, 0] rfl)
              · intro z o hf hB hE
                obtain ⟨y6L_16, mmL_16⟩ := z
                intro H locs ls hP hS hl
                have hf : f_X12_findsLocks_s207 y1J_52 y2J_52 y3J_20 (y6L_16, mmL_16) = some o := hf
                unfold f_X12_findsLocks_s207 at hf
                dsimp only at hf
                refine lv_iload hx hb dX12_findsLocks_207 (lv_at hl 4 rfl) ?_
                refine lv_iload_n hx hb dX12_findsLocks_209 rfl (lv_at hl 2 rfl) ?_
                refine lv_icmp_ge (tgt := 233) hx hb dX12_findsLocks_210 (by decide) (fun c_12 => ?_) (fun c_12 => ?_)
                · have hf := itT hf c_12
                  obtain rfl := Option.some.inj hf
                  exact hE _ rfl H locs ls hP hS (lv_sub hl [0, 1, 2, 3] rfl)
                · have hf := itF hf c_12
                  refine lv_aload_n hx hb dX12_findsLocks_213 rfl (lv_at hl 0 rfl) ?_
                  refine wd_getR (q := 1135) X hP L1088 fl_X12_154 rfl dX12_findsLocks_214 ?_
                  refine lv_iload hx hb dX12_findsLocks_217 (lv_at hl 4 rfl) ?_
                  refine lv_aload_n hx hb dX12_findsLocks_219 rfl (lv_at hl 0 rfl) ?_
                  refine wd_getR (q := 1134) X hP L1088 fl_X12_151 rfl dX12_findsLocks_220 ?_
                  refine lv_iload hx hb dX12_findsLocks_223 (lv_at hl 4 rfl) ?_
                  have g_13 := gdN hf
                  have hf := gdK hf
                  refine wd_iald X hP L1134 g_13 dX12_findsLocks_225 ?_
                  have g_15 := gdN hf
                  have hf := gdK hf
                  refine wd_iast X hP hS L1135 g_15 dX12_findsLocks_226 (fun H locs mm_14 emm_14 hP hS => ?_)
                  have hf := vl hf emm_14
                  refine lv_iinc (v := (y6L_16 + 1)) (lv' := [(6, .int (y6L_16 + 1)), (0, .ref (bs + 1088)), (1, .int y1J_52), (2, .int y2J_52), (3, .int y3J_20)]) hx hb dX12_findsLocks_227 hl (k := 4) rfl rfl (by decide) rfl (fun ls hl => ?_)
                  refine lv_goto (tgt := 207) hx hb dX12_findsLocks_230 (by decide) ?_
                  obtain rfl := Option.some.inj hf
                  exact hB _ rfl H locs ls hP hS (lv_sub hl [1, 2, 3, 4, 0] rfl)
              · obtain ⟨mm_17, e_mm_17⟩ : ∃ z, z = q_18 := ⟨_, rfl⟩
                subst e_mm_17
                intro H locs ls hP hS hl
                refine lv_goto (tgt := 246) hx hb dX12_findsLocks_233 (by decide) ?_
                refine lv_goto (tgt := 61) hx hb dX12_findsLocks_246 (by decide) ?_
                obtain rfl := Option.some.inj hf
                exact hB _ rfl H locs ls hP hS (lv_sub hl [0, 1, 2, 3] rfl)
          · have hf := itF hf c_5
            refine lv_iinc (v := (y3J_20 + (-1))) (lv' := [(3, .int (y3J_20 + (-1))), (5, .int z0J_20), (0, .ref (bs + 1088)), (1, .int y1J_52), (2, .int y2J_52), (4, .int y4J_20)]) hx hb dX12_findsLocks_182 hl (k := 4) rfl rfl (by decide) rfl (fun ls hl => ?_)
            refine lv_goto (tgt := 246) hx hb dX12_findsLocks_185 (by decide) ?_
            refine lv_goto (tgt := 61) hx hb dX12_findsLocks_246 (by decide) ?_
            obtain rfl := Option.some.inj hf
            exact hB _ rfl H locs ls hP hS (lv_sub hl [2, 3, 4, 0] rfl)
      have hJ163 : ∀ (mmJ_21 : Mm) (y3J_21 : Int32) (y4J_21 : Int32) (H : Heap) (locs : List Loc) (ls : Array Slot), f_X12_findsLocks_j163 mmJ_21 y1J_52 y2J_52 y3J_21 y4J_21 = some o → Wd D dA bs LY mmJ_21 H → va_S (Aq bs) s.heap H locs → lv_has ls 7 [(0, .ref (bs + 1088)), (1, .int y1J_52), (2, .int y2J_52), (3, .int y3J_21), (4, .int y4J_21)] → Wz p l e s m args below meth c D dA bs none m1 1 24 H locs 163 ls [] := by
        intro mmJ_21 y3J_21 y4J_21 H locs ls hf hP hS hl
        unfold f_X12_findsLocks_j163 at hf
        refine lv_iconst (v := 0) hx hb dX12_findsLocks_163 (by decide) ?_
        exact hJ164 mmJ_21 y3J_21 y4J_21 (0 : Int32) H locs ls hf hP hS (lv_sub hl [0, 1, 2, 3, 4] rfl)
      refine lv_iload_n hx hb dX12_findsLocks_61 rfl (lv_at hl 3 rfl) ?_
      refine lv_if_lt (tgt := 249) hx hb dX12_findsLocks_62 (by decide) (fun c_22 => ?_) (fun c_22 => ?_)
      · have hf := itT hf c_22
        obtain rfl := Option.some.inj hf
        exact hE _ rfl H locs ls hP hS (lv_sub hl [] rfl)
      · have hf := itF hf c_22
        refine lv_iload_n hx hb dX12_findsLocks_65 rfl (lv_at hl 2 rfl) ?_
        refine lv_if_le (tgt := 249) hx hb dX12_findsLocks_66 (by decide) (fun c_23 => ?_) (fun c_23 => ?_)
        · have hf := itT hf c_23
          obtain rfl := Option.some.inj hf
          exact hE _ rfl H locs ls hP hS (lv_sub hl [] rfl)
        · have hf := itF hf c_23
          refine lv_aload_n hx hb dX12_findsLocks_69 rfl (lv_at hl 0 rfl) ?_
          refine wd_getR (q := 1134) X hP L1088 fl_X12_151 rfl dX12_findsLocks_70 ?_
          refine lv_iload_n hx hb dX12_findsLocks_73 rfl (lv_at hl 3 rfl) ?_
          refine lv_dup2_11 hx hb dX12_findsLocks_74 rfl rfl ?_
          have g_24 := gdN hf
          have hf := gdK hf
          refine wd_iald X hP L1134 g_24 dX12_findsLocks_75 ?_
          refine lv_iconst (v := 1) hx hb dX12_findsLocks_76 (by decide) ?_
          refine lv_iadd hx hb dX12_findsLocks_77 ?_
          have g_26 := gdN hf
          have hf := gdK hf
          refine wd_iast X hP hS L1134 g_26 dX12_findsLocks_78 (fun H locs mm_25 emm_25 hP hS => ?_)
          have hf := vl hf emm_25
          refine lv_aload_n hx hb dX12_findsLocks_79 rfl (lv_at hl 0 rfl) ?_
          refine lv_iload_n hx hb dX12_findsLocks_80 rfl (lv_at hl 3 rfl) ?_
          obtain ⟨r_28, hc_27, hf⟩ := bi1S hf
          refine wd_cv X hP hS L1088 ml_X12_560 ⟨_, _, rfl⟩ (c_X12_locksUsed l D dA zz bs mm_25 y3L_48 r_28 hc_27) rfl ⟨Nat.le_of_ble_eq_true rfl, Nat.le_of_ble_eq_true rfl⟩ hl.1 rfl (rest := []) (Nat.le_of_ble_eq_true rfl) ⟨Nat.zero_le _, Nat.zero_le _⟩ dX12_findsLocks_81 (fun H locs hP hS => ?_)
          refine W.eq (g2 := F0 m 84 ls [.int r_28]) rfl ?_
          refine lv_istore (lv' := [(4, .int r_28), (0, .ref (bs + 1088)), (1, .int y1J_52), (2, .int y2J_52), (3, .int y3L_48)]) hx hb dX12_findsLocks_84 hl (by decide) rfl (fun ls hl => ?_)
          obtain ⟨q_46, hlp_47, hf⟩ := bi1S hf
          refine lp_walk (Wh := (fun mmL_40 => ∀ (H : Heap) (locs : List Loc) (ls : Array Slot), Wd D dA bs LY mmL_40 H → va_S (Aq bs) s.heap H locs → lv_has ls 7 [(0, .ref (bs + 1088)), (1, .int y1J_52), (2, .int y2J_52), (3, .int y3L_48), (4, .int r_28)] → Wz p l e s m args below meth c D dA bs none m1 1 24 H locs 86 ls [])) (Ph := (fun mm_41 => ∀ (H : Heap) (locs : List Loc) (ls : Array Slot), Wd D dA bs LY mm_41 H → va_S (Aq bs) s.heap H locs → lv_has ls 7 [(0, .ref (bs + 1088)), (1, .int y1J_52), (2, .int y2J_52), (3, .int y3L_48), (4, .int r_28)] → Wz p l e s m args below meth c D dA bs none m1 1 24 H locs 137 ls [])) ?_ hlp_47 ?_ H locs ls hP hS (lv_sub hl [1, 2, 3, 4, 0] rfl)
          · intro mmL_40 o hf hB hE
            intro H locs ls hP hS hl
            have hf : f_X12_findsLocks_s86 y1J_52 y2J_52 y3L_48 r_28 mmL_40 = some o := hf
            unfold f_X12_findsLocks_s86 at hf
            refine lv_aload_n hx hb dX12_findsLocks_86 rfl (lv_at hl 0 rfl) ?_
            refine wd_getR (q := 1134) X hP L1088 fl_X12_151 rfl dX12_findsLocks_87 ?_
            refine lv_iload_n hx hb dX12_findsLocks_90 rfl (lv_at hl 3 rfl) ?_
            have g_29 := gdN hf
            have hf := gdK hf
            refine wd_iald X hP L1134 g_29 dX12_findsLocks_91 ?_
            refine lv_iload hx hb dX12_findsLocks_92 (lv_at hl 4 rfl) ?_
            refine lv_icmp_gt (tgt := 137) hx hb dX12_findsLocks_94 (by decide) (fun c_30 => ?_) (fun c_30 => ?_)
            · have hf := itT hf c_30
              obtain rfl := Option.some.inj hf
              exact hE _ rfl H locs ls hP hS (lv_sub hl [0, 1, 2, 3, 4] rfl)
            · have hf := itF hf c_30
              refine lv_aload_n hx hb dX12_findsLocks_97 rfl (lv_at hl 0 rfl) ?_
              refine lv_aload_n hx hb dX12_findsLocks_98 rfl (lv_at hl 0 rfl) ?_
              refine wd_getR (q := 1134) X hP L1088 fl_X12_151 rfl dX12_findsLocks_99 ?_
              refine lv_iload_n hx hb dX12_findsLocks_102 rfl (lv_at hl 3 rfl) ?_
              have g_31 := gdN hf
              have hf := gdK hf
              refine wd_iald X hP L1134 g_31 dX12_findsLocks_103 ?_
              refine lv_iload_n hx hb dX12_findsLocks_104 rfl (lv_at hl 3 rfl) ?_
              obtain ⟨r_33, hc_32, hf⟩ := bi1S hf
              refine wd_cv X hP hS L1088 ml_X12_563 ⟨_, _, rfl⟩ (c_X12_loadOf l D dA zz bs mmL_40 (mmL_40.1 1134 y3L_48.toNatClampNeg) y3L_48 r_33 hc_32) rfl ⟨Nat.le_of_ble_eq_true rfl, Nat.le_of_ble_eq_true rfl⟩ hl.1 rfl (rest := []) (Nat.le_of_ble_eq_true rfl) ⟨Nat.zero_le _, Nat.zero_le _⟩ dX12_findsLocks_105 (fun H locs hP hS => ?_)
              refine W.eq (g2 := F0 m 108 ls [.int r_33]) rfl ?_
              refine lv_aload_n hx hb dX12_findsLocks_108 rfl (lv_at hl 0 rfl) ?_
              refine wd_getR (q := 1094) X hP L1088 fl_X12_25 rfl dX12_findsLocks_109 ?_
              refine lv_aload_n hx hb dX12_findsLocks_112 rfl (lv_at hl 0 rfl) ?_
              refine wd_getR (q := 1136) X hP L1088 fl_X12_157 rfl dX12_findsLocks_113 ?_
              refine lv_iload_n hx hb dX12_findsLocks_116 rfl (lv_at hl 3 rfl) ?_
              have g_34 := gdN hf
              have hf := gdK hf
              refine wd_iald X hP L1136 g_34 dX12_findsLocks_117 ?_
              have g_35 := gdN hf
              have hf := gdK hf
              refine wd_iald X hP L1094 g_35 dX12_findsLocks_118 ?_
              refine lv_iadd hx hb dX12_findsLocks_119 ?_
              refine lv_iload_n hx hb dX12_findsLocks_120 rfl (lv_at hl 1 rfl) ?_
              refine lv_icmp_le (tgt := 137) hx hb dX12_findsLocks_121 (by decide) (fun c_36 => ?_) (fun c_36 => ?_)
              · have hf := itT hf c_36
                obtain rfl := Option.some.inj hf
                exact hE _ rfl H locs ls hP hS (lv_sub hl [0, 1, 2, 3, 4] rfl)
              · have hf := itF hf c_36
                refine lv_aload_n hx hb dX12_findsLocks_124 rfl (lv_at hl 0 rfl) ?_
                refine wd_getR (q := 1134) X hP L1088 fl_X12_151 rfl dX12_findsLocks_125 ?_
                refine lv_iload_n hx hb dX12_findsLocks_128 rfl (lv_at hl 3 rfl) ?_
                refine lv_dup2_11 hx hb dX12_findsLocks_129 rfl rfl ?_
                have g_37 := gdN hf
                have hf := gdK hf
                refine wd_iald X hP L1134 g_37 dX12_findsLocks_130 ?_
                refine lv_iconst (v := 1) hx hb dX12_findsLocks_131 (by decide) ?_
                refine lv_iadd hx hb dX12_findsLocks_132 ?_
                have g_39 := gdN hf
                have hf := gdK hf
                refine wd_iast X hP hS L1134 g_39 dX12_findsLocks_133 (fun H locs mm_38 emm_38 hP hS => ?_)
                have hf := vl hf emm_38
                refine lv_goto (tgt := 86) hx hb dX12_findsLocks_134 (by decide) ?_
                obtain rfl := Option.some.inj hf
                exact hB _ rfl H locs ls hP hS (lv_sub hl [0, 1, 2, 3, 4] rfl)
          · obtain ⟨mm_41, e_mm_41⟩ : ∃ z, z = q_46 := ⟨_, rfl⟩
            subst e_mm_41
            intro H locs ls hP hS hl
            refine lv_aload_n hx hb dX12_findsLocks_137 rfl (lv_at hl 0 rfl) ?_
            refine wd_getI X hP L1088 fl_X12_557 rfl dX12_findsLocks_138 ?_
            refine lv_iconst (v := -1) hx hb dX12_findsLocks_141 (by decide) ?_
            refine lv_icmp_eq (tgt := 163) hx hb dX12_findsLocks_142 (by decide) (fun c_42 => ?_) (fun c_42 => ?_)
            · have hf := itT hf c_42
              exact hJ163 mm_41 y3L_48 r_28 H locs ls hf hP hS (lv_sub hl [0, 1, 2, 3, 4] rfl)
            · have hf := itF hf c_42
              refine lv_aload_n hx hb dX12_findsLocks_145 rfl (lv_at hl 0 rfl) ?_
              refine lv_iload_n hx hb dX12_findsLocks_146 rfl (lv_at hl 3 rfl) ?_
              refine lv_iconst (v := 1) hx hb dX12_findsLocks_147 (by decide) ?_
              refine lv_iadd hx hb dX12_findsLocks_148 ?_
              obtain ⟨r_44, hc_43, hf⟩ := bi1S hf
              refine wd_cv X hP hS L1088 ml_X12_560 ⟨_, _, rfl⟩ (c_X12_locksUsed l D dA zz bs mm_41 (y3L_48 + (1 : Int32)) r_44 hc_43) rfl ⟨Nat.le_of_ble_eq_true rfl, Nat.le_of_ble_eq_true rfl⟩ hl.1 rfl (rest := []) (Nat.le_of_ble_eq_true rfl) ⟨Nat.zero_le _, Nat.zero_le _⟩ dX12_findsLocks_149 (fun H locs hP hS => ?_)
              refine W.eq (g2 := F0 m 152 ls [.int r_44]) rfl ?_
              refine lv_aload_n hx hb dX12_findsLocks_152 rfl (lv_at hl 0 rfl) ?_
              refine wd_getI X hP L1088 fl_X12_557 rfl dX12_findsLocks_153 ?_
              refine lv_icmp_lt (tgt := 163) hx hb dX12_findsLocks_156 (by decide) (fun c_45 => ?_) (fun c_45 => ?_)
              · have hf := itT hf c_45
                exact hJ163 mm_41 y3L_48 r_28 H locs ls hf hP hS (lv_sub hl [0, 1, 2, 3, 4] rfl)
              · have hf := itF hf c_45
                refine lv_iconst (v := 1) hx hb dX12_findsLocks_159 (by decide) ?_
                refine lv_goto (tgt := 164) hx hb dX12_findsLocks_160 (by decide) ?_
                exact hJ164 mm_41 y3L_48 r_28 (1 : Int32) H locs ls hf hP hS (lv_sub hl [0, 1, 2, 3, 4] rfl)
    · obtain ⟨mm_49, e_mm_49⟩ : ∃ z, z = q_50 := ⟨_, rfl⟩
      subst e_mm_49
      intro H locs ls hP hS hl
      obtain rfl := Option.some.inj hf
      exact wd_vret X hP hS hr0 dX12_findsLocks_249 ⟨rfl, rfl⟩
  unfold f_X12_findsLocks at hf
  refine lv_iconst (v := 0) hx hb dX12_findsLocks_0 (by decide) ?_
  refine lv_istore_n (lv' := [(2, .int (0 : Int32)), (0, .ref (bs + 1088)), (1, .int x1)]) hx hb dX12_findsLocks_1 rfl hl (by decide) rfl (fun ls hl => ?_)
  refine lv_iconst (v := 0) hx hb dX12_findsLocks_2 (by decide) ?_
  refine lv_istore_n (lv' := [(3, .int (0 : Int32)), (2, .int (0 : Int32)), (0, .ref (bs + 1088)), (1, .int x1)]) hx hb dX12_findsLocks_3 rfl hl (by decide) rfl (fun ls hl => ?_)
  obtain ⟨q_62, hlp_63, hf⟩ := bi1S hf
  refine lp_walk (Wh := (fun z => match z with | (y2L_58, y3L_58, mmL_58) => ∀ (H : Heap) (locs : List Loc) (ls : Array Slot), Wd D dA bs LY mmL_58 H → va_S (Aq bs) s.heap H locs → lv_has ls 7 [(0, .ref (bs + 1088)), (1, .int x1), (2, .int y2L_58), (3, .int y3L_58)] → Wz p l e s m args below meth c D dA bs none m1 1 24 H locs 4 ls [])) (Ph := (fun z => match z with | (w2_59, mm_60) => ∀ (H : Heap) (locs : List Loc) (ls : Array Slot), Wd D dA bs LY mm_60 H → va_S (Aq bs) s.heap H locs → lv_has ls 7 [(0, .ref (bs + 1088)), (1, .int x1), (2, .int w2_59)] → Wz p l e s m args below meth c D dA bs none m1 1 24 H locs 39 ls [])) ?_ hlp_63 ?_ H locs ls hP hS (lv_sub hl [2, 3, 1, 0] rfl)
  · intro z o hf hB hE
    obtain ⟨y2L_58, y3L_58, mmL_58⟩ := z
    intro H locs ls hP hS hl
    have hf : f_X12_findsLocks_s4 x1 (y2L_58, y3L_58, mmL_58) = some o := hf
    unfold f_X12_findsLocks_s4 at hf
    dsimp only at hf
    refine lv_iload_n hx hb dX12_findsLocks_4 rfl (lv_at hl 3 rfl) ?_
    refine lv_aload_n hx hb dX12_findsLocks_5 rfl (lv_at hl 0 rfl) ?_
    refine wd_getR (q := 1089) X hP L1088 fl_X12_9 rfl dX12_findsLocks_6 ?_
    refine lv_iconst (v := 3) hx hb dX12_findsLocks_9 (by decide) ?_
    refine wd_ialdK (k := 3) X hP L1089 (by decide) (by decide) dX12_findsLocks_10 ?_
    refine lv_icmp_ge (tgt := 39) hx hb dX12_findsLocks_11 (by decide) (fun c_53 => ?_) (fun c_53 => ?_)
    · have hf := itT hf c_53
      obtain rfl := Option.some.inj hf
      exact hE _ rfl H locs ls hP hS (lv_sub hl [0, 1, 2] rfl)
    · have hf := itF hf c_53
      refine lv_aload_n hx hb dX12_findsLocks_14 rfl (lv_at hl 0 rfl) ?_
      refine wd_getR (q := 1097) X hP L1088 fl_X12_34 rfl dX12_findsLocks_15 ?_
      refine lv_iload_n hx hb dX12_findsLocks_18 rfl (lv_at hl 3 rfl) ?_
      have g_54 := gdN hf
      have hf := gdK hf
      refine wd_iald X hP L1097 g_54 dX12_findsLocks_19 ?_
      refine lv_if_ne (tgt := 33) hx hb dX12_findsLocks_20 (by decide) (fun c_55 => ?_) (fun c_55 => ?_)
      · have hf := itF hf c_55
        refine lv_iinc (v := (y3L_58 + 1)) (lv' := [(3, .int (y3L_58 + 1)), (0, .ref (bs + 1088)), (1, .int x1), (2, .int y2L_58)]) hx hb dX12_findsLocks_33 hl (k := 3) rfl rfl (by decide) rfl (fun ls hl => ?_)
        refine lv_goto (tgt := 4) hx hb dX12_findsLocks_36 (by decide) ?_
        obtain rfl := Option.some.inj hf
        exact hB _ rfl H locs ls hP hS (lv_sub hl [1, 2, 3, 0] rfl)
      · have hf := itT hf c_55
        refine lv_aload_n hx hb dX12_findsLocks_23 rfl (lv_at hl 0 rfl) ?_
        refine wd_getR (q := 1136) X hP L1088 fl_X12_157 rfl dX12_findsLocks_24 ?_
        refine lv_iload_n hx hb dX12_findsLocks_27 rfl (lv_at hl 2 rfl) ?_
        refine lv_iload_n hx hb dX12_findsLocks_28 rfl (lv_at hl 3 rfl) ?_
        have g_57 := gdN hf
        have hf := gdK hf
        refine wd_iast X hP hS L1136 g_57 dX12_findsLocks_29 (fun H locs mm_56 emm_56 hP hS => ?_)
        have hf := vl hf emm_56
        refine lv_iinc (v := (y2L_58 + 1)) (lv' := [(2, .int (y2L_58 + 1)), (0, .ref (bs + 1088)), (1, .int x1), (3, .int y3L_58)]) hx hb dX12_findsLocks_30 hl (k := 2) rfl rfl (by decide) rfl (fun ls hl => ?_)
        refine lv_iinc (v := (y3L_58 + 1)) (lv' := [(3, .int (y3L_58 + 1)), (2, .int (y2L_58 + 1)), (0, .ref (bs + 1088)), (1, .int x1)]) hx hb dX12_findsLocks_33 hl (k := 3) rfl rfl (by decide) rfl (fun ls hl => ?_)
        refine lv_goto (tgt := 4) hx hb dX12_findsLocks_36 (by decide) ?_
        obtain rfl := Option.some.inj hf
        exact hB _ rfl H locs ls hP hS (lv_sub hl [2, 3, 1, 0] rfl)
  · obtain ⟨w2_59, mm_60⟩ := q_62
    dsimp only at hf
    intro H locs ls hP hS hl
    refine lv_aload_n hx hb dX12_findsLocks_39 rfl (lv_at hl 0 rfl) ?_
    refine lv_iload_n hx hb dX12_findsLocks_40 rfl (lv_at hl 2 rfl) ?_
    refine lv_if_ne (tgt := 48) hx hb dX12_findsLocks_41 (by decide) (fun c_61 => ?_) (fun c_61 => ?_)
    · have hf := itF hf c_61
      refine lv_iconst (v := -1) hx hb dX12_findsLocks_48 (by decide) ?_
      exact hJ49 mm_60 x1 w2_59 (-1 : Int32) H locs ls hf hP hS (lv_sub hl [0, 1, 2] rfl)
    · have hf := itT hf c_61
      refine lv_iconst (v := 0) hx hb dX12_findsLocks_44 (by decide) ?_
      refine lv_goto (tgt := 49) hx hb dX12_findsLocks_45 (by decide) ?_
      exact hJ49 mm_60 x1 w2_59 (0 : Int32) H locs ls hf hP hS (lv_sub hl [0, 1, 2] rfl)
